theorem wd_14 : (Jvm.Cond.selects "SilentSale" ({ cls := "SilentSale", name := "isBidder", desc := "(I)Z" } : Jvm.MethodName) ({ cls := "SilentSale", name := "isBidder", desc := "(I)Z" } : Jvm.MethodName)) ∈ tb_L := tb_in (i := 14) (by decide +kernel) (by decide +kernel)
theorem wd_232 : (Jvm.Cond.fieldLink "SilentSale" (140 : Nat) "SilentSale$State" "purse" "[I") ∈ tb_L := tb_in (i := 232) (by decide +kernel) (by decide +kernel)
theorem wd_236 : (Jvm.Cond.fieldLink "SilentSale" (144 : Nat) "SilentSale$State" "patience" "[I") ∈ tb_L := tb_in (i := 236) (by decide +kernel) (by decide +kernel)
theorem wd_242 : (Jvm.Cond.fieldLink "SilentSale" (147 : Nat) "SilentSale$State" "seat" "[I") ∈ tb_L := tb_in (i := 242) (by decide +kernel) (by decide +kernel)
theorem wd_244 : (Jvm.Cond.fieldLink "SilentSale" (153 : Nat) "SilentSale$State" "tricked" "[I") ∈ tb_L := tb_in (i := 244) (by decide +kernel) (by decide +kernel)
theorem wd_788 : (Jvm.Cond.code ({ cls := "SilentSale", name := "bidder", desc := "(II)I" } : Jvm.MethodName) prog_1_method_7_code (3 : Nat) (Option.some Jvm.ClassFile.FieldType.int)) ∈ tb_L := tb_in (i := 788) (by decide +kernel) (by decide +kernel)
theorem wd_789 : (Jvm.Cond.methodLink "SilentSale" (136 : Nat) ({ cls := "SilentSale", name := "isBidder", desc := "(I)Z" } : Jvm.MethodName)) ∈ tb_L := tb_in (i := 789) (by decide +kernel) (by decide +kernel)
theorem wd_791 : (Jvm.Cond.instanceMethod ({ cls := "SilentSale", name := "isBidder", desc := "(I)Z" } : Jvm.MethodName)) ∈ tb_L := tb_in (i := 791) (by decide +kernel) (by decide +kernel)
theorem wd_793 : (Jvm.Cond.methodLink "SilentSale" (150 : Nat) ({ cls := "SilentSale$State", name := "isSilent", desc := "(I)Z" } : Jvm.MethodName)) ∈ tb_L := tb_in (i := 793) (by decide +kernel) (by decide +kernel)
theorem wd_804 : (Jvm.Cond.methodLink "SilentSale" (156 : Nat) ({ cls := "SilentSale$State", name := "lotsOf", desc := "(I)I" } : Jvm.MethodName)) ∈ tb_L := tb_in (i := 804) (by decide +kernel) (by decide +kernel)
theorem wd_805 : (Jvm.Cond.instanceMethod ({ cls := "SilentSale$State", name := "lotsOf", desc := "(I)I" } : Jvm.MethodName)) ∈ tb_L := tb_in (i := 805) (by decide +kernel) (by decide +kernel)
theorem wd_806 : (Jvm.Cond.selects "SilentSale$State" ({ cls := "SilentSale$State", name := "lotsOf", desc := "(I)I" } : Jvm.MethodName) ({ cls := "SilentSale$State", name := "lotsOf", desc := "(I)I" } : Jvm.MethodName)) ∈ tb_L := tb_in (i := 806) (by decide +kernel) (by decide +kernel)
theorem wd_808 : (Jvm.Cond.methodLink "SilentSale" (160 : Nat) ({ cls := "SilentSale$State", name := "gainOf", desc := "(ILSilentSale$Terms;)I" } : Jvm.MethodName)) ∈ tb_L := tb_in (i := 808) (by decide +kernel) (by decide +kernel)
theorem dX11_bidder_0 : decode cX11_bidder 0 = .ok (.aload_n 0, 1) := by decide +kernel
theorem dX11_bidder_1 : decode cX11_bidder 1 = .ok (.iload_n 1, 1) := by decide +kernel
theorem dX11_bidder_2 : decode cX11_bidder 2 = .ok (.invokevirtual 136, 3) := by decide +kernel
theorem dX11_bidder_5 : decode cX11_bidder 5 = .ok (.ifCond .ne 7, 3) := by decide +kernel
theorem dX11_bidder_8 : decode cX11_bidder 8 = .ok (.sipush (-1000), 3) := by decide +kernel
theorem dX11_bidder_11 : decode cX11_bidder 11 = .ok (.ireturn, 1) := by decide +kernel
theorem dX11_bidder_12 : decode cX11_bidder 12 = .ok (.iload_n 2, 1) := by decide +kernel
theorem dX11_bidder_13 : decode cX11_bidder 13 = .ok (.tableswitch 122 0 6 #[43, 53, 63, 73, 90, 100, 109], 43) := by decide +kernel
theorem dX11_bidder_56 : decode cX11_bidder 56 = .ok (.aload_n 0, 1) := by decide +kernel
theorem dX11_bidder_57 : decode cX11_bidder 57 = .ok (.getfield 29, 3) := by decide +kernel
theorem dX11_bidder_60 : decode cX11_bidder 60 = .ok (.getfield 140, 3) := by decide +kernel
theorem dX11_bidder_63 : decode cX11_bidder 63 = .ok (.iload_n 1, 1) := by decide +kernel
theorem dX11_bidder_64 : decode cX11_bidder 64 = .ok (.iaload, 1) := by decide +kernel
theorem dX11_bidder_65 : decode cX11_bidder 65 = .ok (.ireturn, 1) := by decide +kernel
theorem dX11_bidder_66 : decode cX11_bidder 66 = .ok (.aload_n 0, 1) := by decide +kernel
theorem dX11_bidder_67 : decode cX11_bidder 67 = .ok (.getfield 29, 3) := by decide +kernel
theorem dX11_bidder_70 : decode cX11_bidder 70 = .ok (.getfield 144, 3) := by decide +kernel
theorem dX11_bidder_73 : decode cX11_bidder 73 = .ok (.iload_n 1, 1) := by decide +kernel
theorem dX11_bidder_74 : decode cX11_bidder 74 = .ok (.iaload, 1) := by decide +kernel
theorem dX11_bidder_75 : decode cX11_bidder 75 = .ok (.ireturn, 1) := by decide +kernel
theorem dX11_bidder_76 : decode cX11_bidder 76 = .ok (.aload_n 0, 1) := by decide +kernel
theorem dX11_bidder_77 : decode cX11_bidder 77 = .ok (.getfield 29, 3) := by decide +kernel
theorem dX11_bidder_80 : decode cX11_bidder 80 = .ok (.getfield 147, 3) := by decide +kernel
theorem dX11_bidder_83 : decode cX11_bidder 83 = .ok (.iload_n 1, 1) := by decide +kernel
theorem dX11_bidder_84 : decode cX11_bidder 84 = .ok (.iaload, 1) := by decide +kernel
theorem dX11_bidder_85 : decode cX11_bidder 85 = .ok (.ireturn, 1) := by decide +kernel
theorem dX11_bidder_86 : decode cX11_bidder 86 = .ok (.aload_n 0, 1) := by decide +kernel
theorem dX11_bidder_87 : decode cX11_bidder 87 = .ok (.getfield 29, 3) := by decide +kernel
theorem dX11_bidder_90 : decode cX11_bidder 90 = .ok (.iload_n 1, 1) := by decide +kernel
theorem dX11_bidder_91 : decode cX11_bidder 91 = .ok (.invokevirtual 150, 3) := by decide +kernel
theorem dX11_bidder_94 : decode cX11_bidder 94 = .ok (.ifCond .eq 7, 3) := by decide +kernel
theorem dX11_bidder_97 : decode cX11_bidder 97 = .ok (.iconst 1, 1) := by decide +kernel
theorem dX11_bidder_98 : decode cX11_bidder 98 = .ok (.goto 4, 3) := by decide +kernel
theorem dX11_bidder_101 : decode cX11_bidder 101 = .ok (.iconst 0, 1) := by decide +kernel
theorem dX11_bidder_102 : decode cX11_bidder 102 = .ok (.ireturn, 1) := by decide +kernel
theorem dX11_bidder_103 : decode cX11_bidder 103 = .ok (.aload_n 0, 1) := by decide +kernel
theorem dX11_bidder_104 : decode cX11_bidder 104 = .ok (.getfield 29, 3) := by decide +kernel
theorem dX11_bidder_107 : decode cX11_bidder 107 = .ok (.getfield 153, 3) := by decide +kernel
theorem dX11_bidder_110 : decode cX11_bidder 110 = .ok (.iload_n 1, 1) := by decide +kernel
theorem dX11_bidder_111 : decode cX11_bidder 111 = .ok (.iaload, 1) := by decide +kernel
theorem dX11_bidder_112 : decode cX11_bidder 112 = .ok (.ireturn, 1) := by decide +kernel
theorem dX11_bidder_113 : decode cX11_bidder 113 = .ok (.aload_n 0, 1) := by decide +kernel
theorem dX11_bidder_114 : decode cX11_bidder 114 = .ok (.getfield 29, 3) := by decide +kernel
theorem dX11_bidder_117 : decode cX11_bidder 117 = .ok (.iload_n 1, 1) := by decide +kernel
theorem dX11_bidder_118 : decode cX11_bidder 118 = .ok (.invokevirtual 156, 3) := by decide +kernel
theorem dX11_bidder_121 : decode cX11_bidder 121 = .ok (.ireturn, 1) := by decide +kernel
theorem dX11_bidder_122 : decode cX11_bidder 122 = .ok (.aload_n 0, 1) := by decide +kernel
theorem dX11_bidder_123 : decode cX11_bidder 123 = .ok (.getfield 29, 3) := by decide +kernel
theorem dX11_bidder_126 : decode cX11_bidder 126 = .ok (.iload_n 1, 1) := by decide +kernel
theorem dX11_bidder_127 : decode cX11_bidder 127 = .ok (.aload_n 0, 1) := by decide +kernel
theorem dX11_bidder_128 : decode cX11_bidder 128 = .ok (.getfield 19, 3) := by decide +kernel
theorem dX11_bidder_131 : decode cX11_bidder 131 = .ok (.invokevirtual 160, 3) := by decide +kernel
theorem dX11_bidder_134 : decode cX11_bidder 134 = .ok (.ireturn, 1) := by decide +kernel
theorem dX11_bidder_135 : decode cX11_bidder 135 = .ok (.sipush (-1000), 3) := by decide +kernel
theorem dX11_bidder_138 : decode cX11_bidder 138 = .ok (.ireturn, 1) := by decide +kernel
theorem wd_15 : (Jvm.Cond.selects "SilentSale" ({ cls := "SilentSale", name := "isLot", desc := "(I)Z" } : Jvm.MethodName) ({ cls := "SilentSale", name := "isLot", desc := "(I)Z" } : Jvm.MethodName)) ∈ tb_L := tb_in (i := 15) (by decide +kernel) (by decide +kernel)
theorem wd_249 : (Jvm.Cond.fieldLink "SilentSale" (167 : Nat) "SilentSale$State" "stage" "[I") ∈ tb_L := tb_in (i := 249) (by decide +kernel) (by decide +kernel)
theorem wd_251 : (Jvm.Cond.fieldLink "SilentSale" (170 : Nat) "SilentSale$State" "gone" "[I") ∈ tb_L := tb_in (i := 251) (by decide +kernel) (by decide +kernel)
theorem wd_257 : (Jvm.Cond.fieldLink "SilentSale" (173 : Nat) "SilentSale$State" "owner" "[I") ∈ tb_L := tb_in (i := 257) (by decide +kernel) (by decide +kernel)
theorem wd_260 : (Jvm.Cond.fieldLink "SilentSale" (176 : Nat) "SilentSale$State" "paid" "[I") ∈ tb_L := tb_in (i := 260) (by decide +kernel) (by decide +kernel)
theorem wd_264 : (Jvm.Cond.fieldLink "SilentSale" (182 : Nat) "SilentSale$State" "silentAt" "[I") ∈ tb_L := tb_in (i := 264) (by decide +kernel) (by decide +kernel)
theorem wd_819 : (Jvm.Cond.code ({ cls := "SilentSale", name := "lot", desc := "(II)I" } : Jvm.MethodName) prog_1_method_8_code (3 : Nat) (Option.some Jvm.ClassFile.FieldType.int)) ∈ tb_L := tb_in (i := 819) (by decide +kernel) (by decide +kernel)
theorem wd_820 : (Jvm.Cond.methodLink "SilentSale" (164 : Nat) ({ cls := "SilentSale", name := "isLot", desc := "(I)Z" } : Jvm.MethodName)) ∈ tb_L := tb_in (i := 820) (by decide +kernel) (by decide +kernel)
theorem wd_822 : (Jvm.Cond.instanceMethod ({ cls := "SilentSale", name := "isLot", desc := "(I)Z" } : Jvm.MethodName)) ∈ tb_L := tb_in (i := 822) (by decide +kernel) (by decide +kernel)
theorem wd_824 : (Jvm.Cond.methodLink "SilentSale" (179 : Nat) ({ cls := "SilentSale$State", name := "sittersOf", desc := "(I)I" } : Jvm.MethodName)) ∈ tb_L := tb_in (i := 824) (by decide +kernel) (by decide +kernel)
theorem dX11_lot_0 : decode cX11_lot 0 = .ok (.aload_n 0, 1) := by decide +kernel
theorem dX11_lot_1 : decode cX11_lot 1 = .ok (.iload_n 1, 1) := by decide +kernel
theorem dX11_lot_2 : decode cX11_lot 2 = .ok (.invokevirtual 164, 3) := by decide +kernel
theorem dX11_lot_5 : decode cX11_lot 5 = .ok (.ifCond .ne 6, 3) := by decide +kernel
theorem dX11_lot_8 : decode cX11_lot 8 = .ok (.bipush (-2), 2) := by decide +kernel
theorem dX11_lot_10 : decode cX11_lot 10 = .ok (.ireturn, 1) := by decide +kernel
theorem dX11_lot_11 : decode cX11_lot 11 = .ok (.iload_n 2, 1) := by decide +kernel
theorem dX11_lot_12 : decode cX11_lot 12 = .ok (.tableswitch 99 0 5 #[40, 50, 60, 70, 80, 89], 40) := by decide +kernel
theorem dX11_lot_52 : decode cX11_lot 52 = .ok (.aload_n 0, 1) := by decide +kernel
theorem dX11_lot_53 : decode cX11_lot 53 = .ok (.getfield 29, 3) := by decide +kernel
theorem dX11_lot_56 : decode cX11_lot 56 = .ok (.getfield 167, 3) := by decide +kernel
theorem dX11_lot_59 : decode cX11_lot 59 = .ok (.iload_n 1, 1) := by decide +kernel
theorem dX11_lot_60 : decode cX11_lot 60 = .ok (.iaload, 1) := by decide +kernel
theorem dX11_lot_61 : decode cX11_lot 61 = .ok (.ireturn, 1) := by decide +kernel
theorem dX11_lot_62 : decode cX11_lot 62 = .ok (.aload_n 0, 1) := by decide +kernel
theorem dX11_lot_63 : decode cX11_lot 63 = .ok (.getfield 29, 3) := by decide +kernel
theorem dX11_lot_66 : decode cX11_lot 66 = .ok (.getfield 170, 3) := by decide +kernel
theorem dX11_lot_69 : decode cX11_lot 69 = .ok (.iload_n 1, 1) := by decide +kernel
theorem dX11_lot_70 : decode cX11_lot 70 = .ok (.iaload, 1) := by decide +kernel
theorem dX11_lot_71 : decode cX11_lot 71 = .ok (.ireturn, 1) := by decide +kernel
theorem dX11_lot_72 : decode cX11_lot 72 = .ok (.aload_n 0, 1) := by decide +kernel
theorem dX11_lot_73 : decode cX11_lot 73 = .ok (.getfield 29, 3) := by decide +kernel
theorem dX11_lot_76 : decode cX11_lot 76 = .ok (.getfield 173, 3) := by decide +kernel
theorem dX11_lot_79 : decode cX11_lot 79 = .ok (.iload_n 1, 1) := by decide +kernel
theorem dX11_lot_80 : decode cX11_lot 80 = .ok (.iaload, 1) := by decide +kernel
theorem dX11_lot_81 : decode cX11_lot 81 = .ok (.ireturn, 1) := by decide +kernel
theorem dX11_lot_82 : decode cX11_lot 82 = .ok (.aload_n 0, 1) := by decide +kernel
theorem dX11_lot_83 : decode cX11_lot 83 = .ok (.getfield 29, 3) := by decide +kernel
theorem dX11_lot_86 : decode cX11_lot 86 = .ok (.getfield 176, 3) := by decide +kernel
theorem dX11_lot_89 : decode cX11_lot 89 = .ok (.iload_n 1, 1) := by decide +kernel
theorem dX11_lot_90 : decode cX11_lot 90 = .ok (.iaload, 1) := by decide +kernel
theorem dX11_lot_91 : decode cX11_lot 91 = .ok (.ireturn, 1) := by decide +kernel
theorem dX11_lot_92 : decode cX11_lot 92 = .ok (.aload_n 0, 1) := by decide +kernel
theorem dX11_lot_93 : decode cX11_lot 93 = .ok (.getfield 29, 3) := by decide +kernel
theorem dX11_lot_96 : decode cX11_lot 96 = .ok (.iload_n 1, 1) := by decide +kernel
theorem dX11_lot_97 : decode cX11_lot 97 = .ok (.invokevirtual 179, 3) := by decide +kernel
theorem dX11_lot_100 : decode cX11_lot 100 = .ok (.ireturn, 1) := by decide +kernel
theorem dX11_lot_101 : decode cX11_lot 101 = .ok (.aload_n 0, 1) := by decide +kernel
theorem dX11_lot_102 : decode cX11_lot 102 = .ok (.getfield 29, 3) := by decide +kernel
theorem dX11_lot_105 : decode cX11_lot 105 = .ok (.getfield 182, 3) := by decide +kernel
theorem dX11_lot_108 : decode cX11_lot 108 = .ok (.iload_n 1, 1) := by decide +kernel
theorem dX11_lot_109 : decode cX11_lot 109 = .ok (.iaload, 1) := by decide +kernel
theorem dX11_lot_110 : decode cX11_lot 110 = .ok (.ireturn, 1) := by decide +kernel
theorem dX11_lot_111 : decode cX11_lot 111 = .ok (.bipush (-2), 2) := by decide +kernel
theorem dX11_lot_113 : decode cX11_lot 113 = .ok (.ireturn, 1) := by decide +kernel
theorem wd_831 : (Jvm.Cond.code ({ cls := "SilentSale", name := "worth", desc := "(II)I" } : Jvm.MethodName) prog_1_method_9_code (3 : Nat) (Option.some Jvm.ClassFile.FieldType.int)) ∈ tb_L := tb_in (i := 831) (by decide +kernel) (by decide +kernel)
theorem wd_832 : (Jvm.Cond.methodLink "SilentSale" (185 : Nat) ({ cls := "SilentSale$Terms", name := "worthTo", desc := "(II)I" } : Jvm.MethodName)) ∈ tb_L := tb_in (i := 832) (by decide +kernel) (by decide +kernel)
theorem dX11_worth_0 : decode cX11_worth 0 = .ok (.aload_n 0, 1) := by decide +kernel
theorem dX11_worth_1 : decode cX11_worth 1 = .ok (.iload_n 1, 1) := by decide +kernel
theorem dX11_worth_2 : decode cX11_worth 2 = .ok (.invokevirtual 136, 3) := by decide +kernel
theorem dX11_worth_5 : decode cX11_worth 5 = .ok (.ifCond .eq 23, 3) := by decide +kernel
theorem dX11_worth_8 : decode cX11_worth 8 = .ok (.aload_n 0, 1) := by decide +kernel
theorem dX11_worth_9 : decode cX11_worth 9 = .ok (.iload_n 2, 1) := by decide +kernel
theorem dX11_worth_10 : decode cX11_worth 10 = .ok (.invokevirtual 164, 3) := by decide +kernel
theorem dX11_worth_13 : decode cX11_worth 13 = .ok (.ifCond .eq 15, 3) := by decide +kernel
theorem dX11_worth_16 : decode cX11_worth 16 = .ok (.aload_n 0, 1) := by decide +kernel
theorem dX11_worth_17 : decode cX11_worth 17 = .ok (.getfield 19, 3) := by decide +kernel
theorem dX11_worth_20 : decode cX11_worth 20 = .ok (.iload_n 1, 1) := by decide +kernel
theorem dX11_worth_21 : decode cX11_worth 21 = .ok (.iload_n 2, 1) := by decide +kernel
theorem dX11_worth_22 : decode cX11_worth 22 = .ok (.invokevirtual 185, 3) := by decide +kernel
theorem dX11_worth_25 : decode cX11_worth 25 = .ok (.goto 4, 3) := by decide +kernel
theorem dX11_worth_28 : decode cX11_worth 28 = .ok (.iconst (-1), 1) := by decide +kernel
theorem dX11_worth_29 : decode cX11_worth 29 = .ok (.ireturn, 1) := by decide +kernel
theorem wd_16 : (Jvm.Cond.selects "SilentSale" ({ cls := "SilentSale", name := "isTrick", desc := "(I)Z" } : Jvm.MethodName) ({ cls := "SilentSale", name := "isTrick", desc := "(I)Z" } : Jvm.MethodName)) ∈ tb_L := tb_in (i := 16) (by decide +kernel) (by decide +kernel)
theorem wd_201 : (Jvm.Cond.fieldLink "SilentSale" (192 : Nat) "SilentSale$Terms" "price" "[I") ∈ tb_L := tb_in (i := 201) (by decide +kernel) (by decide +kernel)
theorem wd_204 : (Jvm.Cond.fieldLink "SilentSale" (195 : Nat) "SilentSale$Terms" "effect" "[I") ∈ tb_L := tb_in (i := 204) (by decide +kernel) (by decide +kernel)
theorem wd_836 : (Jvm.Cond.code ({ cls := "SilentSale", name := "trick", desc := "(II)I" } : Jvm.MethodName) prog_1_method_10_code (3 : Nat) (Option.some Jvm.ClassFile.FieldType.int)) ∈ tb_L := tb_in (i := 836) (by decide +kernel) (by decide +kernel)
theorem wd_837 : (Jvm.Cond.methodLink "SilentSale" (189 : Nat) ({ cls := "SilentSale", name := "isTrick", desc := "(I)Z" } : Jvm.MethodName)) ∈ tb_L := tb_in (i := 837) (by decide +kernel) (by decide +kernel)
theorem wd_839 : (Jvm.Cond.instanceMethod ({ cls := "SilentSale", name := "isTrick", desc := "(I)Z" } : Jvm.MethodName)) ∈ tb_L := tb_in (i := 839) (by decide +kernel) (by decide +kernel)
theorem dX11_trick_0 : decode cX11_trick 0 = .ok (.aload_n 0, 1) := by decide +kernel
theorem dX11_trick_1 : decode cX11_trick 1 = .ok (.iload_n 1, 1) := by decide +kernel
theorem dX11_trick_2 : decode cX11_trick 2 = .ok (.invokevirtual 189, 3) := by decide +kernel
theorem dX11_trick_5 : decode cX11_trick 5 = .ok (.ifCond .eq 12, 3) := by decide +kernel
theorem dX11_trick_8 : decode cX11_trick 8 = .ok (.iload_n 2, 1) := by decide +kernel
theorem dX11_trick_9 : decode cX11_trick 9 = .ok (.ifCond .lt 8, 3) := by decide +kernel
theorem dX11_trick_12 : decode cX11_trick 12 = .ok (.iload_n 2, 1) := by decide +kernel
theorem dX11_trick_13 : decode cX11_trick 13 = .ok (.iconst 1, 1) := by decide +kernel
theorem dX11_trick_14 : decode cX11_trick 14 = .ok (.if_icmp .le 5, 3) := by decide +kernel
theorem dX11_trick_17 : decode cX11_trick 17 = .ok (.iconst (-1), 1) := by decide +kernel
theorem dX11_trick_18 : decode cX11_trick 18 = .ok (.ireturn, 1) := by decide +kernel
theorem dX11_trick_19 : decode cX11_trick 19 = .ok (.iload_n 2, 1) := by decide +kernel
theorem dX11_trick_20 : decode cX11_trick 20 = .ok (.ifCond .ne 15, 3) := by decide +kernel
theorem dX11_trick_23 : decode cX11_trick 23 = .ok (.aload_n 0, 1) := by decide +kernel
theorem dX11_trick_24 : decode cX11_trick 24 = .ok (.getfield 19, 3) := by decide +kernel
theorem dX11_trick_27 : decode cX11_trick 27 = .ok (.getfield 192, 3) := by decide +kernel
theorem dX11_trick_30 : decode cX11_trick 30 = .ok (.iload_n 1, 1) := by decide +kernel
theorem dX11_trick_31 : decode cX11_trick 31 = .ok (.iaload, 1) := by decide +kernel
theorem dX11_trick_32 : decode cX11_trick 32 = .ok (.goto 12, 3) := by decide +kernel
theorem dX11_trick_35 : decode cX11_trick 35 = .ok (.aload_n 0, 1) := by decide +kernel
theorem dX11_trick_36 : decode cX11_trick 36 = .ok (.getfield 19, 3) := by decide +kernel
theorem dX11_trick_39 : decode cX11_trick 39 = .ok (.getfield 195, 3) := by decide +kernel
theorem dX11_trick_42 : decode cX11_trick 42 = .ok (.iload_n 1, 1) := by decide +kernel
theorem dX11_trick_43 : decode cX11_trick 43 = .ok (.iaload, 1) := by decide +kernel
theorem dX11_trick_44 : decode cX11_trick 44 = .ok (.ireturn, 1) := by decide +kernel
theorem wd_126 : (Jvm.Cond.initialized "SilentSale$Past") ∈ tb_L := tb_in (i := 126) (by decide +kernel) (by decide +kernel)
theorem wd_268 : (Jvm.Cond.fieldLink "SilentSale" (207 : Nat) "SilentSale$State" "minutes" "I") ∈ tb_L := tb_in (i := 268) (by decide +kernel) (by decide +kernel)
theorem wd_502 : (Jvm.Cond.fieldLink "SilentSale" (39 : Nat) "SilentSale" "past" "LSilentSale$Past;") ∈ tb_L := tb_in (i := 502) (by decide +kernel) (by decide +kernel)
theorem wd_846 : (Jvm.Cond.methodLink "SilentSale" (213 : Nat) ({ cls := "SilentSale$State", name := "lotsAt", desc := "(I)I" } : Jvm.MethodName)) ∈ tb_L := tb_in (i := 846) (by decide +kernel) (by decide +kernel)
theorem wd_857 : (Jvm.Cond.code ({ cls := "SilentSale", name := "minute", desc := "()I" } : Jvm.MethodName) prog_1_method_12_code (1 : Nat) (Option.some Jvm.ClassFile.FieldType.int)) ∈ tb_L := tb_in (i := 857) (by decide +kernel) (by decide +kernel)
theorem wd_858 : (Jvm.Cond.methodLink "SilentSale" (222 : Nat) ({ cls := "SilentSale$Past", name := "keep", desc := "(LSilentSale$State;)V" } : Jvm.MethodName)) ∈ tb_L := tb_in (i := 858) (by decide +kernel) (by decide +kernel)
theorem wd_859 : (Jvm.Cond.instanceMethod ({ cls := "SilentSale$Past", name := "keep", desc := "(LSilentSale$State;)V" } : Jvm.MethodName)) ∈ tb_L := tb_in (i := 859) (by decide +kernel) (by decide +kernel)
theorem wd_860 : (Jvm.Cond.selects "SilentSale$Past" ({ cls := "SilentSale$Past", name := "keep", desc := "(LSilentSale$State;)V" } : Jvm.MethodName) ({ cls := "SilentSale$Past", name := "keep", desc := "(LSilentSale$State;)V" } : Jvm.MethodName)) ∈ tb_L := tb_in (i := 860) (by decide +kernel) (by decide +kernel)
theorem wd_876 : (Jvm.Cond.methodLink "SilentSale" (229 : Nat) ({ cls := "SilentSale$Clerk", name := "pass", desc := "(LSilentSale$State;I)I" } : Jvm.MethodName)) ∈ tb_L := tb_in (i := 876) (by decide +kernel) (by decide +kernel)
theorem dX11_minute_0 : decode cX11_minute 0 = .ok (.aload_n 0, 1) := by decide +kernel
theorem dX11_minute_1 : decode cX11_minute 1 = .ok (.getfield 29, 3) := by decide +kernel
theorem dX11_minute_4 : decode cX11_minute 4 = .ok (.iconst 1, 1) := by decide +kernel
theorem dX11_minute_5 : decode cX11_minute 5 = .ok (.invokevirtual 213, 3) := by decide +kernel
theorem dX11_minute_8 : decode cX11_minute 8 = .ok (.ifCond .eq 16, 3) := by decide +kernel
theorem dX11_minute_11 : decode cX11_minute 11 = .ok (.aload_n 0, 1) := by decide +kernel
theorem dX11_minute_12 : decode cX11_minute 12 = .ok (.getfield 29, 3) := by decide +kernel
theorem dX11_minute_15 : decode cX11_minute 15 = .ok (.getfield 207, 3) := by decide +kernel
theorem dX11_minute_18 : decode cX11_minute 18 = .ok (.sipush 9999, 3) := by decide +kernel
theorem dX11_minute_21 : decode cX11_minute 21 = .ok (.if_icmp .lt 5, 3) := by decide +kernel
theorem dX11_minute_24 : decode cX11_minute 24 = .ok (.iconst (-1), 1) := by decide +kernel
theorem dX11_minute_25 : decode cX11_minute 25 = .ok (.ireturn, 1) := by decide +kernel
theorem dX11_minute_26 : decode cX11_minute 26 = .ok (.aload_n 0, 1) := by decide +kernel
theorem dX11_minute_27 : decode cX11_minute 27 = .ok (.getfield 39, 3) := by decide +kernel
theorem dX11_minute_30 : decode cX11_minute 30 = .ok (.aload_n 0, 1) := by decide +kernel
theorem dX11_minute_31 : decode cX11_minute 31 = .ok (.getfield 29, 3) := by decide +kernel
theorem dX11_minute_34 : decode cX11_minute 34 = .ok (.invokevirtual 222, 3) := by decide +kernel
theorem dX11_minute_37 : decode cX11_minute 37 = .ok (.aload_n 0, 1) := by decide +kernel
theorem dX11_minute_38 : decode cX11_minute 38 = .ok (.invokevirtual 226, 3) := by decide +kernel
theorem dX11_minute_41 : decode cX11_minute 41 = .ok (.aload_n 0, 1) := by decide +kernel
theorem dX11_minute_42 : decode cX11_minute 42 = .ok (.getfield 67, 3) := by decide +kernel
theorem dX11_minute_45 : decode cX11_minute 45 = .ok (.aload_n 0, 1) := by decide +kernel
theorem dX11_minute_46 : decode cX11_minute 46 = .ok (.getfield 29, 3) := by decide +kernel
theorem dX11_minute_49 : decode cX11_minute 49 = .ok (.iconst 0, 1) := by decide +kernel
theorem dX11_minute_50 : decode cX11_minute 50 = .ok (.invokevirtual 229, 3) := by decide +kernel
theorem dX11_minute_53 : decode cX11_minute 53 = .ok (.ireturn, 1) := by decide +kernel
theorem wd_938 : (Jvm.Cond.code ({ cls := "SilentSale", name := "sit", desc := "(II)I" } : Jvm.MethodName) prog_1_method_13_code (4 : Nat) (Option.some Jvm.ClassFile.FieldType.int)) ∈ tb_L := tb_in (i := 938) (by decide +kernel) (by decide +kernel)
theorem dX11_sit_0 : decode cX11_sit 0 = .ok (.aload_n 0, 1) := by decide +kernel
theorem dX11_sit_1 : decode cX11_sit 1 = .ok (.iload_n 1, 1) := by decide +kernel
theorem dX11_sit_2 : decode cX11_sit 2 = .ok (.invokevirtual 136, 3) := by decide +kernel
theorem dX11_sit_5 : decode cX11_sit 5 = .ok (.ifCond .eq 14, 3) := by decide +kernel
theorem dX11_sit_8 : decode cX11_sit 8 = .ok (.aload_n 0, 1) := by decide +kernel
theorem dX11_sit_9 : decode cX11_sit 9 = .ok (.getfield 29, 3) := by decide +kernel
theorem dX11_sit_12 : decode cX11_sit 12 = .ok (.iload_n 1, 1) := by decide +kernel
theorem dX11_sit_13 : decode cX11_sit 13 = .ok (.invokevirtual 150, 3) := by decide +kernel
theorem dX11_sit_16 : decode cX11_sit 16 = .ok (.ifCond .eq 6, 3) := by decide +kernel
theorem dX11_sit_19 : decode cX11_sit 19 = .ok (.bipush (-2), 2) := by decide +kernel
theorem dX11_sit_21 : decode cX11_sit 21 = .ok (.ireturn, 1) := by decide +kernel
theorem dX11_sit_22 : decode cX11_sit 22 = .ok (.aload_n 0, 1) := by decide +kernel
theorem dX11_sit_23 : decode cX11_sit 23 = .ok (.getfield 29, 3) := by decide +kernel
theorem dX11_sit_26 : decode cX11_sit 26 = .ok (.getfield 147, 3) := by decide +kernel
theorem dX11_sit_29 : decode cX11_sit 29 = .ok (.iload_n 1, 1) := by decide +kernel
theorem dX11_sit_30 : decode cX11_sit 30 = .ok (.iaload, 1) := by decide +kernel
theorem dX11_sit_31 : decode cX11_sit 31 = .ok (.istore_n 3, 1) := by decide +kernel
theorem dX11_sit_32 : decode cX11_sit 32 = .ok (.iload_n 2, 1) := by decide +kernel
theorem dX11_sit_33 : decode cX11_sit 33 = .ok (.iconst (-1), 1) := by decide +kernel
theorem dX11_sit_34 : decode cX11_sit 34 = .ok (.if_icmp .eq 31, 3) := by decide +kernel
theorem dX11_sit_37 : decode cX11_sit 37 = .ok (.aload_n 0, 1) := by decide +kernel
theorem dX11_sit_38 : decode cX11_sit 38 = .ok (.iload_n 2, 1) := by decide +kernel
theorem dX11_sit_39 : decode cX11_sit 39 = .ok (.invokevirtual 164, 3) := by decide +kernel
theorem dX11_sit_42 : decode cX11_sit 42 = .ok (.ifCond .eq 20, 3) := by decide +kernel
theorem dX11_sit_45 : decode cX11_sit 45 = .ok (.iload_n 2, 1) := by decide +kernel
theorem dX11_sit_46 : decode cX11_sit 46 = .ok (.iload_n 3, 1) := by decide +kernel
theorem dX11_sit_47 : decode cX11_sit 47 = .ok (.if_icmp .eq 15, 3) := by decide +kernel
theorem dX11_sit_50 : decode cX11_sit 50 = .ok (.aload_n 0, 1) := by decide +kernel
theorem dX11_sit_51 : decode cX11_sit 51 = .ok (.getfield 29, 3) := by decide +kernel
theorem dX11_sit_54 : decode cX11_sit 54 = .ok (.getfield 167, 3) := by decide +kernel
theorem dX11_sit_57 : decode cX11_sit 57 = .ok (.iload_n 2, 1) := by decide +kernel
theorem dX11_sit_58 : decode cX11_sit 58 = .ok (.iaload, 1) := by decide +kernel
theorem dX11_sit_59 : decode cX11_sit 59 = .ok (.ifCond .eq 6, 3) := by decide +kernel
theorem dX11_sit_62 : decode cX11_sit 62 = .ok (.bipush (-2), 2) := by decide +kernel
theorem dX11_sit_64 : decode cX11_sit 64 = .ok (.ireturn, 1) := by decide +kernel
theorem dX11_sit_65 : decode cX11_sit 65 = .ok (.aload_n 0, 1) := by decide +kernel
theorem dX11_sit_66 : decode cX11_sit 66 = .ok (.getfield 39, 3) := by decide +kernel
theorem dX11_sit_69 : decode cX11_sit 69 = .ok (.aload_n 0, 1) := by decide +kernel
theorem dX11_sit_70 : decode cX11_sit 70 = .ok (.getfield 29, 3) := by decide +kernel
theorem dX11_sit_73 : decode cX11_sit 73 = .ok (.invokevirtual 222, 3) := by decide +kernel
theorem dX11_sit_76 : decode cX11_sit 76 = .ok (.aload_n 0, 1) := by decide +kernel
theorem dX11_sit_77 : decode cX11_sit 77 = .ok (.getfield 29, 3) := by decide +kernel
theorem dX11_sit_80 : decode cX11_sit 80 = .ok (.getfield 147, 3) := by decide +kernel
theorem dX11_sit_83 : decode cX11_sit 83 = .ok (.iload_n 1, 1) := by decide +kernel
theorem dX11_sit_84 : decode cX11_sit 84 = .ok (.iload_n 2, 1) := by decide +kernel
theorem dX11_sit_85 : decode cX11_sit 85 = .ok (.iastore, 1) := by decide +kernel
theorem dX11_sit_86 : decode cX11_sit 86 = .ok (.iload_n 3, 1) := by decide +kernel
theorem dX11_sit_87 : decode cX11_sit 87 = .ok (.ireturn, 1) := by decide +kernel
theorem wd_942 : (Jvm.Cond.code ({ cls := "SilentSale", name := "bell", desc := "(I)I" } : Jvm.MethodName) prog_1_method_14_code (2 : Nat) (Option.some Jvm.ClassFile.FieldType.int)) ∈ tb_L := tb_in (i := 942) (by decide +kernel) (by decide +kernel)
theorem wd_943 : (Jvm.Cond.methodLink "SilentSale" (233 : Nat) ({ cls := "SilentSale$State", name := "begin", desc := "(I)I" } : Jvm.MethodName)) ∈ tb_L := tb_in (i := 943) (by decide +kernel) (by decide +kernel)
theorem dX11_bell_0 : decode cX11_bell 0 = .ok (.aload_n 0, 1) := by decide +kernel
theorem dX11_bell_1 : decode cX11_bell 1 = .ok (.iload_n 1, 1) := by decide +kernel
theorem dX11_bell_2 : decode cX11_bell 2 = .ok (.invokevirtual 164, 3) := by decide +kernel
theorem dX11_bell_5 : decode cX11_bell 5 = .ok (.ifCond .eq 26, 3) := by decide +kernel
theorem dX11_bell_8 : decode cX11_bell 8 = .ok (.aload_n 0, 1) := by decide +kernel
theorem dX11_bell_9 : decode cX11_bell 9 = .ok (.getfield 29, 3) := by decide +kernel
theorem dX11_bell_12 : decode cX11_bell 12 = .ok (.getfield 167, 3) := by decide +kernel
theorem dX11_bell_15 : decode cX11_bell 15 = .ok (.iload_n 1, 1) := by decide +kernel
theorem dX11_bell_16 : decode cX11_bell 16 = .ok (.iaload, 1) := by decide +kernel
theorem dX11_bell_17 : decode cX11_bell 17 = .ok (.ifCond .ne 14, 3) := by decide +kernel
theorem dX11_bell_20 : decode cX11_bell 20 = .ok (.aload_n 0, 1) := by decide +kernel
theorem dX11_bell_21 : decode cX11_bell 21 = .ok (.getfield 29, 3) := by decide +kernel
theorem dX11_bell_24 : decode cX11_bell 24 = .ok (.iload_n 1, 1) := by decide +kernel
theorem dX11_bell_25 : decode cX11_bell 25 = .ok (.invokevirtual 179, 3) := by decide +kernel
theorem dX11_bell_28 : decode cX11_bell 28 = .ok (.ifCond .ne 5, 3) := by decide +kernel
theorem dX11_bell_31 : decode cX11_bell 31 = .ok (.iconst (-1), 1) := by decide +kernel
theorem dX11_bell_32 : decode cX11_bell 32 = .ok (.ireturn, 1) := by decide +kernel
theorem dX11_bell_33 : decode cX11_bell 33 = .ok (.aload_n 0, 1) := by decide +kernel
theorem dX11_bell_34 : decode cX11_bell 34 = .ok (.getfield 39, 3) := by decide +kernel
theorem dX11_bell_37 : decode cX11_bell 37 = .ok (.aload_n 0, 1) := by decide +kernel
theorem dX11_bell_38 : decode cX11_bell 38 = .ok (.getfield 29, 3) := by decide +kernel
theorem dX11_bell_41 : decode cX11_bell 41 = .ok (.invokevirtual 222, 3) := by decide +kernel
theorem dX11_bell_44 : decode cX11_bell 44 = .ok (.aload_n 0, 1) := by decide +kernel
theorem dX11_bell_45 : decode cX11_bell 45 = .ok (.getfield 29, 3) := by decide +kernel
theorem dX11_bell_48 : decode cX11_bell 48 = .ok (.iload_n 1, 1) := by decide +kernel
theorem dX11_bell_49 : decode cX11_bell 49 = .ok (.invokevirtual 233, 3) := by decide +kernel
theorem dX11_bell_52 : decode cX11_bell 52 = .ok (.ireturn, 1) := by decide +kernel
theorem wd_954 : (Jvm.Cond.code ({ cls := "SilentSale", name := "play", desc := "(III)I" } : Jvm.MethodName) prog_1_method_15_code (4 : Nat) (Option.some Jvm.ClassFile.FieldType.int)) ∈ tb_L := tb_in (i := 954) (by decide +kernel) (by decide +kernel)
theorem wd_955 : (Jvm.Cond.methodLink "SilentSale" (236 : Nat) ({ cls := "SilentSale$State", name := "canTrick", desc := "(IIILSilentSale$Terms;)Z" } : Jvm.MethodName)) ∈ tb_L := tb_in (i := 955) (by decide +kernel) (by decide +kernel)
theorem wd_960 : (Jvm.Cond.methodLink "SilentSale" (240 : Nat) ({ cls := "SilentSale$State", name := "trickNow", desc := "(IIILSilentSale$Terms;)V" } : Jvm.MethodName)) ∈ tb_L := tb_in (i := 960) (by decide +kernel) (by decide +kernel)
theorem dX11_play_0 : decode cX11_play 0 = .ok (.aload_n 0, 1) := by decide +kernel
theorem dX11_play_1 : decode cX11_play 1 = .ok (.iload_n 1, 1) := by decide +kernel
theorem dX11_play_2 : decode cX11_play 2 = .ok (.invokevirtual 136, 3) := by decide +kernel
theorem dX11_play_5 : decode cX11_play 5 = .ok (.ifCond .eq 24, 3) := by decide +kernel
theorem dX11_play_8 : decode cX11_play 8 = .ok (.aload_n 0, 1) := by decide +kernel
theorem dX11_play_9 : decode cX11_play 9 = .ok (.iload_n 2, 1) := by decide +kernel
theorem dX11_play_10 : decode cX11_play 10 = .ok (.invokevirtual 136, 3) := by decide +kernel
theorem dX11_play_13 : decode cX11_play 13 = .ok (.ifCond .eq 16, 3) := by decide +kernel
theorem dX11_play_16 : decode cX11_play 16 = .ok (.iload_n 1, 1) := by decide +kernel
theorem dX11_play_17 : decode cX11_play 17 = .ok (.iload_n 2, 1) := by decide +kernel
theorem dX11_play_18 : decode cX11_play 18 = .ok (.if_icmp .eq 11, 3) := by decide +kernel
theorem dX11_play_21 : decode cX11_play 21 = .ok (.aload_n 0, 1) := by decide +kernel
theorem dX11_play_22 : decode cX11_play 22 = .ok (.iload_n 3, 1) := by decide +kernel
theorem dX11_play_23 : decode cX11_play 23 = .ok (.invokevirtual 189, 3) := by decide +kernel
theorem dX11_play_26 : decode cX11_play 26 = .ok (.ifCond .ne 5, 3) := by decide +kernel
theorem dX11_play_29 : decode cX11_play 29 = .ok (.iconst (-1), 1) := by decide +kernel
theorem dX11_play_30 : decode cX11_play 30 = .ok (.ireturn, 1) := by decide +kernel
theorem dX11_play_31 : decode cX11_play 31 = .ok (.aload_n 0, 1) := by decide +kernel
theorem dX11_play_32 : decode cX11_play 32 = .ok (.getfield 29, 3) := by decide +kernel
theorem dX11_play_35 : decode cX11_play 35 = .ok (.iload_n 1, 1) := by decide +kernel
theorem dX11_play_36 : decode cX11_play 36 = .ok (.iload_n 2, 1) := by decide +kernel
theorem dX11_play_37 : decode cX11_play 37 = .ok (.iload_n 3, 1) := by decide +kernel
theorem dX11_play_38 : decode cX11_play 38 = .ok (.aload_n 0, 1) := by decide +kernel
theorem dX11_play_39 : decode cX11_play 39 = .ok (.getfield 19, 3) := by decide +kernel
theorem dX11_play_42 : decode cX11_play 42 = .ok (.invokevirtual 236, 3) := by decide +kernel
theorem dX11_play_45 : decode cX11_play 45 = .ok (.ifCond .ne 5, 3) := by decide +kernel
theorem dX11_play_48 : decode cX11_play 48 = .ok (.iconst (-1), 1) := by decide +kernel
theorem dX11_play_49 : decode cX11_play 49 = .ok (.ireturn, 1) := by decide +kernel
theorem dX11_play_50 : decode cX11_play 50 = .ok (.aload_n 0, 1) := by decide +kernel
theorem dX11_play_51 : decode cX11_play 51 = .ok (.getfield 39, 3) := by decide +kernel
theorem dX11_play_54 : decode cX11_play 54 = .ok (.aload_n 0, 1) := by decide +kernel
theorem dX11_play_55 : decode cX11_play 55 = .ok (.getfield 29, 3) := by decide +kernel
theorem dX11_play_58 : decode cX11_play 58 = .ok (.invokevirtual 222, 3) := by decide +kernel
theorem dX11_play_61 : decode cX11_play 61 = .ok (.aload_n 0, 1) := by decide +kernel
theorem dX11_play_62 : decode cX11_play 62 = .ok (.getfield 29, 3) := by decide +kernel
theorem dX11_play_65 : decode cX11_play 65 = .ok (.iload_n 1, 1) := by decide +kernel
theorem dX11_play_66 : decode cX11_play 66 = .ok (.iload_n 2, 1) := by decide +kernel
theorem dX11_play_67 : decode cX11_play 67 = .ok (.iload_n 3, 1) := by decide +kernel
theorem dX11_play_68 : decode cX11_play 68 = .ok (.aload_n 0, 1) := by decide +kernel
theorem dX11_play_69 : decode cX11_play 69 = .ok (.getfield 19, 3) := by decide +kernel
theorem dX11_play_72 : decode cX11_play 72 = .ok (.invokevirtual 240, 3) := by decide +kernel
theorem dX11_play_75 : decode cX11_play 75 = .ok (.aload_n 0, 1) := by decide +kernel
theorem dX11_play_76 : decode cX11_play 76 = .ok (.getfield 29, 3) := by decide +kernel
theorem dX11_play_79 : decode cX11_play 79 = .ok (.getfield 144, 3) := by decide +kernel
theorem dX11_play_82 : decode cX11_play 82 = .ok (.iload_n 2, 1) := by decide +kernel
theorem dX11_play_83 : decode cX11_play 83 = .ok (.iaload, 1) := by decide +kernel
theorem dX11_play_84 : decode cX11_play 84 = .ok (.ireturn, 1) := by decide +kernel
theorem wd_967 : (Jvm.Cond.code ({ cls := "SilentSale", name := "fire", desc := "(I)I" } : Jvm.MethodName) prog_1_method_16_code (3 : Nat) (Option.some Jvm.ClassFile.FieldType.int)) ∈ tb_L := tb_in (i := 967) (by decide +kernel) (by decide +kernel)
theorem wd_968 : (Jvm.Cond.methodLink "SilentSale" (244 : Nat) ({ cls := "SilentSale$State", name := "breakOff", desc := "(I)V" } : Jvm.MethodName)) ∈ tb_L := tb_in (i := 968) (by decide +kernel) (by decide +kernel)
theorem wd_969 : (Jvm.Cond.instanceMethod ({ cls := "SilentSale$State", name := "breakOff", desc := "(I)V" } : Jvm.MethodName)) ∈ tb_L := tb_in (i := 969) (by decide +kernel) (by decide +kernel)
theorem wd_970 : (Jvm.Cond.selects "SilentSale$State" ({ cls := "SilentSale$State", name := "breakOff", desc := "(I)V" } : Jvm.MethodName) ({ cls := "SilentSale$State", name := "breakOff", desc := "(I)V" } : Jvm.MethodName)) ∈ tb_L := tb_in (i := 970) (by decide +kernel) (by decide +kernel)
theorem dX11_fire_0 : decode cX11_fire 0 = .ok (.aload_n 0, 1) := by decide +kernel
theorem dX11_fire_1 : decode cX11_fire 1 = .ok (.iload_n 1, 1) := by decide +kernel
theorem dX11_fire_2 : decode cX11_fire 2 = .ok (.invokevirtual 164, 3) := by decide +kernel
theorem dX11_fire_5 : decode cX11_fire 5 = .ok (.ifCond .eq 16, 3) := by decide +kernel
theorem dX11_fire_8 : decode cX11_fire 8 = .ok (.aload_n 0, 1) := by decide +kernel
theorem dX11_fire_9 : decode cX11_fire 9 = .ok (.getfield 29, 3) := by decide +kernel
theorem dX11_fire_12 : decode cX11_fire 12 = .ok (.getfield 167, 3) := by decide +kernel
theorem dX11_fire_15 : decode cX11_fire 15 = .ok (.iload_n 1, 1) := by decide +kernel
theorem dX11_fire_16 : decode cX11_fire 16 = .ok (.iaload, 1) := by decide +kernel
theorem dX11_fire_17 : decode cX11_fire 17 = .ok (.iconst 1, 1) := by decide +kernel
theorem dX11_fire_18 : decode cX11_fire 18 = .ok (.if_icmp .eq 5, 3) := by decide +kernel
theorem dX11_fire_21 : decode cX11_fire 21 = .ok (.iconst (-1), 1) := by decide +kernel
theorem dX11_fire_22 : decode cX11_fire 22 = .ok (.ireturn, 1) := by decide +kernel
theorem dX11_fire_23 : decode cX11_fire 23 = .ok (.aload_n 0, 1) := by decide +kernel
theorem dX11_fire_24 : decode cX11_fire 24 = .ok (.getfield 39, 3) := by decide +kernel
theorem dX11_fire_27 : decode cX11_fire 27 = .ok (.aload_n 0, 1) := by decide +kernel
theorem dX11_fire_28 : decode cX11_fire 28 = .ok (.getfield 29, 3) := by decide +kernel
theorem dX11_fire_31 : decode cX11_fire 31 = .ok (.invokevirtual 222, 3) := by decide +kernel
theorem dX11_fire_34 : decode cX11_fire 34 = .ok (.aload_n 0, 1) := by decide +kernel
theorem dX11_fire_35 : decode cX11_fire 35 = .ok (.getfield 29, 3) := by decide +kernel
theorem dX11_fire_38 : decode cX11_fire 38 = .ok (.getfield 170, 3) := by decide +kernel
theorem dX11_fire_41 : decode cX11_fire 41 = .ok (.iload_n 1, 1) := by decide +kernel
theorem dX11_fire_42 : decode cX11_fire 42 = .ok (.iaload, 1) := by decide +kernel
theorem dX11_fire_43 : decode cX11_fire 43 = .ok (.istore_n 2, 1) := by decide +kernel
theorem dX11_fire_44 : decode cX11_fire 44 = .ok (.aload_n 0, 1) := by decide +kernel
theorem dX11_fire_45 : decode cX11_fire 45 = .ok (.getfield 29, 3) := by decide +kernel
theorem dX11_fire_48 : decode cX11_fire 48 = .ok (.iload_n 1, 1) := by decide +kernel
theorem dX11_fire_49 : decode cX11_fire 49 = .ok (.invokevirtual 244, 3) := by decide +kernel
theorem dX11_fire_52 : decode cX11_fire 52 = .ok (.iload_n 2, 1) := by decide +kernel
theorem dX11_fire_53 : decode cX11_fire 53 = .ok (.ireturn, 1) := by decide +kernel
theorem wd_302 : (Jvm.Cond.fieldLink "SilentSale" (221 : Nat) "SilentSale$Past" "size" "I") ∈ tb_L := tb_in (i := 302) (by decide +kernel) (by decide +kernel)
theorem wd_975 : (Jvm.Cond.code ({ cls := "SilentSale", name := "undo", desc := "()I" } : Jvm.MethodName) prog_1_method_17_code (1 : Nat) (Option.some Jvm.ClassFile.FieldType.int)) ∈ tb_L := tb_in (i := 975) (by decide +kernel) (by decide +kernel)
theorem wd_976 : (Jvm.Cond.methodLink "SilentSale" (247 : Nat) ({ cls := "SilentSale$Past", name := "takeBack", desc := "(LSilentSale$State;)Z" } : Jvm.MethodName)) ∈ tb_L := tb_in (i := 976) (by decide +kernel) (by decide +kernel)
theorem wd_977 : (Jvm.Cond.instanceMethod ({ cls := "SilentSale$Past", name := "takeBack", desc := "(LSilentSale$State;)Z" } : Jvm.MethodName)) ∈ tb_L := tb_in (i := 977) (by decide +kernel) (by decide +kernel)
theorem wd_978 : (Jvm.Cond.selects "SilentSale$Past" ({ cls := "SilentSale$Past", name := "takeBack", desc := "(LSilentSale$State;)Z" } : Jvm.MethodName) ({ cls := "SilentSale$Past", name := "takeBack", desc := "(LSilentSale$State;)Z" } : Jvm.MethodName)) ∈ tb_L := tb_in (i := 978) (by decide +kernel) (by decide +kernel)
theorem dX11_undo_0 : decode cX11_undo 0 = .ok (.aload_n 0, 1) := by decide +kernel
theorem dX11_undo_1 : decode cX11_undo 1 = .ok (.getfield 39, 3) := by decide +kernel
theorem dX11_undo_4 : decode cX11_undo 4 = .ok (.aload_n 0, 1) := by decide +kernel
theorem dX11_undo_5 : decode cX11_undo 5 = .ok (.getfield 29, 3) := by decide +kernel
theorem dX11_undo_8 : decode cX11_undo 8 = .ok (.invokevirtual 247, 3) := by decide +kernel
theorem dX11_undo_11 : decode cX11_undo 11 = .ok (.ifCond .eq 13, 3) := by decide +kernel
theorem dX11_undo_14 : decode cX11_undo 14 = .ok (.aload_n 0, 1) := by decide +kernel
theorem dX11_undo_15 : decode cX11_undo 15 = .ok (.getfield 39, 3) := by decide +kernel
theorem dX11_undo_18 : decode cX11_undo 18 = .ok (.getfield 221, 3) := by decide +kernel
theorem dX11_undo_21 : decode cX11_undo 21 = .ok (.goto 4, 3) := by decide +kernel
theorem dX11_undo_24 : decode cX11_undo 24 = .ok (.iconst (-1), 1) := by decide +kernel
theorem dX11_undo_25 : decode cX11_undo 25 = .ok (.ireturn, 1) := by decide +kernel
theorem wd_21 : (Jvm.Cond.selects "SilentSale" ({ cls := "SilentSale", name := "isTold", desc := "()Z" } : Jvm.MethodName) ({ cls := "SilentSale", name := "isTold", desc := "()Z" } : Jvm.MethodName)) ∈ tb_L := tb_in (i := 21) (by decide +kernel) (by decide +kernel)
theorem wd_22 : (Jvm.Cond.selects "SilentSale" ({ cls := "SilentSale", name := "beginAsking", desc := "()V" } : Jvm.MethodName) ({ cls := "SilentSale", name := "beginAsking", desc := "()V" } : Jvm.MethodName)) ∈ tb_L := tb_in (i := 22) (by decide +kernel) (by decide +kernel)
theorem wd_983 : (Jvm.Cond.code ({ cls := "SilentSale", name := "ahead", desc := "(III)I" } : Jvm.MethodName) prog_1_method_18_code (4 : Nat) (Option.some Jvm.ClassFile.FieldType.int)) ∈ tb_L := tb_in (i := 983) (by decide +kernel) (by decide +kernel)
theorem wd_984 : (Jvm.Cond.methodLink "SilentSale" (251 : Nat) ({ cls := "SilentSale", name := "isTold", desc := "()Z" } : Jvm.MethodName)) ∈ tb_L := tb_in (i := 984) (by decide +kernel) (by decide +kernel)
theorem wd_986 : (Jvm.Cond.instanceMethod ({ cls := "SilentSale", name := "isTold", desc := "()Z" } : Jvm.MethodName)) ∈ tb_L := tb_in (i := 986) (by decide +kernel) (by decide +kernel)
theorem wd_988 : (Jvm.Cond.methodLink "SilentSale" (255 : Nat) ({ cls := "SilentSale", name := "beginAsking", desc := "()V" } : Jvm.MethodName)) ∈ tb_L := tb_in (i := 988) (by decide +kernel) (by decide +kernel)
theorem wd_990 : (Jvm.Cond.instanceMethod ({ cls := "SilentSale", name := "beginAsking", desc := "()V" } : Jvm.MethodName)) ∈ tb_L := tb_in (i := 990) (by decide +kernel) (by decide +kernel)
theorem wd_993 : (Jvm.Cond.methodLink "SilentSale" (258 : Nat) ({ cls := "SilentSale$Clerk", name := "passMany", desc := "(LSilentSale$State;I)V" } : Jvm.MethodName)) ∈ tb_L := tb_in (i := 993) (by decide +kernel) (by decide +kernel)
theorem wd_994 : (Jvm.Cond.instanceMethod ({ cls := "SilentSale$Clerk", name := "passMany", desc := "(LSilentSale$State;I)V" } : Jvm.MethodName)) ∈ tb_L := tb_in (i := 994) (by decide +kernel) (by decide +kernel)
theorem wd_995 : (Jvm.Cond.selects "SilentSale$Clerk" ({ cls := "SilentSale$Clerk", name := "passMany", desc := "(LSilentSale$State;I)V" } : Jvm.MethodName) ({ cls := "SilentSale$Clerk", name := "passMany", desc := "(LSilentSale$State;I)V" } : Jvm.MethodName)) ∈ tb_L := tb_in (i := 995) (by decide +kernel) (by decide +kernel)
theorem dX11_ahead_0 : decode cX11_ahead 0 = .ok (.aload_n 0, 1) := by decide +kernel
theorem dX11_ahead_1 : decode cX11_ahead 1 = .ok (.invokevirtual 251, 3) := by decide +kernel
theorem dX11_ahead_4 : decode cX11_ahead 4 = .ok (.ifCond .eq 23, 3) := by decide +kernel
theorem dX11_ahead_7 : decode cX11_ahead 7 = .ok (.iload_n 2, 1) := by decide +kernel
theorem dX11_ahead_8 : decode cX11_ahead 8 = .ok (.ifCond .lt 19, 3) := by decide +kernel
theorem dX11_ahead_11 : decode cX11_ahead 11 = .ok (.iload_n 2, 1) := by decide +kernel
theorem dX11_ahead_12 : decode cX11_ahead 12 = .ok (.sipush 300, 3) := by decide +kernel
theorem dX11_ahead_15 : decode cX11_ahead 15 = .ok (.if_icmp .gt 12, 3) := by decide +kernel
theorem dX11_ahead_18 : decode cX11_ahead 18 = .ok (.iload_n 3, 1) := by decide +kernel
theorem dX11_ahead_19 : decode cX11_ahead 19 = .ok (.ifCond .lt 8, 3) := by decide +kernel
theorem dX11_ahead_22 : decode cX11_ahead 22 = .ok (.iload_n 3, 1) := by decide +kernel
theorem dX11_ahead_23 : decode cX11_ahead 23 = .ok (.iconst 2, 1) := by decide +kernel
theorem dX11_ahead_24 : decode cX11_ahead 24 = .ok (.if_icmp .le 7, 3) := by decide +kernel
theorem dX11_ahead_27 : decode cX11_ahead 27 = .ok (.sipush (-1000), 3) := by decide +kernel
theorem dX11_ahead_30 : decode cX11_ahead 30 = .ok (.ireturn, 1) := by decide +kernel
theorem dX11_ahead_31 : decode cX11_ahead 31 = .ok (.iload_n 3, 1) := by decide +kernel
theorem dX11_ahead_32 : decode cX11_ahead 32 = .ok (.ifCond .ne 14, 3) := by decide +kernel
theorem dX11_ahead_35 : decode cX11_ahead 35 = .ok (.aload_n 0, 1) := by decide +kernel
theorem dX11_ahead_36 : decode cX11_ahead 36 = .ok (.iload_n 1, 1) := by decide +kernel
theorem dX11_ahead_37 : decode cX11_ahead 37 = .ok (.invokevirtual 164, 3) := by decide +kernel
theorem dX11_ahead_40 : decode cX11_ahead 40 = .ok (.ifCond .ne 18, 3) := by decide +kernel
theorem dX11_ahead_43 : decode cX11_ahead 43 = .ok (.goto 11, 3) := by decide +kernel
theorem dX11_ahead_46 : decode cX11_ahead 46 = .ok (.aload_n 0, 1) := by decide +kernel
theorem dX11_ahead_47 : decode cX11_ahead 47 = .ok (.iload_n 1, 1) := by decide +kernel
theorem dX11_ahead_48 : decode cX11_ahead 48 = .ok (.invokevirtual 136, 3) := by decide +kernel
theorem dX11_ahead_51 : decode cX11_ahead 51 = .ok (.ifCond .ne 7, 3) := by decide +kernel
theorem dX11_ahead_54 : decode cX11_ahead 54 = .ok (.sipush (-1000), 3) := by decide +kernel
theorem dX11_ahead_57 : decode cX11_ahead 57 = .ok (.ireturn, 1) := by decide +kernel
theorem dX11_ahead_58 : decode cX11_ahead 58 = .ok (.aload_n 0, 1) := by decide +kernel
theorem dX11_ahead_59 : decode cX11_ahead 59 = .ok (.invokevirtual 255, 3) := by decide +kernel
theorem dX11_ahead_62 : decode cX11_ahead 62 = .ok (.aload_n 0, 1) := by decide +kernel
theorem dX11_ahead_63 : decode cX11_ahead 63 = .ok (.getfield 67, 3) := by decide +kernel
theorem dX11_ahead_66 : decode cX11_ahead 66 = .ok (.aload_n 0, 1) := by decide +kernel
theorem dX11_ahead_67 : decode cX11_ahead 67 = .ok (.getfield 33, 3) := by decide +kernel
theorem dX11_ahead_70 : decode cX11_ahead 70 = .ok (.iload_n 2, 1) := by decide +kernel
theorem dX11_ahead_71 : decode cX11_ahead 71 = .ok (.invokevirtual 258, 3) := by decide +kernel
theorem dX11_ahead_74 : decode cX11_ahead 74 = .ok (.iload_n 3, 1) := by decide +kernel
theorem dX11_ahead_75 : decode cX11_ahead 75 = .ok (.ifCond .ne 13, 3) := by decide +kernel
theorem dX11_ahead_78 : decode cX11_ahead 78 = .ok (.aload_n 0, 1) := by decide +kernel
theorem dX11_ahead_79 : decode cX11_ahead 79 = .ok (.getfield 33, 3) := by decide +kernel
theorem dX11_ahead_82 : decode cX11_ahead 82 = .ok (.getfield 173, 3) := by decide +kernel
theorem dX11_ahead_85 : decode cX11_ahead 85 = .ok (.iload_n 1, 1) := by decide +kernel
theorem dX11_ahead_86 : decode cX11_ahead 86 = .ok (.iaload, 1) := by decide +kernel
theorem dX11_ahead_87 : decode cX11_ahead 87 = .ok (.ireturn, 1) := by decide +kernel
theorem dX11_ahead_88 : decode cX11_ahead 88 = .ok (.iload_n 3, 1) := by decide +kernel
theorem dX11_ahead_89 : decode cX11_ahead 89 = .ok (.iconst 1, 1) := by decide +kernel
theorem dX11_ahead_90 : decode cX11_ahead 90 = .ok (.if_icmp .ne 15, 3) := by decide +kernel
theorem dX11_ahead_93 : decode cX11_ahead 93 = .ok (.aload_n 0, 1) := by decide +kernel
theorem dX11_ahead_94 : decode cX11_ahead 94 = .ok (.getfield 33, 3) := by decide +kernel
theorem dX11_ahead_97 : decode cX11_ahead 97 = .ok (.getfield 144, 3) := by decide +kernel
theorem dX11_ahead_100 : decode cX11_ahead 100 = .ok (.iload_n 1, 1) := by decide +kernel
theorem dX11_ahead_101 : decode cX11_ahead 101 = .ok (.iaload, 1) := by decide +kernel
theorem dX11_ahead_102 : decode cX11_ahead 102 = .ok (.goto 15, 3) := by decide +kernel
theorem dX11_ahead_105 : decode cX11_ahead 105 = .ok (.aload_n 0, 1) := by decide +kernel
theorem dX11_ahead_106 : decode cX11_ahead 106 = .ok (.getfield 33, 3) := by decide +kernel
theorem dX11_ahead_109 : decode cX11_ahead 109 = .ok (.iload_n 1, 1) := by decide +kernel
theorem dX11_ahead_110 : decode cX11_ahead 110 = .ok (.aload_n 0, 1) := by decide +kernel
theorem dX11_ahead_111 : decode cX11_ahead 111 = .ok (.getfield 19, 3) := by decide +kernel
theorem dX11_ahead_114 : decode cX11_ahead 114 = .ok (.invokevirtual 160, 3) := by decide +kernel
theorem dX11_ahead_117 : decode cX11_ahead 117 = .ok (.ireturn, 1) := by decide +kernel
theorem wd_1002 : (Jvm.Cond.code ({ cls := "SilentSale", name := "ends", desc := "(II)I" } : Jvm.MethodName) prog_1_method_19_code (3 : Nat) (Option.some Jvm.ClassFile.FieldType.int)) ∈ tb_L := tb_in (i := 1002) (by decide +kernel) (by decide +kernel)
theorem wd_1003 : (Jvm.Cond.methodLink "SilentSale" (262 : Nat) ({ cls := "SilentSale$Clerk", name := "passTillOver", desc := "(LSilentSale$State;I)V" } : Jvm.MethodName)) ∈ tb_L := tb_in (i := 1003) (by decide +kernel) (by decide +kernel)
theorem dX11_ends_0 : decode cX11_ends 0 = .ok (.aload_n 0, 1) := by decide +kernel
theorem dX11_ends_1 : decode cX11_ends 1 = .ok (.iload_n 1, 1) := by decide +kernel
theorem dX11_ends_2 : decode cX11_ends 2 = .ok (.invokevirtual 164, 3) := by decide +kernel
theorem dX11_ends_5 : decode cX11_ends 5 = .ok (.ifCond .eq 25, 3) := by decide +kernel
theorem dX11_ends_8 : decode cX11_ends 8 = .ok (.aload_n 0, 1) := by decide +kernel
theorem dX11_ends_9 : decode cX11_ends 9 = .ok (.getfield 29, 3) := by decide +kernel
theorem dX11_ends_12 : decode cX11_ends 12 = .ok (.getfield 167, 3) := by decide +kernel
theorem dX11_ends_15 : decode cX11_ends 15 = .ok (.iload_n 1, 1) := by decide +kernel
theorem dX11_ends_16 : decode cX11_ends 16 = .ok (.iaload, 1) := by decide +kernel
theorem dX11_ends_17 : decode cX11_ends 17 = .ok (.iconst 1, 1) := by decide +kernel
theorem dX11_ends_18 : decode cX11_ends 18 = .ok (.if_icmp .ne 12, 3) := by decide +kernel
theorem dX11_ends_21 : decode cX11_ends 21 = .ok (.iload_n 2, 1) := by decide +kernel
theorem dX11_ends_22 : decode cX11_ends 22 = .ok (.ifCond .lt 8, 3) := by decide +kernel
theorem dX11_ends_25 : decode cX11_ends 25 = .ok (.iload_n 2, 1) := by decide +kernel
theorem dX11_ends_26 : decode cX11_ends 26 = .ok (.iconst 2, 1) := by decide +kernel
theorem dX11_ends_27 : decode cX11_ends 27 = .ok (.if_icmp .le 6, 3) := by decide +kernel
theorem dX11_ends_30 : decode cX11_ends 30 = .ok (.bipush (-2), 2) := by decide +kernel
theorem dX11_ends_32 : decode cX11_ends 32 = .ok (.ireturn, 1) := by decide +kernel
theorem dX11_ends_33 : decode cX11_ends 33 = .ok (.aload_n 0, 1) := by decide +kernel
theorem dX11_ends_34 : decode cX11_ends 34 = .ok (.invokevirtual 255, 3) := by decide +kernel
theorem dX11_ends_37 : decode cX11_ends 37 = .ok (.aload_n 0, 1) := by decide +kernel
theorem dX11_ends_38 : decode cX11_ends 38 = .ok (.getfield 67, 3) := by decide +kernel
theorem dX11_ends_41 : decode cX11_ends 41 = .ok (.aload_n 0, 1) := by decide +kernel
theorem dX11_ends_42 : decode cX11_ends 42 = .ok (.getfield 33, 3) := by decide +kernel
theorem dX11_ends_45 : decode cX11_ends 45 = .ok (.iload_n 1, 1) := by decide +kernel
theorem dX11_ends_46 : decode cX11_ends 46 = .ok (.invokevirtual 262, 3) := by decide +kernel
theorem dX11_ends_49 : decode cX11_ends 49 = .ok (.iload_n 2, 1) := by decide +kernel
theorem dX11_ends_50 : decode cX11_ends 50 = .ok (.ifCond .ne 23, 3) := by decide +kernel
theorem dX11_ends_53 : decode cX11_ends 53 = .ok (.aload_n 0, 1) := by decide +kernel
theorem dX11_ends_54 : decode cX11_ends 54 = .ok (.getfield 33, 3) := by decide +kernel
theorem dX11_ends_57 : decode cX11_ends 57 = .ok (.getfield 170, 3) := by decide +kernel
theorem dX11_ends_60 : decode cX11_ends 60 = .ok (.iload_n 1, 1) := by decide +kernel
theorem dX11_ends_61 : decode cX11_ends 61 = .ok (.iaload, 1) := by decide +kernel
theorem dX11_ends_62 : decode cX11_ends 62 = .ok (.aload_n 0, 1) := by decide +kernel
theorem dX11_ends_63 : decode cX11_ends 63 = .ok (.getfield 29, 3) := by decide +kernel
theorem dX11_ends_66 : decode cX11_ends 66 = .ok (.getfield 170, 3) := by decide +kernel
theorem dX11_ends_69 : decode cX11_ends 69 = .ok (.iload_n 1, 1) := by decide +kernel
theorem dX11_ends_70 : decode cX11_ends 70 = .ok (.iaload, 1) := by decide +kernel
theorem dX11_ends_71 : decode cX11_ends 71 = .ok (.isub, 1) := by decide +kernel
theorem dX11_ends_72 : decode cX11_ends 72 = .ok (.ireturn, 1) := by decide +kernel
theorem dX11_ends_73 : decode cX11_ends 73 = .ok (.iload_n 2, 1) := by decide +kernel
theorem dX11_ends_74 : decode cX11_ends 74 = .ok (.iconst 1, 1) := by decide +kernel
theorem dX11_ends_75 : decode cX11_ends 75 = .ok (.if_icmp .ne 15, 3) := by decide +kernel
theorem dX11_ends_78 : decode cX11_ends 78 = .ok (.aload_n 0, 1) := by decide +kernel
theorem dX11_ends_79 : decode cX11_ends 79 = .ok (.getfield 33, 3) := by decide +kernel
theorem dX11_ends_82 : decode cX11_ends 82 = .ok (.getfield 173, 3) := by decide +kernel
theorem dX11_ends_85 : decode cX11_ends 85 = .ok (.iload_n 1, 1) := by decide +kernel
theorem dX11_ends_86 : decode cX11_ends 86 = .ok (.iaload, 1) := by decide +kernel
theorem dX11_ends_87 : decode cX11_ends 87 = .ok (.goto 12, 3) := by decide +kernel
theorem dX11_ends_90 : decode cX11_ends 90 = .ok (.aload_n 0, 1) := by decide +kernel
theorem dX11_ends_91 : decode cX11_ends 91 = .ok (.getfield 33, 3) := by decide +kernel
theorem dX11_ends_94 : decode cX11_ends 94 = .ok (.getfield 176, 3) := by decide +kernel
theorem dX11_ends_97 : decode cX11_ends 97 = .ok (.iload_n 1, 1) := by decide +kernel
theorem dX11_ends_98 : decode cX11_ends 98 = .ok (.iaload, 1) := by decide +kernel
theorem dX11_ends_99 : decode cX11_ends 99 = .ok (.ireturn, 1) := by decide +kernel
theorem wd_434 : (Jvm.Cond.fieldLink "SilentSale" (287 : Nat) "SilentSale$Seating" "best" "[I") ∈ tb_L := tb_in (i := 434) (by decide +kernel) (by decide +kernel)
theorem wd_436 : (Jvm.Cond.fieldLink "SilentSale" (284 : Nat) "SilentSale$Seating" "gains" "I") ∈ tb_L := tb_in (i := 436) (by decide +kernel) (by decide +kernel)
theorem wd_507 : (Jvm.Cond.fieldLink "SilentSale" (74 : Nat) "SilentSale" "seating" "LSilentSale$Seating;") ∈ tb_L := tb_in (i := 507) (by decide +kernel) (by decide +kernel)
theorem wd_1037 : (Jvm.Cond.code ({ cls := "SilentSale", name := "seats", desc := "(I)I" } : Jvm.MethodName) prog_1_method_22_code (2 : Nat) (Option.some Jvm.ClassFile.FieldType.int)) ∈ tb_L := tb_in (i := 1037) (by decide +kernel) (by decide +kernel)
theorem wd_1038 : (Jvm.Cond.methodLink "SilentSale" (280 : Nat) ({ cls := "SilentSale$Seating", name := "findSeats", desc := "(LSilentSale$Clerk;LSilentSale$Terms;LSilentSale$State;)V" } : Jvm.MethodName)) ∈ tb_L := tb_in (i := 1038) (by decide +kernel) (by decide +kernel)
theorem wd_1039 : (Jvm.Cond.instanceMethod ({ cls := "SilentSale$Seating", name := "findSeats", desc := "(LSilentSale$Clerk;LSilentSale$Terms;LSilentSale$State;)V" } : Jvm.MethodName)) ∈ tb_L := tb_in (i := 1039) (by decide +kernel) (by decide +kernel)
theorem wd_1040 : (Jvm.Cond.selects "SilentSale$Seating" ({ cls := "SilentSale$Seating", name := "findSeats", desc := "(LSilentSale$Clerk;LSilentSale$Terms;LSilentSale$State;)V" } : Jvm.MethodName) ({ cls := "SilentSale$Seating", name := "findSeats", desc := "(LSilentSale$Clerk;LSilentSale$Terms;LSilentSale$State;)V" } : Jvm.MethodName)) ∈ tb_L := tb_in (i := 1040) (by decide +kernel) (by decide +kernel)
theorem dX11_seats_0 : decode cX11_seats 0 = .ok (.aload_n 0, 1) := by decide +kernel
theorem dX11_seats_1 : decode cX11_seats 1 = .ok (.invokevirtual 251, 3) := by decide +kernel
theorem dX11_seats_4 : decode cX11_seats 4 = .ok (.ifCond .eq 12, 3) := by decide +kernel
theorem dX11_seats_7 : decode cX11_seats 7 = .ok (.iload_n 1, 1) := by decide +kernel
theorem dX11_seats_8 : decode cX11_seats 8 = .ok (.ifCond .lt 8, 3) := by decide +kernel
theorem dX11_seats_11 : decode cX11_seats 11 = .ok (.iload_n 1, 1) := by decide +kernel
theorem dX11_seats_12 : decode cX11_seats 12 = .ok (.iconst 5, 1) := by decide +kernel
theorem dX11_seats_13 : decode cX11_seats 13 = .ok (.if_icmp .le 7, 3) := by decide +kernel
theorem dX11_seats_16 : decode cX11_seats 16 = .ok (.sipush (-1000), 3) := by decide +kernel
theorem dX11_seats_19 : decode cX11_seats 19 = .ok (.ireturn, 1) := by decide +kernel
theorem dX11_seats_20 : decode cX11_seats 20 = .ok (.aload_n 0, 1) := by decide +kernel
theorem dX11_seats_21 : decode cX11_seats 21 = .ok (.invokevirtual 226, 3) := by decide +kernel
theorem dX11_seats_24 : decode cX11_seats 24 = .ok (.aload_n 0, 1) := by decide +kernel
theorem dX11_seats_25 : decode cX11_seats 25 = .ok (.getfield 74, 3) := by decide +kernel
theorem dX11_seats_28 : decode cX11_seats 28 = .ok (.aload_n 0, 1) := by decide +kernel
theorem dX11_seats_29 : decode cX11_seats 29 = .ok (.getfield 67, 3) := by decide +kernel
theorem dX11_seats_32 : decode cX11_seats 32 = .ok (.aload_n 0, 1) := by decide +kernel
theorem dX11_seats_33 : decode cX11_seats 33 = .ok (.getfield 19, 3) := by decide +kernel
theorem dX11_seats_36 : decode cX11_seats 36 = .ok (.aload_n 0, 1) := by decide +kernel
theorem dX11_seats_37 : decode cX11_seats 37 = .ok (.getfield 29, 3) := by decide +kernel
theorem dX11_seats_40 : decode cX11_seats 40 = .ok (.invokevirtual 280, 3) := by decide +kernel
theorem dX11_seats_43 : decode cX11_seats 43 = .ok (.iload_n 1, 1) := by decide +kernel
theorem dX11_seats_44 : decode cX11_seats 44 = .ok (.ifCond .ne 13, 3) := by decide +kernel
theorem dX11_seats_47 : decode cX11_seats 47 = .ok (.aload_n 0, 1) := by decide +kernel
theorem dX11_seats_48 : decode cX11_seats 48 = .ok (.getfield 74, 3) := by decide +kernel
theorem dX11_seats_51 : decode cX11_seats 51 = .ok (.getfield 284, 3) := by decide +kernel
theorem dX11_seats_54 : decode cX11_seats 54 = .ok (.goto 14, 3) := by decide +kernel
theorem dX11_seats_57 : decode cX11_seats 57 = .ok (.aload_n 0, 1) := by decide +kernel
theorem dX11_seats_58 : decode cX11_seats 58 = .ok (.getfield 74, 3) := by decide +kernel
theorem dX11_seats_61 : decode cX11_seats 61 = .ok (.getfield 287, 3) := by decide +kernel
theorem dX11_seats_64 : decode cX11_seats 64 = .ok (.iload_n 1, 1) := by decide +kernel
theorem dX11_seats_65 : decode cX11_seats 65 = .ok (.iconst 1, 1) := by decide +kernel
theorem dX11_seats_66 : decode cX11_seats 66 = .ok (.isub, 1) := by decide +kernel
theorem dX11_seats_67 : decode cX11_seats 67 = .ok (.iaload, 1) := by decide +kernel
theorem dX11_seats_68 : decode cX11_seats 68 = .ok (.ireturn, 1) := by decide +kernel
theorem wd_483 : (Jvm.Cond.fieldLink "SilentSale" (335 : Nat) "SilentSale$Sleuth" "fitting" "I") ∈ tb_L := tb_in (i := 483) (by decide +kernel) (by decide +kernel)
theorem wd_503 : (Jvm.Cond.fieldLink "SilentSale" (46 : Nat) "SilentSale" "logs" "LSilentSale$Logs;") ∈ tb_L := tb_in (i := 503) (by decide +kernel) (by decide +kernel)
theorem wd_509 : (Jvm.Cond.fieldLink "SilentSale" (88 : Nat) "SilentSale" "sleuth" "LSilentSale$Sleuth;") ∈ tb_L := tb_in (i := 509) (by decide +kernel) (by decide +kernel)
theorem wd_1133 : (Jvm.Cond.methodLink "SilentSale" (338 : Nat) ({ cls := "SilentSale", name := "lowestOf", desc := "(I)I" } : Jvm.MethodName)) ∈ tb_L := tb_in (i := 1133) (by decide +kernel) (by decide +kernel)
theorem wd_1161 : (Jvm.Cond.code ({ cls := "SilentSale", name := "ruled", desc := "(I)I" } : Jvm.MethodName) prog_1_method_27_code (2 : Nat) (Option.some Jvm.ClassFile.FieldType.int)) ∈ tb_L := tb_in (i := 1161) (by decide +kernel) (by decide +kernel)
theorem wd_1162 : (Jvm.Cond.methodLink "SilentSale" (328 : Nat) ({ cls := "SilentSale$Sleuth", name := "findRules", desc := "(LSilentSale$Clerk;LSilentSale$Terms;[LSilentSale$Rule;ILSilentSale$Logs;)V" } : Jvm.MethodName)) ∈ tb_L := tb_in (i := 1162) (by decide +kernel) (by decide +kernel)
theorem wd_1163 : (Jvm.Cond.instanceMethod ({ cls := "SilentSale$Sleuth", name := "findRules", desc := "(LSilentSale$Clerk;LSilentSale$Terms;[LSilentSale$Rule;ILSilentSale$Logs;)V" } : Jvm.MethodName)) ∈ tb_L := tb_in (i := 1163) (by decide +kernel) (by decide +kernel)
theorem wd_1164 : (Jvm.Cond.selects "SilentSale$Sleuth" ({ cls := "SilentSale$Sleuth", name := "findRules", desc := "(LSilentSale$Clerk;LSilentSale$Terms;[LSilentSale$Rule;ILSilentSale$Logs;)V" } : Jvm.MethodName) ({ cls := "SilentSale$Sleuth", name := "findRules", desc := "(LSilentSale$Clerk;LSilentSale$Terms;[LSilentSale$Rule;ILSilentSale$Logs;)V" } : Jvm.MethodName)) ∈ tb_L := tb_in (i := 1164) (by decide +kernel) (by decide +kernel)
theorem wd_1178 : (Jvm.Cond.methodLink "SilentSale" (332 : Nat) ({ cls := "SilentSale$Sleuth", name := "howMany", desc := "()I" } : Jvm.MethodName)) ∈ tb_L := tb_in (i := 1178) (by decide +kernel) (by decide +kernel)
theorem wd_1179 : (Jvm.Cond.instanceMethod ({ cls := "SilentSale$Sleuth", name := "howMany", desc := "()I" } : Jvm.MethodName)) ∈ tb_L := tb_in (i := 1179) (by decide +kernel) (by decide +kernel)
theorem wd_1180 : (Jvm.Cond.selects "SilentSale$Sleuth" ({ cls := "SilentSale$Sleuth", name := "howMany", desc := "()I" } : Jvm.MethodName) ({ cls := "SilentSale$Sleuth", name := "howMany", desc := "()I" } : Jvm.MethodName)) ∈ tb_L := tb_in (i := 1180) (by decide +kernel) (by decide +kernel)
theorem dX11_ruled_0 : decode cX11_ruled 0 = .ok (.aload_n 0, 1) := by decide +kernel
theorem dX11_ruled_1 : decode cX11_ruled 1 = .ok (.invokevirtual 251, 3) := by decide +kernel
theorem dX11_ruled_4 : decode cX11_ruled 4 = .ok (.ifCond .eq 12, 3) := by decide +kernel
theorem dX11_ruled_7 : decode cX11_ruled 7 = .ok (.iload_n 1, 1) := by decide +kernel
theorem dX11_ruled_8 : decode cX11_ruled 8 = .ok (.ifCond .lt 8, 3) := by decide +kernel
theorem dX11_ruled_11 : decode cX11_ruled 11 = .ok (.iload_n 1, 1) := by decide +kernel
theorem dX11_ruled_12 : decode cX11_ruled 12 = .ok (.iconst 1, 1) := by decide +kernel
theorem dX11_ruled_13 : decode cX11_ruled 13 = .ok (.if_icmp .le 6, 3) := by decide +kernel
theorem dX11_ruled_16 : decode cX11_ruled 16 = .ok (.bipush (-3), 2) := by decide +kernel
theorem dX11_ruled_18 : decode cX11_ruled 18 = .ok (.ireturn, 1) := by decide +kernel
theorem dX11_ruled_19 : decode cX11_ruled 19 = .ok (.aload_n 0, 1) := by decide +kernel
theorem dX11_ruled_20 : decode cX11_ruled 20 = .ok (.getfield 88, 3) := by decide +kernel
theorem dX11_ruled_23 : decode cX11_ruled 23 = .ok (.aload_n 0, 1) := by decide +kernel
theorem dX11_ruled_24 : decode cX11_ruled 24 = .ok (.getfield 67, 3) := by decide +kernel
theorem dX11_ruled_27 : decode cX11_ruled 27 = .ok (.aload_n 0, 1) := by decide +kernel
theorem dX11_ruled_28 : decode cX11_ruled 28 = .ok (.getfield 19, 3) := by decide +kernel
theorem dX11_ruled_31 : decode cX11_ruled 31 = .ok (.aload_n 0, 1) := by decide +kernel
theorem dX11_ruled_32 : decode cX11_ruled 32 = .ok (.getfield 52, 3) := by decide +kernel
theorem dX11_ruled_35 : decode cX11_ruled 35 = .ok (.aload_n 0, 1) := by decide +kernel
theorem dX11_ruled_36 : decode cX11_ruled 36 = .ok (.getfield 92, 3) := by decide +kernel
theorem dX11_ruled_39 : decode cX11_ruled 39 = .ok (.aload_n 0, 1) := by decide +kernel
theorem dX11_ruled_40 : decode cX11_ruled 40 = .ok (.getfield 46, 3) := by decide +kernel
theorem dX11_ruled_43 : decode cX11_ruled 43 = .ok (.invokevirtual 328, 3) := by decide +kernel
theorem dX11_ruled_46 : decode cX11_ruled 46 = .ok (.iload_n 1, 1) := by decide +kernel
theorem dX11_ruled_47 : decode cX11_ruled 47 = .ok (.ifCond .ne 11, 3) := by decide +kernel
theorem dX11_ruled_50 : decode cX11_ruled 50 = .ok (.aload_n 0, 1) := by decide +kernel
theorem dX11_ruled_51 : decode cX11_ruled 51 = .ok (.getfield 88, 3) := by decide +kernel
theorem dX11_ruled_54 : decode cX11_ruled 54 = .ok (.invokevirtual 332, 3) := by decide +kernel
theorem dX11_ruled_57 : decode cX11_ruled 57 = .ok (.ireturn, 1) := by decide +kernel
theorem dX11_ruled_58 : decode cX11_ruled 58 = .ok (.aload_n 0, 1) := by decide +kernel
theorem dX11_ruled_59 : decode cX11_ruled 59 = .ok (.getfield 88, 3) := by decide +kernel
theorem dX11_ruled_62 : decode cX11_ruled 62 = .ok (.invokevirtual 332, 3) := by decide +kernel
theorem dX11_ruled_65 : decode cX11_ruled 65 = .ok (.ifCond .ne 8, 3) := by decide +kernel
theorem dX11_ruled_68 : decode cX11_ruled 68 = .ok (.bipush (-2), 2) := by decide +kernel
theorem dX11_ruled_70 : decode cX11_ruled 70 = .ok (.goto 15, 3) := by decide +kernel
theorem dX11_ruled_73 : decode cX11_ruled 73 = .ok (.aload_n 0, 1) := by decide +kernel
theorem dX11_ruled_74 : decode cX11_ruled 74 = .ok (.getfield 88, 3) := by decide +kernel
theorem dX11_ruled_77 : decode cX11_ruled 77 = .ok (.getfield 335, 3) := by decide +kernel
theorem dX11_ruled_80 : decode cX11_ruled 80 = .ok (.invokestatic 338, 3) := by decide +kernel
theorem dX11_ruled_83 : decode cX11_ruled 83 = .ok (.iconst 1, 1) := by decide +kernel
theorem dX11_ruled_84 : decode cX11_ruled 84 = .ok (.isub, 1) := by decide +kernel
theorem dX11_ruled_85 : decode cX11_ruled 85 = .ok (.ireturn, 1) := by decide +kernel
theorem wd_1186 : (Jvm.Cond.code ({ cls := "SilentSale", name := "look", desc := "(I)I" } : Jvm.MethodName) prog_1_method_28_code (4 : Nat) (Option.some Jvm.ClassFile.FieldType.int)) ∈ tb_L := tb_in (i := 1186) (by decide +kernel) (by decide +kernel)
theorem wd_1187 : (Jvm.Cond.methodLink "SilentSale" (341 : Nat) ({ cls := "SilentSale$Sleuth", name := "mostAlike", desc := "(I)I" } : Jvm.MethodName)) ∈ tb_L := tb_in (i := 1187) (by decide +kernel) (by decide +kernel)
theorem wd_1188 : (Jvm.Cond.instanceMethod ({ cls := "SilentSale$Sleuth", name := "mostAlike", desc := "(I)I" } : Jvm.MethodName)) ∈ tb_L := tb_in (i := 1188) (by decide +kernel) (by decide +kernel)
theorem wd_1189 : (Jvm.Cond.selects "SilentSale$Sleuth" ({ cls := "SilentSale$Sleuth", name := "mostAlike", desc := "(I)I" } : Jvm.MethodName) ({ cls := "SilentSale$Sleuth", name := "mostAlike", desc := "(I)I" } : Jvm.MethodName)) ∈ tb_L := tb_in (i := 1189) (by decide +kernel) (by decide +kernel)
theorem dX11_look_0 : decode cX11_look 0 = .ok (.aload_n 0, 1) := by decide +kernel
theorem dX11_look_1 : decode cX11_look 1 = .ok (.invokevirtual 251, 3) := by decide +kernel
theorem dX11_look_4 : decode cX11_look 4 = .ok (.ifCond .eq 12, 3) := by decide +kernel
theorem dX11_look_7 : decode cX11_look 7 = .ok (.iload_n 1, 1) := by decide +kernel
theorem dX11_look_8 : decode cX11_look 8 = .ok (.ifCond .lt 8, 3) := by decide +kernel
theorem dX11_look_11 : decode cX11_look 11 = .ok (.iload_n 1, 1) := by decide +kernel
theorem dX11_look_12 : decode cX11_look 12 = .ok (.iconst 1, 1) := by decide +kernel
theorem dX11_look_13 : decode cX11_look 13 = .ok (.if_icmp .le 5, 3) := by decide +kernel
theorem dX11_look_16 : decode cX11_look 16 = .ok (.iconst (-1), 1) := by decide +kernel
theorem dX11_look_17 : decode cX11_look 17 = .ok (.ireturn, 1) := by decide +kernel
theorem dX11_look_18 : decode cX11_look 18 = .ok (.aload_n 0, 1) := by decide +kernel
theorem dX11_look_19 : decode cX11_look 19 = .ok (.getfield 88, 3) := by decide +kernel
theorem dX11_look_22 : decode cX11_look 22 = .ok (.aload_n 0, 1) := by decide +kernel
theorem dX11_look_23 : decode cX11_look 23 = .ok (.getfield 67, 3) := by decide +kernel
theorem dX11_look_26 : decode cX11_look 26 = .ok (.aload_n 0, 1) := by decide +kernel
theorem dX11_look_27 : decode cX11_look 27 = .ok (.getfield 19, 3) := by decide +kernel
theorem dX11_look_30 : decode cX11_look 30 = .ok (.aload_n 0, 1) := by decide +kernel
theorem dX11_look_31 : decode cX11_look 31 = .ok (.getfield 52, 3) := by decide +kernel
theorem dX11_look_34 : decode cX11_look 34 = .ok (.aload_n 0, 1) := by decide +kernel
theorem dX11_look_35 : decode cX11_look 35 = .ok (.getfield 92, 3) := by decide +kernel
theorem dX11_look_38 : decode cX11_look 38 = .ok (.aload_n 0, 1) := by decide +kernel
theorem dX11_look_39 : decode cX11_look 39 = .ok (.getfield 46, 3) := by decide +kernel
theorem dX11_look_42 : decode cX11_look 42 = .ok (.invokevirtual 328, 3) := by decide +kernel
theorem dX11_look_45 : decode cX11_look 45 = .ok (.aload_n 0, 1) := by decide +kernel
theorem dX11_look_46 : decode cX11_look 46 = .ok (.getfield 88, 3) := by decide +kernel
theorem dX11_look_49 : decode cX11_look 49 = .ok (.invokevirtual 332, 3) := by decide +kernel
theorem dX11_look_52 : decode cX11_look 52 = .ok (.ifCond .eq 13, 3) := by decide +kernel
theorem dX11_look_55 : decode cX11_look 55 = .ok (.aload_n 0, 1) := by decide +kernel
theorem dX11_look_56 : decode cX11_look 56 = .ok (.getfield 19, 3) := by decide +kernel
theorem dX11_look_59 : decode cX11_look 59 = .ok (.getfield 130, 3) := by decide +kernel
theorem dX11_look_62 : decode cX11_look 62 = .ok (.ifCond .ne 6, 3) := by decide +kernel
theorem dX11_look_65 : decode cX11_look 65 = .ok (.bipush (-2), 2) := by decide +kernel
theorem dX11_look_67 : decode cX11_look 67 = .ok (.ireturn, 1) := by decide +kernel
theorem dX11_look_68 : decode cX11_look 68 = .ok (.iconst 0, 1) := by decide +kernel
theorem dX11_look_69 : decode cX11_look 69 = .ok (.istore_n 2, 1) := by decide +kernel
theorem dX11_look_70 : decode cX11_look 70 = .ok (.iconst 1, 1) := by decide +kernel
theorem dX11_look_71 : decode cX11_look 71 = .ok (.istore_n 3, 1) := by decide +kernel
theorem dX11_look_72 : decode cX11_look 72 = .ok (.iload_n 3, 1) := by decide +kernel
theorem dX11_look_73 : decode cX11_look 73 = .ok (.aload_n 0, 1) := by decide +kernel
theorem dX11_look_74 : decode cX11_look 74 = .ok (.getfield 19, 3) := by decide +kernel
theorem dX11_look_77 : decode cX11_look 77 = .ok (.getfield 130, 3) := by decide +kernel
theorem dX11_look_80 : decode cX11_look 80 = .ok (.if_icmp .ge 30, 3) := by decide +kernel
theorem dX11_look_83 : decode cX11_look 83 = .ok (.aload_n 0, 1) := by decide +kernel
theorem dX11_look_84 : decode cX11_look 84 = .ok (.getfield 88, 3) := by decide +kernel
theorem dX11_look_87 : decode cX11_look 87 = .ok (.iload_n 3, 1) := by decide +kernel
theorem dX11_look_88 : decode cX11_look 88 = .ok (.invokevirtual 341, 3) := by decide +kernel
theorem dX11_look_91 : decode cX11_look 91 = .ok (.aload_n 0, 1) := by decide +kernel
theorem dX11_look_92 : decode cX11_look 92 = .ok (.getfield 88, 3) := by decide +kernel
theorem dX11_look_95 : decode cX11_look 95 = .ok (.iload_n 2, 1) := by decide +kernel
theorem dX11_look_96 : decode cX11_look 96 = .ok (.invokevirtual 341, 3) := by decide +kernel
theorem dX11_look_99 : decode cX11_look 99 = .ok (.if_icmp .ge 5, 3) := by decide +kernel
theorem dX11_look_102 : decode cX11_look 102 = .ok (.iload_n 3, 1) := by decide +kernel
theorem dX11_look_103 : decode cX11_look 103 = .ok (.istore_n 2, 1) := by decide +kernel
theorem dX11_look_104 : decode cX11_look 104 = .ok (.iinc 3 1, 3) := by decide +kernel
theorem dX11_look_107 : decode cX11_look 107 = .ok (.goto (-35), 3) := by decide +kernel
theorem dX11_look_110 : decode cX11_look 110 = .ok (.iload_n 1, 1) := by decide +kernel
theorem dX11_look_111 : decode cX11_look 111 = .ok (.ifCond .ne 7, 3) := by decide +kernel
theorem dX11_look_114 : decode cX11_look 114 = .ok (.iload_n 2, 1) := by decide +kernel
theorem dX11_look_115 : decode cX11_look 115 = .ok (.goto 11, 3) := by decide +kernel
theorem dX11_look_118 : decode cX11_look 118 = .ok (.aload_n 0, 1) := by decide +kernel
theorem dX11_look_119 : decode cX11_look 119 = .ok (.getfield 88, 3) := by decide +kernel
theorem dX11_look_122 : decode cX11_look 122 = .ok (.iload_n 2, 1) := by decide +kernel
theorem dX11_look_123 : decode cX11_look 123 = .ok (.invokevirtual 341, 3) := by decide +kernel
theorem dX11_look_126 : decode cX11_look 126 = .ok (.ireturn, 1) := by decide +kernel
theorem wd_320 : (Jvm.Cond.fieldLink "SilentSale" (219 : Nat) "SilentSale$Logs" "size" "I") ∈ tb_L := tb_in (i := 320) (by decide +kernel) (by decide +kernel)
theorem wd_695 : (Jvm.Cond.methodLink "SilentSale" (124 : Nat) ({ cls := "SilentSale$Logs", name := "clear", desc := "()V" } : Jvm.MethodName)) ∈ tb_L := tb_in (i := 695) (by decide +kernel) (by decide +kernel)
theorem wd_696 : (Jvm.Cond.instanceMethod ({ cls := "SilentSale$Logs", name := "clear", desc := "()V" } : Jvm.MethodName)) ∈ tb_L := tb_in (i := 696) (by decide +kernel) (by decide +kernel)
theorem wd_697 : (Jvm.Cond.selects "SilentSale$Logs" ({ cls := "SilentSale$Logs", name := "clear", desc := "()V" } : Jvm.MethodName) ({ cls := "SilentSale$Logs", name := "clear", desc := "()V" } : Jvm.MethodName)) ∈ tb_L := tb_in (i := 697) (by decide +kernel) (by decide +kernel)
theorem wd_1153 : (Jvm.Cond.code ({ cls := "SilentSale", name := "log", desc := "(III)I" } : Jvm.MethodName) prog_1_method_26_code (4 : Nat) (Option.some Jvm.ClassFile.FieldType.int)) ∈ tb_L := tb_in (i := 1153) (by decide +kernel) (by decide +kernel)
theorem wd_1154 : (Jvm.Cond.methodLink "SilentSale" (325 : Nat) ({ cls := "SilentSale$Logs", name := "add", desc := "(III)Z" } : Jvm.MethodName)) ∈ tb_L := tb_in (i := 1154) (by decide +kernel) (by decide +kernel)
theorem wd_1155 : (Jvm.Cond.instanceMethod ({ cls := "SilentSale$Logs", name := "add", desc := "(III)Z" } : Jvm.MethodName)) ∈ tb_L := tb_in (i := 1155) (by decide +kernel) (by decide +kernel)
theorem wd_1156 : (Jvm.Cond.selects "SilentSale$Logs" ({ cls := "SilentSale$Logs", name := "add", desc := "(III)Z" } : Jvm.MethodName) ({ cls := "SilentSale$Logs", name := "add", desc := "(III)Z" } : Jvm.MethodName)) ∈ tb_L := tb_in (i := 1156) (by decide +kernel) (by decide +kernel)
theorem dX11_log_0 : decode cX11_log 0 = .ok (.iload_n 1, 1) := by decide +kernel
theorem dX11_log_1 : decode cX11_log 1 = .ok (.iconst (-1), 1) := by decide +kernel
theorem dX11_log_2 : decode cX11_log 2 = .ok (.if_icmp .ne 12, 3) := by decide +kernel
theorem dX11_log_5 : decode cX11_log 5 = .ok (.aload_n 0, 1) := by decide +kernel
theorem dX11_log_6 : decode cX11_log 6 = .ok (.getfield 46, 3) := by decide +kernel
theorem dX11_log_9 : decode cX11_log 9 = .ok (.invokevirtual 124, 3) := by decide +kernel
theorem dX11_log_12 : decode cX11_log 12 = .ok (.iconst 0, 1) := by decide +kernel
theorem dX11_log_13 : decode cX11_log 13 = .ok (.ireturn, 1) := by decide +kernel
theorem dX11_log_14 : decode cX11_log 14 = .ok (.aload_n 0, 1) := by decide +kernel
theorem dX11_log_15 : decode cX11_log 15 = .ok (.iload_n 1, 1) := by decide +kernel
theorem dX11_log_16 : decode cX11_log 16 = .ok (.invokevirtual 164, 3) := by decide +kernel
theorem dX11_log_19 : decode cX11_log 19 = .ok (.ifCond .eq 27, 3) := by decide +kernel
theorem dX11_log_22 : decode cX11_log 22 = .ok (.iload_n 2, 1) := by decide +kernel
theorem dX11_log_23 : decode cX11_log 23 = .ok (.iconst (-1), 1) := by decide +kernel
theorem dX11_log_24 : decode cX11_log 24 = .ok (.if_icmp .eq 11, 3) := by decide +kernel
theorem dX11_log_27 : decode cX11_log 27 = .ok (.aload_n 0, 1) := by decide +kernel
theorem dX11_log_28 : decode cX11_log 28 = .ok (.iload_n 2, 1) := by decide +kernel
theorem dX11_log_29 : decode cX11_log 29 = .ok (.invokevirtual 136, 3) := by decide +kernel
theorem dX11_log_32 : decode cX11_log 32 = .ok (.ifCond .eq 14, 3) := by decide +kernel
theorem dX11_log_35 : decode cX11_log 35 = .ok (.iload_n 3, 1) := by decide +kernel
theorem dX11_log_36 : decode cX11_log 36 = .ok (.ifCond .lt 10, 3) := by decide +kernel
theorem dX11_log_39 : decode cX11_log 39 = .ok (.iload_n 3, 1) := by decide +kernel
theorem dX11_log_40 : decode cX11_log 40 = .ok (.sipush 999, 3) := by decide +kernel
theorem dX11_log_43 : decode cX11_log 43 = .ok (.if_icmp .le 6, 3) := by decide +kernel
theorem dX11_log_46 : decode cX11_log 46 = .ok (.bipush (-2), 2) := by decide +kernel
theorem dX11_log_48 : decode cX11_log 48 = .ok (.ireturn, 1) := by decide +kernel
theorem dX11_log_49 : decode cX11_log 49 = .ok (.aload_n 0, 1) := by decide +kernel
theorem dX11_log_50 : decode cX11_log 50 = .ok (.getfield 46, 3) := by decide +kernel
theorem dX11_log_53 : decode cX11_log 53 = .ok (.iload_n 1, 1) := by decide +kernel
theorem dX11_log_54 : decode cX11_log 54 = .ok (.iload_n 2, 1) := by decide +kernel
theorem dX11_log_55 : decode cX11_log 55 = .ok (.iload_n 3, 1) := by decide +kernel
theorem dX11_log_56 : decode cX11_log 56 = .ok (.invokevirtual 325, 3) := by decide +kernel
theorem dX11_log_59 : decode cX11_log 59 = .ok (.ifCond .eq 13, 3) := by decide +kernel
theorem dX11_log_62 : decode cX11_log 62 = .ok (.aload_n 0, 1) := by decide +kernel
theorem dX11_log_63 : decode cX11_log 63 = .ok (.getfield 46, 3) := by decide +kernel
theorem dX11_log_66 : decode cX11_log 66 = .ok (.getfield 219, 3) := by decide +kernel
theorem dX11_log_69 : decode cX11_log 69 = .ok (.goto 5, 3) := by decide +kernel
theorem dX11_log_72 : decode cX11_log 72 = .ok (.bipush (-2), 2) := by decide +kernel
theorem dX11_log_74 : decode cX11_log 74 = .ok (.ireturn, 1) := by decide +kernel
set_option maxHeartbeats 4000000 in
set_option maxRecDepth 100000 in
theorem d_bidder (l : Launch) (G : gg_T) (Γ : Nat → Nat) (sz : Nat) (wt : va_W) (hT : tk_ty G Γ wt) (b : Int32) (w : Int32) (tp : Nat) (h0 : Nat) (ra1 : Nat) (ra2 : Nat) (ra3 : Nat) (ra4 : Nat) (ra5 : Nat) (ra6 : Nat) (ra7 : Nat) (ra8 : Nat) (ra9 : Nat) (ra10 : Nat) (ra11 : Nat) (ra12 : Nat) (rc : Int32) (fo : Int32) (xx : Int32) (kr1 : Γ ra1 = 10) (kr2 : Γ ra2 = 10) (kr3 : Γ ra3 = 8) (kr4 : Γ ra4 = 8) (kr5 : Γ ra5 = 4) (kr6 : Γ ra6 = 3) (kr7 : Γ ra7 = 41) (kr9 : Γ ra9 = 1) (kr10 : Γ ra10 = 6) (kr11 : Γ ra11 = 11) (kr12 : Γ ra12 = 7) (xr1 : 0 ≤ rc.toInt) (xr2 : rc.toInt ≤ 6) : Met l yX11_bidder (ts_L yX11_bidder cX11_bidder 3 (some .int)) ({ frames := 2, cells := 0, slots := 0, locals := 46 }) (gc_P G ([(h0, .inr (11, [.ref tp, .ref ra1, .ref ra2, .ref ra3, .ref ra4, .ref ra5, .ref ra6, .ref ra7, .ref ra8, .ref ra9, .ref ra10, .ref ra11, .ref ra12, .int rc, .int fo, .int xx]))] ++ wt) sz [.ref h0, .int b, .int w]) (gc_I G (va_A ([(h0, .inr (11, [.ref tp, .ref ra1, .ref ra2, .ref ra3, .ref ra4, .ref ra5, .ref ra6, .ref ra7, .ref ra8, .ref ra9, .ref ra10, .ref ra11, .ref ra12, .int rc, .int fo, .int xx]))] ++ wt) sz) (fun r (u : va_W) => match u with | wt1 => tk_ty G Γ wt1 ∧ tk_kp [] wt wt1) (fun (u : va_W) => match u with | wt1 => [(h0, .inr (11, [.ref tp, .ref ra1, .ref ra2, .ref ra3, .ref ra4, .ref ra5, .ref ra6, .ref ra7, .ref ra8, .ref ra9, .ref ra10, .ref ra11, .ref ra12, .int rc, .int fo, .int xx]))] ++ wt1)) 0 0 (va_A ([(h0, .inr (11, [.ref tp, .ref ra1, .ref ra2, .ref ra3, .ref ra4, .ref ra5, .ref ra6, .ref ra7, .ref ra8, .ref ra9, .ref ra10, .ref ra11, .ref ra12, .int rc, .int fo, .int xx]))] ++ wt) sz) := by
  refine Met.ofW (cc := cX11_bidder) (maxL := 3) (ret := (some .int)) (by decide) rfl ?_
  intro p e s m args below meth c s₁ B hml hv
  obtain ⟨rfl, hsz, hP, hK, hD0⟩ := hv
  have hx := B.exec
  have hb := B.bytes
  have hr := B.returns
  have ht := ts_ht (atoms_spec (ws := ts_L yX11_bidder cX11_bidder 3 (some .int)) B.pre)
  have hown : s.vm.findClass RX11 = some m.cls := findClass_of_methodNamed B.named
  have hlocks := B.notSynchronized
  subst hsz
  have hD := hD0.self (sz := s.heap.size)
  generalize hAe : va_A ([(h0, .inr (11, [.ref tp, .ref ra1, .ref ra2, .ref ra3, .ref ra4, .ref ra5, .ref ra6, .ref ra7, .ref ra8, .ref ra9, .ref ra10, .ref ra11, .ref ra12, .int rc, .int fo, .int xx]))] ++ wt) s.heap.size = A at hD ⊢
  have hA : ∀ q : Nat, s.heap.size ≤ q → A q := fun q h => by rw [← hAe]; exact Or.inr h
  clear hAe hD0
  have hS : va_S A s.heap s.heap [] := va_S.rf
  obtain ⟨w0, hw0⟩ : ∃ z, z = wt := ⟨_, rfl⟩
  have hW : tk_kp [] w0 wt := by rw [hw0]; exact tk_kp.rf
  rw [← hw0]
  clear hw0
  have hP : va_P (gg_D G) classes ([(h0, .inr (11, [.ref tp, .ref ra1, .ref ra2, .ref ra3, .ref ra4, .ref ra5, .ref ra6, .ref ra7, .ref ra8, .ref ra9, .ref ra10, .ref ra11, .ref ra12, .int rc, .int fo, .int xx]))] ++ wt) s.heap := hP
  have hD : va_D A ([(h0, .inr (11, [.ref tp, .ref ra1, .ref ra2, .ref ra3, .ref ra4, .ref ra5, .ref ra6, .ref ra7, .ref ra8, .ref ra9, .ref ra10, .ref ra11, .ref ra12, .int rc, .int fo, .int xx]))] ++ wt) := hD
  have hl := lv_entry ([.ref h0, .int b, .int w]) (n := 3) (Nat.le_of_ble_eq_true rfl)
  rw [lg_entry_eq]
  generalize (lg_sl ([.ref h0, .int b, .int w]) ++ List.replicate (3 - (lg_sl ([.ref h0, .int b, .int w])).length) Slot.unset).toArray = ls at hl ⊢
  have hl : lv_has ls 3 [(0, .ref h0), (1, .int b), (2, .int w)] := hl
  have lm1000 : ((-1000) : Int32).toInt = -1000 := by decide +kernel
  have l0 : (0 : Int32).toInt = 0 := by decide +kernel
  have l1 : (1 : Int32).toInt = 1 := by decide +kernel
  have l2 : (2 : Int32).toInt = 2 := by decide +kernel
  have l3 : (3 : Int32).toInt = 3 := by decide +kernel
  have l4 : (4 : Int32).toInt = 4 := by decide +kernel
  have l5 : (5 : Int32).toInt = 5 := by decide +kernel
  have l6 : (6 : Int32).toInt = 6 := by decide +kernel
  refine lv_aload_n hx hb dX11_bidder_0 rfl (lv_at hl 0 rfl) ?_
  refine lv_iload_n hx hb dX11_bidder_1 rfl (lv_at hl 1 rfl) ?_
  have hP : va_P (gg_D G) classes ([] ++ ([(h0, .inr (11, [.ref tp, .ref ra1, .ref ra2, .ref ra3, .ref ra4, .ref ra5, .ref ra6, .ref ra7, .ref ra8, .ref ra9, .ref ra10, .ref ra11, .ref ra12, .int rc, .int fo, .int xx]))] ++ wt)) s.heap := hP
  have hD : va_D A ([] ++ ([(h0, .inr (11, [.ref tp, .ref ra1, .ref ra2, .ref ra3, .ref ra4, .ref ra5, .ref ra6, .ref ra7, .ref ra8, .ref ra9, .ref ra10, .ref ra11, .ref ra12, .int rc, .int fo, .int xx]))] ++ wt)) := hD
  refine gt_callI (wr := []) (va_runV (As := [.int b]) (rest := []) ⟨hx, hb, hml, hown, ht⟩ (d_isBidder l G Γ s.heap.size wt hT b tp h0 ra1 ra2 ra3 ra4 ra5 ra6 ra7 ra8 ra9 ra10 ra11 ra12 rc fo xx (by first | assumption | omega) (by first | assumption | omega) (by first | assumption | omega) (by first | assumption | omega) (by first | assumption | omega) (by first | assumption | omega) (by first | assumption | omega) (by first | assumption | omega) (by first | assumption | omega) (by first | assumption | omega) (by first | assumption | omega) (by first | assumption | omega) (by first | assumption | omega)) (cwV 1 ht (ts_gV wd_789 wd_791 wd_14 wd_122 wd_792) rfl rfl rfl (by decide +kernel) ⟨Nat.le_of_ble_eq_true rfl, Nat.le_of_ble_eq_true rfl⟩) (gc_preV (ci := 11) (q0 := 0) hK (tw_right hP) (tw_rightD hD) rfl rfl) rfl rfl hl.1 rfl (lv_room (Nat.le_of_ble_eq_true rfl)) dX11_bidder_2 ⟨Nat.le_of_ble_eq_true rfl, Nat.le_of_ble_eq_true rfl⟩) hP hD hS hA (fun r_1 wt H locs hw hP hD hS => ?_)
  obtain ⟨hT, hkp, lo_r_1, hi_r_1, im_r_1⟩ := hw
  have hW := hW.call (show ∀ x ∈ [], x ∈ [] by decide) hkp
  have hP : va_P (gg_D G) classes ([(h0, .inr (11, [.ref tp, .ref ra1, .ref ra2, .ref ra3, .ref ra4, .ref ra5, .ref ra6, .ref ra7, .ref ra8, .ref ra9, .ref ra10, .ref ra11, .ref ra12, .int rc, .int fo, .int xx]))] ++ wt) H := hP
  have hD : va_D A ([(h0, .inr (11, [.ref tp, .ref ra1, .ref ra2, .ref ra3, .ref ra4, .ref ra5, .ref ra6, .ref ra7, .ref ra8, .ref ra9, .ref ra10, .ref ra11, .ref ra12, .int rc, .int fo, .int xx]))] ++ wt) := hD
  refine lv_if_ne (tgt := 12) hx hb dX11_bidder_5 (by decide) (fun c_2 => ?_) (fun c_2 => ?_)
  · have ic_2 := im_r_1 c_2
    rw [← Int32.toInt_inj] at c_2
    refine lv_iload_n hx hb dX11_bidder_12 rfl (lv_at hl 2 rfl) ?_
    by_cases c_3 : w = 0
    · refine lv_tableIn (x := w) (off := 43) (tgt := 56) hx hb dX11_bidder_13 (by rw [c_3]; decide +kernel) (by rw [c_3]; decide +kernel) (by rw [c_3]; decide +kernel) (by decide) ?_
      rw [← Int32.toInt_inj] at c_3
      refine lv_aload_n hx hb dX11_bidder_56 rfl (lv_at hl 0 rfl) ?_
      refine gq_get hx hb ht hown hK hP i_X11 0 rfl rfl 3 (by decide) wd_500 rfl rfl dX11_bidder_57 ?_
      refine tr_get (ci := 7) hx hb ht hown hK hT hP kr3 (by decide) i_X7 rfl 0 (by decide) wd_232 rfl dX11_bidder_60 (fun v hv hf_4 => ?_)
      obtain ⟨q_5, rfl, hq_5⟩ := hv
      refine lv_iload_n hx hb dX11_bidder_63 rfl (lv_at hl 1 rfl) ?_
      refine tr_iald hx hb hK hT hP 20 hq_5 (by decide) (by decide) (show vp_in _ (tk_len 20) from ia_in (n := 5) (by omega) (by omega)) dX11_bidder_64 (fun n_6 hn_6 => ?_)
      clear hn_6
      have hP9 : va_P (gg_D G) classes ([(h0, .inr (11, [.ref tp, .ref ra1, .ref ra2, .ref ra3, .ref ra4, .ref ra5, .ref ra6, .ref ra7, .ref ra8, .ref ra9, .ref ra10, .ref ra11, .ref ra12, .int rc, .int fo, .int xx]))] ++ wt) _ := hP
      have hD9 : va_D A ([(h0, .inr (11, [.ref tp, .ref ra1, .ref ra2, .ref ra3, .ref ra4, .ref ra5, .ref ra6, .ref ra7, .ref ra8, .ref ra9, .ref ra10, .ref ra11, .ref ra12, .int rc, .int fo, .int xx]))] ++ wt) := hD
      exact W.iret (v := n_6) hx hb hr (gq_endI wt ⟨hT, hW⟩ hP9 hD9 hS) hS.2.2 dX11_bidder_65
    by_cases c_7 : w = 1
    · refine lv_tableIn (x := w) (off := 53) (tgt := 66) hx hb dX11_bidder_13 (by rw [c_7]; decide +kernel) (by rw [c_7]; decide +kernel) (by rw [c_7]; decide +kernel) (by decide) ?_
      rw [← Int32.toInt_inj] at c_7
      refine lv_aload_n hx hb dX11_bidder_66 rfl (lv_at hl 0 rfl) ?_
      refine gq_get hx hb ht hown hK hP i_X11 0 rfl rfl 3 (by decide) wd_500 rfl rfl dX11_bidder_67 ?_
      refine tr_get (ci := 7) hx hb ht hown hK hT hP kr3 (by decide) i_X7 rfl 1 (by decide) wd_236 rfl dX11_bidder_70 (fun v hv hf_8 => ?_)
      obtain ⟨q_9, rfl, hq_9⟩ := hv
      refine lv_iload_n hx hb dX11_bidder_73 rfl (lv_at hl 1 rfl) ?_
      refine tr_iald hx hb hK hT hP 20 hq_9 (by decide) (by decide) (show vp_in _ (tk_len 20) from ia_in (n := 5) (by omega) (by omega)) dX11_bidder_74 (fun n_10 hn_10 => ?_)
      clear hn_10
      have hP9 : va_P (gg_D G) classes ([(h0, .inr (11, [.ref tp, .ref ra1, .ref ra2, .ref ra3, .ref ra4, .ref ra5, .ref ra6, .ref ra7, .ref ra8, .ref ra9, .ref ra10, .ref ra11, .ref ra12, .int rc, .int fo, .int xx]))] ++ wt) _ := hP
      have hD9 : va_D A ([(h0, .inr (11, [.ref tp, .ref ra1, .ref ra2, .ref ra3, .ref ra4, .ref ra5, .ref ra6, .ref ra7, .ref ra8, .ref ra9, .ref ra10, .ref ra11, .ref ra12, .int rc, .int fo, .int xx]))] ++ wt) := hD
      exact W.iret (v := n_10) hx hb hr (gq_endI wt ⟨hT, hW⟩ hP9 hD9 hS) hS.2.2 dX11_bidder_75
    by_cases c_11 : w = 2
    · refine lv_tableIn (x := w) (off := 63) (tgt := 76) hx hb dX11_bidder_13 (by rw [c_11]; decide +kernel) (by rw [c_11]; decide +kernel) (by rw [c_11]; decide +kernel) (by decide) ?_
      rw [← Int32.toInt_inj] at c_11
      refine lv_aload_n hx hb dX11_bidder_76 rfl (lv_at hl 0 rfl) ?_
      refine gq_get hx hb ht hown hK hP i_X11 0 rfl rfl 3 (by decide) wd_500 rfl rfl dX11_bidder_77 ?_
      refine tr_get (ci := 7) hx hb ht hown hK hT hP kr3 (by decide) i_X7 rfl 2 (by decide) wd_242 rfl dX11_bidder_80 (fun v hv hf_12 => ?_)
      obtain ⟨q_13, rfl, hq_13⟩ := hv
      refine lv_iload_n hx hb dX11_bidder_83 rfl (lv_at hl 1 rfl) ?_
      refine tr_iald hx hb hK hT hP 20 hq_13 (by decide) (by decide) (show vp_in _ (tk_len 20) from ia_in (n := 5) (by omega) (by omega)) dX11_bidder_84 (fun n_14 hn_14 => ?_)
      clear hn_14
      have hP9 : va_P (gg_D G) classes ([(h0, .inr (11, [.ref tp, .ref ra1, .ref ra2, .ref ra3, .ref ra4, .ref ra5, .ref ra6, .ref ra7, .ref ra8, .ref ra9, .ref ra10, .ref ra11, .ref ra12, .int rc, .int fo, .int xx]))] ++ wt) _ := hP
      have hD9 : va_D A ([(h0, .inr (11, [.ref tp, .ref ra1, .ref ra2, .ref ra3, .ref ra4, .ref ra5, .ref ra6, .ref ra7, .ref ra8, .ref ra9, .ref ra10, .ref ra11, .ref ra12, .int rc, .int fo, .int xx]))] ++ wt) := hD
      exact W.iret (v := n_14) hx hb hr (gq_endI wt ⟨hT, hW⟩ hP9 hD9 hS) hS.2.2 dX11_bidder_85
    by_cases c_15 : w = 3
    · refine lv_tableIn (x := w) (off := 73) (tgt := 86) hx hb dX11_bidder_13 (by rw [c_15]; decide +kernel) (by rw [c_15]; decide +kernel) (by rw [c_15]; decide +kernel) (by decide) ?_
      rw [← Int32.toInt_inj] at c_15
      refine lv_aload_n hx hb dX11_bidder_86 rfl (lv_at hl 0 rfl) ?_
      refine gq_get hx hb ht hown hK hP i_X11 0 rfl rfl 3 (by decide) wd_500 rfl rfl dX11_bidder_87 ?_
      refine lv_iload_n hx hb dX11_bidder_90 rfl (lv_at hl 1 rfl) ?_
      refine gt_callI (wr := [(h0, .inr (11, [.ref tp, .ref ra1, .ref ra2, .ref ra3, .ref ra4, .ref ra5, .ref ra6, .ref ra7, .ref ra8, .ref ra9, .ref ra10, .ref ra11, .ref ra12, .int rc, .int fo, .int xx]))]) (va_runV (As := [.int b]) (rest := []) ⟨hx, hb, hml, hown, ht⟩ (d_isSilent l G Γ H.size wt hT ra3 b kr3) (cwV 1 ht (ts_gV wd_793 wd_794 wd_795 wd_125 wd_796) rfl rfl rfl (by decide +kernel) ⟨Nat.le_of_ble_eq_true rfl, Nat.le_of_ble_eq_true rfl⟩) (gt_preW (ci := 7) hK hT (tw_right hP) (tw_rightD hD) kr3 (by decide) rfl) rfl rfl hl.1 rfl (lv_room (Nat.le_of_ble_eq_true rfl)) dX11_bidder_91 ⟨Nat.le_of_ble_eq_true rfl, Nat.le_of_ble_eq_true rfl⟩) hP hD hS hA (fun r_16 wt H locs hw hP hD hS => ?_)
      obtain ⟨hT, hkp, lo_r_16, hi_r_16⟩ := hw
      have hW := hW.call (show ∀ x ∈ [], x ∈ [] by decide) hkp
      have hP : va_P (gg_D G) classes ([(h0, .inr (11, [.ref tp, .ref ra1, .ref ra2, .ref ra3, .ref ra4, .ref ra5, .ref ra6, .ref ra7, .ref ra8, .ref ra9, .ref ra10, .ref ra11, .ref ra12, .int rc, .int fo, .int xx]))] ++ wt) H := hP
      have hD : va_D A ([(h0, .inr (11, [.ref tp, .ref ra1, .ref ra2, .ref ra3, .ref ra4, .ref ra5, .ref ra6, .ref ra7, .ref ra8, .ref ra9, .ref ra10, .ref ra11, .ref ra12, .int rc, .int fo, .int xx]))] ++ wt) := hD
      refine lv_if_eq (tgt := 101) hx hb dX11_bidder_94 (by decide) (fun c_17 => ?_) (fun c_17 => ?_)
      · rw [← Int32.toInt_inj] at c_17
        refine lv_iconst (v := 0) hx hb dX11_bidder_101 (by decide +kernel) ?_
        have hP9 : va_P (gg_D G) classes ([(h0, .inr (11, [.ref tp, .ref ra1, .ref ra2, .ref ra3, .ref ra4, .ref ra5, .ref ra6, .ref ra7, .ref ra8, .ref ra9, .ref ra10, .ref ra11, .ref ra12, .int rc, .int fo, .int xx]))] ++ wt) _ := hP
        have hD9 : va_D A ([(h0, .inr (11, [.ref tp, .ref ra1, .ref ra2, .ref ra3, .ref ra4, .ref ra5, .ref ra6, .ref ra7, .ref ra8, .ref ra9, .ref ra10, .ref ra11, .ref ra12, .int rc, .int fo, .int xx]))] ++ wt) := hD
        exact W.iret (v := 0) hx hb hr (gq_endI wt ⟨hT, hW⟩ hP9 hD9 hS) hS.2.2 dX11_bidder_102
      · rw [← Int32.toInt_inj] at c_17
        refine lv_iconst (v := 1) hx hb dX11_bidder_97 (by decide +kernel) ?_
        refine lv_goto (tgt := 102) hx hb dX11_bidder_98 (by decide) ?_
        have hP9 : va_P (gg_D G) classes ([(h0, .inr (11, [.ref tp, .ref ra1, .ref ra2, .ref ra3, .ref ra4, .ref ra5, .ref ra6, .ref ra7, .ref ra8, .ref ra9, .ref ra10, .ref ra11, .ref ra12, .int rc, .int fo, .int xx]))] ++ wt) _ := hP
        have hD9 : va_D A ([(h0, .inr (11, [.ref tp, .ref ra1, .ref ra2, .ref ra3, .ref ra4, .ref ra5, .ref ra6, .ref ra7, .ref ra8, .ref ra9, .ref ra10, .ref ra11, .ref ra12, .int rc, .int fo, .int xx]))] ++ wt) := hD
        exact W.iret (v := 1) hx hb hr (gq_endI wt ⟨hT, hW⟩ hP9 hD9 hS) hS.2.2 dX11_bidder_102
    by_cases c_18 : w = 4
    · refine lv_tableIn (x := w) (off := 90) (tgt := 103) hx hb dX11_bidder_13 (by rw [c_18]; decide +kernel) (by rw [c_18]; decide +kernel) (by rw [c_18]; decide +kernel) (by decide) ?_
      rw [← Int32.toInt_inj] at c_18
      refine lv_aload_n hx hb dX11_bidder_103 rfl (lv_at hl 0 rfl) ?_
      refine gq_get hx hb ht hown hK hP i_X11 0 rfl rfl 3 (by decide) wd_500 rfl rfl dX11_bidder_104 ?_
      refine tr_get (ci := 7) hx hb ht hown hK hT hP kr3 (by decide) i_X7 rfl 3 (by decide) wd_244 rfl dX11_bidder_107 (fun v hv hf_19 => ?_)
      obtain ⟨q_20, rfl, hq_20⟩ := hv
      refine lv_iload_n hx hb dX11_bidder_110 rfl (lv_at hl 1 rfl) ?_
      refine tr_iald hx hb hK hT hP 20 hq_20 (by decide) (by decide) (show vp_in _ (tk_len 20) from ia_in (n := 5) (by omega) (by omega)) dX11_bidder_111 (fun n_21 hn_21 => ?_)
      clear hn_21
      have hP9 : va_P (gg_D G) classes ([(h0, .inr (11, [.ref tp, .ref ra1, .ref ra2, .ref ra3, .ref ra4, .ref ra5, .ref ra6, .ref ra7, .ref ra8, .ref ra9, .ref ra10, .ref ra11, .ref ra12, .int rc, .int fo, .int xx]))] ++ wt) _ := hP
      have hD9 : va_D A ([(h0, .inr (11, [.ref tp, .ref ra1, .ref ra2, .ref ra3, .ref ra4, .ref ra5, .ref ra6, .ref ra7, .ref ra8, .ref ra9, .ref ra10, .ref ra11, .ref ra12, .int rc, .int fo, .int xx]))] ++ wt) := hD
      exact W.iret (v := n_21) hx hb hr (gq_endI wt ⟨hT, hW⟩ hP9 hD9 hS) hS.2.2 dX11_bidder_112
    by_cases c_22 : w = 5
    · refine lv_tableIn (x := w) (off := 100) (tgt := 113) hx hb dX11_bidder_13 (by rw [c_22]; decide +kernel) (by rw [c_22]; decide +kernel) (by rw [c_22]; decide +kernel) (by decide) ?_
      rw [← Int32.toInt_inj] at c_22
      refine lv_aload_n hx hb dX11_bidder_113 rfl (lv_at hl 0 rfl) ?_
      refine gq_get hx hb ht hown hK hP i_X11 0 rfl rfl 3 (by decide) wd_500 rfl rfl dX11_bidder_114 ?_
      refine lv_iload_n hx hb dX11_bidder_117 rfl (lv_at hl 1 rfl) ?_
      refine gt_callI (wr := [(h0, .inr (11, [.ref tp, .ref ra1, .ref ra2, .ref ra3, .ref ra4, .ref ra5, .ref ra6, .ref ra7, .ref ra8, .ref ra9, .ref ra10, .ref ra11, .ref ra12, .int rc, .int fo, .int xx]))]) (va_runV (As := [.int b]) (rest := []) ⟨hx, hb, hml, hown, ht⟩ (d_lotsOf l G Γ H.size wt hT ra3 b kr3) (cwV 1 ht (ts_gV wd_804 wd_805 wd_806 wd_125 wd_807) rfl rfl rfl (by decide +kernel) ⟨Nat.le_of_ble_eq_true rfl, Nat.le_of_ble_eq_true rfl⟩) (gt_preW (ci := 7) hK hT (tw_right hP) (tw_rightD hD) kr3 (by decide) rfl) rfl rfl hl.1 rfl (lv_room (Nat.le_of_ble_eq_true rfl)) dX11_bidder_118 ⟨Nat.le_of_ble_eq_true rfl, Nat.le_of_ble_eq_true rfl⟩) hP hD hS hA (fun r_23 wt H locs hw hP hD hS => ?_)
      obtain ⟨hT, hkp, lo_r_23, hi_r_23⟩ := hw
      have hW := hW.call (show ∀ x ∈ [], x ∈ [] by decide) hkp
      have hP : va_P (gg_D G) classes ([(h0, .inr (11, [.ref tp, .ref ra1, .ref ra2, .ref ra3, .ref ra4, .ref ra5, .ref ra6, .ref ra7, .ref ra8, .ref ra9, .ref ra10, .ref ra11, .ref ra12, .int rc, .int fo, .int xx]))] ++ wt) H := hP
      have hD : va_D A ([(h0, .inr (11, [.ref tp, .ref ra1, .ref ra2, .ref ra3, .ref ra4, .ref ra5, .ref ra6, .ref ra7, .ref ra8, .ref ra9, .ref ra10, .ref ra11, .ref ra12, .int rc, .int fo, .int xx]))] ++ wt) := hD
      have hP9 : va_P (gg_D G) classes ([(h0, .inr (11, [.ref tp, .ref ra1, .ref ra2, .ref ra3, .ref ra4, .ref ra5, .ref ra6, .ref ra7, .ref ra8, .ref ra9, .ref ra10, .ref ra11, .ref ra12, .int rc, .int fo, .int xx]))] ++ wt) _ := hP
      have hD9 : va_D A ([(h0, .inr (11, [.ref tp, .ref ra1, .ref ra2, .ref ra3, .ref ra4, .ref ra5, .ref ra6, .ref ra7, .ref ra8, .ref ra9, .ref ra10, .ref ra11, .ref ra12, .int rc, .int fo, .int xx]))] ++ wt) := hD
      exact W.iret (v := r_23) hx hb hr (gq_endI wt ⟨hT, hW⟩ hP9 hD9 hS) hS.2.2 dX11_bidder_121
    by_cases c_24 : w = 6
    · refine lv_tableIn (x := w) (off := 109) (tgt := 122) hx hb dX11_bidder_13 (by rw [c_24]; decide +kernel) (by rw [c_24]; decide +kernel) (by rw [c_24]; decide +kernel) (by decide) ?_
      rw [← Int32.toInt_inj] at c_24
      refine lv_aload_n hx hb dX11_bidder_122 rfl (lv_at hl 0 rfl) ?_
      refine gq_get hx hb ht hown hK hP i_X11 0 rfl rfl 3 (by decide) wd_500 rfl rfl dX11_bidder_123 ?_
      refine lv_iload_n hx hb dX11_bidder_126 rfl (lv_at hl 1 rfl) ?_
      refine lv_aload_n hx hb dX11_bidder_127 rfl (lv_at hl 0 rfl) ?_
      refine gq_get hx hb ht hown hK hP i_X11 0 rfl rfl 1 (by decide) wd_498 rfl rfl dX11_bidder_128 ?_
      refine gt_callI (wr := [(h0, .inr (11, [.ref tp, .ref ra1, .ref ra2, .ref ra3, .ref ra4, .ref ra5, .ref ra6, .ref ra7, .ref ra8, .ref ra9, .ref ra10, .ref ra11, .ref ra12, .int rc, .int fo, .int xx]))]) (va_runV (As := [.int b, .ref ra1]) (rest := []) ⟨hx, hb, hml, hown, ht⟩ (d_gainOf l G Γ H.size wt hT ra3 b ra1 kr3 (by omega) (by omega) kr1) (cwV 2 ht (ts_gV wd_808 wd_809 wd_810 wd_125 wd_811) rfl rfl rfl (by decide +kernel) ⟨Nat.le_of_ble_eq_true rfl, Nat.le_of_ble_eq_true rfl⟩) (gt_preW (ci := 7) hK hT (tw_right hP) (tw_rightD hD) kr3 (by decide) rfl) rfl rfl hl.1 rfl (lv_room (Nat.le_of_ble_eq_true rfl)) dX11_bidder_131 ⟨Nat.le_of_ble_eq_true rfl, Nat.le_of_ble_eq_true rfl⟩) hP hD hS hA (fun r_25 wt H locs hw hP hD hS => ?_)
      obtain ⟨hT, hkp⟩ := hw
      have hW := hW.call (show ∀ x ∈ [], x ∈ [] by decide) hkp
      have hP : va_P (gg_D G) classes ([(h0, .inr (11, [.ref tp, .ref ra1, .ref ra2, .ref ra3, .ref ra4, .ref ra5, .ref ra6, .ref ra7, .ref ra8, .ref ra9, .ref ra10, .ref ra11, .ref ra12, .int rc, .int fo, .int xx]))] ++ wt) H := hP
      have hD : va_D A ([(h0, .inr (11, [.ref tp, .ref ra1, .ref ra2, .ref ra3, .ref ra4, .ref ra5, .ref ra6, .ref ra7, .ref ra8, .ref ra9, .ref ra10, .ref ra11, .ref ra12, .int rc, .int fo, .int xx]))] ++ wt) := hD
      have hP9 : va_P (gg_D G) classes ([(h0, .inr (11, [.ref tp, .ref ra1, .ref ra2, .ref ra3, .ref ra4, .ref ra5, .ref ra6, .ref ra7, .ref ra8, .ref ra9, .ref ra10, .ref ra11, .ref ra12, .int rc, .int fo, .int xx]))] ++ wt) _ := hP
      have hD9 : va_D A ([(h0, .inr (11, [.ref tp, .ref ra1, .ref ra2, .ref ra3, .ref ra4, .ref ra5, .ref ra6, .ref ra7, .ref ra8, .ref ra9, .ref ra10, .ref ra11, .ref ra12, .int rc, .int fo, .int xx]))] ++ wt) := hD
      exact W.iret (v := r_25) hx hb hr (gq_endI wt ⟨hT, hW⟩ hP9 hD9 hS) hS.2.2 dX11_bidder_134
    rw [← Int32.toInt_inj] at c_3 c_7 c_11 c_15 c_18 c_22 c_24
    refine lv_tableOut (x := w) (tgt := 135) hx hb dX11_bidder_13 (by omega) (by decide) ?_
    refine lv_sipush (v := (-1000)) hx hb dX11_bidder_135 (by decide +kernel) ?_
    have hP9 : va_P (gg_D G) classes ([(h0, .inr (11, [.ref tp, .ref ra1, .ref ra2, .ref ra3, .ref ra4, .ref ra5, .ref ra6, .ref ra7, .ref ra8, .ref ra9, .ref ra10, .ref ra11, .ref ra12, .int rc, .int fo, .int xx]))] ++ wt) _ := hP
    have hD9 : va_D A ([(h0, .inr (11, [.ref tp, .ref ra1, .ref ra2, .ref ra3, .ref ra4, .ref ra5, .ref ra6, .ref ra7, .ref ra8, .ref ra9, .ref ra10, .ref ra11, .ref ra12, .int rc, .int fo, .int xx]))] ++ wt) := hD
    exact W.iret (v := (-1000)) hx hb hr (gq_endI wt ⟨hT, hW⟩ hP9 hD9 hS) hS.2.2 dX11_bidder_138
  · rw [← Int32.toInt_inj] at c_2
    refine lv_sipush (v := (-1000)) hx hb dX11_bidder_8 (by decide +kernel) ?_
    have hP9 : va_P (gg_D G) classes ([(h0, .inr (11, [.ref tp, .ref ra1, .ref ra2, .ref ra3, .ref ra4, .ref ra5, .ref ra6, .ref ra7, .ref ra8, .ref ra9, .ref ra10, .ref ra11, .ref ra12, .int rc, .int fo, .int xx]))] ++ wt) _ := hP
    have hD9 : va_D A ([(h0, .inr (11, [.ref tp, .ref ra1, .ref ra2, .ref ra3, .ref ra4, .ref ra5, .ref ra6, .ref ra7, .ref ra8, .ref ra9, .ref ra10, .ref ra11, .ref ra12, .int rc, .int fo, .int xx]))] ++ wt) := hD
    exact W.iret (v := (-1000)) hx hb hr (gq_endI wt ⟨hT, hW⟩ hP9 hD9 hS) hS.2.2 dX11_bidder_11
set_option maxHeartbeats 4000000 in
set_option maxRecDepth 100000 in
theorem d_lot (l : Launch) (G : gg_T) (Γ : Nat → Nat) (sz : Nat) (wt : va_W) (hT : tk_ty G Γ wt) (b : Int32) (w : Int32) (tp : Nat) (h0 : Nat) (ra1 : Nat) (ra2 : Nat) (ra3 : Nat) (ra4 : Nat) (ra5 : Nat) (ra6 : Nat) (ra7 : Nat) (ra8 : Nat) (ra9 : Nat) (ra10 : Nat) (ra11 : Nat) (ra12 : Nat) (rc : Int32) (fo : Int32) (xx : Int32) (kr1 : Γ ra1 = 10) (kr2 : Γ ra2 = 10) (kr3 : Γ ra3 = 8) (kr4 : Γ ra4 = 8) (kr5 : Γ ra5 = 4) (kr6 : Γ ra6 = 3) (kr7 : Γ ra7 = 41) (kr9 : Γ ra9 = 1) (kr10 : Γ ra10 = 6) (kr11 : Γ ra11 = 11) (kr12 : Γ ra12 = 7) (xr1 : 0 ≤ rc.toInt) (xr2 : rc.toInt ≤ 6) : Met l yX11_lot (ts_L yX11_lot cX11_lot 3 (some .int)) ({ frames := 1, cells := 0, slots := 0, locals := 23 }) (gc_P G ([(h0, .inr (11, [.ref tp, .ref ra1, .ref ra2, .ref ra3, .ref ra4, .ref ra5, .ref ra6, .ref ra7, .ref ra8, .ref ra9, .ref ra10, .ref ra11, .ref ra12, .int rc, .int fo, .int xx]))] ++ wt) sz [.ref h0, .int b, .int w]) (gc_I G (va_A ([(h0, .inr (11, [.ref tp, .ref ra1, .ref ra2, .ref ra3, .ref ra4, .ref ra5, .ref ra6, .ref ra7, .ref ra8, .ref ra9, .ref ra10, .ref ra11, .ref ra12, .int rc, .int fo, .int xx]))] ++ wt) sz) (fun r (u : va_W) => match u with | wt1 => tk_ty G Γ wt1 ∧ tk_kp [] wt wt1) (fun (u : va_W) => match u with | wt1 => [(h0, .inr (11, [.ref tp, .ref ra1, .ref ra2, .ref ra3, .ref ra4, .ref ra5, .ref ra6, .ref ra7, .ref ra8, .ref ra9, .ref ra10, .ref ra11, .ref ra12, .int rc, .int fo, .int xx]))] ++ wt1)) 0 0 (va_A ([(h0, .inr (11, [.ref tp, .ref ra1, .ref ra2, .ref ra3, .ref ra4, .ref ra5, .ref ra6, .ref ra7, .ref ra8, .ref ra9, .ref ra10, .ref ra11, .ref ra12, .int rc, .int fo, .int xx]))] ++ wt) sz) := by
  refine Met.ofW (cc := cX11_lot) (maxL := 3) (ret := (some .int)) (by decide) rfl ?_
  intro p e s m args below meth c s₁ B hml hv
  obtain ⟨rfl, hsz, hP, hK, hD0⟩ := hv
  have hx := B.exec
  have hb := B.bytes
  have hr := B.returns
  have ht := ts_ht (atoms_spec (ws := ts_L yX11_lot cX11_lot 3 (some .int)) B.pre)
  have hown : s.vm.findClass RX11 = some m.cls := findClass_of_methodNamed B.named
  have hlocks := B.notSynchronized
  subst hsz
  have hD := hD0.self (sz := s.heap.size)
  generalize hAe : va_A ([(h0, .inr (11, [.ref tp, .ref ra1, .ref ra2, .ref ra3, .ref ra4, .ref ra5, .ref ra6, .ref ra7, .ref ra8, .ref ra9, .ref ra10, .ref ra11, .ref ra12, .int rc, .int fo, .int xx]))] ++ wt) s.heap.size = A at hD ⊢
  have hA : ∀ q : Nat, s.heap.size ≤ q → A q := fun q h => by rw [← hAe]; exact Or.inr h
  clear hAe hD0
  have hS : va_S A s.heap s.heap [] := va_S.rf
  obtain ⟨w0, hw0⟩ : ∃ z, z = wt := ⟨_, rfl⟩
  have hW : tk_kp [] w0 wt := by rw [hw0]; exact tk_kp.rf
  rw [← hw0]
  clear hw0
  have hP : va_P (gg_D G) classes ([(h0, .inr (11, [.ref tp, .ref ra1, .ref ra2, .ref ra3, .ref ra4, .ref ra5, .ref ra6, .ref ra7, .ref ra8, .ref ra9, .ref ra10, .ref ra11, .ref ra12, .int rc, .int fo, .int xx]))] ++ wt) s.heap := hP
  have hD : va_D A ([(h0, .inr (11, [.ref tp, .ref ra1, .ref ra2, .ref ra3, .ref ra4, .ref ra5, .ref ra6, .ref ra7, .ref ra8, .ref ra9, .ref ra10, .ref ra11, .ref ra12, .int rc, .int fo, .int xx]))] ++ wt) := hD
  have hl := lv_entry ([.ref h0, .int b, .int w]) (n := 3) (Nat.le_of_ble_eq_true rfl)
  rw [lg_entry_eq]
  generalize (lg_sl ([.ref h0, .int b, .int w]) ++ List.replicate (3 - (lg_sl ([.ref h0, .int b, .int w])).length) Slot.unset).toArray = ls at hl ⊢
  have hl : lv_has ls 3 [(0, .ref h0), (1, .int b), (2, .int w)] := hl
  have lm2 : ((-2) : Int32).toInt = -2 := by decide +kernel
  have l0 : (0 : Int32).toInt = 0 := by decide +kernel
  have l1 : (1 : Int32).toInt = 1 := by decide +kernel
  have l2 : (2 : Int32).toInt = 2 := by decide +kernel
  have l3 : (3 : Int32).toInt = 3 := by decide +kernel
  have l4 : (4 : Int32).toInt = 4 := by decide +kernel
  have l5 : (5 : Int32).toInt = 5 := by decide +kernel
  refine lv_aload_n hx hb dX11_lot_0 rfl (lv_at hl 0 rfl) ?_
  refine lv_iload_n hx hb dX11_lot_1 rfl (lv_at hl 1 rfl) ?_
  have hP : va_P (gg_D G) classes ([] ++ ([(h0, .inr (11, [.ref tp, .ref ra1, .ref ra2, .ref ra3, .ref ra4, .ref ra5, .ref ra6, .ref ra7, .ref ra8, .ref ra9, .ref ra10, .ref ra11, .ref ra12, .int rc, .int fo, .int xx]))] ++ wt)) s.heap := hP
  have hD : va_D A ([] ++ ([(h0, .inr (11, [.ref tp, .ref ra1, .ref ra2, .ref ra3, .ref ra4, .ref ra5, .ref ra6, .ref ra7, .ref ra8, .ref ra9, .ref ra10, .ref ra11, .ref ra12, .int rc, .int fo, .int xx]))] ++ wt)) := hD
  refine gt_callI (wr := []) (va_runV (As := [.int b]) (rest := []) ⟨hx, hb, hml, hown, ht⟩ (d_isLot l G Γ s.heap.size wt hT b tp h0 ra1 ra2 ra3 ra4 ra5 ra6 ra7 ra8 ra9 ra10 ra11 ra12 rc fo xx (by first | assumption | omega) (by first | assumption | omega) (by first | assumption | omega) (by first | assumption | omega) (by first | assumption | omega) (by first | assumption | omega) (by first | assumption | omega) (by first | assumption | omega) (by first | assumption | omega) (by first | assumption | omega) (by first | assumption | omega) (by first | assumption | omega) (by first | assumption | omega)) (cwV 1 ht (ts_gV wd_820 wd_822 wd_15 wd_122 wd_823) rfl rfl rfl (by decide +kernel) ⟨Nat.le_of_ble_eq_true rfl, Nat.le_of_ble_eq_true rfl⟩) (gc_preV (ci := 11) (q0 := 0) hK (tw_right hP) (tw_rightD hD) rfl rfl) rfl rfl hl.1 rfl (lv_room (Nat.le_of_ble_eq_true rfl)) dX11_lot_2 ⟨Nat.le_of_ble_eq_true rfl, Nat.le_of_ble_eq_true rfl⟩) hP hD hS hA (fun r_1 wt H locs hw hP hD hS => ?_)
  obtain ⟨hT, hkp, lo_r_1, hi_r_1, im_r_1⟩ := hw
  have hW := hW.call (show ∀ x ∈ [], x ∈ [] by decide) hkp
  have hP : va_P (gg_D G) classes ([(h0, .inr (11, [.ref tp, .ref ra1, .ref ra2, .ref ra3, .ref ra4, .ref ra5, .ref ra6, .ref ra7, .ref ra8, .ref ra9, .ref ra10, .ref ra11, .ref ra12, .int rc, .int fo, .int xx]))] ++ wt) H := hP
  have hD : va_D A ([(h0, .inr (11, [.ref tp, .ref ra1, .ref ra2, .ref ra3, .ref ra4, .ref ra5, .ref ra6, .ref ra7, .ref ra8, .ref ra9, .ref ra10, .ref ra11, .ref ra12, .int rc, .int fo, .int xx]))] ++ wt) := hD
  refine lv_if_ne (tgt := 11) hx hb dX11_lot_5 (by decide) (fun c_2 => ?_) (fun c_2 => ?_)
  · have ic_2 := im_r_1 c_2
    rw [← Int32.toInt_inj] at c_2
    refine lv_iload_n hx hb dX11_lot_11 rfl (lv_at hl 2 rfl) ?_
    by_cases c_3 : w = 0
    · refine lv_tableIn (x := w) (off := 40) (tgt := 52) hx hb dX11_lot_12 (by rw [c_3]; decide +kernel) (by rw [c_3]; decide +kernel) (by rw [c_3]; decide +kernel) (by decide) ?_
      rw [← Int32.toInt_inj] at c_3
      refine lv_aload_n hx hb dX11_lot_52 rfl (lv_at hl 0 rfl) ?_
      refine gq_get hx hb ht hown hK hP i_X11 0 rfl rfl 3 (by decide) wd_500 rfl rfl dX11_lot_53 ?_
      refine tr_get (ci := 7) hx hb ht hown hK hT hP kr3 (by decide) i_X7 rfl 4 (by decide) wd_249 rfl dX11_lot_56 (fun v hv hf_4 => ?_)
      obtain ⟨q_5, rfl, hq_5⟩ := hv
      refine lv_iload_n hx hb dX11_lot_59 rfl (lv_at hl 1 rfl) ?_
      refine tr_iald hx hb hK hT hP 21 hq_5 (by decide) (by decide) (show vp_in _ (tk_len 21) from ia_in (n := 3) (by omega) (by omega)) dX11_lot_60 (fun n_6 hn_6 => ?_)
      clear hn_6
      have hP9 : va_P (gg_D G) classes ([(h0, .inr (11, [.ref tp, .ref ra1, .ref ra2, .ref ra3, .ref ra4, .ref ra5, .ref ra6, .ref ra7, .ref ra8, .ref ra9, .ref ra10, .ref ra11, .ref ra12, .int rc, .int fo, .int xx]))] ++ wt) _ := hP
      have hD9 : va_D A ([(h0, .inr (11, [.ref tp, .ref ra1, .ref ra2, .ref ra3, .ref ra4, .ref ra5, .ref ra6, .ref ra7, .ref ra8, .ref ra9, .ref ra10, .ref ra11, .ref ra12, .int rc, .int fo, .int xx]))] ++ wt) := hD
      exact W.iret (v := n_6) hx hb hr (gq_endI wt ⟨hT, hW⟩ hP9 hD9 hS) hS.2.2 dX11_lot_61
    by_cases c_7 : w = 1
    · refine lv_tableIn (x := w) (off := 50) (tgt := 62) hx hb dX11_lot_12 (by rw [c_7]; decide +kernel) (by rw [c_7]; decide +kernel) (by rw [c_7]; decide +kernel) (by decide) ?_
      rw [← Int32.toInt_inj] at c_7
      refine lv_aload_n hx hb dX11_lot_62 rfl (lv_at hl 0 rfl) ?_
      refine gq_get hx hb ht hown hK hP i_X11 0 rfl rfl 3 (by decide) wd_500 rfl rfl dX11_lot_63 ?_
      refine tr_get (ci := 7) hx hb ht hown hK hT hP kr3 (by decide) i_X7 rfl 5 (by decide) wd_251 rfl dX11_lot_66 (fun v hv hf_8 => ?_)
      obtain ⟨q_9, rfl, hq_9⟩ := hv
      refine lv_iload_n hx hb dX11_lot_69 rfl (lv_at hl 1 rfl) ?_
      refine tr_iald hx hb hK hT hP 21 hq_9 (by decide) (by decide) (show vp_in _ (tk_len 21) from ia_in (n := 3) (by omega) (by omega)) dX11_lot_70 (fun n_10 hn_10 => ?_)
      clear hn_10
      have hP9 : va_P (gg_D G) classes ([(h0, .inr (11, [.ref tp, .ref ra1, .ref ra2, .ref ra3, .ref ra4, .ref ra5, .ref ra6, .ref ra7, .ref ra8, .ref ra9, .ref ra10, .ref ra11, .ref ra12, .int rc, .int fo, .int xx]))] ++ wt) _ := hP
      have hD9 : va_D A ([(h0, .inr (11, [.ref tp, .ref ra1, .ref ra2, .ref ra3, .ref ra4, .ref ra5, .ref ra6, .ref ra7, .ref ra8, .ref ra9, .ref ra10, .ref ra11, .ref ra12, .int rc, .int fo, .int xx]))] ++ wt) := hD
      exact W.iret (v := n_10) hx hb hr (gq_endI wt ⟨hT, hW⟩ hP9 hD9 hS) hS.2.2 dX11_lot_71
    by_cases c_11 : w = 2
    · refine lv_tableIn (x := w) (off := 60) (tgt := 72) hx hb dX11_lot_12 (by rw [c_11]; decide +kernel) (by rw [c_11]; decide +kernel) (by rw [c_11]; decide +kernel) (by decide) ?_
      rw [← Int32.toInt_inj] at c_11
      refine lv_aload_n hx hb dX11_lot_72 rfl (lv_at hl 0 rfl) ?_
      refine gq_get hx hb ht hown hK hP i_X11 0 rfl rfl 3 (by decide) wd_500 rfl rfl dX11_lot_73 ?_
      refine tr_get (ci := 7) hx hb ht hown hK hT hP kr3 (by decide) i_X7 rfl 6 (by decide) wd_257 rfl dX11_lot_76 (fun v hv hf_12 => ?_)
      obtain ⟨q_13, rfl, hq_13⟩ := hv
      refine lv_iload_n hx hb dX11_lot_79 rfl (lv_at hl 1 rfl) ?_
      refine tr_iald hx hb hK hT hP 21 hq_13 (by decide) (by decide) (show vp_in _ (tk_len 21) from ia_in (n := 3) (by omega) (by omega)) dX11_lot_80 (fun n_14 hn_14 => ?_)
      clear hn_14
      have hP9 : va_P (gg_D G) classes ([(h0, .inr (11, [.ref tp, .ref ra1, .ref ra2, .ref ra3, .ref ra4, .ref ra5, .ref ra6, .ref ra7, .ref ra8, .ref ra9, .ref ra10, .ref ra11, .ref ra12, .int rc, .int fo, .int xx]))] ++ wt) _ := hP
      have hD9 : va_D A ([(h0, .inr (11, [.ref tp, .ref ra1, .ref ra2, .ref ra3, .ref ra4, .ref ra5, .ref ra6, .ref ra7, .ref ra8, .ref ra9, .ref ra10, .ref ra11, .ref ra12, .int rc, .int fo, .int xx]))] ++ wt) := hD
      exact W.iret (v := n_14) hx hb hr (gq_endI wt ⟨hT, hW⟩ hP9 hD9 hS) hS.2.2 dX11_lot_81
    by_cases c_15 : w = 3
    · refine lv_tableIn (x := w) (off := 70) (tgt := 82) hx hb dX11_lot_12 (by rw [c_15]; decide +kernel) (by rw [c_15]; decide +kernel) (by rw [c_15]; decide +kernel) (by decide) ?_
      rw [← Int32.toInt_inj] at c_15
      refine lv_aload_n hx hb dX11_lot_82 rfl (lv_at hl 0 rfl) ?_
      refine gq_get hx hb ht hown hK hP i_X11 0 rfl rfl 3 (by decide) wd_500 rfl rfl dX11_lot_83 ?_
      refine tr_get (ci := 7) hx hb ht hown hK hT hP kr3 (by decide) i_X7 rfl 7 (by decide) wd_260 rfl dX11_lot_86 (fun v hv hf_16 => ?_)
      obtain ⟨q_17, rfl, hq_17⟩ := hv
      refine lv_iload_n hx hb dX11_lot_89 rfl (lv_at hl 1 rfl) ?_
      refine tr_iald hx hb hK hT hP 21 hq_17 (by decide) (by decide) (show vp_in _ (tk_len 21) from ia_in (n := 3) (by omega) (by omega)) dX11_lot_90 (fun n_18 hn_18 => ?_)
      clear hn_18
      have hP9 : va_P (gg_D G) classes ([(h0, .inr (11, [.ref tp, .ref ra1, .ref ra2, .ref ra3, .ref ra4, .ref ra5, .ref ra6, .ref ra7, .ref ra8, .ref ra9, .ref ra10, .ref ra11, .ref ra12, .int rc, .int fo, .int xx]))] ++ wt) _ := hP
      have hD9 : va_D A ([(h0, .inr (11, [.ref tp, .ref ra1, .ref ra2, .ref ra3, .ref ra4, .ref ra5, .ref ra6, .ref ra7, .ref ra8, .ref ra9, .ref ra10, .ref ra11, .ref ra12, .int rc, .int fo, .int xx]))] ++ wt) := hD
      exact W.iret (v := n_18) hx hb hr (gq_endI wt ⟨hT, hW⟩ hP9 hD9 hS) hS.2.2 dX11_lot_91
    by_cases c_19 : w = 4
    · refine lv_tableIn (x := w) (off := 80) (tgt := 92) hx hb dX11_lot_12 (by rw [c_19]; decide +kernel) (by rw [c_19]; decide +kernel) (by rw [c_19]; decide +kernel) (by decide) ?_
      rw [← Int32.toInt_inj] at c_19
      refine lv_aload_n hx hb dX11_lot_92 rfl (lv_at hl 0 rfl) ?_
      refine gq_get hx hb ht hown hK hP i_X11 0 rfl rfl 3 (by decide) wd_500 rfl rfl dX11_lot_93 ?_
      refine lv_iload_n hx hb dX11_lot_96 rfl (lv_at hl 1 rfl) ?_
      refine gt_callI (wr := [(h0, .inr (11, [.ref tp, .ref ra1, .ref ra2, .ref ra3, .ref ra4, .ref ra5, .ref ra6, .ref ra7, .ref ra8, .ref ra9, .ref ra10, .ref ra11, .ref ra12, .int rc, .int fo, .int xx]))]) (va_runV (As := [.int b]) (rest := []) ⟨hx, hb, hml, hown, ht⟩ (d_sittersOf l G Γ H.size wt hT ra3 b kr3) (cwV 1 ht (ts_gV wd_824 wd_825 wd_826 wd_125 wd_827) rfl rfl rfl (by decide +kernel) ⟨Nat.le_of_ble_eq_true rfl, Nat.le_of_ble_eq_true rfl⟩) (gt_preW (ci := 7) hK hT (tw_right hP) (tw_rightD hD) kr3 (by decide) rfl) rfl rfl hl.1 rfl (lv_room (Nat.le_of_ble_eq_true rfl)) dX11_lot_97 ⟨Nat.le_of_ble_eq_true rfl, Nat.le_of_ble_eq_true rfl⟩) hP hD hS hA (fun r_20 wt H locs hw hP hD hS => ?_)
      obtain ⟨hT, hkp, lo_r_20, hi_r_20⟩ := hw
      have hW := hW.call (show ∀ x ∈ [], x ∈ [] by decide) hkp
      have hP : va_P (gg_D G) classes ([(h0, .inr (11, [.ref tp, .ref ra1, .ref ra2, .ref ra3, .ref ra4, .ref ra5, .ref ra6, .ref ra7, .ref ra8, .ref ra9, .ref ra10, .ref ra11, .ref ra12, .int rc, .int fo, .int xx]))] ++ wt) H := hP
      have hD : va_D A ([(h0, .inr (11, [.ref tp, .ref ra1, .ref ra2, .ref ra3, .ref ra4, .ref ra5, .ref ra6, .ref ra7, .ref ra8, .ref ra9, .ref ra10, .ref ra11, .ref ra12, .int rc, .int fo, .int xx]))] ++ wt) := hD
      have hP9 : va_P (gg_D G) classes ([(h0, .inr (11, [.ref tp, .ref ra1, .ref ra2, .ref ra3, .ref ra4, .ref ra5, .ref ra6, .ref ra7, .ref ra8, .ref ra9, .ref ra10, .ref ra11, .ref ra12, .int rc, .int fo, .int xx]))] ++ wt) _ := hP
      have hD9 : va_D A ([(h0, .inr (11, [.ref tp, .ref ra1, .ref ra2, .ref ra3, .ref ra4, .ref ra5, .ref ra6, .ref ra7, .ref ra8, .ref ra9, .ref ra10, .ref ra11, .ref ra12, .int rc, .int fo, .int xx]))] ++ wt) := hD
      exact W.iret (v := r_20) hx hb hr (gq_endI wt ⟨hT, hW⟩ hP9 hD9 hS) hS.2.2 dX11_lot_100
    by_cases c_21 : w = 5
    · refine lv_tableIn (x := w) (off := 89) (tgt := 101) hx hb dX11_lot_12 (by rw [c_21]; decide +kernel) (by rw [c_21]; decide +kernel) (by rw [c_21]; decide +kernel) (by decide) ?_
      rw [← Int32.toInt_inj] at c_21
      refine lv_aload_n hx hb dX11_lot_101 rfl (lv_at hl 0 rfl) ?_
      refine gq_get hx hb ht hown hK hP i_X11 0 rfl rfl 3 (by decide) wd_500 rfl rfl dX11_lot_102 ?_
      refine tr_get (ci := 7) hx hb ht hown hK hT hP kr3 (by decide) i_X7 rfl 8 (by decide) wd_264 rfl dX11_lot_105 (fun v hv hf_22 => ?_)
      obtain ⟨q_23, rfl, hq_23⟩ := hv
      refine lv_iload_n hx hb dX11_lot_108 rfl (lv_at hl 1 rfl) ?_
      refine tr_iald hx hb hK hT hP 22 hq_23 (by decide) (by decide) (show vp_in _ (tk_len 22) from ia_in (n := 3) (by omega) (by omega)) dX11_lot_109 (fun n_24 hn_24 => ?_)
      have hn_24 : 0 ≤ n_24.toInt ∧ n_24.toInt ≤ 31 := hn_24
      have hP9 : va_P (gg_D G) classes ([(h0, .inr (11, [.ref tp, .ref ra1, .ref ra2, .ref ra3, .ref ra4, .ref ra5, .ref ra6, .ref ra7, .ref ra8, .ref ra9, .ref ra10, .ref ra11, .ref ra12, .int rc, .int fo, .int xx]))] ++ wt) _ := hP
      have hD9 : va_D A ([(h0, .inr (11, [.ref tp, .ref ra1, .ref ra2, .ref ra3, .ref ra4, .ref ra5, .ref ra6, .ref ra7, .ref ra8, .ref ra9, .ref ra10, .ref ra11, .ref ra12, .int rc, .int fo, .int xx]))] ++ wt) := hD
      exact W.iret (v := n_24) hx hb hr (gq_endI wt ⟨hT, hW⟩ hP9 hD9 hS) hS.2.2 dX11_lot_110
    rw [← Int32.toInt_inj] at c_3 c_7 c_11 c_15 c_19 c_21
    refine lv_tableOut (x := w) (tgt := 111) hx hb dX11_lot_12 (by omega) (by decide) ?_
    refine lv_bipush (v := (-2)) hx hb dX11_lot_111 (by decide +kernel) ?_
    have hP9 : va_P (gg_D G) classes ([(h0, .inr (11, [.ref tp, .ref ra1, .ref ra2, .ref ra3, .ref ra4, .ref ra5, .ref ra6, .ref ra7, .ref ra8, .ref ra9, .ref ra10, .ref ra11, .ref ra12, .int rc, .int fo, .int xx]))] ++ wt) _ := hP
    have hD9 : va_D A ([(h0, .inr (11, [.ref tp, .ref ra1, .ref ra2, .ref ra3, .ref ra4, .ref ra5, .ref ra6, .ref ra7, .ref ra8, .ref ra9, .ref ra10, .ref ra11, .ref ra12, .int rc, .int fo, .int xx]))] ++ wt) := hD
    exact W.iret (v := (-2)) hx hb hr (gq_endI wt ⟨hT, hW⟩ hP9 hD9 hS) hS.2.2 dX11_lot_113
  · rw [← Int32.toInt_inj] at c_2
    refine lv_bipush (v := (-2)) hx hb dX11_lot_8 (by decide +kernel) ?_
    have hP9 : va_P (gg_D G) classes ([(h0, .inr (11, [.ref tp, .ref ra1, .ref ra2, .ref ra3, .ref ra4, .ref ra5, .ref ra6, .ref ra7, .ref ra8, .ref ra9, .ref ra10, .ref ra11, .ref ra12, .int rc, .int fo, .int xx]))] ++ wt) _ := hP
    have hD9 : va_D A ([(h0, .inr (11, [.ref tp, .ref ra1, .ref ra2, .ref ra3, .ref ra4, .ref ra5, .ref ra6, .ref ra7, .ref ra8, .ref ra9, .ref ra10, .ref ra11, .ref ra12, .int rc, .int fo, .int xx]))] ++ wt) := hD
    exact W.iret (v := (-2)) hx hb hr (gq_endI wt ⟨hT, hW⟩ hP9 hD9 hS) hS.2.2 dX11_lot_10
set_option maxHeartbeats 4000000 in
set_option maxRecDepth 100000 in
theorem d_worth (l : Launch) (G : gg_T) (Γ : Nat → Nat) (sz : Nat) (wt : va_W) (hT : tk_ty G Γ wt) (b : Int32) (w : Int32) (tp : Nat) (h0 : Nat) (ra1 : Nat) (ra2 : Nat) (ra3 : Nat) (ra4 : Nat) (ra5 : Nat) (ra6 : Nat) (ra7 : Nat) (ra8 : Nat) (ra9 : Nat) (ra10 : Nat) (ra11 : Nat) (ra12 : Nat) (rc : Int32) (fo : Int32) (xx : Int32) (kr1 : Γ ra1 = 10) (kr2 : Γ ra2 = 10) (kr3 : Γ ra3 = 8) (kr4 : Γ ra4 = 8) (kr5 : Γ ra5 = 4) (kr6 : Γ ra6 = 3) (kr7 : Γ ra7 = 41) (kr9 : Γ ra9 = 1) (kr10 : Γ ra10 = 6) (kr11 : Γ ra11 = 11) (kr12 : Γ ra12 = 7) (xr1 : 0 ≤ rc.toInt) (xr2 : rc.toInt ≤ 6) : Met l yX11_worth (ts_L yX11_worth cX11_worth 3 (some .int)) ({ frames := 1, cells := 0, slots := 0, locals := 22 }) (gc_P G ([(h0, .inr (11, [.ref tp, .ref ra1, .ref ra2, .ref ra3, .ref ra4, .ref ra5, .ref ra6, .ref ra7, .ref ra8, .ref ra9, .ref ra10, .ref ra11, .ref ra12, .int rc, .int fo, .int xx]))] ++ wt) sz [.ref h0, .int b, .int w]) (gc_I G (va_A ([(h0, .inr (11, [.ref tp, .ref ra1, .ref ra2, .ref ra3, .ref ra4, .ref ra5, .ref ra6, .ref ra7, .ref ra8, .ref ra9, .ref ra10, .ref ra11, .ref ra12, .int rc, .int fo, .int xx]))] ++ wt) sz) (fun r (u : va_W) => match u with | wt1 => tk_ty G Γ wt1 ∧ tk_kp [] wt wt1) (fun (u : va_W) => match u with | wt1 => [(h0, .inr (11, [.ref tp, .ref ra1, .ref ra2, .ref ra3, .ref ra4, .ref ra5, .ref ra6, .ref ra7, .ref ra8, .ref ra9, .ref ra10, .ref ra11, .ref ra12, .int rc, .int fo, .int xx]))] ++ wt1)) 0 0 (va_A ([(h0, .inr (11, [.ref tp, .ref ra1, .ref ra2, .ref ra3, .ref ra4, .ref ra5, .ref ra6, .ref ra7, .ref ra8, .ref ra9, .ref ra10, .ref ra11, .ref ra12, .int rc, .int fo, .int xx]))] ++ wt) sz) := by
  refine Met.ofW (cc := cX11_worth) (maxL := 3) (ret := (some .int)) (by decide) rfl ?_
  intro p e s m args below meth c s₁ B hml hv
  obtain ⟨rfl, hsz, hP, hK, hD0⟩ := hv
  have hx := B.exec
  have hb := B.bytes
  have hr := B.returns
  have ht := ts_ht (atoms_spec (ws := ts_L yX11_worth cX11_worth 3 (some .int)) B.pre)
  have hown : s.vm.findClass RX11 = some m.cls := findClass_of_methodNamed B.named
  have hlocks := B.notSynchronized
  subst hsz
  have hD := hD0.self (sz := s.heap.size)
  generalize hAe : va_A ([(h0, .inr (11, [.ref tp, .ref ra1, .ref ra2, .ref ra3, .ref ra4, .ref ra5, .ref ra6, .ref ra7, .ref ra8, .ref ra9, .ref ra10, .ref ra11, .ref ra12, .int rc, .int fo, .int xx]))] ++ wt) s.heap.size = A at hD ⊢
  have hA : ∀ q : Nat, s.heap.size ≤ q → A q := fun q h => by rw [← hAe]; exact Or.inr h
  clear hAe hD0
  have hS : va_S A s.heap s.heap [] := va_S.rf
  obtain ⟨w0, hw0⟩ : ∃ z, z = wt := ⟨_, rfl⟩
  have hW : tk_kp [] w0 wt := by rw [hw0]; exact tk_kp.rf
  rw [← hw0]
  clear hw0
  have hP : va_P (gg_D G) classes ([(h0, .inr (11, [.ref tp, .ref ra1, .ref ra2, .ref ra3, .ref ra4, .ref ra5, .ref ra6, .ref ra7, .ref ra8, .ref ra9, .ref ra10, .ref ra11, .ref ra12, .int rc, .int fo, .int xx]))] ++ wt) s.heap := hP
  have hD : va_D A ([(h0, .inr (11, [.ref tp, .ref ra1, .ref ra2, .ref ra3, .ref ra4, .ref ra5, .ref ra6, .ref ra7, .ref ra8, .ref ra9, .ref ra10, .ref ra11, .ref ra12, .int rc, .int fo, .int xx]))] ++ wt) := hD
  have hl := lv_entry ([.ref h0, .int b, .int w]) (n := 3) (Nat.le_of_ble_eq_true rfl)
  rw [lg_entry_eq]
  generalize (lg_sl ([.ref h0, .int b, .int w]) ++ List.replicate (3 - (lg_sl ([.ref h0, .int b, .int w])).length) Slot.unset).toArray = ls at hl ⊢
  have hl : lv_has ls 3 [(0, .ref h0), (1, .int b), (2, .int w)] := hl
  have lm1 : ((-1) : Int32).toInt = -1 := by decide +kernel
  have l0 : (0 : Int32).toInt = 0 := by decide +kernel
  refine lv_aload_n hx hb dX11_worth_0 rfl (lv_at hl 0 rfl) ?_
  refine lv_iload_n hx hb dX11_worth_1 rfl (lv_at hl 1 rfl) ?_
  have hP : va_P (gg_D G) classes ([] ++ ([(h0, .inr (11, [.ref tp, .ref ra1, .ref ra2, .ref ra3, .ref ra4, .ref ra5, .ref ra6, .ref ra7, .ref ra8, .ref ra9, .ref ra10, .ref ra11, .ref ra12, .int rc, .int fo, .int xx]))] ++ wt)) s.heap := hP
  have hD : va_D A ([] ++ ([(h0, .inr (11, [.ref tp, .ref ra1, .ref ra2, .ref ra3, .ref ra4, .ref ra5, .ref ra6, .ref ra7, .ref ra8, .ref ra9, .ref ra10, .ref ra11, .ref ra12, .int rc, .int fo, .int xx]))] ++ wt)) := hD
  refine gt_callI (wr := []) (va_runV (As := [.int b]) (rest := []) ⟨hx, hb, hml, hown, ht⟩ (d_isBidder l G Γ s.heap.size wt hT b tp h0 ra1 ra2 ra3 ra4 ra5 ra6 ra7 ra8 ra9 ra10 ra11 ra12 rc fo xx (by first | assumption | omega) (by first | assumption | omega) (by first | assumption | omega) (by first | assumption | omega) (by first | assumption | omega) (by first | assumption | omega) (by first | assumption | omega) (by first | assumption | omega) (by first | assumption | omega) (by first | assumption | omega) (by first | assumption | omega) (by first | assumption | omega) (by first | assumption | omega)) (cwV 1 ht (ts_gV wd_789 wd_791 wd_14 wd_122 wd_792) rfl rfl rfl (by decide +kernel) ⟨Nat.le_of_ble_eq_true rfl, Nat.le_of_ble_eq_true rfl⟩) (gc_preV (ci := 11) (q0 := 0) hK (tw_right hP) (tw_rightD hD) rfl rfl) rfl rfl hl.1 rfl (lv_room (Nat.le_of_ble_eq_true rfl)) dX11_worth_2 ⟨Nat.le_of_ble_eq_true rfl, Nat.le_of_ble_eq_true rfl⟩) hP hD hS hA (fun r_1 wt H locs hw hP hD hS => ?_)
  obtain ⟨hT, hkp, lo_r_1, hi_r_1, im_r_1⟩ := hw
  have hW := hW.call (show ∀ x ∈ [], x ∈ [] by decide) hkp
  have hP : va_P (gg_D G) classes ([(h0, .inr (11, [.ref tp, .ref ra1, .ref ra2, .ref ra3, .ref ra4, .ref ra5, .ref ra6, .ref ra7, .ref ra8, .ref ra9, .ref ra10, .ref ra11, .ref ra12, .int rc, .int fo, .int xx]))] ++ wt) H := hP
  have hD : va_D A ([(h0, .inr (11, [.ref tp, .ref ra1, .ref ra2, .ref ra3, .ref ra4, .ref ra5, .ref ra6, .ref ra7, .ref ra8, .ref ra9, .ref ra10, .ref ra11, .ref ra12, .int rc, .int fo, .int xx]))] ++ wt) := hD
  refine lv_if_eq (tgt := 28) hx hb dX11_worth_5 (by decide) (fun c_2 => ?_) (fun c_2 => ?_)
  · rw [← Int32.toInt_inj] at c_2
    refine lv_iconst (v := (-1)) hx hb dX11_worth_28 (by decide +kernel) ?_
    have hP9 : va_P (gg_D G) classes ([(h0, .inr (11, [.ref tp, .ref ra1, .ref ra2, .ref ra3, .ref ra4, .ref ra5, .ref ra6, .ref ra7, .ref ra8, .ref ra9, .ref ra10, .ref ra11, .ref ra12, .int rc, .int fo, .int xx]))] ++ wt) _ := hP
    have hD9 : va_D A ([(h0, .inr (11, [.ref tp, .ref ra1, .ref ra2, .ref ra3, .ref ra4, .ref ra5, .ref ra6, .ref ra7, .ref ra8, .ref ra9, .ref ra10, .ref ra11, .ref ra12, .int rc, .int fo, .int xx]))] ++ wt) := hD
    exact W.iret (v := (-1)) hx hb hr (gq_endI wt ⟨hT, hW⟩ hP9 hD9 hS) hS.2.2 dX11_worth_29
  · have ic_2 := im_r_1 c_2
    rw [← Int32.toInt_inj] at c_2
    refine lv_aload_n hx hb dX11_worth_8 rfl (lv_at hl 0 rfl) ?_
    refine lv_iload_n hx hb dX11_worth_9 rfl (lv_at hl 2 rfl) ?_
    have hP : va_P (gg_D G) classes ([] ++ ([(h0, .inr (11, [.ref tp, .ref ra1, .ref ra2, .ref ra3, .ref ra4, .ref ra5, .ref ra6, .ref ra7, .ref ra8, .ref ra9, .ref ra10, .ref ra11, .ref ra12, .int rc, .int fo, .int xx]))] ++ wt)) H := hP
    have hD : va_D A ([] ++ ([(h0, .inr (11, [.ref tp, .ref ra1, .ref ra2, .ref ra3, .ref ra4, .ref ra5, .ref ra6, .ref ra7, .ref ra8, .ref ra9, .ref ra10, .ref ra11, .ref ra12, .int rc, .int fo, .int xx]))] ++ wt)) := hD
    refine gt_callI (wr := []) (va_runV (As := [.int w]) (rest := []) ⟨hx, hb, hml, hown, ht⟩ (d_isLot l G Γ H.size wt hT w tp h0 ra1 ra2 ra3 ra4 ra5 ra6 ra7 ra8 ra9 ra10 ra11 ra12 rc fo xx (by first | assumption | omega) (by first | assumption | omega) (by first | assumption | omega) (by first | assumption | omega) (by first | assumption | omega) (by first | assumption | omega) (by first | assumption | omega) (by first | assumption | omega) (by first | assumption | omega) (by first | assumption | omega) (by first | assumption | omega) (by first | assumption | omega) (by first | assumption | omega)) (cwV 1 ht (ts_gV wd_820 wd_822 wd_15 wd_122 wd_823) rfl rfl rfl (by decide +kernel) ⟨Nat.le_of_ble_eq_true rfl, Nat.le_of_ble_eq_true rfl⟩) (gc_preV (ci := 11) (q0 := 0) hK (tw_right hP) (tw_rightD hD) rfl rfl) rfl rfl hl.1 rfl (lv_room (Nat.le_of_ble_eq_true rfl)) dX11_worth_10 ⟨Nat.le_of_ble_eq_true rfl, Nat.le_of_ble_eq_true rfl⟩) hP hD hS hA (fun r_3 wt H locs hw hP hD hS => ?_)
    obtain ⟨hT, hkp, lo_r_3, hi_r_3, im_r_3⟩ := hw
    have hW := hW.call (show ∀ x ∈ [], x ∈ [] by decide) hkp
    have hP : va_P (gg_D G) classes ([(h0, .inr (11, [.ref tp, .ref ra1, .ref ra2, .ref ra3, .ref ra4, .ref ra5, .ref ra6, .ref ra7, .ref ra8, .ref ra9, .ref ra10, .ref ra11, .ref ra12, .int rc, .int fo, .int xx]))] ++ wt) H := hP
    have hD : va_D A ([(h0, .inr (11, [.ref tp, .ref ra1, .ref ra2, .ref ra3, .ref ra4, .ref ra5, .ref ra6, .ref ra7, .ref ra8, .ref ra9, .ref ra10, .ref ra11, .ref ra12, .int rc, .int fo, .int xx]))] ++ wt) := hD
    refine lv_if_eq (tgt := 28) hx hb dX11_worth_13 (by decide) (fun c_4 => ?_) (fun c_4 => ?_)
    · rw [← Int32.toInt_inj] at c_4
      refine lv_iconst (v := (-1)) hx hb dX11_worth_28 (by decide +kernel) ?_
      have hP9 : va_P (gg_D G) classes ([(h0, .inr (11, [.ref tp, .ref ra1, .ref ra2, .ref ra3, .ref ra4, .ref ra5, .ref ra6, .ref ra7, .ref ra8, .ref ra9, .ref ra10, .ref ra11, .ref ra12, .int rc, .int fo, .int xx]))] ++ wt) _ := hP
      have hD9 : va_D A ([(h0, .inr (11, [.ref tp, .ref ra1, .ref ra2, .ref ra3, .ref ra4, .ref ra5, .ref ra6, .ref ra7, .ref ra8, .ref ra9, .ref ra10, .ref ra11, .ref ra12, .int rc, .int fo, .int xx]))] ++ wt) := hD
      exact W.iret (v := (-1)) hx hb hr (gq_endI wt ⟨hT, hW⟩ hP9 hD9 hS) hS.2.2 dX11_worth_29
    · have ic_4 := im_r_3 c_4
      rw [← Int32.toInt_inj] at c_4
      refine lv_aload_n hx hb dX11_worth_16 rfl (lv_at hl 0 rfl) ?_
      refine gq_get hx hb ht hown hK hP i_X11 0 rfl rfl 1 (by decide) wd_498 rfl rfl dX11_worth_17 ?_
      refine lv_iload_n hx hb dX11_worth_20 rfl (lv_at hl 1 rfl) ?_
      refine lv_iload_n hx hb dX11_worth_21 rfl (lv_at hl 2 rfl) ?_
      refine gt_callI (wr := [(h0, .inr (11, [.ref tp, .ref ra1, .ref ra2, .ref ra3, .ref ra4, .ref ra5, .ref ra6, .ref ra7, .ref ra8, .ref ra9, .ref ra10, .ref ra11, .ref ra12, .int rc, .int fo, .int xx]))]) (va_runV (As := [.int b, .int w]) (rest := []) ⟨hx, hb, hml, hown, ht⟩ (d_worthTo l G Γ H.size wt hT ra1 b w kr1 (by omega) (by omega) (by omega) (by omega)) (cwV 2 ht (ts_gV wd_832 wd_813 wd_814 wd_124 wd_815) rfl rfl rfl (by decide +kernel) ⟨Nat.le_of_ble_eq_true rfl, Nat.le_of_ble_eq_true rfl⟩) (gt_preW (ci := 9) hK hT (tw_right hP) (tw_rightD hD) kr1 (by decide) rfl) rfl rfl hl.1 rfl (lv_room (Nat.le_of_ble_eq_true rfl)) dX11_worth_22 ⟨Nat.le_of_ble_eq_true rfl, Nat.le_of_ble_eq_true rfl⟩) hP hD hS hA (fun r_5 wt H locs hw hP hD hS => ?_)
      obtain ⟨hT, hkp⟩ := hw
      have hW := hW.call (show ∀ x ∈ [], x ∈ [] by decide) hkp
      have hP : va_P (gg_D G) classes ([(h0, .inr (11, [.ref tp, .ref ra1, .ref ra2, .ref ra3, .ref ra4, .ref ra5, .ref ra6, .ref ra7, .ref ra8, .ref ra9, .ref ra10, .ref ra11, .ref ra12, .int rc, .int fo, .int xx]))] ++ wt) H := hP
      have hD : va_D A ([(h0, .inr (11, [.ref tp, .ref ra1, .ref ra2, .ref ra3, .ref ra4, .ref ra5, .ref ra6, .ref ra7, .ref ra8, .ref ra9, .ref ra10, .ref ra11, .ref ra12, .int rc, .int fo, .int xx]))] ++ wt) := hD
      refine lv_goto (tgt := 29) hx hb dX11_worth_25 (by decide) ?_
      have hP9 : va_P (gg_D G) classes ([(h0, .inr (11, [.ref tp, .ref ra1, .ref ra2, .ref ra3, .ref ra4, .ref ra5, .ref ra6, .ref ra7, .ref ra8, .ref ra9, .ref ra10, .ref ra11, .ref ra12, .int rc, .int fo, .int xx]))] ++ wt) _ := hP
      have hD9 : va_D A ([(h0, .inr (11, [.ref tp, .ref ra1, .ref ra2, .ref ra3, .ref ra4, .ref ra5, .ref ra6, .ref ra7, .ref ra8, .ref ra9, .ref ra10, .ref ra11, .ref ra12, .int rc, .int fo, .int xx]))] ++ wt) := hD
      exact W.iret (v := r_5) hx hb hr (gq_endI wt ⟨hT, hW⟩ hP9 hD9 hS) hS.2.2 dX11_worth_29
set_option maxHeartbeats 4000000 in
set_option maxRecDepth 100000 in
theorem d_trick (l : Launch) (G : gg_T) (Γ : Nat → Nat) (sz : Nat) (wt : va_W) (hT : tk_ty G Γ wt) (b : Int32) (w : Int32) (tp : Nat) (h0 : Nat) (ra1 : Nat) (ra2 : Nat) (ra3 : Nat) (ra4 : Nat) (ra5 : Nat) (ra6 : Nat) (ra7 : Nat) (ra8 : Nat) (ra9 : Nat) (ra10 : Nat) (ra11 : Nat) (ra12 : Nat) (rc : Int32) (fo : Int32) (xx : Int32) (kr1 : Γ ra1 = 10) (kr2 : Γ ra2 = 10) (kr3 : Γ ra3 = 8) (kr4 : Γ ra4 = 8) (kr5 : Γ ra5 = 4) (kr6 : Γ ra6 = 3) (kr7 : Γ ra7 = 41) (kr9 : Γ ra9 = 1) (kr10 : Γ ra10 = 6) (kr11 : Γ ra11 = 11) (kr12 : Γ ra12 = 7) (xr1 : 0 ≤ rc.toInt) (xr2 : rc.toInt ≤ 6) : Met l yX11_trick (ts_L yX11_trick cX11_trick 3 (some .int)) ({ frames := 1, cells := 0, slots := 0, locals := 21 }) (gc_P G ([(h0, .inr (11, [.ref tp, .ref ra1, .ref ra2, .ref ra3, .ref ra4, .ref ra5, .ref ra6, .ref ra7, .ref ra8, .ref ra9, .ref ra10, .ref ra11, .ref ra12, .int rc, .int fo, .int xx]))] ++ wt) sz [.ref h0, .int b, .int w]) (gc_I G (va_A ([(h0, .inr (11, [.ref tp, .ref ra1, .ref ra2, .ref ra3, .ref ra4, .ref ra5, .ref ra6, .ref ra7, .ref ra8, .ref ra9, .ref ra10, .ref ra11, .ref ra12, .int rc, .int fo, .int xx]))] ++ wt) sz) (fun r (u : va_W) => match u with | wt1 => tk_ty G Γ wt1 ∧ tk_kp [] wt wt1) (fun (u : va_W) => match u with | wt1 => [(h0, .inr (11, [.ref tp, .ref ra1, .ref ra2, .ref ra3, .ref ra4, .ref ra5, .ref ra6, .ref ra7, .ref ra8, .ref ra9, .ref ra10, .ref ra11, .ref ra12, .int rc, .int fo, .int xx]))] ++ wt1)) 0 0 (va_A ([(h0, .inr (11, [.ref tp, .ref ra1, .ref ra2, .ref ra3, .ref ra4, .ref ra5, .ref ra6, .ref ra7, .ref ra8, .ref ra9, .ref ra10, .ref ra11, .ref ra12, .int rc, .int fo, .int xx]))] ++ wt) sz) := by
  refine Met.ofW (cc := cX11_trick) (maxL := 3) (ret := (some .int)) (by decide) rfl ?_
  intro p e s m args below meth c s₁ B hml hv
  obtain ⟨rfl, hsz, hP, hK, hD0⟩ := hv
  have hx := B.exec
  have hb := B.bytes
  have hr := B.returns
  have ht := ts_ht (atoms_spec (ws := ts_L yX11_trick cX11_trick 3 (some .int)) B.pre)
  have hown : s.vm.findClass RX11 = some m.cls := findClass_of_methodNamed B.named
  have hlocks := B.notSynchronized
  subst hsz
  have hD := hD0.self (sz := s.heap.size)
  generalize hAe : va_A ([(h0, .inr (11, [.ref tp, .ref ra1, .ref ra2, .ref ra3, .ref ra4, .ref ra5, .ref ra6, .ref ra7, .ref ra8, .ref ra9, .ref ra10, .ref ra11, .ref ra12, .int rc, .int fo, .int xx]))] ++ wt) s.heap.size = A at hD ⊢
  have hA : ∀ q : Nat, s.heap.size ≤ q → A q := fun q h => by rw [← hAe]; exact Or.inr h
  clear hAe hD0
  have hS : va_S A s.heap s.heap [] := va_S.rf
  obtain ⟨w0, hw0⟩ : ∃ z, z = wt := ⟨_, rfl⟩
  have hW : tk_kp [] w0 wt := by rw [hw0]; exact tk_kp.rf
  rw [← hw0]
  clear hw0
  have hP : va_P (gg_D G) classes ([(h0, .inr (11, [.ref tp, .ref ra1, .ref ra2, .ref ra3, .ref ra4, .ref ra5, .ref ra6, .ref ra7, .ref ra8, .ref ra9, .ref ra10, .ref ra11, .ref ra12, .int rc, .int fo, .int xx]))] ++ wt) s.heap := hP
  have hD : va_D A ([(h0, .inr (11, [.ref tp, .ref ra1, .ref ra2, .ref ra3, .ref ra4, .ref ra5, .ref ra6, .ref ra7, .ref ra8, .ref ra9, .ref ra10, .ref ra11, .ref ra12, .int rc, .int fo, .int xx]))] ++ wt) := hD
  have hl := lv_entry ([.ref h0, .int b, .int w]) (n := 3) (Nat.le_of_ble_eq_true rfl)
  rw [lg_entry_eq]
  generalize (lg_sl ([.ref h0, .int b, .int w]) ++ List.replicate (3 - (lg_sl ([.ref h0, .int b, .int w])).length) Slot.unset).toArray = ls at hl ⊢
  have hl : lv_has ls 3 [(0, .ref h0), (1, .int b), (2, .int w)] := hl
  have lm1 : ((-1) : Int32).toInt = -1 := by decide +kernel
  have l0 : (0 : Int32).toInt = 0 := by decide +kernel
  have l1 : (1 : Int32).toInt = 1 := by decide +kernel
  refine lv_aload_n hx hb dX11_trick_0 rfl (lv_at hl 0 rfl) ?_
  refine lv_iload_n hx hb dX11_trick_1 rfl (lv_at hl 1 rfl) ?_
  have hP : va_P (gg_D G) classes ([] ++ ([(h0, .inr (11, [.ref tp, .ref ra1, .ref ra2, .ref ra3, .ref ra4, .ref ra5, .ref ra6, .ref ra7, .ref ra8, .ref ra9, .ref ra10, .ref ra11, .ref ra12, .int rc, .int fo, .int xx]))] ++ wt)) s.heap := hP
  have hD : va_D A ([] ++ ([(h0, .inr (11, [.ref tp, .ref ra1, .ref ra2, .ref ra3, .ref ra4, .ref ra5, .ref ra6, .ref ra7, .ref ra8, .ref ra9, .ref ra10, .ref ra11, .ref ra12, .int rc, .int fo, .int xx]))] ++ wt)) := hD
  refine gt_callI (wr := []) (va_runV (As := [.int b]) (rest := []) ⟨hx, hb, hml, hown, ht⟩ (d_isTrick l G Γ s.heap.size wt hT b tp h0 ra1 ra2 ra3 ra4 ra5 ra6 ra7 ra8 ra9 ra10 ra11 ra12 rc fo xx (by first | assumption | omega) (by first | assumption | omega) (by first | assumption | omega) (by first | assumption | omega) (by first | assumption | omega) (by first | assumption | omega) (by first | assumption | omega) (by first | assumption | omega) (by first | assumption | omega) (by first | assumption | omega) (by first | assumption | omega) (by first | assumption | omega) (by first | assumption | omega)) (cwV 1 ht (ts_gV wd_837 wd_839 wd_16 wd_122 wd_840) rfl rfl rfl (by decide +kernel) ⟨Nat.le_of_ble_eq_true rfl, Nat.le_of_ble_eq_true rfl⟩) (gc_preV (ci := 11) (q0 := 0) hK (tw_right hP) (tw_rightD hD) rfl rfl) rfl rfl hl.1 rfl (lv_room (Nat.le_of_ble_eq_true rfl)) dX11_trick_2 ⟨Nat.le_of_ble_eq_true rfl, Nat.le_of_ble_eq_true rfl⟩) hP hD hS hA (fun r_1 wt H locs hw hP hD hS => ?_)
  obtain ⟨hT, hkp, lo_r_1, hi_r_1, im_r_1⟩ := hw
  have hW := hW.call (show ∀ x ∈ [], x ∈ [] by decide) hkp
  have hP : va_P (gg_D G) classes ([(h0, .inr (11, [.ref tp, .ref ra1, .ref ra2, .ref ra3, .ref ra4, .ref ra5, .ref ra6, .ref ra7, .ref ra8, .ref ra9, .ref ra10, .ref ra11, .ref ra12, .int rc, .int fo, .int xx]))] ++ wt) H := hP
  have hD : va_D A ([(h0, .inr (11, [.ref tp, .ref ra1, .ref ra2, .ref ra3, .ref ra4, .ref ra5, .ref ra6, .ref ra7, .ref ra8, .ref ra9, .ref ra10, .ref ra11, .ref ra12, .int rc, .int fo, .int xx]))] ++ wt) := hD
  refine lv_if_eq (tgt := 17) hx hb dX11_trick_5 (by decide) (fun c_2 => ?_) (fun c_2 => ?_)
  · rw [← Int32.toInt_inj] at c_2
    refine lv_iconst (v := (-1)) hx hb dX11_trick_17 (by decide +kernel) ?_
    have hP9 : va_P (gg_D G) classes ([(h0, .inr (11, [.ref tp, .ref ra1, .ref ra2, .ref ra3, .ref ra4, .ref ra5, .ref ra6, .ref ra7, .ref ra8, .ref ra9, .ref ra10, .ref ra11, .ref ra12, .int rc, .int fo, .int xx]))] ++ wt) _ := hP
    have hD9 : va_D A ([(h0, .inr (11, [.ref tp, .ref ra1, .ref ra2, .ref ra3, .ref ra4, .ref ra5, .ref ra6, .ref ra7, .ref ra8, .ref ra9, .ref ra10, .ref ra11, .ref ra12, .int rc, .int fo, .int xx]))] ++ wt) := hD
    exact W.iret (v := (-1)) hx hb hr (gq_endI wt ⟨hT, hW⟩ hP9 hD9 hS) hS.2.2 dX11_trick_18
  · have ic_2 := im_r_1 c_2
    rw [← Int32.toInt_inj] at c_2
    refine lv_iload_n hx hb dX11_trick_8 rfl (lv_at hl 2 rfl) ?_
    refine lv_if_lt (tgt := 17) hx hb dX11_trick_9 (by decide) (fun c_3 => ?_) (fun c_3 => ?_)
    · rw [Int32.lt_iff_toInt_lt] at c_3
      refine lv_iconst (v := (-1)) hx hb dX11_trick_17 (by decide +kernel) ?_
      have hP9 : va_P (gg_D G) classes ([(h0, .inr (11, [.ref tp, .ref ra1, .ref ra2, .ref ra3, .ref ra4, .ref ra5, .ref ra6, .ref ra7, .ref ra8, .ref ra9, .ref ra10, .ref ra11, .ref ra12, .int rc, .int fo, .int xx]))] ++ wt) _ := hP
      have hD9 : va_D A ([(h0, .inr (11, [.ref tp, .ref ra1, .ref ra2, .ref ra3, .ref ra4, .ref ra5, .ref ra6, .ref ra7, .ref ra8, .ref ra9, .ref ra10, .ref ra11, .ref ra12, .int rc, .int fo, .int xx]))] ++ wt) := hD
      exact W.iret (v := (-1)) hx hb hr (gq_endI wt ⟨hT, hW⟩ hP9 hD9 hS) hS.2.2 dX11_trick_18
    · rw [Int32.lt_iff_toInt_lt] at c_3
      refine lv_iload_n hx hb dX11_trick_12 rfl (lv_at hl 2 rfl) ?_
      refine lv_iconst (v := 1) hx hb dX11_trick_13 (by decide +kernel) ?_
      refine lv_icmp_le (tgt := 19) hx hb dX11_trick_14 (by decide) (fun c_4 => ?_) (fun c_4 => ?_)
      · rw [Int32.le_iff_toInt_le] at c_4
        refine lv_iload_n hx hb dX11_trick_19 rfl (lv_at hl 2 rfl) ?_
        refine lv_if_ne (tgt := 35) hx hb dX11_trick_20 (by decide) (fun c_5 => ?_) (fun c_5 => ?_)
        · rw [← Int32.toInt_inj] at c_5
          refine lv_aload_n hx hb dX11_trick_35 rfl (lv_at hl 0 rfl) ?_
          refine gq_get hx hb ht hown hK hP i_X11 0 rfl rfl 1 (by decide) wd_498 rfl rfl dX11_trick_36 ?_
          refine tr_get (ci := 9) hx hb ht hown hK hT hP kr1 (by decide) i_X9 rfl 8 (by decide) wd_204 rfl dX11_trick_39 (fun v hv hf_6 => ?_)
          obtain ⟨q_7, rfl, hq_7⟩ := hv
          refine lv_iload_n hx hb dX11_trick_42 rfl (lv_at hl 1 rfl) ?_
          refine tr_iald hx hb hK hT hP 21 hq_7 (by decide) (by decide) (show vp_in _ (tk_len 21) from ia_in (n := 3) (by omega) (by omega)) dX11_trick_43 (fun n_8 hn_8 => ?_)
          clear hn_8
          have hP9 : va_P (gg_D G) classes ([(h0, .inr (11, [.ref tp, .ref ra1, .ref ra2, .ref ra3, .ref ra4, .ref ra5, .ref ra6, .ref ra7, .ref ra8, .ref ra9, .ref ra10, .ref ra11, .ref ra12, .int rc, .int fo, .int xx]))] ++ wt) _ := hP
          have hD9 : va_D A ([(h0, .inr (11, [.ref tp, .ref ra1, .ref ra2, .ref ra3, .ref ra4, .ref ra5, .ref ra6, .ref ra7, .ref ra8, .ref ra9, .ref ra10, .ref ra11, .ref ra12, .int rc, .int fo, .int xx]))] ++ wt) := hD
          exact W.iret (v := n_8) hx hb hr (gq_endI wt ⟨hT, hW⟩ hP9 hD9 hS) hS.2.2 dX11_trick_44
        · rw [← Int32.toInt_inj] at c_5
          refine lv_aload_n hx hb dX11_trick_23 rfl (lv_at hl 0 rfl) ?_
          refine gq_get hx hb ht hown hK hP i_X11 0 rfl rfl 1 (by decide) wd_498 rfl rfl dX11_trick_24 ?_
          refine tr_get (ci := 9) hx hb ht hown hK hT hP kr1 (by decide) i_X9 rfl 7 (by decide) wd_201 rfl dX11_trick_27 (fun v hv hf_9 => ?_)
          obtain ⟨q_10, rfl, hq_10⟩ := hv
          refine lv_iload_n hx hb dX11_trick_30 rfl (lv_at hl 1 rfl) ?_
          refine tr_iald hx hb hK hT hP 21 hq_10 (by decide) (by decide) (show vp_in _ (tk_len 21) from ia_in (n := 3) (by omega) (by omega)) dX11_trick_31 (fun n_11 hn_11 => ?_)
          clear hn_11
          refine lv_goto (tgt := 44) hx hb dX11_trick_32 (by decide) ?_
          have hP9 : va_P (gg_D G) classes ([(h0, .inr (11, [.ref tp, .ref ra1, .ref ra2, .ref ra3, .ref ra4, .ref ra5, .ref ra6, .ref ra7, .ref ra8, .ref ra9, .ref ra10, .ref ra11, .ref ra12, .int rc, .int fo, .int xx]))] ++ wt) _ := hP
          have hD9 : va_D A ([(h0, .inr (11, [.ref tp, .ref ra1, .ref ra2, .ref ra3, .ref ra4, .ref ra5, .ref ra6, .ref ra7, .ref ra8, .ref ra9, .ref ra10, .ref ra11, .ref ra12, .int rc, .int fo, .int xx]))] ++ wt) := hD
          exact W.iret (v := n_11) hx hb hr (gq_endI wt ⟨hT, hW⟩ hP9 hD9 hS) hS.2.2 dX11_trick_44
      · rw [Int32.le_iff_toInt_le] at c_4
        refine lv_iconst (v := (-1)) hx hb dX11_trick_17 (by decide +kernel) ?_
        have hP9 : va_P (gg_D G) classes ([(h0, .inr (11, [.ref tp, .ref ra1, .ref ra2, .ref ra3, .ref ra4, .ref ra5, .ref ra6, .ref ra7, .ref ra8, .ref ra9, .ref ra10, .ref ra11, .ref ra12, .int rc, .int fo, .int xx]))] ++ wt) _ := hP
        have hD9 : va_D A ([(h0, .inr (11, [.ref tp, .ref ra1, .ref ra2, .ref ra3, .ref ra4, .ref ra5, .ref ra6, .ref ra7, .ref ra8, .ref ra9, .ref ra10, .ref ra11, .ref ra12, .int rc, .int fo, .int xx]))] ++ wt) := hD
        exact W.iret (v := (-1)) hx hb hr (gq_endI wt ⟨hT, hW⟩ hP9 hD9 hS) hS.2.2 dX11_trick_18
set_option maxHeartbeats 4000000 in
set_option maxRecDepth 100000 in
theorem d_minute (l : Launch) (G : gg_T) (Γ : Nat → Nat) (sz : Nat) (wt : va_W) (hT : tk_ty G Γ wt) (tp : Nat) (h0 : Nat) (ra1 : Nat) (ra2 : Nat) (ra3 : Nat) (ra4 : Nat) (ra5 : Nat) (ra6 : Nat) (ra7 : Nat) (ra8 : Nat) (ra9 : Nat) (ra10 : Nat) (ra11 : Nat) (ra12 : Nat) (rc : Int32) (fo : Int32) (xx : Int32) (kr1 : Γ ra1 = 10) (kr2 : Γ ra2 = 10) (kr3 : Γ ra3 = 8) (kr4 : Γ ra4 = 8) (kr5 : Γ ra5 = 4) (kr6 : Γ ra6 = 3) (kr7 : Γ ra7 = 41) (kr9 : Γ ra9 = 1) (kr10 : Γ ra10 = 6) (kr11 : Γ ra11 = 11) (kr12 : Γ ra12 = 7) (xr1 : 0 ≤ rc.toInt) (xr2 : rc.toInt ≤ 6) : Met l yX11_minute (ts_L yX11_minute cX11_minute 1 (some .int)) ({ frames := 5, cells := 0, slots := 0, locals := 123 }) (gc_P G ([(h0, .inr (11, [.ref tp, .ref ra1, .ref ra2, .ref ra3, .ref ra4, .ref ra5, .ref ra6, .ref ra7, .ref ra8, .ref ra9, .ref ra10, .ref ra11, .ref ra12, .int rc, .int fo, .int xx]))] ++ wt) sz [.ref h0]) (gc_I G (va_A ([(h0, .inr (11, [.ref tp, .ref ra1, .ref ra2, .ref ra3, .ref ra4, .ref ra5, .ref ra6, .ref ra7, .ref ra8, .ref ra9, .ref ra10, .ref ra11, .ref ra12, .int rc, .int fo, .int xx]))] ++ wt) sz) (fun r (u : va_W) => match u with | wt1 => tk_ty G Γ wt1 ∧ tk_kp [0, 1, 2, 301, 302, 709] wt wt1) (fun (u : va_W) => match u with | wt1 => [(h0, .inr (11, [.ref tp, .ref ra1, .ref ra2, .ref ra3, .ref ra4, .ref ra5, .ref ra6, .ref ra7, .ref ra8, .ref ra9, .ref ra10, .ref ra11, .ref ra12, .int rc, .int fo, .int xx]))] ++ wt1)) 0 0 (va_A ([(h0, .inr (11, [.ref tp, .ref ra1, .ref ra2, .ref ra3, .ref ra4, .ref ra5, .ref ra6, .ref ra7, .ref ra8, .ref ra9, .ref ra10, .ref ra11, .ref ra12, .int rc, .int fo, .int xx]))] ++ wt) sz) := by
  refine Met.ofW (cc := cX11_minute) (maxL := 1) (ret := (some .int)) (by decide) rfl ?_
  intro p e s m args below meth c s₁ B hml hv
  obtain ⟨rfl, hsz, hP, hK, hD0⟩ := hv
  have hx := B.exec
  have hb := B.bytes
  have hr := B.returns
  have ht := ts_ht (atoms_spec (ws := ts_L yX11_minute cX11_minute 1 (some .int)) B.pre)
  have hown : s.vm.findClass RX11 = some m.cls := findClass_of_methodNamed B.named
  have hlocks := B.notSynchronized
  subst hsz
  have hD := hD0.self (sz := s.heap.size)
  generalize hAe : va_A ([(h0, .inr (11, [.ref tp, .ref ra1, .ref ra2, .ref ra3, .ref ra4, .ref ra5, .ref ra6, .ref ra7, .ref ra8, .ref ra9, .ref ra10, .ref ra11, .ref ra12, .int rc, .int fo, .int xx]))] ++ wt) s.heap.size = A at hD ⊢
  have hA : ∀ q : Nat, s.heap.size ≤ q → A q := fun q h => by rw [← hAe]; exact Or.inr h
  clear hAe hD0
  have hS : va_S A s.heap s.heap [] := va_S.rf
  obtain ⟨w0, hw0⟩ : ∃ z, z = wt := ⟨_, rfl⟩
  have hW : tk_kp [0, 1, 2, 301, 302, 709] w0 wt := by rw [hw0]; exact tk_kp.rf
  rw [← hw0]
  clear hw0
  have hP : va_P (gg_D G) classes ([(h0, .inr (11, [.ref tp, .ref ra1, .ref ra2, .ref ra3, .ref ra4, .ref ra5, .ref ra6, .ref ra7, .ref ra8, .ref ra9, .ref ra10, .ref ra11, .ref ra12, .int rc, .int fo, .int xx]))] ++ wt) s.heap := hP
  have hD : va_D A ([(h0, .inr (11, [.ref tp, .ref ra1, .ref ra2, .ref ra3, .ref ra4, .ref ra5, .ref ra6, .ref ra7, .ref ra8, .ref ra9, .ref ra10, .ref ra11, .ref ra12, .int rc, .int fo, .int xx]))] ++ wt) := hD
  have hl := lv_entry ([.ref h0]) (n := 1) (Nat.le_of_ble_eq_true rfl)
  rw [lg_entry_eq]
  generalize (lg_sl ([.ref h0]) ++ List.replicate (1 - (lg_sl ([.ref h0])).length) Slot.unset).toArray = ls at hl ⊢
  have hl : lv_has ls 1 [(0, .ref h0)] := hl
  have lm1 : ((-1) : Int32).toInt = -1 := by decide +kernel
  have l0 : (0 : Int32).toInt = 0 := by decide +kernel
  have l1 : (1 : Int32).toInt = 1 := by decide +kernel
  have l9999 : (9999 : Int32).toInt = 9999 := by decide +kernel
  refine lv_aload_n hx hb dX11_minute_0 rfl (lv_at hl 0 rfl) ?_
  refine gq_get hx hb ht hown hK hP i_X11 0 rfl rfl 3 (by decide) wd_500 rfl rfl dX11_minute_1 ?_
  refine lv_iconst (v := 1) hx hb dX11_minute_4 (by decide +kernel) ?_
  refine gt_callI (wr := [(h0, .inr (11, [.ref tp, .ref ra1, .ref ra2, .ref ra3, .ref ra4, .ref ra5, .ref ra6, .ref ra7, .ref ra8, .ref ra9, .ref ra10, .ref ra11, .ref ra12, .int rc, .int fo, .int xx]))]) (va_runV (As := [.int 1]) (rest := []) ⟨hx, hb, hml, hown, ht⟩ (d_lotsAt l G Γ s.heap.size wt hT ra3 1 kr3) (cwV 1 ht (ts_gV wd_846 wd_847 wd_848 wd_125 wd_849) rfl rfl rfl (by decide +kernel) ⟨Nat.le_of_ble_eq_true rfl, Nat.le_of_ble_eq_true rfl⟩) (gt_preW (ci := 7) hK hT (tw_right hP) (tw_rightD hD) kr3 (by decide) rfl) rfl rfl hl.1 rfl (lv_room (Nat.le_of_ble_eq_true rfl)) dX11_minute_5 ⟨Nat.le_of_ble_eq_true rfl, Nat.le_of_ble_eq_true rfl⟩) hP hD hS hA (fun r_1 wt H locs hw hP hD hS => ?_)
  obtain ⟨hT, hkp, lo_r_1, hi_r_1⟩ := hw
  have hW := hW.call (show ∀ x ∈ [], x ∈ [0, 1, 2, 301, 302, 709] by decide) hkp
  have hP : va_P (gg_D G) classes ([(h0, .inr (11, [.ref tp, .ref ra1, .ref ra2, .ref ra3, .ref ra4, .ref ra5, .ref ra6, .ref ra7, .ref ra8, .ref ra9, .ref ra10, .ref ra11, .ref ra12, .int rc, .int fo, .int xx]))] ++ wt) H := hP
  have hD : va_D A ([(h0, .inr (11, [.ref tp, .ref ra1, .ref ra2, .ref ra3, .ref ra4, .ref ra5, .ref ra6, .ref ra7, .ref ra8, .ref ra9, .ref ra10, .ref ra11, .ref ra12, .int rc, .int fo, .int xx]))] ++ wt) := hD
  refine lv_if_eq (tgt := 24) hx hb dX11_minute_8 (by decide) (fun c_2 => ?_) (fun c_2 => ?_)
  · rw [← Int32.toInt_inj] at c_2
    refine lv_iconst (v := (-1)) hx hb dX11_minute_24 (by decide +kernel) ?_
    have hP9 : va_P (gg_D G) classes ([(h0, .inr (11, [.ref tp, .ref ra1, .ref ra2, .ref ra3, .ref ra4, .ref ra5, .ref ra6, .ref ra7, .ref ra8, .ref ra9, .ref ra10, .ref ra11, .ref ra12, .int rc, .int fo, .int xx]))] ++ wt) _ := hP
    have hD9 : va_D A ([(h0, .inr (11, [.ref tp, .ref ra1, .ref ra2, .ref ra3, .ref ra4, .ref ra5, .ref ra6, .ref ra7, .ref ra8, .ref ra9, .ref ra10, .ref ra11, .ref ra12, .int rc, .int fo, .int xx]))] ++ wt) := hD
    exact W.iret (v := (-1)) hx hb hr (gq_endI wt ⟨hT, hW⟩ hP9 hD9 hS) hS.2.2 dX11_minute_25
  · rw [← Int32.toInt_inj] at c_2
    refine lv_aload_n hx hb dX11_minute_11 rfl (lv_at hl 0 rfl) ?_
    refine gq_get hx hb ht hown hK hP i_X11 0 rfl rfl 3 (by decide) wd_500 rfl rfl dX11_minute_12 ?_
    refine tr_get (ci := 7) hx hb ht hown hK hT hP kr3 (by decide) i_X7 rfl 9 (by decide) wd_268 rfl dX11_minute_15 (fun v hv hf_3 => ?_)
    obtain ⟨n_4, rfl⟩ := hv
    refine lv_sipush (v := 9999) hx hb dX11_minute_18 (by decide +kernel) ?_
    refine lv_icmp_lt (tgt := 26) hx hb dX11_minute_21 (by decide) (fun c_5 => ?_) (fun c_5 => ?_)
    · rw [Int32.lt_iff_toInt_lt] at c_5
      refine lv_aload_n hx hb dX11_minute_26 rfl (lv_at hl 0 rfl) ?_
      refine gq_get hx hb ht hown hK hP i_X11 0 rfl rfl 5 (by decide) wd_502 rfl rfl dX11_minute_27 ?_
      refine lv_aload_n hx hb dX11_minute_30 rfl (lv_at hl 0 rfl) ?_
      refine gq_get hx hb ht hown hK hP i_X11 0 rfl rfl 3 (by decide) wd_500 rfl rfl dX11_minute_31 ?_
      refine gt_callV (wr := [(h0, .inr (11, [.ref tp, .ref ra1, .ref ra2, .ref ra3, .ref ra4, .ref ra5, .ref ra6, .ref ra7, .ref ra8, .ref ra9, .ref ra10, .ref ra11, .ref ra12, .int rc, .int fo, .int xx]))]) (va_runV (As := [.ref ra3]) (rest := []) ⟨hx, hb, hml, hown, ht⟩ (d_P_keep l G Γ H.size wt hT ra5 ra3 kr5 kr3) (cwV 1 ht (ts_gV wd_858 wd_859 wd_860 wd_126 wd_861) rfl rfl rfl (by decide +kernel) ⟨Nat.le_of_ble_eq_true rfl, Nat.le_of_ble_eq_true rfl⟩) (gt_preW (ci := 3) hK hT (tw_right hP) (tw_rightD hD) kr5 (by decide) rfl) rfl rfl hl.1 rfl (lv_room (Nat.le_of_ble_eq_true rfl)) dX11_minute_34 ⟨Nat.le_of_ble_eq_true rfl, Nat.le_of_ble_eq_true rfl⟩) hP hD hS hA (fun wt H locs hw hP hD hS => ?_)
      obtain ⟨hT, hkp⟩ := hw
      have hW := hW.call (show ∀ x ∈ [301, 302, 709], x ∈ [0, 1, 2, 301, 302, 709] by decide) hkp
      have hP : va_P (gg_D G) classes ([(h0, .inr (11, [.ref tp, .ref ra1, .ref ra2, .ref ra3, .ref ra4, .ref ra5, .ref ra6, .ref ra7, .ref ra8, .ref ra9, .ref ra10, .ref ra11, .ref ra12, .int rc, .int fo, .int xx]))] ++ wt) H := hP
      have hD : va_D A ([(h0, .inr (11, [.ref tp, .ref ra1, .ref ra2, .ref ra3, .ref ra4, .ref ra5, .ref ra6, .ref ra7, .ref ra8, .ref ra9, .ref ra10, .ref ra11, .ref ra12, .int rc, .int fo, .int xx]))] ++ wt) := hD
      refine lv_aload_n hx hb dX11_minute_37 rfl (lv_at hl 0 rfl) ?_
      have hP : va_P (gg_D G) classes ([] ++ ([(h0, .inr (11, [.ref tp, .ref ra1, .ref ra2, .ref ra3, .ref ra4, .ref ra5, .ref ra6, .ref ra7, .ref ra8, .ref ra9, .ref ra10, .ref ra11, .ref ra12, .int rc, .int fo, .int xx]))] ++ wt)) H := hP
      have hD : va_D A ([] ++ ([(h0, .inr (11, [.ref tp, .ref ra1, .ref ra2, .ref ra3, .ref ra4, .ref ra5, .ref ra6, .ref ra7, .ref ra8, .ref ra9, .ref ra10, .ref ra11, .ref ra12, .int rc, .int fo, .int xx]))] ++ wt)) := hD
      refine gt_callV (wr := []) (va_runV (As := []) (rest := []) ⟨hx, hb, hml, hown, ht⟩ (d_callClerk l G Γ H.size wt hT tp h0 ra1 ra2 ra3 ra4 ra5 ra6 ra7 ra8 ra9 ra10 ra11 ra12 rc fo xx (by first | assumption | omega) (by first | assumption | omega) (by first | assumption | omega) (by first | assumption | omega) (by first | assumption | omega) (by first | assumption | omega) (by first | assumption | omega) (by first | assumption | omega) (by first | assumption | omega) (by first | assumption | omega) (by first | assumption | omega) (by first | assumption | omega) (by first | assumption | omega)) (cwV 0 ht (ts_gV wd_868 wd_870 wd_17 wd_122 wd_871) rfl rfl rfl (by decide +kernel) ⟨Nat.le_of_ble_eq_true rfl, Nat.le_of_ble_eq_true rfl⟩) (gc_preV (ci := 11) (q0 := 0) hK (tw_right hP) (tw_rightD hD) rfl rfl) rfl rfl hl.1 rfl (lv_room (Nat.le_of_ble_eq_true rfl)) dX11_minute_38 ⟨Nat.le_of_ble_eq_true rfl, Nat.le_of_ble_eq_true rfl⟩) hP hD hS hA (fun wt H locs hw hP hD hS => ?_)
      obtain ⟨hT, hkp⟩ := hw
      have hW := hW.call (show ∀ x ∈ [0, 1, 2], x ∈ [0, 1, 2, 301, 302, 709] by decide) hkp
      have hP : va_P (gg_D G) classes ([(h0, .inr (11, [.ref tp, .ref ra1, .ref ra2, .ref ra3, .ref ra4, .ref ra5, .ref ra6, .ref ra7, .ref ra8, .ref ra9, .ref ra10, .ref ra11, .ref ra12, .int rc, .int fo, .int xx]))] ++ wt) H := hP
      have hD : va_D A ([(h0, .inr (11, [.ref tp, .ref ra1, .ref ra2, .ref ra3, .ref ra4, .ref ra5, .ref ra6, .ref ra7, .ref ra8, .ref ra9, .ref ra10, .ref ra11, .ref ra12, .int rc, .int fo, .int xx]))] ++ wt) := hD
      refine lv_aload_n hx hb dX11_minute_41 rfl (lv_at hl 0 rfl) ?_
      refine gq_get hx hb ht hown hK hP i_X11 0 rfl rfl 9 (by decide) wd_506 rfl rfl dX11_minute_42 ?_
      refine lv_aload_n hx hb dX11_minute_45 rfl (lv_at hl 0 rfl) ?_
      refine gq_get hx hb ht hown hK hP i_X11 0 rfl rfl 3 (by decide) wd_500 rfl rfl dX11_minute_46 ?_
      refine lv_iconst (v := 0) hx hb dX11_minute_49 (by decide +kernel) ?_
      refine gt_callI (wr := [(h0, .inr (11, [.ref tp, .ref ra1, .ref ra2, .ref ra3, .ref ra4, .ref ra5, .ref ra6, .ref ra7, .ref ra8, .ref ra9, .ref ra10, .ref ra11, .ref ra12, .int rc, .int fo, .int xx]))]) (va_runV (As := [.ref ra3, .int 0]) (rest := []) ⟨hx, hb, hml, hown, ht⟩ (d_pass l G Γ H.size wt hT ra9 ra3 0 kr9 kr3) (cwV 2 ht (ts_gV wd_876 wd_877 wd_878 wd_130 wd_879) rfl rfl rfl (by decide +kernel) ⟨Nat.le_of_ble_eq_true rfl, Nat.le_of_ble_eq_true rfl⟩) (gt_preW (ci := 0) hK hT (tw_right hP) (tw_rightD hD) kr9 (by decide) rfl) rfl rfl hl.1 rfl (lv_room (Nat.le_of_ble_eq_true rfl)) dX11_minute_50 ⟨Nat.le_of_ble_eq_true rfl, Nat.le_of_ble_eq_true rfl⟩) hP hD hS hA (fun r_6 wt H locs hw hP hD hS => ?_)
      obtain ⟨hT, hkp⟩ := hw
      have hW := hW.call (show ∀ x ∈ [709], x ∈ [0, 1, 2, 301, 302, 709] by decide) hkp
      have hP : va_P (gg_D G) classes ([(h0, .inr (11, [.ref tp, .ref ra1, .ref ra2, .ref ra3, .ref ra4, .ref ra5, .ref ra6, .ref ra7, .ref ra8, .ref ra9, .ref ra10, .ref ra11, .ref ra12, .int rc, .int fo, .int xx]))] ++ wt) H := hP
      have hD : va_D A ([(h0, .inr (11, [.ref tp, .ref ra1, .ref ra2, .ref ra3, .ref ra4, .ref ra5, .ref ra6, .ref ra7, .ref ra8, .ref ra9, .ref ra10, .ref ra11, .ref ra12, .int rc, .int fo, .int xx]))] ++ wt) := hD
      have hP9 : va_P (gg_D G) classes ([(h0, .inr (11, [.ref tp, .ref ra1, .ref ra2, .ref ra3, .ref ra4, .ref ra5, .ref ra6, .ref ra7, .ref ra8, .ref ra9, .ref ra10, .ref ra11, .ref ra12, .int rc, .int fo, .int xx]))] ++ wt) _ := hP
      have hD9 : va_D A ([(h0, .inr (11, [.ref tp, .ref ra1, .ref ra2, .ref ra3, .ref ra4, .ref ra5, .ref ra6, .ref ra7, .ref ra8, .ref ra9, .ref ra10, .ref ra11, .ref ra12, .int rc, .int fo, .int xx]))] ++ wt) := hD
      exact W.iret (v := r_6) hx hb hr (gq_endI wt ⟨hT, hW⟩ hP9 hD9 hS) hS.2.2 dX11_minute_53
    · rw [Int32.lt_iff_toInt_lt] at c_5
      refine lv_iconst (v := (-1)) hx hb dX11_minute_24 (by decide +kernel) ?_
      have hP9 : va_P (gg_D G) classes ([(h0, .inr (11, [.ref tp, .ref ra1, .ref ra2, .ref ra3, .ref ra4, .ref ra5, .ref ra6, .ref ra7, .ref ra8, .ref ra9, .ref ra10, .ref ra11, .ref ra12, .int rc, .int fo, .int xx]))] ++ wt) _ := hP
      have hD9 : va_D A ([(h0, .inr (11, [.ref tp, .ref ra1, .ref ra2, .ref ra3, .ref ra4, .ref ra5, .ref ra6, .ref ra7, .ref ra8, .ref ra9, .ref ra10, .ref ra11, .ref ra12, .int rc, .int fo, .int xx]))] ++ wt) := hD
      exact W.iret (v := (-1)) hx hb hr (gq_endI wt ⟨hT, hW⟩ hP9 hD9 hS) hS.2.2 dX11_minute_25
set_option maxHeartbeats 4000000 in
set_option maxRecDepth 100000 in
theorem d_sit (l : Launch) (G : gg_T) (Γ : Nat → Nat) (sz : Nat) (wt : va_W) (hT : tk_ty G Γ wt) (b : Int32) (w : Int32) (tp : Nat) (h0 : Nat) (ra1 : Nat) (ra2 : Nat) (ra3 : Nat) (ra4 : Nat) (ra5 : Nat) (ra6 : Nat) (ra7 : Nat) (ra8 : Nat) (ra9 : Nat) (ra10 : Nat) (ra11 : Nat) (ra12 : Nat) (rc : Int32) (fo : Int32) (xx : Int32) (kr1 : Γ ra1 = 10) (kr2 : Γ ra2 = 10) (kr3 : Γ ra3 = 8) (kr4 : Γ ra4 = 8) (kr5 : Γ ra5 = 4) (kr6 : Γ ra6 = 3) (kr7 : Γ ra7 = 41) (kr9 : Γ ra9 = 1) (kr10 : Γ ra10 = 6) (kr11 : Γ ra11 = 11) (kr12 : Γ ra12 = 7) (xr1 : 0 ≤ rc.toInt) (xr2 : rc.toInt ≤ 6) : Met l yX11_sit (ts_L yX11_sit cX11_sit 4 (some .int)) ({ frames := 3, cells := 0, slots := 0, locals := 82 }) (gc_P G ([(h0, .inr (11, [.ref tp, .ref ra1, .ref ra2, .ref ra3, .ref ra4, .ref ra5, .ref ra6, .ref ra7, .ref ra8, .ref ra9, .ref ra10, .ref ra11, .ref ra12, .int rc, .int fo, .int xx]))] ++ wt) sz [.ref h0, .int b, .int w]) (gc_I G (va_A ([(h0, .inr (11, [.ref tp, .ref ra1, .ref ra2, .ref ra3, .ref ra4, .ref ra5, .ref ra6, .ref ra7, .ref ra8, .ref ra9, .ref ra10, .ref ra11, .ref ra12, .int rc, .int fo, .int xx]))] ++ wt) sz) (fun r (u : va_W) => match u with | wt1 => tk_ty G Γ wt1 ∧ tk_kp [301, 302, 709] wt wt1) (fun (u : va_W) => match u with | wt1 => [(h0, .inr (11, [.ref tp, .ref ra1, .ref ra2, .ref ra3, .ref ra4, .ref ra5, .ref ra6, .ref ra7, .ref ra8, .ref ra9, .ref ra10, .ref ra11, .ref ra12, .int rc, .int fo, .int xx]))] ++ wt1)) 0 0 (va_A ([(h0, .inr (11, [.ref tp, .ref ra1, .ref ra2, .ref ra3, .ref ra4, .ref ra5, .ref ra6, .ref ra7, .ref ra8, .ref ra9, .ref ra10, .ref ra11, .ref ra12, .int rc, .int fo, .int xx]))] ++ wt) sz) := by
  refine Met.ofW (cc := cX11_sit) (maxL := 4) (ret := (some .int)) (by decide) rfl ?_
  intro p e s m args below meth c s₁ B hml hv
  obtain ⟨rfl, hsz, hP, hK, hD0⟩ := hv
  have hx := B.exec
  have hb := B.bytes
  have hr := B.returns
  have ht := ts_ht (atoms_spec (ws := ts_L yX11_sit cX11_sit 4 (some .int)) B.pre)
  have hown : s.vm.findClass RX11 = some m.cls := findClass_of_methodNamed B.named
  have hlocks := B.notSynchronized
  subst hsz
  have hD := hD0.self (sz := s.heap.size)
  generalize hAe : va_A ([(h0, .inr (11, [.ref tp, .ref ra1, .ref ra2, .ref ra3, .ref ra4, .ref ra5, .ref ra6, .ref ra7, .ref ra8, .ref ra9, .ref ra10, .ref ra11, .ref ra12, .int rc, .int fo, .int xx]))] ++ wt) s.heap.size = A at hD ⊢
  have hA : ∀ q : Nat, s.heap.size ≤ q → A q := fun q h => by rw [← hAe]; exact Or.inr h
  clear hAe hD0
  have hS : va_S A s.heap s.heap [] := va_S.rf
  obtain ⟨w0, hw0⟩ : ∃ z, z = wt := ⟨_, rfl⟩
  have hW : tk_kp [301, 302, 709] w0 wt := by rw [hw0]; exact tk_kp.rf
  rw [← hw0]
  clear hw0
  have hP : va_P (gg_D G) classes ([(h0, .inr (11, [.ref tp, .ref ra1, .ref ra2, .ref ra3, .ref ra4, .ref ra5, .ref ra6, .ref ra7, .ref ra8, .ref ra9, .ref ra10, .ref ra11, .ref ra12, .int rc, .int fo, .int xx]))] ++ wt) s.heap := hP
  have hD : va_D A ([(h0, .inr (11, [.ref tp, .ref ra1, .ref ra2, .ref ra3, .ref ra4, .ref ra5, .ref ra6, .ref ra7, .ref ra8, .ref ra9, .ref ra10, .ref ra11, .ref ra12, .int rc, .int fo, .int xx]))] ++ wt) := hD
  have hl := lv_entry ([.ref h0, .int b, .int w]) (n := 4) (Nat.le_of_ble_eq_true rfl)
  rw [lg_entry_eq]
  generalize (lg_sl ([.ref h0, .int b, .int w]) ++ List.replicate (4 - (lg_sl ([.ref h0, .int b, .int w])).length) Slot.unset).toArray = ls at hl ⊢
  have hl : lv_has ls 4 [(0, .ref h0), (1, .int b), (2, .int w)] := hl
  have lm2 : ((-2) : Int32).toInt = -2 := by decide +kernel
  have lm1 : ((-1) : Int32).toInt = -1 := by decide +kernel
  have l0 : (0 : Int32).toInt = 0 := by decide +kernel
  refine lv_aload_n hx hb dX11_sit_0 rfl (lv_at hl 0 rfl) ?_
  refine lv_iload_n hx hb dX11_sit_1 rfl (lv_at hl 1 rfl) ?_
  have hP : va_P (gg_D G) classes ([] ++ ([(h0, .inr (11, [.ref tp, .ref ra1, .ref ra2, .ref ra3, .ref ra4, .ref ra5, .ref ra6, .ref ra7, .ref ra8, .ref ra9, .ref ra10, .ref ra11, .ref ra12, .int rc, .int fo, .int xx]))] ++ wt)) s.heap := hP
  have hD : va_D A ([] ++ ([(h0, .inr (11, [.ref tp, .ref ra1, .ref ra2, .ref ra3, .ref ra4, .ref ra5, .ref ra6, .ref ra7, .ref ra8, .ref ra9, .ref ra10, .ref ra11, .ref ra12, .int rc, .int fo, .int xx]))] ++ wt)) := hD
  refine gt_callI (wr := []) (va_runV (As := [.int b]) (rest := []) ⟨hx, hb, hml, hown, ht⟩ (d_isBidder l G Γ s.heap.size wt hT b tp h0 ra1 ra2 ra3 ra4 ra5 ra6 ra7 ra8 ra9 ra10 ra11 ra12 rc fo xx (by first | assumption | omega) (by first | assumption | omega) (by first | assumption | omega) (by first | assumption | omega) (by first | assumption | omega) (by first | assumption | omega) (by first | assumption | omega) (by first | assumption | omega) (by first | assumption | omega) (by first | assumption | omega) (by first | assumption | omega) (by first | assumption | omega) (by first | assumption | omega)) (cwV 1 ht (ts_gV wd_789 wd_791 wd_14 wd_122 wd_792) rfl rfl rfl (by decide +kernel) ⟨Nat.le_of_ble_eq_true rfl, Nat.le_of_ble_eq_true rfl⟩) (gc_preV (ci := 11) (q0 := 0) hK (tw_right hP) (tw_rightD hD) rfl rfl) rfl rfl hl.1 rfl (lv_room (Nat.le_of_ble_eq_true rfl)) dX11_sit_2 ⟨Nat.le_of_ble_eq_true rfl, Nat.le_of_ble_eq_true rfl⟩) hP hD hS hA (fun r_1 wt H locs hw hP hD hS => ?_)
  obtain ⟨hT, hkp, lo_r_1, hi_r_1, im_r_1⟩ := hw
  have hW := hW.call (show ∀ x ∈ [], x ∈ [301, 302, 709] by decide) hkp
  have hP : va_P (gg_D G) classes ([(h0, .inr (11, [.ref tp, .ref ra1, .ref ra2, .ref ra3, .ref ra4, .ref ra5, .ref ra6, .ref ra7, .ref ra8, .ref ra9, .ref ra10, .ref ra11, .ref ra12, .int rc, .int fo, .int xx]))] ++ wt) H := hP
  have hD : va_D A ([(h0, .inr (11, [.ref tp, .ref ra1, .ref ra2, .ref ra3, .ref ra4, .ref ra5, .ref ra6, .ref ra7, .ref ra8, .ref ra9, .ref ra10, .ref ra11, .ref ra12, .int rc, .int fo, .int xx]))] ++ wt) := hD
  refine lv_if_eq (tgt := 19) hx hb dX11_sit_5 (by decide) (fun c_2 => ?_) (fun c_2 => ?_)
  · rw [← Int32.toInt_inj] at c_2
    refine lv_bipush (v := (-2)) hx hb dX11_sit_19 (by decide +kernel) ?_
    have hP9 : va_P (gg_D G) classes ([(h0, .inr (11, [.ref tp, .ref ra1, .ref ra2, .ref ra3, .ref ra4, .ref ra5, .ref ra6, .ref ra7, .ref ra8, .ref ra9, .ref ra10, .ref ra11, .ref ra12, .int rc, .int fo, .int xx]))] ++ wt) _ := hP
    have hD9 : va_D A ([(h0, .inr (11, [.ref tp, .ref ra1, .ref ra2, .ref ra3, .ref ra4, .ref ra5, .ref ra6, .ref ra7, .ref ra8, .ref ra9, .ref ra10, .ref ra11, .ref ra12, .int rc, .int fo, .int xx]))] ++ wt) := hD
    exact W.iret (v := (-2)) hx hb hr (gq_endI wt ⟨hT, hW⟩ hP9 hD9 hS) hS.2.2 dX11_sit_21
  · have ic_2 := im_r_1 c_2
    rw [← Int32.toInt_inj] at c_2
    refine lv_aload_n hx hb dX11_sit_8 rfl (lv_at hl 0 rfl) ?_
    refine gq_get hx hb ht hown hK hP i_X11 0 rfl rfl 3 (by decide) wd_500 rfl rfl dX11_sit_9 ?_
    refine lv_iload_n hx hb dX11_sit_12 rfl (lv_at hl 1 rfl) ?_
    refine gt_callI (wr := [(h0, .inr (11, [.ref tp, .ref ra1, .ref ra2, .ref ra3, .ref ra4, .ref ra5, .ref ra6, .ref ra7, .ref ra8, .ref ra9, .ref ra10, .ref ra11, .ref ra12, .int rc, .int fo, .int xx]))]) (va_runV (As := [.int b]) (rest := []) ⟨hx, hb, hml, hown, ht⟩ (d_isSilent l G Γ H.size wt hT ra3 b kr3) (cwV 1 ht (ts_gV wd_793 wd_794 wd_795 wd_125 wd_796) rfl rfl rfl (by decide +kernel) ⟨Nat.le_of_ble_eq_true rfl, Nat.le_of_ble_eq_true rfl⟩) (gt_preW (ci := 7) hK hT (tw_right hP) (tw_rightD hD) kr3 (by decide) rfl) rfl rfl hl.1 rfl (lv_room (Nat.le_of_ble_eq_true rfl)) dX11_sit_13 ⟨Nat.le_of_ble_eq_true rfl, Nat.le_of_ble_eq_true rfl⟩) hP hD hS hA (fun r_3 wt H locs hw hP hD hS => ?_)
    obtain ⟨hT, hkp, lo_r_3, hi_r_3⟩ := hw
    have hW := hW.call (show ∀ x ∈ [], x ∈ [301, 302, 709] by decide) hkp
    have hP : va_P (gg_D G) classes ([(h0, .inr (11, [.ref tp, .ref ra1, .ref ra2, .ref ra3, .ref ra4, .ref ra5, .ref ra6, .ref ra7, .ref ra8, .ref ra9, .ref ra10, .ref ra11, .ref ra12, .int rc, .int fo, .int xx]))] ++ wt) H := hP
    have hD : va_D A ([(h0, .inr (11, [.ref tp, .ref ra1, .ref ra2, .ref ra3, .ref ra4, .ref ra5, .ref ra6, .ref ra7, .ref ra8, .ref ra9, .ref ra10, .ref ra11, .ref ra12, .int rc, .int fo, .int xx]))] ++ wt) := hD
    refine lv_if_eq (tgt := 22) hx hb dX11_sit_16 (by decide) (fun c_4 => ?_) (fun c_4 => ?_)
    · rw [← Int32.toInt_inj] at c_4
      refine lv_aload_n hx hb dX11_sit_22 rfl (lv_at hl 0 rfl) ?_
      refine gq_get hx hb ht hown hK hP i_X11 0 rfl rfl 3 (by decide) wd_500 rfl rfl dX11_sit_23 ?_
      refine tr_get (ci := 7) hx hb ht hown hK hT hP kr3 (by decide) i_X7 rfl 2 (by decide) wd_242 rfl dX11_sit_26 (fun v hv hf_5 => ?_)
      obtain ⟨q_6, rfl, hq_6⟩ := hv
      refine lv_iload_n hx hb dX11_sit_29 rfl (lv_at hl 1 rfl) ?_
      refine tr_iald hx hb hK hT hP 20 hq_6 (by decide) (by decide) (show vp_in _ (tk_len 20) from ia_in (n := 5) (by omega) (by omega)) dX11_sit_30 (fun n_7 hn_7 => ?_)
      clear hn_7
      refine lv_istore_n (lv' := [(3, .int n_7), (0, .ref h0), (1, .int b), (2, .int w)]) hx hb dX11_sit_31 rfl hl (by decide) rfl (fun ls hl => ?_)
      refine lv_iload_n hx hb dX11_sit_32 rfl (lv_at hl 3 rfl) ?_
      refine lv_iconst (v := (-1)) hx hb dX11_sit_33 (by decide +kernel) ?_
      refine lv_icmp_eq (tgt := 65) hx hb dX11_sit_34 (by decide) (fun c_8 => ?_) (fun c_8 => ?_)
      · rw [← Int32.toInt_inj] at c_8
        refine lv_aload_n hx hb dX11_sit_65 rfl (lv_at hl 1 rfl) ?_
        refine gq_get hx hb ht hown hK hP i_X11 0 rfl rfl 5 (by decide) wd_502 rfl rfl dX11_sit_66 ?_
        refine lv_aload_n hx hb dX11_sit_69 rfl (lv_at hl 1 rfl) ?_
        refine gq_get hx hb ht hown hK hP i_X11 0 rfl rfl 3 (by decide) wd_500 rfl rfl dX11_sit_70 ?_
        refine gt_callV (wr := [(h0, .inr (11, [.ref tp, .ref ra1, .ref ra2, .ref ra3, .ref ra4, .ref ra5, .ref ra6, .ref ra7, .ref ra8, .ref ra9, .ref ra10, .ref ra11, .ref ra12, .int rc, .int fo, .int xx]))]) (va_runV (As := [.ref ra3]) (rest := []) ⟨hx, hb, hml, hown, ht⟩ (d_P_keep l G Γ H.size wt hT ra5 ra3 kr5 kr3) (cwV 1 ht (ts_gV wd_858 wd_859 wd_860 wd_126 wd_861) rfl rfl rfl (by decide +kernel) ⟨Nat.le_of_ble_eq_true rfl, Nat.le_of_ble_eq_true rfl⟩) (gt_preW (ci := 3) hK hT (tw_right hP) (tw_rightD hD) kr5 (by decide) rfl) rfl rfl hl.1 rfl (lv_room (Nat.le_of_ble_eq_true rfl)) dX11_sit_73 ⟨Nat.le_of_ble_eq_true rfl, Nat.le_of_ble_eq_true rfl⟩) hP hD hS hA (fun wt H locs hw hP hD hS => ?_)
        obtain ⟨hT, hkp⟩ := hw
        have hW := hW.call (show ∀ x ∈ [301, 302, 709], x ∈ [301, 302, 709] by decide) hkp
        have hP : va_P (gg_D G) classes ([(h0, .inr (11, [.ref tp, .ref ra1, .ref ra2, .ref ra3, .ref ra4, .ref ra5, .ref ra6, .ref ra7, .ref ra8, .ref ra9, .ref ra10, .ref ra11, .ref ra12, .int rc, .int fo, .int xx]))] ++ wt) H := hP
        have hD : va_D A ([(h0, .inr (11, [.ref tp, .ref ra1, .ref ra2, .ref ra3, .ref ra4, .ref ra5, .ref ra6, .ref ra7, .ref ra8, .ref ra9, .ref ra10, .ref ra11, .ref ra12, .int rc, .int fo, .int xx]))] ++ wt) := hD
        refine lv_aload_n hx hb dX11_sit_76 rfl (lv_at hl 1 rfl) ?_
        refine gq_get hx hb ht hown hK hP i_X11 0 rfl rfl 3 (by decide) wd_500 rfl rfl dX11_sit_77 ?_
        refine tr_get (ci := 7) hx hb ht hown hK hT hP kr3 (by decide) i_X7 rfl 2 (by decide) wd_242 rfl dX11_sit_80 (fun v hv hf_9 => ?_)
        obtain ⟨q_10, rfl, hq_10⟩ := hv
        refine lv_iload_n hx hb dX11_sit_83 rfl (lv_at hl 2 rfl) ?_
        refine lv_iload_n hx hb dX11_sit_84 rfl (lv_at hl 3 rfl) ?_
        refine tr_iast hx hb hK hT hP hD hS 20 hq_10 (by decide) (by decide) (show vp_in _ (tk_len 20) from ia_in (n := 5) (by omega) (by omega)) (show tk_e 20 _ from trivial) dX11_sit_85 (fun H locs wt hT hfl hP hD hS => ?_)
        have hW := hW.arr hfl
        refine lv_iload_n hx hb dX11_sit_86 rfl (lv_at hl 0 rfl) ?_
        have hP9 : va_P (gg_D G) classes ([(h0, .inr (11, [.ref tp, .ref ra1, .ref ra2, .ref ra3, .ref ra4, .ref ra5, .ref ra6, .ref ra7, .ref ra8, .ref ra9, .ref ra10, .ref ra11, .ref ra12, .int rc, .int fo, .int xx]))] ++ wt) _ := hP
        have hD9 : va_D A ([(h0, .inr (11, [.ref tp, .ref ra1, .ref ra2, .ref ra3, .ref ra4, .ref ra5, .ref ra6, .ref ra7, .ref ra8, .ref ra9, .ref ra10, .ref ra11, .ref ra12, .int rc, .int fo, .int xx]))] ++ wt) := hD
        exact W.iret (v := n_7) hx hb hr (gq_endI wt ⟨hT, hW⟩ hP9 hD9 hS) hS.2.2 dX11_sit_87
      · rw [← Int32.toInt_inj] at c_8
        refine lv_aload_n hx hb dX11_sit_37 rfl (lv_at hl 1 rfl) ?_
        refine lv_iload_n hx hb dX11_sit_38 rfl (lv_at hl 3 rfl) ?_
        have hP : va_P (gg_D G) classes ([] ++ ([(h0, .inr (11, [.ref tp, .ref ra1, .ref ra2, .ref ra3, .ref ra4, .ref ra5, .ref ra6, .ref ra7, .ref ra8, .ref ra9, .ref ra10, .ref ra11, .ref ra12, .int rc, .int fo, .int xx]))] ++ wt)) H := hP
        have hD : va_D A ([] ++ ([(h0, .inr (11, [.ref tp, .ref ra1, .ref ra2, .ref ra3, .ref ra4, .ref ra5, .ref ra6, .ref ra7, .ref ra8, .ref ra9, .ref ra10, .ref ra11, .ref ra12, .int rc, .int fo, .int xx]))] ++ wt)) := hD
        refine gt_callI (wr := []) (va_runV (As := [.int w]) (rest := []) ⟨hx, hb, hml, hown, ht⟩ (d_isLot l G Γ H.size wt hT w tp h0 ra1 ra2 ra3 ra4 ra5 ra6 ra7 ra8 ra9 ra10 ra11 ra12 rc fo xx (by first | assumption | omega) (by first | assumption | omega) (by first | assumption | omega) (by first | assumption | omega) (by first | assumption | omega) (by first | assumption | omega) (by first | assumption | omega) (by first | assumption | omega) (by first | assumption | omega) (by first | assumption | omega) (by first | assumption | omega) (by first | assumption | omega) (by first | assumption | omega)) (cwV 1 ht (ts_gV wd_820 wd_822 wd_15 wd_122 wd_823) rfl rfl rfl (by decide +kernel) ⟨Nat.le_of_ble_eq_true rfl, Nat.le_of_ble_eq_true rfl⟩) (gc_preV (ci := 11) (q0 := 0) hK (tw_right hP) (tw_rightD hD) rfl rfl) rfl rfl hl.1 rfl (lv_room (Nat.le_of_ble_eq_true rfl)) dX11_sit_39 ⟨Nat.le_of_ble_eq_true rfl, Nat.le_of_ble_eq_true rfl⟩) hP hD hS hA (fun r_11 wt H locs hw hP hD hS => ?_)
        obtain ⟨hT, hkp, lo_r_11, hi_r_11, im_r_11⟩ := hw
        have hW := hW.call (show ∀ x ∈ [], x ∈ [301, 302, 709] by decide) hkp
        have hP : va_P (gg_D G) classes ([(h0, .inr (11, [.ref tp, .ref ra1, .ref ra2, .ref ra3, .ref ra4, .ref ra5, .ref ra6, .ref ra7, .ref ra8, .ref ra9, .ref ra10, .ref ra11, .ref ra12, .int rc, .int fo, .int xx]))] ++ wt) H := hP
        have hD : va_D A ([(h0, .inr (11, [.ref tp, .ref ra1, .ref ra2, .ref ra3, .ref ra4, .ref ra5, .ref ra6, .ref ra7, .ref ra8, .ref ra9, .ref ra10, .ref ra11, .ref ra12, .int rc, .int fo, .int xx]))] ++ wt) := hD
        refine lv_if_eq (tgt := 62) hx hb dX11_sit_42 (by decide) (fun c_12 => ?_) (fun c_12 => ?_)
        · rw [← Int32.toInt_inj] at c_12
          refine lv_bipush (v := (-2)) hx hb dX11_sit_62 (by decide +kernel) ?_
          have hP9 : va_P (gg_D G) classes ([(h0, .inr (11, [.ref tp, .ref ra1, .ref ra2, .ref ra3, .ref ra4, .ref ra5, .ref ra6, .ref ra7, .ref ra8, .ref ra9, .ref ra10, .ref ra11, .ref ra12, .int rc, .int fo, .int xx]))] ++ wt) _ := hP
          have hD9 : va_D A ([(h0, .inr (11, [.ref tp, .ref ra1, .ref ra2, .ref ra3, .ref ra4, .ref ra5, .ref ra6, .ref ra7, .ref ra8, .ref ra9, .ref ra10, .ref ra11, .ref ra12, .int rc, .int fo, .int xx]))] ++ wt) := hD
          exact W.iret (v := (-2)) hx hb hr (gq_endI wt ⟨hT, hW⟩ hP9 hD9 hS) hS.2.2 dX11_sit_64
        · have ic_12 := im_r_11 c_12
          rw [← Int32.toInt_inj] at c_12
          refine lv_iload_n hx hb dX11_sit_45 rfl (lv_at hl 3 rfl) ?_
          refine lv_iload_n hx hb dX11_sit_46 rfl (lv_at hl 0 rfl) ?_
          refine lv_icmp_eq (tgt := 62) hx hb dX11_sit_47 (by decide) (fun c_13 => ?_) (fun c_13 => ?_)
          · rw [← Int32.toInt_inj] at c_13
            refine lv_bipush (v := (-2)) hx hb dX11_sit_62 (by decide +kernel) ?_
            have hP9 : va_P (gg_D G) classes ([(h0, .inr (11, [.ref tp, .ref ra1, .ref ra2, .ref ra3, .ref ra4, .ref ra5, .ref ra6, .ref ra7, .ref ra8, .ref ra9, .ref ra10, .ref ra11, .ref ra12, .int rc, .int fo, .int xx]))] ++ wt) _ := hP
            have hD9 : va_D A ([(h0, .inr (11, [.ref tp, .ref ra1, .ref ra2, .ref ra3, .ref ra4, .ref ra5, .ref ra6, .ref ra7, .ref ra8, .ref ra9, .ref ra10, .ref ra11, .ref ra12, .int rc, .int fo, .int xx]))] ++ wt) := hD
            exact W.iret (v := (-2)) hx hb hr (gq_endI wt ⟨hT, hW⟩ hP9 hD9 hS) hS.2.2 dX11_sit_64
          · rw [← Int32.toInt_inj] at c_13
            refine lv_aload_n hx hb dX11_sit_50 rfl (lv_at hl 1 rfl) ?_
            refine gq_get hx hb ht hown hK hP i_X11 0 rfl rfl 3 (by decide) wd_500 rfl rfl dX11_sit_51 ?_
            refine tr_get (ci := 7) hx hb ht hown hK hT hP kr3 (by decide) i_X7 rfl 4 (by decide) wd_249 rfl dX11_sit_54 (fun v hv hf_14 => ?_)
            obtain ⟨q_15, rfl, hq_15⟩ := hv
            refine lv_iload_n hx hb dX11_sit_57 rfl (lv_at hl 3 rfl) ?_
            refine tr_iald hx hb hK hT hP 21 hq_15 (by decide) (by decide) (show vp_in _ (tk_len 21) from ia_in (n := 3) (by omega) (by omega)) dX11_sit_58 (fun n_16 hn_16 => ?_)
            clear hn_16
            refine lv_if_eq (tgt := 65) hx hb dX11_sit_59 (by decide) (fun c_17 => ?_) (fun c_17 => ?_)
            · rw [← Int32.toInt_inj] at c_17
              refine lv_aload_n hx hb dX11_sit_65 rfl (lv_at hl 1 rfl) ?_
              refine gq_get hx hb ht hown hK hP i_X11 0 rfl rfl 5 (by decide) wd_502 rfl rfl dX11_sit_66 ?_
              refine lv_aload_n hx hb dX11_sit_69 rfl (lv_at hl 1 rfl) ?_
              refine gq_get hx hb ht hown hK hP i_X11 0 rfl rfl 3 (by decide) wd_500 rfl rfl dX11_sit_70 ?_
              refine gt_callV (wr := [(h0, .inr (11, [.ref tp, .ref ra1, .ref ra2, .ref ra3, .ref ra4, .ref ra5, .ref ra6, .ref ra7, .ref ra8, .ref ra9, .ref ra10, .ref ra11, .ref ra12, .int rc, .int fo, .int xx]))]) (va_runV (As := [.ref ra3]) (rest := []) ⟨hx, hb, hml, hown, ht⟩ (d_P_keep l G Γ H.size wt hT ra5 ra3 kr5 kr3) (cwV 1 ht (ts_gV wd_858 wd_859 wd_860 wd_126 wd_861) rfl rfl rfl (by decide +kernel) ⟨Nat.le_of_ble_eq_true rfl, Nat.le_of_ble_eq_true rfl⟩) (gt_preW (ci := 3) hK hT (tw_right hP) (tw_rightD hD) kr5 (by decide) rfl) rfl rfl hl.1 rfl (lv_room (Nat.le_of_ble_eq_true rfl)) dX11_sit_73 ⟨Nat.le_of_ble_eq_true rfl, Nat.le_of_ble_eq_true rfl⟩) hP hD hS hA (fun wt H locs hw hP hD hS => ?_)
              obtain ⟨hT, hkp⟩ := hw
              have hW := hW.call (show ∀ x ∈ [301, 302, 709], x ∈ [301, 302, 709] by decide) hkp
              have hP : va_P (gg_D G) classes ([(h0, .inr (11, [.ref tp, .ref ra1, .ref ra2, .ref ra3, .ref ra4, .ref ra5, .ref ra6, .ref ra7, .ref ra8, .ref ra9, .ref ra10, .ref ra11, .ref ra12, .int rc, .int fo, .int xx]))] ++ wt) H := hP
              have hD : va_D A ([(h0, .inr (11, [.ref tp, .ref ra1, .ref ra2, .ref ra3, .ref ra4, .ref ra5, .ref ra6, .ref ra7, .ref ra8, .ref ra9, .ref ra10, .ref ra11, .ref ra12, .int rc, .int fo, .int xx]))] ++ wt) := hD
              refine lv_aload_n hx hb dX11_sit_76 rfl (lv_at hl 1 rfl) ?_
              refine gq_get hx hb ht hown hK hP i_X11 0 rfl rfl 3 (by decide) wd_500 rfl rfl dX11_sit_77 ?_
              refine tr_get (ci := 7) hx hb ht hown hK hT hP kr3 (by decide) i_X7 rfl 2 (by decide) wd_242 rfl dX11_sit_80 (fun v hv hf_18 => ?_)
              obtain ⟨q_19, rfl, hq_19⟩ := hv
              refine lv_iload_n hx hb dX11_sit_83 rfl (lv_at hl 2 rfl) ?_
              refine lv_iload_n hx hb dX11_sit_84 rfl (lv_at hl 3 rfl) ?_
              refine tr_iast hx hb hK hT hP hD hS 20 hq_19 (by decide) (by decide) (show vp_in _ (tk_len 20) from ia_in (n := 5) (by omega) (by omega)) (show tk_e 20 _ from trivial) dX11_sit_85 (fun H locs wt hT hfl hP hD hS => ?_)
              have hW := hW.arr hfl
              refine lv_iload_n hx hb dX11_sit_86 rfl (lv_at hl 0 rfl) ?_
              have hP9 : va_P (gg_D G) classes ([(h0, .inr (11, [.ref tp, .ref ra1, .ref ra2, .ref ra3, .ref ra4, .ref ra5, .ref ra6, .ref ra7, .ref ra8, .ref ra9, .ref ra10, .ref ra11, .ref ra12, .int rc, .int fo, .int xx]))] ++ wt) _ := hP
              have hD9 : va_D A ([(h0, .inr (11, [.ref tp, .ref ra1, .ref ra2, .ref ra3, .ref ra4, .ref ra5, .ref ra6, .ref ra7, .ref ra8, .ref ra9, .ref ra10, .ref ra11, .ref ra12, .int rc, .int fo, .int xx]))] ++ wt) := hD
              exact W.iret (v := n_7) hx hb hr (gq_endI wt ⟨hT, hW⟩ hP9 hD9 hS) hS.2.2 dX11_sit_87
            · rw [← Int32.toInt_inj] at c_17
              refine lv_bipush (v := (-2)) hx hb dX11_sit_62 (by decide +kernel) ?_
              have hP9 : va_P (gg_D G) classes ([(h0, .inr (11, [.ref tp, .ref ra1, .ref ra2, .ref ra3, .ref ra4, .ref ra5, .ref ra6, .ref ra7, .ref ra8, .ref ra9, .ref ra10, .ref ra11, .ref ra12, .int rc, .int fo, .int xx]))] ++ wt) _ := hP
              have hD9 : va_D A ([(h0, .inr (11, [.ref tp, .ref ra1, .ref ra2, .ref ra3, .ref ra4, .ref ra5, .ref ra6, .ref ra7, .ref ra8, .ref ra9, .ref ra10, .ref ra11, .ref ra12, .int rc, .int fo, .int xx]))] ++ wt) := hD
              exact W.iret (v := (-2)) hx hb hr (gq_endI wt ⟨hT, hW⟩ hP9 hD9 hS) hS.2.2 dX11_sit_64
    · rw [← Int32.toInt_inj] at c_4
      refine lv_bipush (v := (-2)) hx hb dX11_sit_19 (by decide +kernel) ?_
      have hP9 : va_P (gg_D G) classes ([(h0, .inr (11, [.ref tp, .ref ra1, .ref ra2, .ref ra3, .ref ra4, .ref ra5, .ref ra6, .ref ra7, .ref ra8, .ref ra9, .ref ra10, .ref ra11, .ref ra12, .int rc, .int fo, .int xx]))] ++ wt) _ := hP
      have hD9 : va_D A ([(h0, .inr (11, [.ref tp, .ref ra1, .ref ra2, .ref ra3, .ref ra4, .ref ra5, .ref ra6, .ref ra7, .ref ra8, .ref ra9, .ref ra10, .ref ra11, .ref ra12, .int rc, .int fo, .int xx]))] ++ wt) := hD
      exact W.iret (v := (-2)) hx hb hr (gq_endI wt ⟨hT, hW⟩ hP9 hD9 hS) hS.2.2 dX11_sit_21
set_option maxHeartbeats 4000000 in
set_option maxRecDepth 100000 in
theorem d_bell (l : Launch) (G : gg_T) (Γ : Nat → Nat) (sz : Nat) (wt : va_W) (hT : tk_ty G Γ wt) (b : Int32) (tp : Nat) (h0 : Nat) (ra1 : Nat) (ra2 : Nat) (ra3 : Nat) (ra4 : Nat) (ra5 : Nat) (ra6 : Nat) (ra7 : Nat) (ra8 : Nat) (ra9 : Nat) (ra10 : Nat) (ra11 : Nat) (ra12 : Nat) (rc : Int32) (fo : Int32) (xx : Int32) (kr1 : Γ ra1 = 10) (kr2 : Γ ra2 = 10) (kr3 : Γ ra3 = 8) (kr4 : Γ ra4 = 8) (kr5 : Γ ra5 = 4) (kr6 : Γ ra6 = 3) (kr7 : Γ ra7 = 41) (kr9 : Γ ra9 = 1) (kr10 : Γ ra10 = 6) (kr11 : Γ ra11 = 11) (kr12 : Γ ra12 = 7) (xr1 : 0 ≤ rc.toInt) (xr2 : rc.toInt ≤ 6) : Met l yX11_bell (ts_L yX11_bell cX11_bell 2 (some .int)) ({ frames := 3, cells := 0, slots := 0, locals := 82 }) (gc_P G ([(h0, .inr (11, [.ref tp, .ref ra1, .ref ra2, .ref ra3, .ref ra4, .ref ra5, .ref ra6, .ref ra7, .ref ra8, .ref ra9, .ref ra10, .ref ra11, .ref ra12, .int rc, .int fo, .int xx]))] ++ wt) sz [.ref h0, .int b]) (gc_I G (va_A ([(h0, .inr (11, [.ref tp, .ref ra1, .ref ra2, .ref ra3, .ref ra4, .ref ra5, .ref ra6, .ref ra7, .ref ra8, .ref ra9, .ref ra10, .ref ra11, .ref ra12, .int rc, .int fo, .int xx]))] ++ wt) sz) (fun r (u : va_W) => match u with | wt1 => tk_ty G Γ wt1 ∧ tk_kp [301, 302, 709] wt wt1) (fun (u : va_W) => match u with | wt1 => [(h0, .inr (11, [.ref tp, .ref ra1, .ref ra2, .ref ra3, .ref ra4, .ref ra5, .ref ra6, .ref ra7, .ref ra8, .ref ra9, .ref ra10, .ref ra11, .ref ra12, .int rc, .int fo, .int xx]))] ++ wt1)) 0 0 (va_A ([(h0, .inr (11, [.ref tp, .ref ra1, .ref ra2, .ref ra3, .ref ra4, .ref ra5, .ref ra6, .ref ra7, .ref ra8, .ref ra9, .ref ra10, .ref ra11, .ref ra12, .int rc, .int fo, .int xx]))] ++ wt) sz) := by
  refine Met.ofW (cc := cX11_bell) (maxL := 2) (ret := (some .int)) (by decide) rfl ?_
  intro p e s m args below meth c s₁ B hml hv
  obtain ⟨rfl, hsz, hP, hK, hD0⟩ := hv
  have hx := B.exec
  have hb := B.bytes
  have hr := B.returns
  have ht := ts_ht (atoms_spec (ws := ts_L yX11_bell cX11_bell 2 (some .int)) B.pre)
  have hown : s.vm.findClass RX11 = some m.cls := findClass_of_methodNamed B.named
  have hlocks := B.notSynchronized
  subst hsz
  have hD := hD0.self (sz := s.heap.size)
  generalize hAe : va_A ([(h0, .inr (11, [.ref tp, .ref ra1, .ref ra2, .ref ra3, .ref ra4, .ref ra5, .ref ra6, .ref ra7, .ref ra8, .ref ra9, .ref ra10, .ref ra11, .ref ra12, .int rc, .int fo, .int xx]))] ++ wt) s.heap.size = A at hD ⊢
  have hA : ∀ q : Nat, s.heap.size ≤ q → A q := fun q h => by rw [← hAe]; exact Or.inr h
  clear hAe hD0
  have hS : va_S A s.heap s.heap [] := va_S.rf
  obtain ⟨w0, hw0⟩ : ∃ z, z = wt := ⟨_, rfl⟩
  have hW : tk_kp [301, 302, 709] w0 wt := by rw [hw0]; exact tk_kp.rf
  rw [← hw0]
  clear hw0
  have hP : va_P (gg_D G) classes ([(h0, .inr (11, [.ref tp, .ref ra1, .ref ra2, .ref ra3, .ref ra4, .ref ra5, .ref ra6, .ref ra7, .ref ra8, .ref ra9, .ref ra10, .ref ra11, .ref ra12, .int rc, .int fo, .int xx]))] ++ wt) s.heap := hP
  have hD : va_D A ([(h0, .inr (11, [.ref tp, .ref ra1, .ref ra2, .ref ra3, .ref ra4, .ref ra5, .ref ra6, .ref ra7, .ref ra8, .ref ra9, .ref ra10, .ref ra11, .ref ra12, .int rc, .int fo, .int xx]))] ++ wt) := hD
  have hl := lv_entry ([.ref h0, .int b]) (n := 2) (Nat.le_of_ble_eq_true rfl)
  rw [lg_entry_eq]
  generalize (lg_sl ([.ref h0, .int b]) ++ List.replicate (2 - (lg_sl ([.ref h0, .int b])).length) Slot.unset).toArray = ls at hl ⊢
  have hl : lv_has ls 2 [(0, .ref h0), (1, .int b)] := hl
  have lm1 : ((-1) : Int32).toInt = -1 := by decide +kernel
  have l0 : (0 : Int32).toInt = 0 := by decide +kernel
  refine lv_aload_n hx hb dX11_bell_0 rfl (lv_at hl 0 rfl) ?_
  refine lv_iload_n hx hb dX11_bell_1 rfl (lv_at hl 1 rfl) ?_
  have hP : va_P (gg_D G) classes ([] ++ ([(h0, .inr (11, [.ref tp, .ref ra1, .ref ra2, .ref ra3, .ref ra4, .ref ra5, .ref ra6, .ref ra7, .ref ra8, .ref ra9, .ref ra10, .ref ra11, .ref ra12, .int rc, .int fo, .int xx]))] ++ wt)) s.heap := hP
  have hD : va_D A ([] ++ ([(h0, .inr (11, [.ref tp, .ref ra1, .ref ra2, .ref ra3, .ref ra4, .ref ra5, .ref ra6, .ref ra7, .ref ra8, .ref ra9, .ref ra10, .ref ra11, .ref ra12, .int rc, .int fo, .int xx]))] ++ wt)) := hD
  refine gt_callI (wr := []) (va_runV (As := [.int b]) (rest := []) ⟨hx, hb, hml, hown, ht⟩ (d_isLot l G Γ s.heap.size wt hT b tp h0 ra1 ra2 ra3 ra4 ra5 ra6 ra7 ra8 ra9 ra10 ra11 ra12 rc fo xx (by first | assumption | omega) (by first | assumption | omega) (by first | assumption | omega) (by first | assumption | omega) (by first | assumption | omega) (by first | assumption | omega) (by first | assumption | omega) (by first | assumption | omega) (by first | assumption | omega) (by first | assumption | omega) (by first | assumption | omega) (by first | assumption | omega) (by first | assumption | omega)) (cwV 1 ht (ts_gV wd_820 wd_822 wd_15 wd_122 wd_823) rfl rfl rfl (by decide +kernel) ⟨Nat.le_of_ble_eq_true rfl, Nat.le_of_ble_eq_true rfl⟩) (gc_preV (ci := 11) (q0 := 0) hK (tw_right hP) (tw_rightD hD) rfl rfl) rfl rfl hl.1 rfl (lv_room (Nat.le_of_ble_eq_true rfl)) dX11_bell_2 ⟨Nat.le_of_ble_eq_true rfl, Nat.le_of_ble_eq_true rfl⟩) hP hD hS hA (fun r_1 wt H locs hw hP hD hS => ?_)
  obtain ⟨hT, hkp, lo_r_1, hi_r_1, im_r_1⟩ := hw
  have hW := hW.call (show ∀ x ∈ [], x ∈ [301, 302, 709] by decide) hkp
  have hP : va_P (gg_D G) classes ([(h0, .inr (11, [.ref tp, .ref ra1, .ref ra2, .ref ra3, .ref ra4, .ref ra5, .ref ra6, .ref ra7, .ref ra8, .ref ra9, .ref ra10, .ref ra11, .ref ra12, .int rc, .int fo, .int xx]))] ++ wt) H := hP
  have hD : va_D A ([(h0, .inr (11, [.ref tp, .ref ra1, .ref ra2, .ref ra3, .ref ra4, .ref ra5, .ref ra6, .ref ra7, .ref ra8, .ref ra9, .ref ra10, .ref ra11, .ref ra12, .int rc, .int fo, .int xx]))] ++ wt) := hD
  refine lv_if_eq (tgt := 31) hx hb dX11_bell_5 (by decide) (fun c_2 => ?_) (fun c_2 => ?_)
  · rw [← Int32.toInt_inj] at c_2
    refine lv_iconst (v := (-1)) hx hb dX11_bell_31 (by decide +kernel) ?_
    have hP9 : va_P (gg_D G) classes ([(h0, .inr (11, [.ref tp, .ref ra1, .ref ra2, .ref ra3, .ref ra4, .ref ra5, .ref ra6, .ref ra7, .ref ra8, .ref ra9, .ref ra10, .ref ra11, .ref ra12, .int rc, .int fo, .int xx]))] ++ wt) _ := hP
    have hD9 : va_D A ([(h0, .inr (11, [.ref tp, .ref ra1, .ref ra2, .ref ra3, .ref ra4, .ref ra5, .ref ra6, .ref ra7, .ref ra8, .ref ra9, .ref ra10, .ref ra11, .ref ra12, .int rc, .int fo, .int xx]))] ++ wt) := hD
    exact W.iret (v := (-1)) hx hb hr (gq_endI wt ⟨hT, hW⟩ hP9 hD9 hS) hS.2.2 dX11_bell_32
  · have ic_2 := im_r_1 c_2
    rw [← Int32.toInt_inj] at c_2
    refine lv_aload_n hx hb dX11_bell_8 rfl (lv_at hl 0 rfl) ?_
    refine gq_get hx hb ht hown hK hP i_X11 0 rfl rfl 3 (by decide) wd_500 rfl rfl dX11_bell_9 ?_
    refine tr_get (ci := 7) hx hb ht hown hK hT hP kr3 (by decide) i_X7 rfl 4 (by decide) wd_249 rfl dX11_bell_12 (fun v hv hf_3 => ?_)
    obtain ⟨q_4, rfl, hq_4⟩ := hv
    refine lv_iload_n hx hb dX11_bell_15 rfl (lv_at hl 1 rfl) ?_
    refine tr_iald hx hb hK hT hP 21 hq_4 (by decide) (by decide) (show vp_in _ (tk_len 21) from ia_in (n := 3) (by omega) (by omega)) dX11_bell_16 (fun n_5 hn_5 => ?_)
    clear hn_5
    refine lv_if_ne (tgt := 31) hx hb dX11_bell_17 (by decide) (fun c_6 => ?_) (fun c_6 => ?_)
    · rw [← Int32.toInt_inj] at c_6
      refine lv_iconst (v := (-1)) hx hb dX11_bell_31 (by decide +kernel) ?_
      have hP9 : va_P (gg_D G) classes ([(h0, .inr (11, [.ref tp, .ref ra1, .ref ra2, .ref ra3, .ref ra4, .ref ra5, .ref ra6, .ref ra7, .ref ra8, .ref ra9, .ref ra10, .ref ra11, .ref ra12, .int rc, .int fo, .int xx]))] ++ wt) _ := hP
      have hD9 : va_D A ([(h0, .inr (11, [.ref tp, .ref ra1, .ref ra2, .ref ra3, .ref ra4, .ref ra5, .ref ra6, .ref ra7, .ref ra8, .ref ra9, .ref ra10, .ref ra11, .ref ra12, .int rc, .int fo, .int xx]))] ++ wt) := hD
      exact W.iret (v := (-1)) hx hb hr (gq_endI wt ⟨hT, hW⟩ hP9 hD9 hS) hS.2.2 dX11_bell_32
    · rw [← Int32.toInt_inj] at c_6
      refine lv_aload_n hx hb dX11_bell_20 rfl (lv_at hl 0 rfl) ?_
      refine gq_get hx hb ht hown hK hP i_X11 0 rfl rfl 3 (by decide) wd_500 rfl rfl dX11_bell_21 ?_
      refine lv_iload_n hx hb dX11_bell_24 rfl (lv_at hl 1 rfl) ?_
      refine gt_callI (wr := [(h0, .inr (11, [.ref tp, .ref ra1, .ref ra2, .ref ra3, .ref ra4, .ref ra5, .ref ra6, .ref ra7, .ref ra8, .ref ra9, .ref ra10, .ref ra11, .ref ra12, .int rc, .int fo, .int xx]))]) (va_runV (As := [.int b]) (rest := []) ⟨hx, hb, hml, hown, ht⟩ (d_sittersOf l G Γ H.size wt hT ra3 b kr3) (cwV 1 ht (ts_gV wd_824 wd_825 wd_826 wd_125 wd_827) rfl rfl rfl (by decide +kernel) ⟨Nat.le_of_ble_eq_true rfl, Nat.le_of_ble_eq_true rfl⟩) (gt_preW (ci := 7) hK hT (tw_right hP) (tw_rightD hD) kr3 (by decide) rfl) rfl rfl hl.1 rfl (lv_room (Nat.le_of_ble_eq_true rfl)) dX11_bell_25 ⟨Nat.le_of_ble_eq_true rfl, Nat.le_of_ble_eq_true rfl⟩) hP hD hS hA (fun r_7 wt H locs hw hP hD hS => ?_)
      obtain ⟨hT, hkp, lo_r_7, hi_r_7⟩ := hw
      have hW := hW.call (show ∀ x ∈ [], x ∈ [301, 302, 709] by decide) hkp
      have hP : va_P (gg_D G) classes ([(h0, .inr (11, [.ref tp, .ref ra1, .ref ra2, .ref ra3, .ref ra4, .ref ra5, .ref ra6, .ref ra7, .ref ra8, .ref ra9, .ref ra10, .ref ra11, .ref ra12, .int rc, .int fo, .int xx]))] ++ wt) H := hP
      have hD : va_D A ([(h0, .inr (11, [.ref tp, .ref ra1, .ref ra2, .ref ra3, .ref ra4, .ref ra5, .ref ra6, .ref ra7, .ref ra8, .ref ra9, .ref ra10, .ref ra11, .ref ra12, .int rc, .int fo, .int xx]))] ++ wt) := hD
      refine lv_if_ne (tgt := 33) hx hb dX11_bell_28 (by decide) (fun c_8 => ?_) (fun c_8 => ?_)
      · rw [← Int32.toInt_inj] at c_8
        refine lv_aload_n hx hb dX11_bell_33 rfl (lv_at hl 0 rfl) ?_
        refine gq_get hx hb ht hown hK hP i_X11 0 rfl rfl 5 (by decide) wd_502 rfl rfl dX11_bell_34 ?_
        refine lv_aload_n hx hb dX11_bell_37 rfl (lv_at hl 0 rfl) ?_
        refine gq_get hx hb ht hown hK hP i_X11 0 rfl rfl 3 (by decide) wd_500 rfl rfl dX11_bell_38 ?_
        refine gt_callV (wr := [(h0, .inr (11, [.ref tp, .ref ra1, .ref ra2, .ref ra3, .ref ra4, .ref ra5, .ref ra6, .ref ra7, .ref ra8, .ref ra9, .ref ra10, .ref ra11, .ref ra12, .int rc, .int fo, .int xx]))]) (va_runV (As := [.ref ra3]) (rest := []) ⟨hx, hb, hml, hown, ht⟩ (d_P_keep l G Γ H.size wt hT ra5 ra3 kr5 kr3) (cwV 1 ht (ts_gV wd_858 wd_859 wd_860 wd_126 wd_861) rfl rfl rfl (by decide +kernel) ⟨Nat.le_of_ble_eq_true rfl, Nat.le_of_ble_eq_true rfl⟩) (gt_preW (ci := 3) hK hT (tw_right hP) (tw_rightD hD) kr5 (by decide) rfl) rfl rfl hl.1 rfl (lv_room (Nat.le_of_ble_eq_true rfl)) dX11_bell_41 ⟨Nat.le_of_ble_eq_true rfl, Nat.le_of_ble_eq_true rfl⟩) hP hD hS hA (fun wt H locs hw hP hD hS => ?_)
        obtain ⟨hT, hkp⟩ := hw
        have hW := hW.call (show ∀ x ∈ [301, 302, 709], x ∈ [301, 302, 709] by decide) hkp
        have hP : va_P (gg_D G) classes ([(h0, .inr (11, [.ref tp, .ref ra1, .ref ra2, .ref ra3, .ref ra4, .ref ra5, .ref ra6, .ref ra7, .ref ra8, .ref ra9, .ref ra10, .ref ra11, .ref ra12, .int rc, .int fo, .int xx]))] ++ wt) H := hP
        have hD : va_D A ([(h0, .inr (11, [.ref tp, .ref ra1, .ref ra2, .ref ra3, .ref ra4, .ref ra5, .ref ra6, .ref ra7, .ref ra8, .ref ra9, .ref ra10, .ref ra11, .ref ra12, .int rc, .int fo, .int xx]))] ++ wt) := hD
        refine lv_aload_n hx hb dX11_bell_44 rfl (lv_at hl 0 rfl) ?_
        refine gq_get hx hb ht hown hK hP i_X11 0 rfl rfl 3 (by decide) wd_500 rfl rfl dX11_bell_45 ?_
        refine lv_iload_n hx hb dX11_bell_48 rfl (lv_at hl 1 rfl) ?_
        refine gt_callI (wr := [(h0, .inr (11, [.ref tp, .ref ra1, .ref ra2, .ref ra3, .ref ra4, .ref ra5, .ref ra6, .ref ra7, .ref ra8, .ref ra9, .ref ra10, .ref ra11, .ref ra12, .int rc, .int fo, .int xx]))]) (va_runV (As := [.int b]) (rest := []) ⟨hx, hb, hml, hown, ht⟩ (d_begin l G Γ H.size wt hT ra3 b kr3 (by omega) (by omega)) (cwV 1 ht (ts_gV wd_943 wd_944 wd_945 wd_125 wd_946) rfl rfl rfl (by decide +kernel) ⟨Nat.le_of_ble_eq_true rfl, Nat.le_of_ble_eq_true rfl⟩) (gt_preW (ci := 7) hK hT (tw_right hP) (tw_rightD hD) kr3 (by decide) rfl) rfl rfl hl.1 rfl (lv_room (Nat.le_of_ble_eq_true rfl)) dX11_bell_49 ⟨Nat.le_of_ble_eq_true rfl, Nat.le_of_ble_eq_true rfl⟩) hP hD hS hA (fun r_9 wt H locs hw hP hD hS => ?_)
        obtain ⟨hT, hkp⟩ := hw
        have hW := hW.call (show ∀ x ∈ [], x ∈ [301, 302, 709] by decide) hkp
        have hP : va_P (gg_D G) classes ([(h0, .inr (11, [.ref tp, .ref ra1, .ref ra2, .ref ra3, .ref ra4, .ref ra5, .ref ra6, .ref ra7, .ref ra8, .ref ra9, .ref ra10, .ref ra11, .ref ra12, .int rc, .int fo, .int xx]))] ++ wt) H := hP
        have hD : va_D A ([(h0, .inr (11, [.ref tp, .ref ra1, .ref ra2, .ref ra3, .ref ra4, .ref ra5, .ref ra6, .ref ra7, .ref ra8, .ref ra9, .ref ra10, .ref ra11, .ref ra12, .int rc, .int fo, .int xx]))] ++ wt) := hD
        have hP9 : va_P (gg_D G) classes ([(h0, .inr (11, [.ref tp, .ref ra1, .ref ra2, .ref ra3, .ref ra4, .ref ra5, .ref ra6, .ref ra7, .ref ra8, .ref ra9, .ref ra10, .ref ra11, .ref ra12, .int rc, .int fo, .int xx]))] ++ wt) _ := hP
        have hD9 : va_D A ([(h0, .inr (11, [.ref tp, .ref ra1, .ref ra2, .ref ra3, .ref ra4, .ref ra5, .ref ra6, .ref ra7, .ref ra8, .ref ra9, .ref ra10, .ref ra11, .ref ra12, .int rc, .int fo, .int xx]))] ++ wt) := hD
        exact W.iret (v := r_9) hx hb hr (gq_endI wt ⟨hT, hW⟩ hP9 hD9 hS) hS.2.2 dX11_bell_52
      · rw [← Int32.toInt_inj] at c_8
        refine lv_iconst (v := (-1)) hx hb dX11_bell_31 (by decide +kernel) ?_
        have hP9 : va_P (gg_D G) classes ([(h0, .inr (11, [.ref tp, .ref ra1, .ref ra2, .ref ra3, .ref ra4, .ref ra5, .ref ra6, .ref ra7, .ref ra8, .ref ra9, .ref ra10, .ref ra11, .ref ra12, .int rc, .int fo, .int xx]))] ++ wt) _ := hP
        have hD9 : va_D A ([(h0, .inr (11, [.ref tp, .ref ra1, .ref ra2, .ref ra3, .ref ra4, .ref ra5, .ref ra6, .ref ra7, .ref ra8, .ref ra9, .ref ra10, .ref ra11, .ref ra12, .int rc, .int fo, .int xx]))] ++ wt) := hD
        exact W.iret (v := (-1)) hx hb hr (gq_endI wt ⟨hT, hW⟩ hP9 hD9 hS) hS.2.2 dX11_bell_32
set_option maxHeartbeats 4000000 in
set_option maxRecDepth 100000 in
theorem d_play (l : Launch) (G : gg_T) (Γ : Nat → Nat) (sz : Nat) (wt : va_W) (hT : tk_ty G Γ wt) (b : Int32) (w : Int32) (z : Int32) (tp : Nat) (h0 : Nat) (ra1 : Nat) (ra2 : Nat) (ra3 : Nat) (ra4 : Nat) (ra5 : Nat) (ra6 : Nat) (ra7 : Nat) (ra8 : Nat) (ra9 : Nat) (ra10 : Nat) (ra11 : Nat) (ra12 : Nat) (rc : Int32) (fo : Int32) (xx : Int32) (kr1 : Γ ra1 = 10) (kr2 : Γ ra2 = 10) (kr3 : Γ ra3 = 8) (kr4 : Γ ra4 = 8) (kr5 : Γ ra5 = 4) (kr6 : Γ ra6 = 3) (kr7 : Γ ra7 = 41) (kr9 : Γ ra9 = 1) (kr10 : Γ ra10 = 6) (kr11 : Γ ra11 = 11) (kr12 : Γ ra12 = 7) (xr1 : 0 ≤ rc.toInt) (xr2 : rc.toInt ≤ 6) : Met l yX11_play (ts_L yX11_play cX11_play 4 (some .int)) ({ frames := 3, cells := 0, slots := 0, locals := 82 }) (gc_P G ([(h0, .inr (11, [.ref tp, .ref ra1, .ref ra2, .ref ra3, .ref ra4, .ref ra5, .ref ra6, .ref ra7, .ref ra8, .ref ra9, .ref ra10, .ref ra11, .ref ra12, .int rc, .int fo, .int xx]))] ++ wt) sz [.ref h0, .int b, .int w, .int z]) (gc_I G (va_A ([(h0, .inr (11, [.ref tp, .ref ra1, .ref ra2, .ref ra3, .ref ra4, .ref ra5, .ref ra6, .ref ra7, .ref ra8, .ref ra9, .ref ra10, .ref ra11, .ref ra12, .int rc, .int fo, .int xx]))] ++ wt) sz) (fun r (u : va_W) => match u with | wt1 => tk_ty G Γ wt1 ∧ tk_kp [301, 302, 709] wt wt1) (fun (u : va_W) => match u with | wt1 => [(h0, .inr (11, [.ref tp, .ref ra1, .ref ra2, .ref ra3, .ref ra4, .ref ra5, .ref ra6, .ref ra7, .ref ra8, .ref ra9, .ref ra10, .ref ra11, .ref ra12, .int rc, .int fo, .int xx]))] ++ wt1)) 0 0 (va_A ([(h0, .inr (11, [.ref tp, .ref ra1, .ref ra2, .ref ra3, .ref ra4, .ref ra5, .ref ra6, .ref ra7, .ref ra8, .ref ra9, .ref ra10, .ref ra11, .ref ra12, .int rc, .int fo, .int xx]))] ++ wt) sz) := by
  refine Met.ofW (cc := cX11_play) (maxL := 4) (ret := (some .int)) (by decide) rfl ?_
  intro p e s m args below meth c s₁ B hml hv
  obtain ⟨rfl, hsz, hP, hK, hD0⟩ := hv
  have hx := B.exec
  have hb := B.bytes
  have hr := B.returns
  have ht := ts_ht (atoms_spec (ws := ts_L yX11_play cX11_play 4 (some .int)) B.pre)
  have hown : s.vm.findClass RX11 = some m.cls := findClass_of_methodNamed B.named
  have hlocks := B.notSynchronized
  subst hsz
  have hD := hD0.self (sz := s.heap.size)
  generalize hAe : va_A ([(h0, .inr (11, [.ref tp, .ref ra1, .ref ra2, .ref ra3, .ref ra4, .ref ra5, .ref ra6, .ref ra7, .ref ra8, .ref ra9, .ref ra10, .ref ra11, .ref ra12, .int rc, .int fo, .int xx]))] ++ wt) s.heap.size = A at hD ⊢
  have hA : ∀ q : Nat, s.heap.size ≤ q → A q := fun q h => by rw [← hAe]; exact Or.inr h
  clear hAe hD0
  have hS : va_S A s.heap s.heap [] := va_S.rf
  obtain ⟨w0, hw0⟩ : ∃ z, z = wt := ⟨_, rfl⟩
  have hW : tk_kp [301, 302, 709] w0 wt := by rw [hw0]; exact tk_kp.rf
  rw [← hw0]
  clear hw0
  have hP : va_P (gg_D G) classes ([(h0, .inr (11, [.ref tp, .ref ra1, .ref ra2, .ref ra3, .ref ra4, .ref ra5, .ref ra6, .ref ra7, .ref ra8, .ref ra9, .ref ra10, .ref ra11, .ref ra12, .int rc, .int fo, .int xx]))] ++ wt) s.heap := hP
  have hD : va_D A ([(h0, .inr (11, [.ref tp, .ref ra1, .ref ra2, .ref ra3, .ref ra4, .ref ra5, .ref ra6, .ref ra7, .ref ra8, .ref ra9, .ref ra10, .ref ra11, .ref ra12, .int rc, .int fo, .int xx]))] ++ wt) := hD
  have hl := lv_entry ([.ref h0, .int b, .int w, .int z]) (n := 4) (Nat.le_of_ble_eq_true rfl)
  rw [lg_entry_eq]
  generalize (lg_sl ([.ref h0, .int b, .int w, .int z]) ++ List.replicate (4 - (lg_sl ([.ref h0, .int b, .int w, .int z])).length) Slot.unset).toArray = ls at hl ⊢
  have hl : lv_has ls 4 [(0, .ref h0), (1, .int b), (2, .int w), (3, .int z)] := hl
  have lm1 : ((-1) : Int32).toInt = -1 := by decide +kernel
  have l0 : (0 : Int32).toInt = 0 := by decide +kernel
  refine lv_aload_n hx hb dX11_play_0 rfl (lv_at hl 0 rfl) ?_
  refine lv_iload_n hx hb dX11_play_1 rfl (lv_at hl 1 rfl) ?_
  have hP : va_P (gg_D G) classes ([] ++ ([(h0, .inr (11, [.ref tp, .ref ra1, .ref ra2, .ref ra3, .ref ra4, .ref ra5, .ref ra6, .ref ra7, .ref ra8, .ref ra9, .ref ra10, .ref ra11, .ref ra12, .int rc, .int fo, .int xx]))] ++ wt)) s.heap := hP
  have hD : va_D A ([] ++ ([(h0, .inr (11, [.ref tp, .ref ra1, .ref ra2, .ref ra3, .ref ra4, .ref ra5, .ref ra6, .ref ra7, .ref ra8, .ref ra9, .ref ra10, .ref ra11, .ref ra12, .int rc, .int fo, .int xx]))] ++ wt)) := hD
  refine gt_callI (wr := []) (va_runV (As := [.int b]) (rest := []) ⟨hx, hb, hml, hown, ht⟩ (d_isBidder l G Γ s.heap.size wt hT b tp h0 ra1 ra2 ra3 ra4 ra5 ra6 ra7 ra8 ra9 ra10 ra11 ra12 rc fo xx (by first | assumption | omega) (by first | assumption | omega) (by first | assumption | omega) (by first | assumption | omega) (by first | assumption | omega) (by first | assumption | omega) (by first | assumption | omega) (by first | assumption | omega) (by first | assumption | omega) (by first | assumption | omega) (by first | assumption | omega) (by first | assumption | omega) (by first | assumption | omega)) (cwV 1 ht (ts_gV wd_789 wd_791 wd_14 wd_122 wd_792) rfl rfl rfl (by decide +kernel) ⟨Nat.le_of_ble_eq_true rfl, Nat.le_of_ble_eq_true rfl⟩) (gc_preV (ci := 11) (q0 := 0) hK (tw_right hP) (tw_rightD hD) rfl rfl) rfl rfl hl.1 rfl (lv_room (Nat.le_of_ble_eq_true rfl)) dX11_play_2 ⟨Nat.le_of_ble_eq_true rfl, Nat.le_of_ble_eq_true rfl⟩) hP hD hS hA (fun r_1 wt H locs hw hP hD hS => ?_)
  obtain ⟨hT, hkp, lo_r_1, hi_r_1, im_r_1⟩ := hw
  have hW := hW.call (show ∀ x ∈ [], x ∈ [301, 302, 709] by decide) hkp
  have hP : va_P (gg_D G) classes ([(h0, .inr (11, [.ref tp, .ref ra1, .ref ra2, .ref ra3, .ref ra4, .ref ra5, .ref ra6, .ref ra7, .ref ra8, .ref ra9, .ref ra10, .ref ra11, .ref ra12, .int rc, .int fo, .int xx]))] ++ wt) H := hP
  have hD : va_D A ([(h0, .inr (11, [.ref tp, .ref ra1, .ref ra2, .ref ra3, .ref ra4, .ref ra5, .ref ra6, .ref ra7, .ref ra8, .ref ra9, .ref ra10, .ref ra11, .ref ra12, .int rc, .int fo, .int xx]))] ++ wt) := hD
  refine lv_if_eq (tgt := 29) hx hb dX11_play_5 (by decide) (fun c_2 => ?_) (fun c_2 => ?_)
  · rw [← Int32.toInt_inj] at c_2
    refine lv_iconst (v := (-1)) hx hb dX11_play_29 (by decide +kernel) ?_
    have hP9 : va_P (gg_D G) classes ([(h0, .inr (11, [.ref tp, .ref ra1, .ref ra2, .ref ra3, .ref ra4, .ref ra5, .ref ra6, .ref ra7, .ref ra8, .ref ra9, .ref ra10, .ref ra11, .ref ra12, .int rc, .int fo, .int xx]))] ++ wt) _ := hP
    have hD9 : va_D A ([(h0, .inr (11, [.ref tp, .ref ra1, .ref ra2, .ref ra3, .ref ra4, .ref ra5, .ref ra6, .ref ra7, .ref ra8, .ref ra9, .ref ra10, .ref ra11, .ref ra12, .int rc, .int fo, .int xx]))] ++ wt) := hD
    exact W.iret (v := (-1)) hx hb hr (gq_endI wt ⟨hT, hW⟩ hP9 hD9 hS) hS.2.2 dX11_play_30
  · have ic_2 := im_r_1 c_2
    rw [← Int32.toInt_inj] at c_2
    refine lv_aload_n hx hb dX11_play_8 rfl (lv_at hl 0 rfl) ?_
    refine lv_iload_n hx hb dX11_play_9 rfl (lv_at hl 2 rfl) ?_
    have hP : va_P (gg_D G) classes ([] ++ ([(h0, .inr (11, [.ref tp, .ref ra1, .ref ra2, .ref ra3, .ref ra4, .ref ra5, .ref ra6, .ref ra7, .ref ra8, .ref ra9, .ref ra10, .ref ra11, .ref ra12, .int rc, .int fo, .int xx]))] ++ wt)) H := hP
    have hD : va_D A ([] ++ ([(h0, .inr (11, [.ref tp, .ref ra1, .ref ra2, .ref ra3, .ref ra4, .ref ra5, .ref ra6, .ref ra7, .ref ra8, .ref ra9, .ref ra10, .ref ra11, .ref ra12, .int rc, .int fo, .int xx]))] ++ wt)) := hD
    refine gt_callI (wr := []) (va_runV (As := [.int w]) (rest := []) ⟨hx, hb, hml, hown, ht⟩ (d_isBidder l G Γ H.size wt hT w tp h0 ra1 ra2 ra3 ra4 ra5 ra6 ra7 ra8 ra9 ra10 ra11 ra12 rc fo xx (by first | assumption | omega) (by first | assumption | omega) (by first | assumption | omega) (by first | assumption | omega) (by first | assumption | omega) (by first | assumption | omega) (by first | assumption | omega) (by first | assumption | omega) (by first | assumption | omega) (by first | assumption | omega) (by first | assumption | omega) (by first | assumption | omega) (by first | assumption | omega)) (cwV 1 ht (ts_gV wd_789 wd_791 wd_14 wd_122 wd_792) rfl rfl rfl (by decide +kernel) ⟨Nat.le_of_ble_eq_true rfl, Nat.le_of_ble_eq_true rfl⟩) (gc_preV (ci := 11) (q0 := 0) hK (tw_right hP) (tw_rightD hD) rfl rfl) rfl rfl hl.1 rfl (lv_room (Nat.le_of_ble_eq_true rfl)) dX11_play_10 ⟨Nat.le_of_ble_eq_true rfl, Nat.le_of_ble_eq_true rfl⟩) hP hD hS hA (fun r_3 wt H locs hw hP hD hS => ?_)
    obtain ⟨hT, hkp, lo_r_3, hi_r_3, im_r_3⟩ := hw
    have hW := hW.call (show ∀ x ∈ [], x ∈ [301, 302, 709] by decide) hkp
    have hP : va_P (gg_D G) classes ([(h0, .inr (11, [.ref tp, .ref ra1, .ref ra2, .ref ra3, .ref ra4, .ref ra5, .ref ra6, .ref ra7, .ref ra8, .ref ra9, .ref ra10, .ref ra11, .ref ra12, .int rc, .int fo, .int xx]))] ++ wt) H := hP
    have hD : va_D A ([(h0, .inr (11, [.ref tp, .ref ra1, .ref ra2, .ref ra3, .ref ra4, .ref ra5, .ref ra6, .ref ra7, .ref ra8, .ref ra9, .ref ra10, .ref ra11, .ref ra12, .int rc, .int fo, .int xx]))] ++ wt) := hD
    refine lv_if_eq (tgt := 29) hx hb dX11_play_13 (by decide) (fun c_4 => ?_) (fun c_4 => ?_)
    · rw [← Int32.toInt_inj] at c_4
      refine lv_iconst (v := (-1)) hx hb dX11_play_29 (by decide +kernel) ?_
      have hP9 : va_P (gg_D G) classes ([(h0, .inr (11, [.ref tp, .ref ra1, .ref ra2, .ref ra3, .ref ra4, .ref ra5, .ref ra6, .ref ra7, .ref ra8, .ref ra9, .ref ra10, .ref ra11, .ref ra12, .int rc, .int fo, .int xx]))] ++ wt) _ := hP
      have hD9 : va_D A ([(h0, .inr (11, [.ref tp, .ref ra1, .ref ra2, .ref ra3, .ref ra4, .ref ra5, .ref ra6, .ref ra7, .ref ra8, .ref ra9, .ref ra10, .ref ra11, .ref ra12, .int rc, .int fo, .int xx]))] ++ wt) := hD
      exact W.iret (v := (-1)) hx hb hr (gq_endI wt ⟨hT, hW⟩ hP9 hD9 hS) hS.2.2 dX11_play_30
    · have ic_4 := im_r_3 c_4
      rw [← Int32.toInt_inj] at c_4
      refine lv_iload_n hx hb dX11_play_16 rfl (lv_at hl 1 rfl) ?_
      refine lv_iload_n hx hb dX11_play_17 rfl (lv_at hl 2 rfl) ?_
      refine lv_icmp_eq (tgt := 29) hx hb dX11_play_18 (by decide) (fun c_5 => ?_) (fun c_5 => ?_)
      · rw [← Int32.toInt_inj] at c_5
        refine lv_iconst (v := (-1)) hx hb dX11_play_29 (by decide +kernel) ?_
        have hP9 : va_P (gg_D G) classes ([(h0, .inr (11, [.ref tp, .ref ra1, .ref ra2, .ref ra3, .ref ra4, .ref ra5, .ref ra6, .ref ra7, .ref ra8, .ref ra9, .ref ra10, .ref ra11, .ref ra12, .int rc, .int fo, .int xx]))] ++ wt) _ := hP
        have hD9 : va_D A ([(h0, .inr (11, [.ref tp, .ref ra1, .ref ra2, .ref ra3, .ref ra4, .ref ra5, .ref ra6, .ref ra7, .ref ra8, .ref ra9, .ref ra10, .ref ra11, .ref ra12, .int rc, .int fo, .int xx]))] ++ wt) := hD
        exact W.iret (v := (-1)) hx hb hr (gq_endI wt ⟨hT, hW⟩ hP9 hD9 hS) hS.2.2 dX11_play_30
      · rw [← Int32.toInt_inj] at c_5
        refine lv_aload_n hx hb dX11_play_21 rfl (lv_at hl 0 rfl) ?_
        refine lv_iload_n hx hb dX11_play_22 rfl (lv_at hl 3 rfl) ?_
        have hP : va_P (gg_D G) classes ([] ++ ([(h0, .inr (11, [.ref tp, .ref ra1, .ref ra2, .ref ra3, .ref ra4, .ref ra5, .ref ra6, .ref ra7, .ref ra8, .ref ra9, .ref ra10, .ref ra11, .ref ra12, .int rc, .int fo, .int xx]))] ++ wt)) H := hP
        have hD : va_D A ([] ++ ([(h0, .inr (11, [.ref tp, .ref ra1, .ref ra2, .ref ra3, .ref ra4, .ref ra5, .ref ra6, .ref ra7, .ref ra8, .ref ra9, .ref ra10, .ref ra11, .ref ra12, .int rc, .int fo, .int xx]))] ++ wt)) := hD
        refine gt_callI (wr := []) (va_runV (As := [.int z]) (rest := []) ⟨hx, hb, hml, hown, ht⟩ (d_isTrick l G Γ H.size wt hT z tp h0 ra1 ra2 ra3 ra4 ra5 ra6 ra7 ra8 ra9 ra10 ra11 ra12 rc fo xx (by first | assumption | omega) (by first | assumption | omega) (by first | assumption | omega) (by first | assumption | omega) (by first | assumption | omega) (by first | assumption | omega) (by first | assumption | omega) (by first | assumption | omega) (by first | assumption | omega) (by first | assumption | omega) (by first | assumption | omega) (by first | assumption | omega) (by first | assumption | omega)) (cwV 1 ht (ts_gV wd_837 wd_839 wd_16 wd_122 wd_840) rfl rfl rfl (by decide +kernel) ⟨Nat.le_of_ble_eq_true rfl, Nat.le_of_ble_eq_true rfl⟩) (gc_preV (ci := 11) (q0 := 0) hK (tw_right hP) (tw_rightD hD) rfl rfl) rfl rfl hl.1 rfl (lv_room (Nat.le_of_ble_eq_true rfl)) dX11_play_23 ⟨Nat.le_of_ble_eq_true rfl, Nat.le_of_ble_eq_true rfl⟩) hP hD hS hA (fun r_6 wt H locs hw hP hD hS => ?_)
        obtain ⟨hT, hkp, lo_r_6, hi_r_6, im_r_6⟩ := hw
        have hW := hW.call (show ∀ x ∈ [], x ∈ [301, 302, 709] by decide) hkp
        have hP : va_P (gg_D G) classes ([(h0, .inr (11, [.ref tp, .ref ra1, .ref ra2, .ref ra3, .ref ra4, .ref ra5, .ref ra6, .ref ra7, .ref ra8, .ref ra9, .ref ra10, .ref ra11, .ref ra12, .int rc, .int fo, .int xx]))] ++ wt) H := hP
        have hD : va_D A ([(h0, .inr (11, [.ref tp, .ref ra1, .ref ra2, .ref ra3, .ref ra4, .ref ra5, .ref ra6, .ref ra7, .ref ra8, .ref ra9, .ref ra10, .ref ra11, .ref ra12, .int rc, .int fo, .int xx]))] ++ wt) := hD
        refine lv_if_ne (tgt := 31) hx hb dX11_play_26 (by decide) (fun c_7 => ?_) (fun c_7 => ?_)
        · have ic_7 := im_r_6 c_7
          rw [← Int32.toInt_inj] at c_7
          refine lv_aload_n hx hb dX11_play_31 rfl (lv_at hl 0 rfl) ?_
          refine gq_get hx hb ht hown hK hP i_X11 0 rfl rfl 3 (by decide) wd_500 rfl rfl dX11_play_32 ?_
          refine lv_iload_n hx hb dX11_play_35 rfl (lv_at hl 1 rfl) ?_
          refine lv_iload_n hx hb dX11_play_36 rfl (lv_at hl 2 rfl) ?_
          refine lv_iload_n hx hb dX11_play_37 rfl (lv_at hl 3 rfl) ?_
          refine lv_aload_n hx hb dX11_play_38 rfl (lv_at hl 0 rfl) ?_
          refine gq_get hx hb ht hown hK hP i_X11 0 rfl rfl 1 (by decide) wd_498 rfl rfl dX11_play_39 ?_
          refine gt_callI (wr := [(h0, .inr (11, [.ref tp, .ref ra1, .ref ra2, .ref ra3, .ref ra4, .ref ra5, .ref ra6, .ref ra7, .ref ra8, .ref ra9, .ref ra10, .ref ra11, .ref ra12, .int rc, .int fo, .int xx]))]) (va_runV (As := [.int b, .int w, .int z, .ref ra1]) (rest := []) ⟨hx, hb, hml, hown, ht⟩ (d_canTrick l G Γ H.size wt hT ra3 b w z ra1 kr3 (by omega) (by omega) (by omega) (by omega) (by omega) (by omega) kr1) (cwV 4 ht (ts_gV wd_955 wd_956 wd_957 wd_125 wd_958) rfl rfl rfl (by decide +kernel) ⟨Nat.le_of_ble_eq_true rfl, Nat.le_of_ble_eq_true rfl⟩) (gt_preW (ci := 7) hK hT (tw_right hP) (tw_rightD hD) kr3 (by decide) rfl) rfl rfl hl.1 rfl (lv_room (Nat.le_of_ble_eq_true rfl)) dX11_play_42 ⟨Nat.le_of_ble_eq_true rfl, Nat.le_of_ble_eq_true rfl⟩) hP hD hS hA (fun r_8 wt H locs hw hP hD hS => ?_)
          obtain ⟨hT, hkp, lo_r_8, hi_r_8⟩ := hw
          have hW := hW.call (show ∀ x ∈ [], x ∈ [301, 302, 709] by decide) hkp
          have hP : va_P (gg_D G) classes ([(h0, .inr (11, [.ref tp, .ref ra1, .ref ra2, .ref ra3, .ref ra4, .ref ra5, .ref ra6, .ref ra7, .ref ra8, .ref ra9, .ref ra10, .ref ra11, .ref ra12, .int rc, .int fo, .int xx]))] ++ wt) H := hP
          have hD : va_D A ([(h0, .inr (11, [.ref tp, .ref ra1, .ref ra2, .ref ra3, .ref ra4, .ref ra5, .ref ra6, .ref ra7, .ref ra8, .ref ra9, .ref ra10, .ref ra11, .ref ra12, .int rc, .int fo, .int xx]))] ++ wt) := hD
          refine lv_if_ne (tgt := 50) hx hb dX11_play_45 (by decide) (fun c_9 => ?_) (fun c_9 => ?_)
          · rw [← Int32.toInt_inj] at c_9
            refine lv_aload_n hx hb dX11_play_50 rfl (lv_at hl 0 rfl) ?_
            refine gq_get hx hb ht hown hK hP i_X11 0 rfl rfl 5 (by decide) wd_502 rfl rfl dX11_play_51 ?_
            refine lv_aload_n hx hb dX11_play_54 rfl (lv_at hl 0 rfl) ?_
            refine gq_get hx hb ht hown hK hP i_X11 0 rfl rfl 3 (by decide) wd_500 rfl rfl dX11_play_55 ?_
            refine gt_callV (wr := [(h0, .inr (11, [.ref tp, .ref ra1, .ref ra2, .ref ra3, .ref ra4, .ref ra5, .ref ra6, .ref ra7, .ref ra8, .ref ra9, .ref ra10, .ref ra11, .ref ra12, .int rc, .int fo, .int xx]))]) (va_runV (As := [.ref ra3]) (rest := []) ⟨hx, hb, hml, hown, ht⟩ (d_P_keep l G Γ H.size wt hT ra5 ra3 kr5 kr3) (cwV 1 ht (ts_gV wd_858 wd_859 wd_860 wd_126 wd_861) rfl rfl rfl (by decide +kernel) ⟨Nat.le_of_ble_eq_true rfl, Nat.le_of_ble_eq_true rfl⟩) (gt_preW (ci := 3) hK hT (tw_right hP) (tw_rightD hD) kr5 (by decide) rfl) rfl rfl hl.1 rfl (lv_room (Nat.le_of_ble_eq_true rfl)) dX11_play_58 ⟨Nat.le_of_ble_eq_true rfl, Nat.le_of_ble_eq_true rfl⟩) hP hD hS hA (fun wt H locs hw hP hD hS => ?_)
            obtain ⟨hT, hkp⟩ := hw
            have hW := hW.call (show ∀ x ∈ [301, 302, 709], x ∈ [301, 302, 709] by decide) hkp
            have hP : va_P (gg_D G) classes ([(h0, .inr (11, [.ref tp, .ref ra1, .ref ra2, .ref ra3, .ref ra4, .ref ra5, .ref ra6, .ref ra7, .ref ra8, .ref ra9, .ref ra10, .ref ra11, .ref ra12, .int rc, .int fo, .int xx]))] ++ wt) H := hP
            have hD : va_D A ([(h0, .inr (11, [.ref tp, .ref ra1, .ref ra2, .ref ra3, .ref ra4, .ref ra5, .ref ra6, .ref ra7, .ref ra8, .ref ra9, .ref ra10, .ref ra11, .ref ra12, .int rc, .int fo, .int xx]))] ++ wt) := hD
            refine lv_aload_n hx hb dX11_play_61 rfl (lv_at hl 0 rfl) ?_
            refine gq_get hx hb ht hown hK hP i_X11 0 rfl rfl 3 (by decide) wd_500 rfl rfl dX11_play_62 ?_
            refine lv_iload_n hx hb dX11_play_65 rfl (lv_at hl 1 rfl) ?_
            refine lv_iload_n hx hb dX11_play_66 rfl (lv_at hl 2 rfl) ?_
            refine lv_iload_n hx hb dX11_play_67 rfl (lv_at hl 3 rfl) ?_
            refine lv_aload_n hx hb dX11_play_68 rfl (lv_at hl 0 rfl) ?_
            refine gq_get hx hb ht hown hK hP i_X11 0 rfl rfl 1 (by decide) wd_498 rfl rfl dX11_play_69 ?_
            refine gt_callV (wr := [(h0, .inr (11, [.ref tp, .ref ra1, .ref ra2, .ref ra3, .ref ra4, .ref ra5, .ref ra6, .ref ra7, .ref ra8, .ref ra9, .ref ra10, .ref ra11, .ref ra12, .int rc, .int fo, .int xx]))]) (va_runV (As := [.int b, .int w, .int z, .ref ra1]) (rest := []) ⟨hx, hb, hml, hown, ht⟩ (d_trickNow l G Γ H.size wt hT ra3 b w z ra1 kr3 (by omega) (by omega) (by omega) (by omega) (by omega) (by omega) kr1) (cwV 4 ht (ts_gV wd_960 wd_961 wd_962 wd_125 wd_963) rfl rfl rfl (by decide +kernel) ⟨Nat.le_of_ble_eq_true rfl, Nat.le_of_ble_eq_true rfl⟩) (gt_preW (ci := 7) hK hT (tw_right hP) (tw_rightD hD) kr3 (by decide) rfl) rfl rfl hl.1 rfl (lv_room (Nat.le_of_ble_eq_true rfl)) dX11_play_72 ⟨Nat.le_of_ble_eq_true rfl, Nat.le_of_ble_eq_true rfl⟩) hP hD hS hA (fun wt H locs hw hP hD hS => ?_)
            obtain ⟨hT, hkp⟩ := hw
            have hW := hW.call (show ∀ x ∈ [], x ∈ [301, 302, 709] by decide) hkp
            have hP : va_P (gg_D G) classes ([(h0, .inr (11, [.ref tp, .ref ra1, .ref ra2, .ref ra3, .ref ra4, .ref ra5, .ref ra6, .ref ra7, .ref ra8, .ref ra9, .ref ra10, .ref ra11, .ref ra12, .int rc, .int fo, .int xx]))] ++ wt) H := hP
            have hD : va_D A ([(h0, .inr (11, [.ref tp, .ref ra1, .ref ra2, .ref ra3, .ref ra4, .ref ra5, .ref ra6, .ref ra7, .ref ra8, .ref ra9, .ref ra10, .ref ra11, .ref ra12, .int rc, .int fo, .int xx]))] ++ wt) := hD
            refine lv_aload_n hx hb dX11_play_75 rfl (lv_at hl 0 rfl) ?_
            refine gq_get hx hb ht hown hK hP i_X11 0 rfl rfl 3 (by decide) wd_500 rfl rfl dX11_play_76 ?_
            refine tr_get (ci := 7) hx hb ht hown hK hT hP kr3 (by decide) i_X7 rfl 1 (by decide) wd_236 rfl dX11_play_79 (fun v hv hf_10 => ?_)
            obtain ⟨q_11, rfl, hq_11⟩ := hv
            refine lv_iload_n hx hb dX11_play_82 rfl (lv_at hl 2 rfl) ?_
            refine tr_iald hx hb hK hT hP 20 hq_11 (by decide) (by decide) (show vp_in _ (tk_len 20) from ia_in (n := 5) (by omega) (by omega)) dX11_play_83 (fun n_12 hn_12 => ?_)
            clear hn_12
            have hP9 : va_P (gg_D G) classes ([(h0, .inr (11, [.ref tp, .ref ra1, .ref ra2, .ref ra3, .ref ra4, .ref ra5, .ref ra6, .ref ra7, .ref ra8, .ref ra9, .ref ra10, .ref ra11, .ref ra12, .int rc, .int fo, .int xx]))] ++ wt) _ := hP
            have hD9 : va_D A ([(h0, .inr (11, [.ref tp, .ref ra1, .ref ra2, .ref ra3, .ref ra4, .ref ra5, .ref ra6, .ref ra7, .ref ra8, .ref ra9, .ref ra10, .ref ra11, .ref ra12, .int rc, .int fo, .int xx]))] ++ wt) := hD
            exact W.iret (v := n_12) hx hb hr (gq_endI wt ⟨hT, hW⟩ hP9 hD9 hS) hS.2.2 dX11_play_84
          · rw [← Int32.toInt_inj] at c_9
            refine lv_iconst (v := (-1)) hx hb dX11_play_48 (by decide +kernel) ?_
            have hP9 : va_P (gg_D G) classes ([(h0, .inr (11, [.ref tp, .ref ra1, .ref ra2, .ref ra3, .ref ra4, .ref ra5, .ref ra6, .ref ra7, .ref ra8, .ref ra9, .ref ra10, .ref ra11, .ref ra12, .int rc, .int fo, .int xx]))] ++ wt) _ := hP
            have hD9 : va_D A ([(h0, .inr (11, [.ref tp, .ref ra1, .ref ra2, .ref ra3, .ref ra4, .ref ra5, .ref ra6, .ref ra7, .ref ra8, .ref ra9, .ref ra10, .ref ra11, .ref ra12, .int rc, .int fo, .int xx]))] ++ wt) := hD
            exact W.iret (v := (-1)) hx hb hr (gq_endI wt ⟨hT, hW⟩ hP9 hD9 hS) hS.2.2 dX11_play_49
        · rw [← Int32.toInt_inj] at c_7
          refine lv_iconst (v := (-1)) hx hb dX11_play_29 (by decide +kernel) ?_
          have hP9 : va_P (gg_D G) classes ([(h0, .inr (11, [.ref tp, .ref ra1, .ref ra2, .ref ra3, .ref ra4, .ref ra5, .ref ra6, .ref ra7, .ref ra8, .ref ra9, .ref ra10, .ref ra11, .ref ra12, .int rc, .int fo, .int xx]))] ++ wt) _ := hP
          have hD9 : va_D A ([(h0, .inr (11, [.ref tp, .ref ra1, .ref ra2, .ref ra3, .ref ra4, .ref ra5, .ref ra6, .ref ra7, .ref ra8, .ref ra9, .ref ra10, .ref ra11, .ref ra12, .int rc, .int fo, .int xx]))] ++ wt) := hD
          exact W.iret (v := (-1)) hx hb hr (gq_endI wt ⟨hT, hW⟩ hP9 hD9 hS) hS.2.2 dX11_play_30
set_option maxHeartbeats 4000000 in
set_option maxRecDepth 100000 in
theorem d_fire (l : Launch) (G : gg_T) (Γ : Nat → Nat) (sz : Nat) (wt : va_W) (hT : tk_ty G Γ wt) (b : Int32) (tp : Nat) (h0 : Nat) (ra1 : Nat) (ra2 : Nat) (ra3 : Nat) (ra4 : Nat) (ra5 : Nat) (ra6 : Nat) (ra7 : Nat) (ra8 : Nat) (ra9 : Nat) (ra10 : Nat) (ra11 : Nat) (ra12 : Nat) (rc : Int32) (fo : Int32) (xx : Int32) (kr1 : Γ ra1 = 10) (kr2 : Γ ra2 = 10) (kr3 : Γ ra3 = 8) (kr4 : Γ ra4 = 8) (kr5 : Γ ra5 = 4) (kr6 : Γ ra6 = 3) (kr7 : Γ ra7 = 41) (kr9 : Γ ra9 = 1) (kr10 : Γ ra10 = 6) (kr11 : Γ ra11 = 11) (kr12 : Γ ra12 = 7) (xr1 : 0 ≤ rc.toInt) (xr2 : rc.toInt ≤ 6) : Met l yX11_fire (ts_L yX11_fire cX11_fire 3 (some .int)) ({ frames := 3, cells := 0, slots := 0, locals := 82 }) (gc_P G ([(h0, .inr (11, [.ref tp, .ref ra1, .ref ra2, .ref ra3, .ref ra4, .ref ra5, .ref ra6, .ref ra7, .ref ra8, .ref ra9, .ref ra10, .ref ra11, .ref ra12, .int rc, .int fo, .int xx]))] ++ wt) sz [.ref h0, .int b]) (gc_I G (va_A ([(h0, .inr (11, [.ref tp, .ref ra1, .ref ra2, .ref ra3, .ref ra4, .ref ra5, .ref ra6, .ref ra7, .ref ra8, .ref ra9, .ref ra10, .ref ra11, .ref ra12, .int rc, .int fo, .int xx]))] ++ wt) sz) (fun r (u : va_W) => match u with | wt1 => tk_ty G Γ wt1 ∧ tk_kp [301, 302, 709] wt wt1) (fun (u : va_W) => match u with | wt1 => [(h0, .inr (11, [.ref tp, .ref ra1, .ref ra2, .ref ra3, .ref ra4, .ref ra5, .ref ra6, .ref ra7, .ref ra8, .ref ra9, .ref ra10, .ref ra11, .ref ra12, .int rc, .int fo, .int xx]))] ++ wt1)) 0 0 (va_A ([(h0, .inr (11, [.ref tp, .ref ra1, .ref ra2, .ref ra3, .ref ra4, .ref ra5, .ref ra6, .ref ra7, .ref ra8, .ref ra9, .ref ra10, .ref ra11, .ref ra12, .int rc, .int fo, .int xx]))] ++ wt) sz) := by
  refine Met.ofW (cc := cX11_fire) (maxL := 3) (ret := (some .int)) (by decide) rfl ?_
  intro p e s m args below meth c s₁ B hml hv
  obtain ⟨rfl, hsz, hP, hK, hD0⟩ := hv
  have hx := B.exec
  have hb := B.bytes
  have hr := B.returns
  have ht := ts_ht (atoms_spec (ws := ts_L yX11_fire cX11_fire 3 (some .int)) B.pre)
  have hown : s.vm.findClass RX11 = some m.cls := findClass_of_methodNamed B.named
  have hlocks := B.notSynchronized
  subst hsz
  have hD := hD0.self (sz := s.heap.size)
  generalize hAe : va_A ([(h0, .inr (11, [.ref tp, .ref ra1, .ref ra2, .ref ra3, .ref ra4, .ref ra5, .ref ra6, .ref ra7, .ref ra8, .ref ra9, .ref ra10, .ref ra11, .ref ra12, .int rc, .int fo, .int xx]))] ++ wt) s.heap.size = A at hD ⊢
  have hA : ∀ q : Nat, s.heap.size ≤ q → A q := fun q h => by rw [← hAe]; exact Or.inr h
  clear hAe hD0
  have hS : va_S A s.heap s.heap [] := va_S.rf
  obtain ⟨w0, hw0⟩ : ∃ z, z = wt := ⟨_, rfl⟩
  have hW : tk_kp [301, 302, 709] w0 wt := by rw [hw0]; exact tk_kp.rf
  rw [← hw0]
  clear hw0
  have hP : va_P (gg_D G) classes ([(h0, .inr (11, [.ref tp, .ref ra1, .ref ra2, .ref ra3, .ref ra4, .ref ra5, .ref ra6, .ref ra7, .ref ra8, .ref ra9, .ref ra10, .ref ra11, .ref ra12, .int rc, .int fo, .int xx]))] ++ wt) s.heap := hP
  have hD : va_D A ([(h0, .inr (11, [.ref tp, .ref ra1, .ref ra2, .ref ra3, .ref ra4, .ref ra5, .ref ra6, .ref ra7, .ref ra8, .ref ra9, .ref ra10, .ref ra11, .ref ra12, .int rc, .int fo, .int xx]))] ++ wt) := hD
  have hl := lv_entry ([.ref h0, .int b]) (n := 3) (Nat.le_of_ble_eq_true rfl)
  rw [lg_entry_eq]
  generalize (lg_sl ([.ref h0, .int b]) ++ List.replicate (3 - (lg_sl ([.ref h0, .int b])).length) Slot.unset).toArray = ls at hl ⊢
  have hl : lv_has ls 3 [(0, .ref h0), (1, .int b)] := hl
  have lm1 : ((-1) : Int32).toInt = -1 := by decide +kernel
  have l0 : (0 : Int32).toInt = 0 := by decide +kernel
  have l1 : (1 : Int32).toInt = 1 := by decide +kernel
  refine lv_aload_n hx hb dX11_fire_0 rfl (lv_at hl 0 rfl) ?_
  refine lv_iload_n hx hb dX11_fire_1 rfl (lv_at hl 1 rfl) ?_
  have hP : va_P (gg_D G) classes ([] ++ ([(h0, .inr (11, [.ref tp, .ref ra1, .ref ra2, .ref ra3, .ref ra4, .ref ra5, .ref ra6, .ref ra7, .ref ra8, .ref ra9, .ref ra10, .ref ra11, .ref ra12, .int rc, .int fo, .int xx]))] ++ wt)) s.heap := hP
  have hD : va_D A ([] ++ ([(h0, .inr (11, [.ref tp, .ref ra1, .ref ra2, .ref ra3, .ref ra4, .ref ra5, .ref ra6, .ref ra7, .ref ra8, .ref ra9, .ref ra10, .ref ra11, .ref ra12, .int rc, .int fo, .int xx]))] ++ wt)) := hD
  refine gt_callI (wr := []) (va_runV (As := [.int b]) (rest := []) ⟨hx, hb, hml, hown, ht⟩ (d_isLot l G Γ s.heap.size wt hT b tp h0 ra1 ra2 ra3 ra4 ra5 ra6 ra7 ra8 ra9 ra10 ra11 ra12 rc fo xx (by first | assumption | omega) (by first | assumption | omega) (by first | assumption | omega) (by first | assumption | omega) (by first | assumption | omega) (by first | assumption | omega) (by first | assumption | omega) (by first | assumption | omega) (by first | assumption | omega) (by first | assumption | omega) (by first | assumption | omega) (by first | assumption | omega) (by first | assumption | omega)) (cwV 1 ht (ts_gV wd_820 wd_822 wd_15 wd_122 wd_823) rfl rfl rfl (by decide +kernel) ⟨Nat.le_of_ble_eq_true rfl, Nat.le_of_ble_eq_true rfl⟩) (gc_preV (ci := 11) (q0 := 0) hK (tw_right hP) (tw_rightD hD) rfl rfl) rfl rfl hl.1 rfl (lv_room (Nat.le_of_ble_eq_true rfl)) dX11_fire_2 ⟨Nat.le_of_ble_eq_true rfl, Nat.le_of_ble_eq_true rfl⟩) hP hD hS hA (fun r_1 wt H locs hw hP hD hS => ?_)
  obtain ⟨hT, hkp, lo_r_1, hi_r_1, im_r_1⟩ := hw
  have hW := hW.call (show ∀ x ∈ [], x ∈ [301, 302, 709] by decide) hkp
  have hP : va_P (gg_D G) classes ([(h0, .inr (11, [.ref tp, .ref ra1, .ref ra2, .ref ra3, .ref ra4, .ref ra5, .ref ra6, .ref ra7, .ref ra8, .ref ra9, .ref ra10, .ref ra11, .ref ra12, .int rc, .int fo, .int xx]))] ++ wt) H := hP
  have hD : va_D A ([(h0, .inr (11, [.ref tp, .ref ra1, .ref ra2, .ref ra3, .ref ra4, .ref ra5, .ref ra6, .ref ra7, .ref ra8, .ref ra9, .ref ra10, .ref ra11, .ref ra12, .int rc, .int fo, .int xx]))] ++ wt) := hD
  refine lv_if_eq (tgt := 21) hx hb dX11_fire_5 (by decide) (fun c_2 => ?_) (fun c_2 => ?_)
  · rw [← Int32.toInt_inj] at c_2
    refine lv_iconst (v := (-1)) hx hb dX11_fire_21 (by decide +kernel) ?_
    have hP9 : va_P (gg_D G) classes ([(h0, .inr (11, [.ref tp, .ref ra1, .ref ra2, .ref ra3, .ref ra4, .ref ra5, .ref ra6, .ref ra7, .ref ra8, .ref ra9, .ref ra10, .ref ra11, .ref ra12, .int rc, .int fo, .int xx]))] ++ wt) _ := hP
    have hD9 : va_D A ([(h0, .inr (11, [.ref tp, .ref ra1, .ref ra2, .ref ra3, .ref ra4, .ref ra5, .ref ra6, .ref ra7, .ref ra8, .ref ra9, .ref ra10, .ref ra11, .ref ra12, .int rc, .int fo, .int xx]))] ++ wt) := hD
    exact W.iret (v := (-1)) hx hb hr (gq_endI wt ⟨hT, hW⟩ hP9 hD9 hS) hS.2.2 dX11_fire_22
  · have ic_2 := im_r_1 c_2
    rw [← Int32.toInt_inj] at c_2
    refine lv_aload_n hx hb dX11_fire_8 rfl (lv_at hl 0 rfl) ?_
    refine gq_get hx hb ht hown hK hP i_X11 0 rfl rfl 3 (by decide) wd_500 rfl rfl dX11_fire_9 ?_
    refine tr_get (ci := 7) hx hb ht hown hK hT hP kr3 (by decide) i_X7 rfl 4 (by decide) wd_249 rfl dX11_fire_12 (fun v hv hf_3 => ?_)
    obtain ⟨q_4, rfl, hq_4⟩ := hv
    refine lv_iload_n hx hb dX11_fire_15 rfl (lv_at hl 1 rfl) ?_
    refine tr_iald hx hb hK hT hP 21 hq_4 (by decide) (by decide) (show vp_in _ (tk_len 21) from ia_in (n := 3) (by omega) (by omega)) dX11_fire_16 (fun n_5 hn_5 => ?_)
    clear hn_5
    refine lv_iconst (v := 1) hx hb dX11_fire_17 (by decide +kernel) ?_
    refine lv_icmp_eq (tgt := 23) hx hb dX11_fire_18 (by decide) (fun c_6 => ?_) (fun c_6 => ?_)
    · rw [← Int32.toInt_inj] at c_6
      refine lv_aload_n hx hb dX11_fire_23 rfl (lv_at hl 0 rfl) ?_
      refine gq_get hx hb ht hown hK hP i_X11 0 rfl rfl 5 (by decide) wd_502 rfl rfl dX11_fire_24 ?_
      refine lv_aload_n hx hb dX11_fire_27 rfl (lv_at hl 0 rfl) ?_
      refine gq_get hx hb ht hown hK hP i_X11 0 rfl rfl 3 (by decide) wd_500 rfl rfl dX11_fire_28 ?_
      refine gt_callV (wr := [(h0, .inr (11, [.ref tp, .ref ra1, .ref ra2, .ref ra3, .ref ra4, .ref ra5, .ref ra6, .ref ra7, .ref ra8, .ref ra9, .ref ra10, .ref ra11, .ref ra12, .int rc, .int fo, .int xx]))]) (va_runV (As := [.ref ra3]) (rest := []) ⟨hx, hb, hml, hown, ht⟩ (d_P_keep l G Γ H.size wt hT ra5 ra3 kr5 kr3) (cwV 1 ht (ts_gV wd_858 wd_859 wd_860 wd_126 wd_861) rfl rfl rfl (by decide +kernel) ⟨Nat.le_of_ble_eq_true rfl, Nat.le_of_ble_eq_true rfl⟩) (gt_preW (ci := 3) hK hT (tw_right hP) (tw_rightD hD) kr5 (by decide) rfl) rfl rfl hl.1 rfl (lv_room (Nat.le_of_ble_eq_true rfl)) dX11_fire_31 ⟨Nat.le_of_ble_eq_true rfl, Nat.le_of_ble_eq_true rfl⟩) hP hD hS hA (fun wt H locs hw hP hD hS => ?_)
      obtain ⟨hT, hkp⟩ := hw
      have hW := hW.call (show ∀ x ∈ [301, 302, 709], x ∈ [301, 302, 709] by decide) hkp
      have hP : va_P (gg_D G) classes ([(h0, .inr (11, [.ref tp, .ref ra1, .ref ra2, .ref ra3, .ref ra4, .ref ra5, .ref ra6, .ref ra7, .ref ra8, .ref ra9, .ref ra10, .ref ra11, .ref ra12, .int rc, .int fo, .int xx]))] ++ wt) H := hP
      have hD : va_D A ([(h0, .inr (11, [.ref tp, .ref ra1, .ref ra2, .ref ra3, .ref ra4, .ref ra5, .ref ra6, .ref ra7, .ref ra8, .ref ra9, .ref ra10, .ref ra11, .ref ra12, .int rc, .int fo, .int xx]))] ++ wt) := hD
      refine lv_aload_n hx hb dX11_fire_34 rfl (lv_at hl 0 rfl) ?_
      refine gq_get hx hb ht hown hK hP i_X11 0 rfl rfl 3 (by decide) wd_500 rfl rfl dX11_fire_35 ?_
      refine tr_get (ci := 7) hx hb ht hown hK hT hP kr3 (by decide) i_X7 rfl 5 (by decide) wd_251 rfl dX11_fire_38 (fun v hv hf_7 => ?_)
      obtain ⟨q_8, rfl, hq_8⟩ := hv
      refine lv_iload_n hx hb dX11_fire_41 rfl (lv_at hl 1 rfl) ?_
      refine tr_iald hx hb hK hT hP 21 hq_8 (by decide) (by decide) (show vp_in _ (tk_len 21) from ia_in (n := 3) (by omega) (by omega)) dX11_fire_42 (fun n_9 hn_9 => ?_)
      clear hn_9
      refine lv_istore_n (lv' := [(2, .int n_9), (0, .ref h0), (1, .int b)]) hx hb dX11_fire_43 rfl hl (by decide) rfl (fun ls hl => ?_)
      refine lv_aload_n hx hb dX11_fire_44 rfl (lv_at hl 1 rfl) ?_
      refine gq_get hx hb ht hown hK hP i_X11 0 rfl rfl 3 (by decide) wd_500 rfl rfl dX11_fire_45 ?_
      refine lv_iload_n hx hb dX11_fire_48 rfl (lv_at hl 2 rfl) ?_
      refine gt_callV (wr := [(h0, .inr (11, [.ref tp, .ref ra1, .ref ra2, .ref ra3, .ref ra4, .ref ra5, .ref ra6, .ref ra7, .ref ra8, .ref ra9, .ref ra10, .ref ra11, .ref ra12, .int rc, .int fo, .int xx]))]) (va_runV (As := [.int b]) (rest := []) ⟨hx, hb, hml, hown, ht⟩ (d_breakOff l G Γ H.size wt hT ra3 b kr3 (by omega) (by omega)) (cwV 1 ht (ts_gV wd_968 wd_969 wd_970 wd_125 wd_971) rfl rfl rfl (by decide +kernel) ⟨Nat.le_of_ble_eq_true rfl, Nat.le_of_ble_eq_true rfl⟩) (gt_preW (ci := 7) hK hT (tw_right hP) (tw_rightD hD) kr3 (by decide) rfl) rfl rfl hl.1 rfl (lv_room (Nat.le_of_ble_eq_true rfl)) dX11_fire_49 ⟨Nat.le_of_ble_eq_true rfl, Nat.le_of_ble_eq_true rfl⟩) hP hD hS hA (fun wt H locs hw hP hD hS => ?_)
      obtain ⟨hT, hkp⟩ := hw
      have hW := hW.call (show ∀ x ∈ [], x ∈ [301, 302, 709] by decide) hkp
      have hP : va_P (gg_D G) classes ([(h0, .inr (11, [.ref tp, .ref ra1, .ref ra2, .ref ra3, .ref ra4, .ref ra5, .ref ra6, .ref ra7, .ref ra8, .ref ra9, .ref ra10, .ref ra11, .ref ra12, .int rc, .int fo, .int xx]))] ++ wt) H := hP
      have hD : va_D A ([(h0, .inr (11, [.ref tp, .ref ra1, .ref ra2, .ref ra3, .ref ra4, .ref ra5, .ref ra6, .ref ra7, .ref ra8, .ref ra9, .ref ra10, .ref ra11, .ref ra12, .int rc, .int fo, .int xx]))] ++ wt) := hD
      refine lv_iload_n hx hb dX11_fire_52 rfl (lv_at hl 0 rfl) ?_
      have hP9 : va_P (gg_D G) classes ([(h0, .inr (11, [.ref tp, .ref ra1, .ref ra2, .ref ra3, .ref ra4, .ref ra5, .ref ra6, .ref ra7, .ref ra8, .ref ra9, .ref ra10, .ref ra11, .ref ra12, .int rc, .int fo, .int xx]))] ++ wt) _ := hP
      have hD9 : va_D A ([(h0, .inr (11, [.ref tp, .ref ra1, .ref ra2, .ref ra3, .ref ra4, .ref ra5, .ref ra6, .ref ra7, .ref ra8, .ref ra9, .ref ra10, .ref ra11, .ref ra12, .int rc, .int fo, .int xx]))] ++ wt) := hD
      exact W.iret (v := n_9) hx hb hr (gq_endI wt ⟨hT, hW⟩ hP9 hD9 hS) hS.2.2 dX11_fire_53
    · rw [← Int32.toInt_inj] at c_6
      refine lv_iconst (v := (-1)) hx hb dX11_fire_21 (by decide +kernel) ?_
      have hP9 : va_P (gg_D G) classes ([(h0, .inr (11, [.ref tp, .ref ra1, .ref ra2, .ref ra3, .ref ra4, .ref ra5, .ref ra6, .ref ra7, .ref ra8, .ref ra9, .ref ra10, .ref ra11, .ref ra12, .int rc, .int fo, .int xx]))] ++ wt) _ := hP
      have hD9 : va_D A ([(h0, .inr (11, [.ref tp, .ref ra1, .ref ra2, .ref ra3, .ref ra4, .ref ra5, .ref ra6, .ref ra7, .ref ra8, .ref ra9, .ref ra10, .ref ra11, .ref ra12, .int rc, .int fo, .int xx]))] ++ wt) := hD
      exact W.iret (v := (-1)) hx hb hr (gq_endI wt ⟨hT, hW⟩ hP9 hD9 hS) hS.2.2 dX11_fire_22
set_option maxHeartbeats 4000000 in
set_option maxRecDepth 100000 in
theorem d_undo (l : Launch) (G : gg_T) (Γ : Nat → Nat) (sz : Nat) (wt : va_W) (hT : tk_ty G Γ wt) (tp : Nat) (h0 : Nat) (ra1 : Nat) (ra2 : Nat) (ra3 : Nat) (ra4 : Nat) (ra5 : Nat) (ra6 : Nat) (ra7 : Nat) (ra8 : Nat) (ra9 : Nat) (ra10 : Nat) (ra11 : Nat) (ra12 : Nat) (rc : Int32) (fo : Int32) (xx : Int32) (kr1 : Γ ra1 = 10) (kr2 : Γ ra2 = 10) (kr3 : Γ ra3 = 8) (kr4 : Γ ra4 = 8) (kr5 : Γ ra5 = 4) (kr6 : Γ ra6 = 3) (kr7 : Γ ra7 = 41) (kr9 : Γ ra9 = 1) (kr10 : Γ ra10 = 6) (kr11 : Γ ra11 = 11) (kr12 : Γ ra12 = 7) (xr1 : 0 ≤ rc.toInt) (xr2 : rc.toInt ≤ 6) : Met l yX11_undo (ts_L yX11_undo cX11_undo 1 (some .int)) ({ frames := 3, cells := 0, slots := 0, locals := 82 }) (gc_P G ([(h0, .inr (11, [.ref tp, .ref ra1, .ref ra2, .ref ra3, .ref ra4, .ref ra5, .ref ra6, .ref ra7, .ref ra8, .ref ra9, .ref ra10, .ref ra11, .ref ra12, .int rc, .int fo, .int xx]))] ++ wt) sz [.ref h0]) (gc_I G (va_A ([(h0, .inr (11, [.ref tp, .ref ra1, .ref ra2, .ref ra3, .ref ra4, .ref ra5, .ref ra6, .ref ra7, .ref ra8, .ref ra9, .ref ra10, .ref ra11, .ref ra12, .int rc, .int fo, .int xx]))] ++ wt) sz) (fun r (u : va_W) => match u with | wt1 => tk_ty G Γ wt1 ∧ tk_kp [301, 302, 709] wt wt1) (fun (u : va_W) => match u with | wt1 => [(h0, .inr (11, [.ref tp, .ref ra1, .ref ra2, .ref ra3, .ref ra4, .ref ra5, .ref ra6, .ref ra7, .ref ra8, .ref ra9, .ref ra10, .ref ra11, .ref ra12, .int rc, .int fo, .int xx]))] ++ wt1)) 0 0 (va_A ([(h0, .inr (11, [.ref tp, .ref ra1, .ref ra2, .ref ra3, .ref ra4, .ref ra5, .ref ra6, .ref ra7, .ref ra8, .ref ra9, .ref ra10, .ref ra11, .ref ra12, .int rc, .int fo, .int xx]))] ++ wt) sz) := by
  refine Met.ofW (cc := cX11_undo) (maxL := 1) (ret := (some .int)) (by decide) rfl ?_
  intro p e s m args below meth c s₁ B hml hv
  obtain ⟨rfl, hsz, hP, hK, hD0⟩ := hv
  have hx := B.exec
  have hb := B.bytes
  have hr := B.returns
  have ht := ts_ht (atoms_spec (ws := ts_L yX11_undo cX11_undo 1 (some .int)) B.pre)
  have hown : s.vm.findClass RX11 = some m.cls := findClass_of_methodNamed B.named
  have hlocks := B.notSynchronized
  subst hsz
  have hD := hD0.self (sz := s.heap.size)
  generalize hAe : va_A ([(h0, .inr (11, [.ref tp, .ref ra1, .ref ra2, .ref ra3, .ref ra4, .ref ra5, .ref ra6, .ref ra7, .ref ra8, .ref ra9, .ref ra10, .ref ra11, .ref ra12, .int rc, .int fo, .int xx]))] ++ wt) s.heap.size = A at hD ⊢
  have hA : ∀ q : Nat, s.heap.size ≤ q → A q := fun q h => by rw [← hAe]; exact Or.inr h
  clear hAe hD0
  have hS : va_S A s.heap s.heap [] := va_S.rf
  obtain ⟨w0, hw0⟩ : ∃ z, z = wt := ⟨_, rfl⟩
  have hW : tk_kp [301, 302, 709] w0 wt := by rw [hw0]; exact tk_kp.rf
  rw [← hw0]
  clear hw0
  have hP : va_P (gg_D G) classes ([(h0, .inr (11, [.ref tp, .ref ra1, .ref ra2, .ref ra3, .ref ra4, .ref ra5, .ref ra6, .ref ra7, .ref ra8, .ref ra9, .ref ra10, .ref ra11, .ref ra12, .int rc, .int fo, .int xx]))] ++ wt) s.heap := hP
  have hD : va_D A ([(h0, .inr (11, [.ref tp, .ref ra1, .ref ra2, .ref ra3, .ref ra4, .ref ra5, .ref ra6, .ref ra7, .ref ra8, .ref ra9, .ref ra10, .ref ra11, .ref ra12, .int rc, .int fo, .int xx]))] ++ wt) := hD
  have hl := lv_entry ([.ref h0]) (n := 1) (Nat.le_of_ble_eq_true rfl)
  rw [lg_entry_eq]
  generalize (lg_sl ([.ref h0]) ++ List.replicate (1 - (lg_sl ([.ref h0])).length) Slot.unset).toArray = ls at hl ⊢
  have hl : lv_has ls 1 [(0, .ref h0)] := hl
  have lm1 : ((-1) : Int32).toInt = -1 := by decide +kernel
  have l0 : (0 : Int32).toInt = 0 := by decide +kernel
  refine lv_aload_n hx hb dX11_undo_0 rfl (lv_at hl 0 rfl) ?_
  refine gq_get hx hb ht hown hK hP i_X11 0 rfl rfl 5 (by decide) wd_502 rfl rfl dX11_undo_1 ?_
  refine lv_aload_n hx hb dX11_undo_4 rfl (lv_at hl 0 rfl) ?_
  refine gq_get hx hb ht hown hK hP i_X11 0 rfl rfl 3 (by decide) wd_500 rfl rfl dX11_undo_5 ?_
  refine gt_callI (wr := [(h0, .inr (11, [.ref tp, .ref ra1, .ref ra2, .ref ra3, .ref ra4, .ref ra5, .ref ra6, .ref ra7, .ref ra8, .ref ra9, .ref ra10, .ref ra11, .ref ra12, .int rc, .int fo, .int xx]))]) (va_runV (As := [.ref ra3]) (rest := []) ⟨hx, hb, hml, hown, ht⟩ (d_P_takeBack l G Γ s.heap.size wt hT ra5 ra3 kr5 kr3) (cwV 1 ht (ts_gV wd_976 wd_977 wd_978 wd_126 wd_979) rfl rfl rfl (by decide +kernel) ⟨Nat.le_of_ble_eq_true rfl, Nat.le_of_ble_eq_true rfl⟩) (gt_preW (ci := 3) hK hT (tw_right hP) (tw_rightD hD) kr5 (by decide) rfl) rfl rfl hl.1 rfl (lv_room (Nat.le_of_ble_eq_true rfl)) dX11_undo_8 ⟨Nat.le_of_ble_eq_true rfl, Nat.le_of_ble_eq_true rfl⟩) hP hD hS hA (fun r_1 wt H locs hw hP hD hS => ?_)
  obtain ⟨hT, hkp, lo_r_1, hi_r_1⟩ := hw
  have hW := hW.call (show ∀ x ∈ [301, 302, 709], x ∈ [301, 302, 709] by decide) hkp
  have hP : va_P (gg_D G) classes ([(h0, .inr (11, [.ref tp, .ref ra1, .ref ra2, .ref ra3, .ref ra4, .ref ra5, .ref ra6, .ref ra7, .ref ra8, .ref ra9, .ref ra10, .ref ra11, .ref ra12, .int rc, .int fo, .int xx]))] ++ wt) H := hP
  have hD : va_D A ([(h0, .inr (11, [.ref tp, .ref ra1, .ref ra2, .ref ra3, .ref ra4, .ref ra5, .ref ra6, .ref ra7, .ref ra8, .ref ra9, .ref ra10, .ref ra11, .ref ra12, .int rc, .int fo, .int xx]))] ++ wt) := hD
  refine lv_if_eq (tgt := 24) hx hb dX11_undo_11 (by decide) (fun c_2 => ?_) (fun c_2 => ?_)
  · rw [← Int32.toInt_inj] at c_2
    refine lv_iconst (v := (-1)) hx hb dX11_undo_24 (by decide +kernel) ?_
    have hP9 : va_P (gg_D G) classes ([(h0, .inr (11, [.ref tp, .ref ra1, .ref ra2, .ref ra3, .ref ra4, .ref ra5, .ref ra6, .ref ra7, .ref ra8, .ref ra9, .ref ra10, .ref ra11, .ref ra12, .int rc, .int fo, .int xx]))] ++ wt) _ := hP
    have hD9 : va_D A ([(h0, .inr (11, [.ref tp, .ref ra1, .ref ra2, .ref ra3, .ref ra4, .ref ra5, .ref ra6, .ref ra7, .ref ra8, .ref ra9, .ref ra10, .ref ra11, .ref ra12, .int rc, .int fo, .int xx]))] ++ wt) := hD
    exact W.iret (v := (-1)) hx hb hr (gq_endI wt ⟨hT, hW⟩ hP9 hD9 hS) hS.2.2 dX11_undo_25
  · rw [← Int32.toInt_inj] at c_2
    refine lv_aload_n hx hb dX11_undo_14 rfl (lv_at hl 0 rfl) ?_
    refine gq_get hx hb ht hown hK hP i_X11 0 rfl rfl 5 (by decide) wd_502 rfl rfl dX11_undo_15 ?_
    refine tr_get (ci := 3) hx hb ht hown hK hT hP kr5 (by decide) i_X3 rfl 2 (by decide) wd_302 rfl dX11_undo_18 (fun v hv hf_3 => ?_)
    obtain ⟨n_4, rfl, lo_n_4, hi_n_4⟩ := hv
    refine lv_goto (tgt := 25) hx hb dX11_undo_21 (by decide) ?_
    have hP9 : va_P (gg_D G) classes ([(h0, .inr (11, [.ref tp, .ref ra1, .ref ra2, .ref ra3, .ref ra4, .ref ra5, .ref ra6, .ref ra7, .ref ra8, .ref ra9, .ref ra10, .ref ra11, .ref ra12, .int rc, .int fo, .int xx]))] ++ wt) _ := hP
    have hD9 : va_D A ([(h0, .inr (11, [.ref tp, .ref ra1, .ref ra2, .ref ra3, .ref ra4, .ref ra5, .ref ra6, .ref ra7, .ref ra8, .ref ra9, .ref ra10, .ref ra11, .ref ra12, .int rc, .int fo, .int xx]))] ++ wt) := hD
    exact W.iret (v := n_4) hx hb hr (gq_endI wt ⟨hT, hW⟩ hP9 hD9 hS) hS.2.2 dX11_undo_25
set_option maxHeartbeats 4000000 in
set_option maxRecDepth 100000 in
theorem d_ahead (l : Launch) (G : gg_T) (Γ : Nat → Nat) (sz : Nat) (wt : va_W) (hT : tk_ty G Γ wt) (b : Int32) (w : Int32) (z : Int32) (tp : Nat) (h0 : Nat) (ra1 : Nat) (ra2 : Nat) (ra3 : Nat) (ra4 : Nat) (ra5 : Nat) (ra6 : Nat) (ra7 : Nat) (ra8 : Nat) (ra9 : Nat) (ra10 : Nat) (ra11 : Nat) (ra12 : Nat) (rc : Int32) (fo : Int32) (xx : Int32) (kr1 : Γ ra1 = 10) (kr2 : Γ ra2 = 10) (kr3 : Γ ra3 = 8) (kr4 : Γ ra4 = 8) (kr5 : Γ ra5 = 4) (kr6 : Γ ra6 = 3) (kr7 : Γ ra7 = 41) (kr9 : Γ ra9 = 1) (kr10 : Γ ra10 = 6) (kr11 : Γ ra11 = 11) (kr12 : Γ ra12 = 7) (xr1 : 0 ≤ rc.toInt) (xr2 : rc.toInt ≤ 6) : Met l yX11_ahead (ts_L yX11_ahead cX11_ahead 4 (some .int)) ({ frames := 6, cells := 0, slots := 0, locals := 146 }) (gc_P G ([(h0, .inr (11, [.ref tp, .ref ra1, .ref ra2, .ref ra3, .ref ra4, .ref ra5, .ref ra6, .ref ra7, .ref ra8, .ref ra9, .ref ra10, .ref ra11, .ref ra12, .int rc, .int fo, .int xx]))] ++ wt) sz [.ref h0, .int b, .int w, .int z]) (gc_I G (va_A ([(h0, .inr (11, [.ref tp, .ref ra1, .ref ra2, .ref ra3, .ref ra4, .ref ra5, .ref ra6, .ref ra7, .ref ra8, .ref ra9, .ref ra10, .ref ra11, .ref ra12, .int rc, .int fo, .int xx]))] ++ wt) sz) (fun r (u : va_W) => match u with | wt1 => tk_ty G Γ wt1 ∧ tk_kp [0, 1, 2, 709] wt wt1) (fun (u : va_W) => match u with | wt1 => [(h0, .inr (11, [.ref tp, .ref ra1, .ref ra2, .ref ra3, .ref ra4, .ref ra5, .ref ra6, .ref ra7, .ref ra8, .ref ra9, .ref ra10, .ref ra11, .ref ra12, .int rc, .int fo, .int xx]))] ++ wt1)) 0 0 (va_A ([(h0, .inr (11, [.ref tp, .ref ra1, .ref ra2, .ref ra3, .ref ra4, .ref ra5, .ref ra6, .ref ra7, .ref ra8, .ref ra9, .ref ra10, .ref ra11, .ref ra12, .int rc, .int fo, .int xx]))] ++ wt) sz) := by
  refine Met.ofW (cc := cX11_ahead) (maxL := 4) (ret := (some .int)) (by decide) rfl ?_
  intro p e s m args below meth c s₁ B hml hv
  obtain ⟨rfl, hsz, hP, hK, hD0⟩ := hv
  have hx := B.exec
  have hb := B.bytes
  have hr := B.returns
  have ht := ts_ht (atoms_spec (ws := ts_L yX11_ahead cX11_ahead 4 (some .int)) B.pre)
  have hown : s.vm.findClass RX11 = some m.cls := findClass_of_methodNamed B.named
  have hlocks := B.notSynchronized
  subst hsz
  have hD := hD0.self (sz := s.heap.size)
  generalize hAe : va_A ([(h0, .inr (11, [.ref tp, .ref ra1, .ref ra2, .ref ra3, .ref ra4, .ref ra5, .ref ra6, .ref ra7, .ref ra8, .ref ra9, .ref ra10, .ref ra11, .ref ra12, .int rc, .int fo, .int xx]))] ++ wt) s.heap.size = A at hD ⊢
  have hA : ∀ q : Nat, s.heap.size ≤ q → A q := fun q h => by rw [← hAe]; exact Or.inr h
  clear hAe hD0
  have hS : va_S A s.heap s.heap [] := va_S.rf
  obtain ⟨w0, hw0⟩ : ∃ z, z = wt := ⟨_, rfl⟩
  have hW : tk_kp [0, 1, 2, 709] w0 wt := by rw [hw0]; exact tk_kp.rf
  rw [← hw0]
  clear hw0
  have hP : va_P (gg_D G) classes ([(h0, .inr (11, [.ref tp, .ref ra1, .ref ra2, .ref ra3, .ref ra4, .ref ra5, .ref ra6, .ref ra7, .ref ra8, .ref ra9, .ref ra10, .ref ra11, .ref ra12, .int rc, .int fo, .int xx]))] ++ wt) s.heap := hP
  have hD : va_D A ([(h0, .inr (11, [.ref tp, .ref ra1, .ref ra2, .ref ra3, .ref ra4, .ref ra5, .ref ra6, .ref ra7, .ref ra8, .ref ra9, .ref ra10, .ref ra11, .ref ra12, .int rc, .int fo, .int xx]))] ++ wt) := hD
  have hl := lv_entry ([.ref h0, .int b, .int w, .int z]) (n := 4) (Nat.le_of_ble_eq_true rfl)
  rw [lg_entry_eq]
  generalize (lg_sl ([.ref h0, .int b, .int w, .int z]) ++ List.replicate (4 - (lg_sl ([.ref h0, .int b, .int w, .int z])).length) Slot.unset).toArray = ls at hl ⊢
  have hl : lv_has ls 4 [(0, .ref h0), (1, .int b), (2, .int w), (3, .int z)] := hl
  have lm1000 : ((-1000) : Int32).toInt = -1000 := by decide +kernel
  have l0 : (0 : Int32).toInt = 0 := by decide +kernel
  have l1 : (1 : Int32).toInt = 1 := by decide +kernel
  have l2 : (2 : Int32).toInt = 2 := by decide +kernel
  have l300 : (300 : Int32).toInt = 300 := by decide +kernel
  refine lv_aload_n hx hb dX11_ahead_0 rfl (lv_at hl 0 rfl) ?_
  have hP : va_P (gg_D G) classes ([] ++ ([(h0, .inr (11, [.ref tp, .ref ra1, .ref ra2, .ref ra3, .ref ra4, .ref ra5, .ref ra6, .ref ra7, .ref ra8, .ref ra9, .ref ra10, .ref ra11, .ref ra12, .int rc, .int fo, .int xx]))] ++ wt)) s.heap := hP
  have hD : va_D A ([] ++ ([(h0, .inr (11, [.ref tp, .ref ra1, .ref ra2, .ref ra3, .ref ra4, .ref ra5, .ref ra6, .ref ra7, .ref ra8, .ref ra9, .ref ra10, .ref ra11, .ref ra12, .int rc, .int fo, .int xx]))] ++ wt)) := hD
  refine gt_callI (wr := []) (va_runV (As := []) (rest := []) ⟨hx, hb, hml, hown, ht⟩ (d_isTold l G Γ s.heap.size wt hT tp h0 ra1 ra2 ra3 ra4 ra5 ra6 ra7 ra8 ra9 ra10 ra11 ra12 rc fo xx (by first | assumption | omega) (by first | assumption | omega) (by first | assumption | omega) (by first | assumption | omega) (by first | assumption | omega) (by first | assumption | omega) (by first | assumption | omega) (by first | assumption | omega) (by first | assumption | omega) (by first | assumption | omega) (by first | assumption | omega) (by first | assumption | omega) (by first | assumption | omega)) (cwV 0 ht (ts_gV wd_984 wd_986 wd_21 wd_122 wd_987) rfl rfl rfl (by decide +kernel) ⟨Nat.le_of_ble_eq_true rfl, Nat.le_of_ble_eq_true rfl⟩) (gc_preV (ci := 11) (q0 := 0) hK (tw_right hP) (tw_rightD hD) rfl rfl) rfl rfl hl.1 rfl (lv_room (Nat.le_of_ble_eq_true rfl)) dX11_ahead_1 ⟨Nat.le_of_ble_eq_true rfl, Nat.le_of_ble_eq_true rfl⟩) hP hD hS hA (fun r_1 wt H locs hw hP hD hS => ?_)
  obtain ⟨hT, hkp, lo_r_1, hi_r_1⟩ := hw
  have hW := hW.call (show ∀ x ∈ [], x ∈ [0, 1, 2, 709] by decide) hkp
  have hP : va_P (gg_D G) classes ([(h0, .inr (11, [.ref tp, .ref ra1, .ref ra2, .ref ra3, .ref ra4, .ref ra5, .ref ra6, .ref ra7, .ref ra8, .ref ra9, .ref ra10, .ref ra11, .ref ra12, .int rc, .int fo, .int xx]))] ++ wt) H := hP
  have hD : va_D A ([(h0, .inr (11, [.ref tp, .ref ra1, .ref ra2, .ref ra3, .ref ra4, .ref ra5, .ref ra6, .ref ra7, .ref ra8, .ref ra9, .ref ra10, .ref ra11, .ref ra12, .int rc, .int fo, .int xx]))] ++ wt) := hD
  refine lv_if_eq (tgt := 27) hx hb dX11_ahead_4 (by decide) (fun c_2 => ?_) (fun c_2 => ?_)
  · rw [← Int32.toInt_inj] at c_2
    refine lv_sipush (v := (-1000)) hx hb dX11_ahead_27 (by decide +kernel) ?_
    have hP9 : va_P (gg_D G) classes ([(h0, .inr (11, [.ref tp, .ref ra1, .ref ra2, .ref ra3, .ref ra4, .ref ra5, .ref ra6, .ref ra7, .ref ra8, .ref ra9, .ref ra10, .ref ra11, .ref ra12, .int rc, .int fo, .int xx]))] ++ wt) _ := hP
    have hD9 : va_D A ([(h0, .inr (11, [.ref tp, .ref ra1, .ref ra2, .ref ra3, .ref ra4, .ref ra5, .ref ra6, .ref ra7, .ref ra8, .ref ra9, .ref ra10, .ref ra11, .ref ra12, .int rc, .int fo, .int xx]))] ++ wt) := hD
    exact W.iret (v := (-1000)) hx hb hr (gq_endI wt ⟨hT, hW⟩ hP9 hD9 hS) hS.2.2 dX11_ahead_30
  · rw [← Int32.toInt_inj] at c_2
    refine lv_iload_n hx hb dX11_ahead_7 rfl (lv_at hl 2 rfl) ?_
    refine lv_if_lt (tgt := 27) hx hb dX11_ahead_8 (by decide) (fun c_3 => ?_) (fun c_3 => ?_)
    · rw [Int32.lt_iff_toInt_lt] at c_3
      refine lv_sipush (v := (-1000)) hx hb dX11_ahead_27 (by decide +kernel) ?_
      have hP9 : va_P (gg_D G) classes ([(h0, .inr (11, [.ref tp, .ref ra1, .ref ra2, .ref ra3, .ref ra4, .ref ra5, .ref ra6, .ref ra7, .ref ra8, .ref ra9, .ref ra10, .ref ra11, .ref ra12, .int rc, .int fo, .int xx]))] ++ wt) _ := hP
      have hD9 : va_D A ([(h0, .inr (11, [.ref tp, .ref ra1, .ref ra2, .ref ra3, .ref ra4, .ref ra5, .ref ra6, .ref ra7, .ref ra8, .ref ra9, .ref ra10, .ref ra11, .ref ra12, .int rc, .int fo, .int xx]))] ++ wt) := hD
      exact W.iret (v := (-1000)) hx hb hr (gq_endI wt ⟨hT, hW⟩ hP9 hD9 hS) hS.2.2 dX11_ahead_30
    · rw [Int32.lt_iff_toInt_lt] at c_3
      refine lv_iload_n hx hb dX11_ahead_11 rfl (lv_at hl 2 rfl) ?_
      refine lv_sipush (v := 300) hx hb dX11_ahead_12 (by decide +kernel) ?_
      refine lv_icmp_gt (tgt := 27) hx hb dX11_ahead_15 (by decide) (fun c_4 => ?_) (fun c_4 => ?_)
      · rw [Int32.lt_iff_toInt_lt] at c_4
        refine lv_sipush (v := (-1000)) hx hb dX11_ahead_27 (by decide +kernel) ?_
        have hP9 : va_P (gg_D G) classes ([(h0, .inr (11, [.ref tp, .ref ra1, .ref ra2, .ref ra3, .ref ra4, .ref ra5, .ref ra6, .ref ra7, .ref ra8, .ref ra9, .ref ra10, .ref ra11, .ref ra12, .int rc, .int fo, .int xx]))] ++ wt) _ := hP
        have hD9 : va_D A ([(h0, .inr (11, [.ref tp, .ref ra1, .ref ra2, .ref ra3, .ref ra4, .ref ra5, .ref ra6, .ref ra7, .ref ra8, .ref ra9, .ref ra10, .ref ra11, .ref ra12, .int rc, .int fo, .int xx]))] ++ wt) := hD
        exact W.iret (v := (-1000)) hx hb hr (gq_endI wt ⟨hT, hW⟩ hP9 hD9 hS) hS.2.2 dX11_ahead_30
      · rw [Int32.lt_iff_toInt_lt] at c_4
        refine lv_iload_n hx hb dX11_ahead_18 rfl (lv_at hl 3 rfl) ?_
        refine lv_if_lt (tgt := 27) hx hb dX11_ahead_19 (by decide) (fun c_5 => ?_) (fun c_5 => ?_)
        · rw [Int32.lt_iff_toInt_lt] at c_5
          refine lv_sipush (v := (-1000)) hx hb dX11_ahead_27 (by decide +kernel) ?_
          have hP9 : va_P (gg_D G) classes ([(h0, .inr (11, [.ref tp, .ref ra1, .ref ra2, .ref ra3, .ref ra4, .ref ra5, .ref ra6, .ref ra7, .ref ra8, .ref ra9, .ref ra10, .ref ra11, .ref ra12, .int rc, .int fo, .int xx]))] ++ wt) _ := hP
          have hD9 : va_D A ([(h0, .inr (11, [.ref tp, .ref ra1, .ref ra2, .ref ra3, .ref ra4, .ref ra5, .ref ra6, .ref ra7, .ref ra8, .ref ra9, .ref ra10, .ref ra11, .ref ra12, .int rc, .int fo, .int xx]))] ++ wt) := hD
          exact W.iret (v := (-1000)) hx hb hr (gq_endI wt ⟨hT, hW⟩ hP9 hD9 hS) hS.2.2 dX11_ahead_30
        · rw [Int32.lt_iff_toInt_lt] at c_5
          refine lv_iload_n hx hb dX11_ahead_22 rfl (lv_at hl 3 rfl) ?_
          refine lv_iconst (v := 2) hx hb dX11_ahead_23 (by decide +kernel) ?_
          refine lv_icmp_le (tgt := 31) hx hb dX11_ahead_24 (by decide) (fun c_6 => ?_) (fun c_6 => ?_)
          · rw [Int32.le_iff_toInt_le] at c_6
            refine lv_iload_n hx hb dX11_ahead_31 rfl (lv_at hl 3 rfl) ?_
            refine lv_if_ne (tgt := 46) hx hb dX11_ahead_32 (by decide) (fun c_7 => ?_) (fun c_7 => ?_)
            · rw [← Int32.toInt_inj] at c_7
              refine lv_aload_n hx hb dX11_ahead_46 rfl (lv_at hl 0 rfl) ?_
              refine lv_iload_n hx hb dX11_ahead_47 rfl (lv_at hl 1 rfl) ?_
              have hP : va_P (gg_D G) classes ([] ++ ([(h0, .inr (11, [.ref tp, .ref ra1, .ref ra2, .ref ra3, .ref ra4, .ref ra5, .ref ra6, .ref ra7, .ref ra8, .ref ra9, .ref ra10, .ref ra11, .ref ra12, .int rc, .int fo, .int xx]))] ++ wt)) H := hP
              have hD : va_D A ([] ++ ([(h0, .inr (11, [.ref tp, .ref ra1, .ref ra2, .ref ra3, .ref ra4, .ref ra5, .ref ra6, .ref ra7, .ref ra8, .ref ra9, .ref ra10, .ref ra11, .ref ra12, .int rc, .int fo, .int xx]))] ++ wt)) := hD
              refine gt_callI (wr := []) (va_runV (As := [.int b]) (rest := []) ⟨hx, hb, hml, hown, ht⟩ (d_isBidder l G Γ H.size wt hT b tp h0 ra1 ra2 ra3 ra4 ra5 ra6 ra7 ra8 ra9 ra10 ra11 ra12 rc fo xx (by first | assumption | omega) (by first | assumption | omega) (by first | assumption | omega) (by first | assumption | omega) (by first | assumption | omega) (by first | assumption | omega) (by first | assumption | omega) (by first | assumption | omega) (by first | assumption | omega) (by first | assumption | omega) (by first | assumption | omega) (by first | assumption | omega) (by first | assumption | omega)) (cwV 1 ht (ts_gV wd_789 wd_791 wd_14 wd_122 wd_792) rfl rfl rfl (by decide +kernel) ⟨Nat.le_of_ble_eq_true rfl, Nat.le_of_ble_eq_true rfl⟩) (gc_preV (ci := 11) (q0 := 0) hK (tw_right hP) (tw_rightD hD) rfl rfl) rfl rfl hl.1 rfl (lv_room (Nat.le_of_ble_eq_true rfl)) dX11_ahead_48 ⟨Nat.le_of_ble_eq_true rfl, Nat.le_of_ble_eq_true rfl⟩) hP hD hS hA (fun r_8 wt H locs hw hP hD hS => ?_)
              obtain ⟨hT, hkp, lo_r_8, hi_r_8, im_r_8⟩ := hw
              have hW := hW.call (show ∀ x ∈ [], x ∈ [0, 1, 2, 709] by decide) hkp
              have hP : va_P (gg_D G) classes ([(h0, .inr (11, [.ref tp, .ref ra1, .ref ra2, .ref ra3, .ref ra4, .ref ra5, .ref ra6, .ref ra7, .ref ra8, .ref ra9, .ref ra10, .ref ra11, .ref ra12, .int rc, .int fo, .int xx]))] ++ wt) H := hP
              have hD : va_D A ([(h0, .inr (11, [.ref tp, .ref ra1, .ref ra2, .ref ra3, .ref ra4, .ref ra5, .ref ra6, .ref ra7, .ref ra8, .ref ra9, .ref ra10, .ref ra11, .ref ra12, .int rc, .int fo, .int xx]))] ++ wt) := hD
              refine lv_if_ne (tgt := 58) hx hb dX11_ahead_51 (by decide) (fun c_9 => ?_) (fun c_9 => ?_)
              · have ic_9 := im_r_8 c_9
                rw [← Int32.toInt_inj] at c_9
                refine lv_aload_n hx hb dX11_ahead_58 rfl (lv_at hl 0 rfl) ?_
                have hP : va_P (gg_D G) classes ([] ++ ([(h0, .inr (11, [.ref tp, .ref ra1, .ref ra2, .ref ra3, .ref ra4, .ref ra5, .ref ra6, .ref ra7, .ref ra8, .ref ra9, .ref ra10, .ref ra11, .ref ra12, .int rc, .int fo, .int xx]))] ++ wt)) H := hP
                have hD : va_D A ([] ++ ([(h0, .inr (11, [.ref tp, .ref ra1, .ref ra2, .ref ra3, .ref ra4, .ref ra5, .ref ra6, .ref ra7, .ref ra8, .ref ra9, .ref ra10, .ref ra11, .ref ra12, .int rc, .int fo, .int xx]))] ++ wt)) := hD
                refine gt_callV (wr := []) (va_runV (As := []) (rest := []) ⟨hx, hb, hml, hown, ht⟩ (d_beginAsking l G Γ H.size wt hT tp h0 ra1 ra2 ra3 ra4 ra5 ra6 ra7 ra8 ra9 ra10 ra11 ra12 rc fo xx (by first | assumption | omega) (by first | assumption | omega) (by first | assumption | omega) (by first | assumption | omega) (by first | assumption | omega) (by first | assumption | omega) (by first | assumption | omega) (by first | assumption | omega) (by first | assumption | omega) (by first | assumption | omega) (by first | assumption | omega) (by first | assumption | omega) (by first | assumption | omega)) (cwV 0 ht (ts_gV wd_988 wd_990 wd_22 wd_122 wd_991) rfl rfl rfl (by decide +kernel) ⟨Nat.le_of_ble_eq_true rfl, Nat.le_of_ble_eq_true rfl⟩) (gc_preV (ci := 11) (q0 := 0) hK (tw_right hP) (tw_rightD hD) rfl rfl) rfl rfl hl.1 rfl (lv_room (Nat.le_of_ble_eq_true rfl)) dX11_ahead_59 ⟨Nat.le_of_ble_eq_true rfl, Nat.le_of_ble_eq_true rfl⟩) hP hD hS hA (fun wt H locs hw hP hD hS => ?_)
                obtain ⟨hT, hkp⟩ := hw
                have hW := hW.call (show ∀ x ∈ [0, 1, 2, 709], x ∈ [0, 1, 2, 709] by decide) hkp
                have hP : va_P (gg_D G) classes ([(h0, .inr (11, [.ref tp, .ref ra1, .ref ra2, .ref ra3, .ref ra4, .ref ra5, .ref ra6, .ref ra7, .ref ra8, .ref ra9, .ref ra10, .ref ra11, .ref ra12, .int rc, .int fo, .int xx]))] ++ wt) H := hP
                have hD : va_D A ([(h0, .inr (11, [.ref tp, .ref ra1, .ref ra2, .ref ra3, .ref ra4, .ref ra5, .ref ra6, .ref ra7, .ref ra8, .ref ra9, .ref ra10, .ref ra11, .ref ra12, .int rc, .int fo, .int xx]))] ++ wt) := hD
                refine lv_aload_n hx hb dX11_ahead_62 rfl (lv_at hl 0 rfl) ?_
                refine gq_get hx hb ht hown hK hP i_X11 0 rfl rfl 9 (by decide) wd_506 rfl rfl dX11_ahead_63 ?_
                refine lv_aload_n hx hb dX11_ahead_66 rfl (lv_at hl 0 rfl) ?_
                refine gq_get hx hb ht hown hK hP i_X11 0 rfl rfl 4 (by decide) wd_501 rfl rfl dX11_ahead_67 ?_
                refine lv_iload_n hx hb dX11_ahead_70 rfl (lv_at hl 2 rfl) ?_
                refine gt_callV (wr := [(h0, .inr (11, [.ref tp, .ref ra1, .ref ra2, .ref ra3, .ref ra4, .ref ra5, .ref ra6, .ref ra7, .ref ra8, .ref ra9, .ref ra10, .ref ra11, .ref ra12, .int rc, .int fo, .int xx]))]) (va_runV (As := [.ref ra4, .int w]) (rest := []) ⟨hx, hb, hml, hown, ht⟩ (d_passMany l G Γ H.size wt hT ra9 ra4 w kr9 kr4) (cwV 2 ht (ts_gV wd_993 wd_994 wd_995 wd_130 wd_996) rfl rfl rfl (by decide +kernel) ⟨Nat.le_of_ble_eq_true rfl, Nat.le_of_ble_eq_true rfl⟩) (gt_preW (ci := 0) hK hT (tw_right hP) (tw_rightD hD) kr9 (by decide) rfl) rfl rfl hl.1 rfl (lv_room (Nat.le_of_ble_eq_true rfl)) dX11_ahead_71 ⟨Nat.le_of_ble_eq_true rfl, Nat.le_of_ble_eq_true rfl⟩) hP hD hS hA (fun wt H locs hw hP hD hS => ?_)
                obtain ⟨hT, hkp⟩ := hw
                have hW := hW.call (show ∀ x ∈ [709], x ∈ [0, 1, 2, 709] by decide) hkp
                have hP : va_P (gg_D G) classes ([(h0, .inr (11, [.ref tp, .ref ra1, .ref ra2, .ref ra3, .ref ra4, .ref ra5, .ref ra6, .ref ra7, .ref ra8, .ref ra9, .ref ra10, .ref ra11, .ref ra12, .int rc, .int fo, .int xx]))] ++ wt) H := hP
                have hD : va_D A ([(h0, .inr (11, [.ref tp, .ref ra1, .ref ra2, .ref ra3, .ref ra4, .ref ra5, .ref ra6, .ref ra7, .ref ra8, .ref ra9, .ref ra10, .ref ra11, .ref ra12, .int rc, .int fo, .int xx]))] ++ wt) := hD
                refine lv_iload_n hx hb dX11_ahead_74 rfl (lv_at hl 3 rfl) ?_
                refine lv_if_ne (tgt := 88) hx hb dX11_ahead_75 (by decide) (fun _ => ?_) (fun c0 => False.elim (by rw [← Int32.toInt_inj] at c0; omega))
                refine lv_iload_n hx hb dX11_ahead_88 rfl (lv_at hl 3 rfl) ?_
                refine lv_iconst (v := 1) hx hb dX11_ahead_89 (by decide +kernel) ?_
                refine lv_icmp_ne (tgt := 105) hx hb dX11_ahead_90 (by decide) (fun c_10 => ?_) (fun c_10 => ?_)
                · rw [← Int32.toInt_inj] at c_10
                  refine lv_aload_n hx hb dX11_ahead_105 rfl (lv_at hl 0 rfl) ?_
                  refine gq_get hx hb ht hown hK hP i_X11 0 rfl rfl 4 (by decide) wd_501 rfl rfl dX11_ahead_106 ?_
                  refine lv_iload_n hx hb dX11_ahead_109 rfl (lv_at hl 1 rfl) ?_
                  refine lv_aload_n hx hb dX11_ahead_110 rfl (lv_at hl 0 rfl) ?_
                  refine gq_get hx hb ht hown hK hP i_X11 0 rfl rfl 1 (by decide) wd_498 rfl rfl dX11_ahead_111 ?_
                  refine gt_callI (wr := [(h0, .inr (11, [.ref tp, .ref ra1, .ref ra2, .ref ra3, .ref ra4, .ref ra5, .ref ra6, .ref ra7, .ref ra8, .ref ra9, .ref ra10, .ref ra11, .ref ra12, .int rc, .int fo, .int xx]))]) (va_runV (As := [.int b, .ref ra1]) (rest := []) ⟨hx, hb, hml, hown, ht⟩ (d_gainOf l G Γ H.size wt hT ra4 b ra1 kr4 (by omega) (by omega) kr1) (cwV 2 ht (ts_gV wd_808 wd_809 wd_810 wd_125 wd_811) rfl rfl rfl (by decide +kernel) ⟨Nat.le_of_ble_eq_true rfl, Nat.le_of_ble_eq_true rfl⟩) (gt_preW (ci := 7) hK hT (tw_right hP) (tw_rightD hD) kr4 (by decide) rfl) rfl rfl hl.1 rfl (lv_room (Nat.le_of_ble_eq_true rfl)) dX11_ahead_114 ⟨Nat.le_of_ble_eq_true rfl, Nat.le_of_ble_eq_true rfl⟩) hP hD hS hA (fun r_11 wt H locs hw hP hD hS => ?_)
                  obtain ⟨hT, hkp⟩ := hw
                  have hW := hW.call (show ∀ x ∈ [], x ∈ [0, 1, 2, 709] by decide) hkp
                  have hP : va_P (gg_D G) classes ([(h0, .inr (11, [.ref tp, .ref ra1, .ref ra2, .ref ra3, .ref ra4, .ref ra5, .ref ra6, .ref ra7, .ref ra8, .ref ra9, .ref ra10, .ref ra11, .ref ra12, .int rc, .int fo, .int xx]))] ++ wt) H := hP
                  have hD : va_D A ([(h0, .inr (11, [.ref tp, .ref ra1, .ref ra2, .ref ra3, .ref ra4, .ref ra5, .ref ra6, .ref ra7, .ref ra8, .ref ra9, .ref ra10, .ref ra11, .ref ra12, .int rc, .int fo, .int xx]))] ++ wt) := hD
                  have hP9 : va_P (gg_D G) classes ([(h0, .inr (11, [.ref tp, .ref ra1, .ref ra2, .ref ra3, .ref ra4, .ref ra5, .ref ra6, .ref ra7, .ref ra8, .ref ra9, .ref ra10, .ref ra11, .ref ra12, .int rc, .int fo, .int xx]))] ++ wt) _ := hP
                  have hD9 : va_D A ([(h0, .inr (11, [.ref tp, .ref ra1, .ref ra2, .ref ra3, .ref ra4, .ref ra5, .ref ra6, .ref ra7, .ref ra8, .ref ra9, .ref ra10, .ref ra11, .ref ra12, .int rc, .int fo, .int xx]))] ++ wt) := hD
                  exact W.iret (v := r_11) hx hb hr (gq_endI wt ⟨hT, hW⟩ hP9 hD9 hS) hS.2.2 dX11_ahead_117
                · rw [← Int32.toInt_inj] at c_10
                  refine lv_aload_n hx hb dX11_ahead_93 rfl (lv_at hl 0 rfl) ?_
                  refine gq_get hx hb ht hown hK hP i_X11 0 rfl rfl 4 (by decide) wd_501 rfl rfl dX11_ahead_94 ?_
                  refine tr_get (ci := 7) hx hb ht hown hK hT hP kr4 (by decide) i_X7 rfl 1 (by decide) wd_236 rfl dX11_ahead_97 (fun v hv hf_12 => ?_)
                  obtain ⟨q_13, rfl, hq_13⟩ := hv
                  refine lv_iload_n hx hb dX11_ahead_100 rfl (lv_at hl 1 rfl) ?_
                  refine tr_iald hx hb hK hT hP 20 hq_13 (by decide) (by decide) (show vp_in _ (tk_len 20) from ia_in (n := 5) (by omega) (by omega)) dX11_ahead_101 (fun n_14 hn_14 => ?_)
                  clear hn_14
                  refine lv_goto (tgt := 117) hx hb dX11_ahead_102 (by decide) ?_
                  have hP9 : va_P (gg_D G) classes ([(h0, .inr (11, [.ref tp, .ref ra1, .ref ra2, .ref ra3, .ref ra4, .ref ra5, .ref ra6, .ref ra7, .ref ra8, .ref ra9, .ref ra10, .ref ra11, .ref ra12, .int rc, .int fo, .int xx]))] ++ wt) _ := hP
                  have hD9 : va_D A ([(h0, .inr (11, [.ref tp, .ref ra1, .ref ra2, .ref ra3, .ref ra4, .ref ra5, .ref ra6, .ref ra7, .ref ra8, .ref ra9, .ref ra10, .ref ra11, .ref ra12, .int rc, .int fo, .int xx]))] ++ wt) := hD
                  exact W.iret (v := n_14) hx hb hr (gq_endI wt ⟨hT, hW⟩ hP9 hD9 hS) hS.2.2 dX11_ahead_117
              · rw [← Int32.toInt_inj] at c_9
                refine lv_sipush (v := (-1000)) hx hb dX11_ahead_54 (by decide +kernel) ?_
                have hP9 : va_P (gg_D G) classes ([(h0, .inr (11, [.ref tp, .ref ra1, .ref ra2, .ref ra3, .ref ra4, .ref ra5, .ref ra6, .ref ra7, .ref ra8, .ref ra9, .ref ra10, .ref ra11, .ref ra12, .int rc, .int fo, .int xx]))] ++ wt) _ := hP
                have hD9 : va_D A ([(h0, .inr (11, [.ref tp, .ref ra1, .ref ra2, .ref ra3, .ref ra4, .ref ra5, .ref ra6, .ref ra7, .ref ra8, .ref ra9, .ref ra10, .ref ra11, .ref ra12, .int rc, .int fo, .int xx]))] ++ wt) := hD
                exact W.iret (v := (-1000)) hx hb hr (gq_endI wt ⟨hT, hW⟩ hP9 hD9 hS) hS.2.2 dX11_ahead_57
            · rw [← Int32.toInt_inj] at c_7
              refine lv_aload_n hx hb dX11_ahead_35 rfl (lv_at hl 0 rfl) ?_
              refine lv_iload_n hx hb dX11_ahead_36 rfl (lv_at hl 1 rfl) ?_
              have hP : va_P (gg_D G) classes ([] ++ ([(h0, .inr (11, [.ref tp, .ref ra1, .ref ra2, .ref ra3, .ref ra4, .ref ra5, .ref ra6, .ref ra7, .ref ra8, .ref ra9, .ref ra10, .ref ra11, .ref ra12, .int rc, .int fo, .int xx]))] ++ wt)) H := hP
              have hD : va_D A ([] ++ ([(h0, .inr (11, [.ref tp, .ref ra1, .ref ra2, .ref ra3, .ref ra4, .ref ra5, .ref ra6, .ref ra7, .ref ra8, .ref ra9, .ref ra10, .ref ra11, .ref ra12, .int rc, .int fo, .int xx]))] ++ wt)) := hD
              refine gt_callI (wr := []) (va_runV (As := [.int b]) (rest := []) ⟨hx, hb, hml, hown, ht⟩ (d_isLot l G Γ H.size wt hT b tp h0 ra1 ra2 ra3 ra4 ra5 ra6 ra7 ra8 ra9 ra10 ra11 ra12 rc fo xx (by first | assumption | omega) (by first | assumption | omega) (by first | assumption | omega) (by first | assumption | omega) (by first | assumption | omega) (by first | assumption | omega) (by first | assumption | omega) (by first | assumption | omega) (by first | assumption | omega) (by first | assumption | omega) (by first | assumption | omega) (by first | assumption | omega) (by first | assumption | omega)) (cwV 1 ht (ts_gV wd_820 wd_822 wd_15 wd_122 wd_823) rfl rfl rfl (by decide +kernel) ⟨Nat.le_of_ble_eq_true rfl, Nat.le_of_ble_eq_true rfl⟩) (gc_preV (ci := 11) (q0 := 0) hK (tw_right hP) (tw_rightD hD) rfl rfl) rfl rfl hl.1 rfl (lv_room (Nat.le_of_ble_eq_true rfl)) dX11_ahead_37 ⟨Nat.le_of_ble_eq_true rfl, Nat.le_of_ble_eq_true rfl⟩) hP hD hS hA (fun r_15 wt H locs hw hP hD hS => ?_)
              obtain ⟨hT, hkp, lo_r_15, hi_r_15, im_r_15⟩ := hw
              have hW := hW.call (show ∀ x ∈ [], x ∈ [0, 1, 2, 709] by decide) hkp
              have hP : va_P (gg_D G) classes ([(h0, .inr (11, [.ref tp, .ref ra1, .ref ra2, .ref ra3, .ref ra4, .ref ra5, .ref ra6, .ref ra7, .ref ra8, .ref ra9, .ref ra10, .ref ra11, .ref ra12, .int rc, .int fo, .int xx]))] ++ wt) H := hP
              have hD : va_D A ([(h0, .inr (11, [.ref tp, .ref ra1, .ref ra2, .ref ra3, .ref ra4, .ref ra5, .ref ra6, .ref ra7, .ref ra8, .ref ra9, .ref ra10, .ref ra11, .ref ra12, .int rc, .int fo, .int xx]))] ++ wt) := hD
              refine lv_if_ne (tgt := 58) hx hb dX11_ahead_40 (by decide) (fun c_16 => ?_) (fun c_16 => ?_)
              · have ic_16 := im_r_15 c_16
                rw [← Int32.toInt_inj] at c_16
                refine lv_aload_n hx hb dX11_ahead_58 rfl (lv_at hl 0 rfl) ?_
                have hP : va_P (gg_D G) classes ([] ++ ([(h0, .inr (11, [.ref tp, .ref ra1, .ref ra2, .ref ra3, .ref ra4, .ref ra5, .ref ra6, .ref ra7, .ref ra8, .ref ra9, .ref ra10, .ref ra11, .ref ra12, .int rc, .int fo, .int xx]))] ++ wt)) H := hP
                have hD : va_D A ([] ++ ([(h0, .inr (11, [.ref tp, .ref ra1, .ref ra2, .ref ra3, .ref ra4, .ref ra5, .ref ra6, .ref ra7, .ref ra8, .ref ra9, .ref ra10, .ref ra11, .ref ra12, .int rc, .int fo, .int xx]))] ++ wt)) := hD
                refine gt_callV (wr := []) (va_runV (As := []) (rest := []) ⟨hx, hb, hml, hown, ht⟩ (d_beginAsking l G Γ H.size wt hT tp h0 ra1 ra2 ra3 ra4 ra5 ra6 ra7 ra8 ra9 ra10 ra11 ra12 rc fo xx (by first | assumption | omega) (by first | assumption | omega) (by first | assumption | omega) (by first | assumption | omega) (by first | assumption | omega) (by first | assumption | omega) (by first | assumption | omega) (by first | assumption | omega) (by first | assumption | omega) (by first | assumption | omega) (by first | assumption | omega) (by first | assumption | omega) (by first | assumption | omega)) (cwV 0 ht (ts_gV wd_988 wd_990 wd_22 wd_122 wd_991) rfl rfl rfl (by decide +kernel) ⟨Nat.le_of_ble_eq_true rfl, Nat.le_of_ble_eq_true rfl⟩) (gc_preV (ci := 11) (q0 := 0) hK (tw_right hP) (tw_rightD hD) rfl rfl) rfl rfl hl.1 rfl (lv_room (Nat.le_of_ble_eq_true rfl)) dX11_ahead_59 ⟨Nat.le_of_ble_eq_true rfl, Nat.le_of_ble_eq_true rfl⟩) hP hD hS hA (fun wt H locs hw hP hD hS => ?_)
                obtain ⟨hT, hkp⟩ := hw
                have hW := hW.call (show ∀ x ∈ [0, 1, 2, 709], x ∈ [0, 1, 2, 709] by decide) hkp
                have hP : va_P (gg_D G) classes ([(h0, .inr (11, [.ref tp, .ref ra1, .ref ra2, .ref ra3, .ref ra4, .ref ra5, .ref ra6, .ref ra7, .ref ra8, .ref ra9, .ref ra10, .ref ra11, .ref ra12, .int rc, .int fo, .int xx]))] ++ wt) H := hP
                have hD : va_D A ([(h0, .inr (11, [.ref tp, .ref ra1, .ref ra2, .ref ra3, .ref ra4, .ref ra5, .ref ra6, .ref ra7, .ref ra8, .ref ra9, .ref ra10, .ref ra11, .ref ra12, .int rc, .int fo, .int xx]))] ++ wt) := hD
                refine lv_aload_n hx hb dX11_ahead_62 rfl (lv_at hl 0 rfl) ?_
                refine gq_get hx hb ht hown hK hP i_X11 0 rfl rfl 9 (by decide) wd_506 rfl rfl dX11_ahead_63 ?_
                refine lv_aload_n hx hb dX11_ahead_66 rfl (lv_at hl 0 rfl) ?_
                refine gq_get hx hb ht hown hK hP i_X11 0 rfl rfl 4 (by decide) wd_501 rfl rfl dX11_ahead_67 ?_
                refine lv_iload_n hx hb dX11_ahead_70 rfl (lv_at hl 2 rfl) ?_
                refine gt_callV (wr := [(h0, .inr (11, [.ref tp, .ref ra1, .ref ra2, .ref ra3, .ref ra4, .ref ra5, .ref ra6, .ref ra7, .ref ra8, .ref ra9, .ref ra10, .ref ra11, .ref ra12, .int rc, .int fo, .int xx]))]) (va_runV (As := [.ref ra4, .int w]) (rest := []) ⟨hx, hb, hml, hown, ht⟩ (d_passMany l G Γ H.size wt hT ra9 ra4 w kr9 kr4) (cwV 2 ht (ts_gV wd_993 wd_994 wd_995 wd_130 wd_996) rfl rfl rfl (by decide +kernel) ⟨Nat.le_of_ble_eq_true rfl, Nat.le_of_ble_eq_true rfl⟩) (gt_preW (ci := 0) hK hT (tw_right hP) (tw_rightD hD) kr9 (by decide) rfl) rfl rfl hl.1 rfl (lv_room (Nat.le_of_ble_eq_true rfl)) dX11_ahead_71 ⟨Nat.le_of_ble_eq_true rfl, Nat.le_of_ble_eq_true rfl⟩) hP hD hS hA (fun wt H locs hw hP hD hS => ?_)
                obtain ⟨hT, hkp⟩ := hw
                have hW := hW.call (show ∀ x ∈ [709], x ∈ [0, 1, 2, 709] by decide) hkp
                have hP : va_P (gg_D G) classes ([(h0, .inr (11, [.ref tp, .ref ra1, .ref ra2, .ref ra3, .ref ra4, .ref ra5, .ref ra6, .ref ra7, .ref ra8, .ref ra9, .ref ra10, .ref ra11, .ref ra12, .int rc, .int fo, .int xx]))] ++ wt) H := hP
                have hD : va_D A ([(h0, .inr (11, [.ref tp, .ref ra1, .ref ra2, .ref ra3, .ref ra4, .ref ra5, .ref ra6, .ref ra7, .ref ra8, .ref ra9, .ref ra10, .ref ra11, .ref ra12, .int rc, .int fo, .int xx]))] ++ wt) := hD
                refine lv_iload_n hx hb dX11_ahead_74 rfl (lv_at hl 3 rfl) ?_
                refine lv_if_ne (tgt := 88) hx hb dX11_ahead_75 (by decide) (fun c0 => False.elim (by rw [← Int32.toInt_inj] at c0; omega)) (fun _ => ?_)
                refine lv_aload_n hx hb dX11_ahead_78 rfl (lv_at hl 0 rfl) ?_
                refine gq_get hx hb ht hown hK hP i_X11 0 rfl rfl 4 (by decide) wd_501 rfl rfl dX11_ahead_79 ?_
                refine tr_get (ci := 7) hx hb ht hown hK hT hP kr4 (by decide) i_X7 rfl 6 (by decide) wd_257 rfl dX11_ahead_82 (fun v hv hf_17 => ?_)
                obtain ⟨q_18, rfl, hq_18⟩ := hv
                refine lv_iload_n hx hb dX11_ahead_85 rfl (lv_at hl 1 rfl) ?_
                refine tr_iald hx hb hK hT hP 21 hq_18 (by decide) (by decide) (show vp_in _ (tk_len 21) from ia_in (n := 3) (by omega) (by omega)) dX11_ahead_86 (fun n_19 hn_19 => ?_)
                clear hn_19
                have hP9 : va_P (gg_D G) classes ([(h0, .inr (11, [.ref tp, .ref ra1, .ref ra2, .ref ra3, .ref ra4, .ref ra5, .ref ra6, .ref ra7, .ref ra8, .ref ra9, .ref ra10, .ref ra11, .ref ra12, .int rc, .int fo, .int xx]))] ++ wt) _ := hP
                have hD9 : va_D A ([(h0, .inr (11, [.ref tp, .ref ra1, .ref ra2, .ref ra3, .ref ra4, .ref ra5, .ref ra6, .ref ra7, .ref ra8, .ref ra9, .ref ra10, .ref ra11, .ref ra12, .int rc, .int fo, .int xx]))] ++ wt) := hD
                exact W.iret (v := n_19) hx hb hr (gq_endI wt ⟨hT, hW⟩ hP9 hD9 hS) hS.2.2 dX11_ahead_87
              · rw [← Int32.toInt_inj] at c_16
                refine lv_goto (tgt := 54) hx hb dX11_ahead_43 (by decide) ?_
                refine lv_sipush (v := (-1000)) hx hb dX11_ahead_54 (by decide +kernel) ?_
                have hP9 : va_P (gg_D G) classes ([(h0, .inr (11, [.ref tp, .ref ra1, .ref ra2, .ref ra3, .ref ra4, .ref ra5, .ref ra6, .ref ra7, .ref ra8, .ref ra9, .ref ra10, .ref ra11, .ref ra12, .int rc, .int fo, .int xx]))] ++ wt) _ := hP
                have hD9 : va_D A ([(h0, .inr (11, [.ref tp, .ref ra1, .ref ra2, .ref ra3, .ref ra4, .ref ra5, .ref ra6, .ref ra7, .ref ra8, .ref ra9, .ref ra10, .ref ra11, .ref ra12, .int rc, .int fo, .int xx]))] ++ wt) := hD
                exact W.iret (v := (-1000)) hx hb hr (gq_endI wt ⟨hT, hW⟩ hP9 hD9 hS) hS.2.2 dX11_ahead_57
          · rw [Int32.le_iff_toInt_le] at c_6
            refine lv_sipush (v := (-1000)) hx hb dX11_ahead_27 (by decide +kernel) ?_
            have hP9 : va_P (gg_D G) classes ([(h0, .inr (11, [.ref tp, .ref ra1, .ref ra2, .ref ra3, .ref ra4, .ref ra5, .ref ra6, .ref ra7, .ref ra8, .ref ra9, .ref ra10, .ref ra11, .ref ra12, .int rc, .int fo, .int xx]))] ++ wt) _ := hP
            have hD9 : va_D A ([(h0, .inr (11, [.ref tp, .ref ra1, .ref ra2, .ref ra3, .ref ra4, .ref ra5, .ref ra6, .ref ra7, .ref ra8, .ref ra9, .ref ra10, .ref ra11, .ref ra12, .int rc, .int fo, .int xx]))] ++ wt) := hD
            exact W.iret (v := (-1000)) hx hb hr (gq_endI wt ⟨hT, hW⟩ hP9 hD9 hS) hS.2.2 dX11_ahead_30
set_option maxHeartbeats 4000000 in
set_option maxRecDepth 100000 in
theorem d_ends (l : Launch) (G : gg_T) (Γ : Nat → Nat) (sz : Nat) (wt : va_W) (hT : tk_ty G Γ wt) (b : Int32) (w : Int32) (tp : Nat) (h0 : Nat) (ra1 : Nat) (ra2 : Nat) (ra3 : Nat) (ra4 : Nat) (ra5 : Nat) (ra6 : Nat) (ra7 : Nat) (ra8 : Nat) (ra9 : Nat) (ra10 : Nat) (ra11 : Nat) (ra12 : Nat) (rc : Int32) (fo : Int32) (xx : Int32) (kr1 : Γ ra1 = 10) (kr2 : Γ ra2 = 10) (kr3 : Γ ra3 = 8) (kr4 : Γ ra4 = 8) (kr5 : Γ ra5 = 4) (kr6 : Γ ra6 = 3) (kr7 : Γ ra7 = 41) (kr9 : Γ ra9 = 1) (kr10 : Γ ra10 = 6) (kr11 : Γ ra11 = 11) (kr12 : Γ ra12 = 7) (xr1 : 0 ≤ rc.toInt) (xr2 : rc.toInt ≤ 6) : Met l yX11_ends (ts_L yX11_ends cX11_ends 3 (some .int)) ({ frames := 6, cells := 0, slots := 0, locals := 146 }) (gc_P G ([(h0, .inr (11, [.ref tp, .ref ra1, .ref ra2, .ref ra3, .ref ra4, .ref ra5, .ref ra6, .ref ra7, .ref ra8, .ref ra9, .ref ra10, .ref ra11, .ref ra12, .int rc, .int fo, .int xx]))] ++ wt) sz [.ref h0, .int b, .int w]) (gc_I G (va_A ([(h0, .inr (11, [.ref tp, .ref ra1, .ref ra2, .ref ra3, .ref ra4, .ref ra5, .ref ra6, .ref ra7, .ref ra8, .ref ra9, .ref ra10, .ref ra11, .ref ra12, .int rc, .int fo, .int xx]))] ++ wt) sz) (fun r (u : va_W) => match u with | wt1 => tk_ty G Γ wt1 ∧ tk_kp [0, 1, 2, 709] wt wt1) (fun (u : va_W) => match u with | wt1 => [(h0, .inr (11, [.ref tp, .ref ra1, .ref ra2, .ref ra3, .ref ra4, .ref ra5, .ref ra6, .ref ra7, .ref ra8, .ref ra9, .ref ra10, .ref ra11, .ref ra12, .int rc, .int fo, .int xx]))] ++ wt1)) 0 0 (va_A ([(h0, .inr (11, [.ref tp, .ref ra1, .ref ra2, .ref ra3, .ref ra4, .ref ra5, .ref ra6, .ref ra7, .ref ra8, .ref ra9, .ref ra10, .ref ra11, .ref ra12, .int rc, .int fo, .int xx]))] ++ wt) sz) := by
  refine Met.ofW (cc := cX11_ends) (maxL := 3) (ret := (some .int)) (by decide) rfl ?_
  intro p e s m args below meth c s₁ B hml hv
  obtain ⟨rfl, hsz, hP, hK, hD0⟩ := hv
  have hx := B.exec
  have hb := B.bytes
  have hr := B.returns
  have ht := ts_ht (atoms_spec (ws := ts_L yX11_ends cX11_ends 3 (some .int)) B.pre)
  have hown : s.vm.findClass RX11 = some m.cls := findClass_of_methodNamed B.named
  have hlocks := B.notSynchronized
  subst hsz
  have hD := hD0.self (sz := s.heap.size)
  generalize hAe : va_A ([(h0, .inr (11, [.ref tp, .ref ra1, .ref ra2, .ref ra3, .ref ra4, .ref ra5, .ref ra6, .ref ra7, .ref ra8, .ref ra9, .ref ra10, .ref ra11, .ref ra12, .int rc, .int fo, .int xx]))] ++ wt) s.heap.size = A at hD ⊢
  have hA : ∀ q : Nat, s.heap.size ≤ q → A q := fun q h => by rw [← hAe]; exact Or.inr h
  clear hAe hD0
  have hS : va_S A s.heap s.heap [] := va_S.rf
  obtain ⟨w0, hw0⟩ : ∃ z, z = wt := ⟨_, rfl⟩
  have hW : tk_kp [0, 1, 2, 709] w0 wt := by rw [hw0]; exact tk_kp.rf
  rw [← hw0]
  clear hw0
  have hP : va_P (gg_D G) classes ([(h0, .inr (11, [.ref tp, .ref ra1, .ref ra2, .ref ra3, .ref ra4, .ref ra5, .ref ra6, .ref ra7, .ref ra8, .ref ra9, .ref ra10, .ref ra11, .ref ra12, .int rc, .int fo, .int xx]))] ++ wt) s.heap := hP
  have hD : va_D A ([(h0, .inr (11, [.ref tp, .ref ra1, .ref ra2, .ref ra3, .ref ra4, .ref ra5, .ref ra6, .ref ra7, .ref ra8, .ref ra9, .ref ra10, .ref ra11, .ref ra12, .int rc, .int fo, .int xx]))] ++ wt) := hD
  have hl := lv_entry ([.ref h0, .int b, .int w]) (n := 3) (Nat.le_of_ble_eq_true rfl)
  rw [lg_entry_eq]
  generalize (lg_sl ([.ref h0, .int b, .int w]) ++ List.replicate (3 - (lg_sl ([.ref h0, .int b, .int w])).length) Slot.unset).toArray = ls at hl ⊢
  have hl : lv_has ls 3 [(0, .ref h0), (1, .int b), (2, .int w)] := hl
  have lm2 : ((-2) : Int32).toInt = -2 := by decide +kernel
  have l0 : (0 : Int32).toInt = 0 := by decide +kernel
  have l1 : (1 : Int32).toInt = 1 := by decide +kernel
  have l2 : (2 : Int32).toInt = 2 := by decide +kernel
  refine lv_aload_n hx hb dX11_ends_0 rfl (lv_at hl 0 rfl) ?_
  refine lv_iload_n hx hb dX11_ends_1 rfl (lv_at hl 1 rfl) ?_
  have hP : va_P (gg_D G) classes ([] ++ ([(h0, .inr (11, [.ref tp, .ref ra1, .ref ra2, .ref ra3, .ref ra4, .ref ra5, .ref ra6, .ref ra7, .ref ra8, .ref ra9, .ref ra10, .ref ra11, .ref ra12, .int rc, .int fo, .int xx]))] ++ wt)) s.heap := hP
  have hD : va_D A ([] ++ ([(h0, .inr (11, [.ref tp, .ref ra1, .ref ra2, .ref ra3, .ref ra4, .ref ra5, .ref ra6, .ref ra7, .ref ra8, .ref ra9, .ref ra10, .ref ra11, .ref ra12, .int rc, .int fo, .int xx]))] ++ wt)) := hD
  refine gt_callI (wr := []) (va_runV (As := [.int b]) (rest := []) ⟨hx, hb, hml, hown, ht⟩ (d_isLot l G Γ s.heap.size wt hT b tp h0 ra1 ra2 ra3 ra4 ra5 ra6 ra7 ra8 ra9 ra10 ra11 ra12 rc fo xx (by first | assumption | omega) (by first | assumption | omega) (by first | assumption | omega) (by first | assumption | omega) (by first | assumption | omega) (by first | assumption | omega) (by first | assumption | omega) (by first | assumption | omega) (by first | assumption | omega) (by first | assumption | omega) (by first | assumption | omega) (by first | assumption | omega) (by first | assumption | omega)) (cwV 1 ht (ts_gV wd_820 wd_822 wd_15 wd_122 wd_823) rfl rfl rfl (by decide +kernel) ⟨Nat.le_of_ble_eq_true rfl, Nat.le_of_ble_eq_true rfl⟩) (gc_preV (ci := 11) (q0 := 0) hK (tw_right hP) (tw_rightD hD) rfl rfl) rfl rfl hl.1 rfl (lv_room (Nat.le_of_ble_eq_true rfl)) dX11_ends_2 ⟨Nat.le_of_ble_eq_true rfl, Nat.le_of_ble_eq_true rfl⟩) hP hD hS hA (fun r_1 wt H locs hw hP hD hS => ?_)
  obtain ⟨hT, hkp, lo_r_1, hi_r_1, im_r_1⟩ := hw
  have hW := hW.call (show ∀ x ∈ [], x ∈ [0, 1, 2, 709] by decide) hkp
  have hP : va_P (gg_D G) classes ([(h0, .inr (11, [.ref tp, .ref ra1, .ref ra2, .ref ra3, .ref ra4, .ref ra5, .ref ra6, .ref ra7, .ref ra8, .ref ra9, .ref ra10, .ref ra11, .ref ra12, .int rc, .int fo, .int xx]))] ++ wt) H := hP
  have hD : va_D A ([(h0, .inr (11, [.ref tp, .ref ra1, .ref ra2, .ref ra3, .ref ra4, .ref ra5, .ref ra6, .ref ra7, .ref ra8, .ref ra9, .ref ra10, .ref ra11, .ref ra12, .int rc, .int fo, .int xx]))] ++ wt) := hD
  refine lv_if_eq (tgt := 30) hx hb dX11_ends_5 (by decide) (fun c_2 => ?_) (fun c_2 => ?_)
  · rw [← Int32.toInt_inj] at c_2
    refine lv_bipush (v := (-2)) hx hb dX11_ends_30 (by decide +kernel) ?_
    have hP9 : va_P (gg_D G) classes ([(h0, .inr (11, [.ref tp, .ref ra1, .ref ra2, .ref ra3, .ref ra4, .ref ra5, .ref ra6, .ref ra7, .ref ra8, .ref ra9, .ref ra10, .ref ra11, .ref ra12, .int rc, .int fo, .int xx]))] ++ wt) _ := hP
    have hD9 : va_D A ([(h0, .inr (11, [.ref tp, .ref ra1, .ref ra2, .ref ra3, .ref ra4, .ref ra5, .ref ra6, .ref ra7, .ref ra8, .ref ra9, .ref ra10, .ref ra11, .ref ra12, .int rc, .int fo, .int xx]))] ++ wt) := hD
    exact W.iret (v := (-2)) hx hb hr (gq_endI wt ⟨hT, hW⟩ hP9 hD9 hS) hS.2.2 dX11_ends_32
  · have ic_2 := im_r_1 c_2
    rw [← Int32.toInt_inj] at c_2
    refine lv_aload_n hx hb dX11_ends_8 rfl (lv_at hl 0 rfl) ?_
    refine gq_get hx hb ht hown hK hP i_X11 0 rfl rfl 3 (by decide) wd_500 rfl rfl dX11_ends_9 ?_
    refine tr_get (ci := 7) hx hb ht hown hK hT hP kr3 (by decide) i_X7 rfl 4 (by decide) wd_249 rfl dX11_ends_12 (fun v hv hf_3 => ?_)
    obtain ⟨q_4, rfl, hq_4⟩ := hv
    refine lv_iload_n hx hb dX11_ends_15 rfl (lv_at hl 1 rfl) ?_
    refine tr_iald hx hb hK hT hP 21 hq_4 (by decide) (by decide) (show vp_in _ (tk_len 21) from ia_in (n := 3) (by omega) (by omega)) dX11_ends_16 (fun n_5 hn_5 => ?_)
    clear hn_5
    refine lv_iconst (v := 1) hx hb dX11_ends_17 (by decide +kernel) ?_
    refine lv_icmp_ne (tgt := 30) hx hb dX11_ends_18 (by decide) (fun c_6 => ?_) (fun c_6 => ?_)
    · rw [← Int32.toInt_inj] at c_6
      refine lv_bipush (v := (-2)) hx hb dX11_ends_30 (by decide +kernel) ?_
      have hP9 : va_P (gg_D G) classes ([(h0, .inr (11, [.ref tp, .ref ra1, .ref ra2, .ref ra3, .ref ra4, .ref ra5, .ref ra6, .ref ra7, .ref ra8, .ref ra9, .ref ra10, .ref ra11, .ref ra12, .int rc, .int fo, .int xx]))] ++ wt) _ := hP
      have hD9 : va_D A ([(h0, .inr (11, [.ref tp, .ref ra1, .ref ra2, .ref ra3, .ref ra4, .ref ra5, .ref ra6, .ref ra7, .ref ra8, .ref ra9, .ref ra10, .ref ra11, .ref ra12, .int rc, .int fo, .int xx]))] ++ wt) := hD
      exact W.iret (v := (-2)) hx hb hr (gq_endI wt ⟨hT, hW⟩ hP9 hD9 hS) hS.2.2 dX11_ends_32
    · rw [← Int32.toInt_inj] at c_6
      refine lv_iload_n hx hb dX11_ends_21 rfl (lv_at hl 2 rfl) ?_
      refine lv_if_lt (tgt := 30) hx hb dX11_ends_22 (by decide) (fun c_7 => ?_) (fun c_7 => ?_)
      · rw [Int32.lt_iff_toInt_lt] at c_7
        refine lv_bipush (v := (-2)) hx hb dX11_ends_30 (by decide +kernel) ?_
        have hP9 : va_P (gg_D G) classes ([(h0, .inr (11, [.ref tp, .ref ra1, .ref ra2, .ref ra3, .ref ra4, .ref ra5, .ref ra6, .ref ra7, .ref ra8, .ref ra9, .ref ra10, .ref ra11, .ref ra12, .int rc, .int fo, .int xx]))] ++ wt) _ := hP
        have hD9 : va_D A ([(h0, .inr (11, [.ref tp, .ref ra1, .ref ra2, .ref ra3, .ref ra4, .ref ra5, .ref ra6, .ref ra7, .ref ra8, .ref ra9, .ref ra10, .ref ra11, .ref ra12, .int rc, .int fo, .int xx]))] ++ wt) := hD
        exact W.iret (v := (-2)) hx hb hr (gq_endI wt ⟨hT, hW⟩ hP9 hD9 hS) hS.2.2 dX11_ends_32
      · rw [Int32.lt_iff_toInt_lt] at c_7
        refine lv_iload_n hx hb dX11_ends_25 rfl (lv_at hl 2 rfl) ?_
        refine lv_iconst (v := 2) hx hb dX11_ends_26 (by decide +kernel) ?_
        refine lv_icmp_le (tgt := 33) hx hb dX11_ends_27 (by decide) (fun c_8 => ?_) (fun c_8 => ?_)
        · rw [Int32.le_iff_toInt_le] at c_8
          refine lv_aload_n hx hb dX11_ends_33 rfl (lv_at hl 0 rfl) ?_
          have hP : va_P (gg_D G) classes ([] ++ ([(h0, .inr (11, [.ref tp, .ref ra1, .ref ra2, .ref ra3, .ref ra4, .ref ra5, .ref ra6, .ref ra7, .ref ra8, .ref ra9, .ref ra10, .ref ra11, .ref ra12, .int rc, .int fo, .int xx]))] ++ wt)) H := hP
          have hD : va_D A ([] ++ ([(h0, .inr (11, [.ref tp, .ref ra1, .ref ra2, .ref ra3, .ref ra4, .ref ra5, .ref ra6, .ref ra7, .ref ra8, .ref ra9, .ref ra10, .ref ra11, .ref ra12, .int rc, .int fo, .int xx]))] ++ wt)) := hD
          refine gt_callV (wr := []) (va_runV (As := []) (rest := []) ⟨hx, hb, hml, hown, ht⟩ (d_beginAsking l G Γ H.size wt hT tp h0 ra1 ra2 ra3 ra4 ra5 ra6 ra7 ra8 ra9 ra10 ra11 ra12 rc fo xx (by first | assumption | omega) (by first | assumption | omega) (by first | assumption | omega) (by first | assumption | omega) (by first | assumption | omega) (by first | assumption | omega) (by first | assumption | omega) (by first | assumption | omega) (by first | assumption | omega) (by first | assumption | omega) (by first | assumption | omega) (by first | assumption | omega) (by first | assumption | omega)) (cwV 0 ht (ts_gV wd_988 wd_990 wd_22 wd_122 wd_991) rfl rfl rfl (by decide +kernel) ⟨Nat.le_of_ble_eq_true rfl, Nat.le_of_ble_eq_true rfl⟩) (gc_preV (ci := 11) (q0 := 0) hK (tw_right hP) (tw_rightD hD) rfl rfl) rfl rfl hl.1 rfl (lv_room (Nat.le_of_ble_eq_true rfl)) dX11_ends_34 ⟨Nat.le_of_ble_eq_true rfl, Nat.le_of_ble_eq_true rfl⟩) hP hD hS hA (fun wt H locs hw hP hD hS => ?_)
          obtain ⟨hT, hkp⟩ := hw
          have hW := hW.call (show ∀ x ∈ [0, 1, 2, 709], x ∈ [0, 1, 2, 709] by decide) hkp
          have hP : va_P (gg_D G) classes ([(h0, .inr (11, [.ref tp, .ref ra1, .ref ra2, .ref ra3, .ref ra4, .ref ra5, .ref ra6, .ref ra7, .ref ra8, .ref ra9, .ref ra10, .ref ra11, .ref ra12, .int rc, .int fo, .int xx]))] ++ wt) H := hP
          have hD : va_D A ([(h0, .inr (11, [.ref tp, .ref ra1, .ref ra2, .ref ra3, .ref ra4, .ref ra5, .ref ra6, .ref ra7, .ref ra8, .ref ra9, .ref ra10, .ref ra11, .ref ra12, .int rc, .int fo, .int xx]))] ++ wt) := hD
          refine lv_aload_n hx hb dX11_ends_37 rfl (lv_at hl 0 rfl) ?_
          refine gq_get hx hb ht hown hK hP i_X11 0 rfl rfl 9 (by decide) wd_506 rfl rfl dX11_ends_38 ?_
          refine lv_aload_n hx hb dX11_ends_41 rfl (lv_at hl 0 rfl) ?_
          refine gq_get hx hb ht hown hK hP i_X11 0 rfl rfl 4 (by decide) wd_501 rfl rfl dX11_ends_42 ?_
          refine lv_iload_n hx hb dX11_ends_45 rfl (lv_at hl 1 rfl) ?_
          refine gt_callV (wr := [(h0, .inr (11, [.ref tp, .ref ra1, .ref ra2, .ref ra3, .ref ra4, .ref ra5, .ref ra6, .ref ra7, .ref ra8, .ref ra9, .ref ra10, .ref ra11, .ref ra12, .int rc, .int fo, .int xx]))]) (va_runV (As := [.ref ra4, .int b]) (rest := []) ⟨hx, hb, hml, hown, ht⟩ (d_passTillOver l G Γ H.size wt hT ra9 ra4 b kr9 kr4 (by omega) (by omega)) (cwV 2 ht (ts_gV wd_1003 wd_1004 wd_1005 wd_130 wd_1006) rfl rfl rfl (by decide +kernel) ⟨Nat.le_of_ble_eq_true rfl, Nat.le_of_ble_eq_true rfl⟩) (gt_preW (ci := 0) hK hT (tw_right hP) (tw_rightD hD) kr9 (by decide) rfl) rfl rfl hl.1 rfl (lv_room (Nat.le_of_ble_eq_true rfl)) dX11_ends_46 ⟨Nat.le_of_ble_eq_true rfl, Nat.le_of_ble_eq_true rfl⟩) hP hD hS hA (fun wt H locs hw hP hD hS => ?_)
          obtain ⟨hT, hkp⟩ := hw
          have hW := hW.call (show ∀ x ∈ [709], x ∈ [0, 1, 2, 709] by decide) hkp
          have hP : va_P (gg_D G) classes ([(h0, .inr (11, [.ref tp, .ref ra1, .ref ra2, .ref ra3, .ref ra4, .ref ra5, .ref ra6, .ref ra7, .ref ra8, .ref ra9, .ref ra10, .ref ra11, .ref ra12, .int rc, .int fo, .int xx]))] ++ wt) H := hP
          have hD : va_D A ([(h0, .inr (11, [.ref tp, .ref ra1, .ref ra2, .ref ra3, .ref ra4, .ref ra5, .ref ra6, .ref ra7, .ref ra8, .ref ra9, .ref ra10, .ref ra11, .ref ra12, .int rc, .int fo, .int xx]))] ++ wt) := hD
          refine lv_iload_n hx hb dX11_ends_49 rfl (lv_at hl 2 rfl) ?_
          refine lv_if_ne (tgt := 73) hx hb dX11_ends_50 (by decide) (fun c_9 => ?_) (fun c_9 => ?_)
          · rw [← Int32.toInt_inj] at c_9
            refine lv_iload_n hx hb dX11_ends_73 rfl (lv_at hl 2 rfl) ?_
            refine lv_iconst (v := 1) hx hb dX11_ends_74 (by decide +kernel) ?_
            refine lv_icmp_ne (tgt := 90) hx hb dX11_ends_75 (by decide) (fun c_10 => ?_) (fun c_10 => ?_)
            · rw [← Int32.toInt_inj] at c_10
              refine lv_aload_n hx hb dX11_ends_90 rfl (lv_at hl 0 rfl) ?_
              refine gq_get hx hb ht hown hK hP i_X11 0 rfl rfl 4 (by decide) wd_501 rfl rfl dX11_ends_91 ?_
              refine tr_get (ci := 7) hx hb ht hown hK hT hP kr4 (by decide) i_X7 rfl 7 (by decide) wd_260 rfl dX11_ends_94 (fun v hv hf_11 => ?_)
              obtain ⟨q_12, rfl, hq_12⟩ := hv
              refine lv_iload_n hx hb dX11_ends_97 rfl (lv_at hl 1 rfl) ?_
              refine tr_iald hx hb hK hT hP 21 hq_12 (by decide) (by decide) (show vp_in _ (tk_len 21) from ia_in (n := 3) (by omega) (by omega)) dX11_ends_98 (fun n_13 hn_13 => ?_)
              clear hn_13
              have hP9 : va_P (gg_D G) classes ([(h0, .inr (11, [.ref tp, .ref ra1, .ref ra2, .ref ra3, .ref ra4, .ref ra5, .ref ra6, .ref ra7, .ref ra8, .ref ra9, .ref ra10, .ref ra11, .ref ra12, .int rc, .int fo, .int xx]))] ++ wt) _ := hP
              have hD9 : va_D A ([(h0, .inr (11, [.ref tp, .ref ra1, .ref ra2, .ref ra3, .ref ra4, .ref ra5, .ref ra6, .ref ra7, .ref ra8, .ref ra9, .ref ra10, .ref ra11, .ref ra12, .int rc, .int fo, .int xx]))] ++ wt) := hD
              exact W.iret (v := n_13) hx hb hr (gq_endI wt ⟨hT, hW⟩ hP9 hD9 hS) hS.2.2 dX11_ends_99
            · rw [← Int32.toInt_inj] at c_10
              refine lv_aload_n hx hb dX11_ends_78 rfl (lv_at hl 0 rfl) ?_
              refine gq_get hx hb ht hown hK hP i_X11 0 rfl rfl 4 (by decide) wd_501 rfl rfl dX11_ends_79 ?_
              refine tr_get (ci := 7) hx hb ht hown hK hT hP kr4 (by decide) i_X7 rfl 6 (by decide) wd_257 rfl dX11_ends_82 (fun v hv hf_14 => ?_)
              obtain ⟨q_15, rfl, hq_15⟩ := hv
              refine lv_iload_n hx hb dX11_ends_85 rfl (lv_at hl 1 rfl) ?_
              refine tr_iald hx hb hK hT hP 21 hq_15 (by decide) (by decide) (show vp_in _ (tk_len 21) from ia_in (n := 3) (by omega) (by omega)) dX11_ends_86 (fun n_16 hn_16 => ?_)
              clear hn_16
              refine lv_goto (tgt := 99) hx hb dX11_ends_87 (by decide) ?_
              have hP9 : va_P (gg_D G) classes ([(h0, .inr (11, [.ref tp, .ref ra1, .ref ra2, .ref ra3, .ref ra4, .ref ra5, .ref ra6, .ref ra7, .ref ra8, .ref ra9, .ref ra10, .ref ra11, .ref ra12, .int rc, .int fo, .int xx]))] ++ wt) _ := hP
              have hD9 : va_D A ([(h0, .inr (11, [.ref tp, .ref ra1, .ref ra2, .ref ra3, .ref ra4, .ref ra5, .ref ra6, .ref ra7, .ref ra8, .ref ra9, .ref ra10, .ref ra11, .ref ra12, .int rc, .int fo, .int xx]))] ++ wt) := hD
              exact W.iret (v := n_16) hx hb hr (gq_endI wt ⟨hT, hW⟩ hP9 hD9 hS) hS.2.2 dX11_ends_99
          · rw [← Int32.toInt_inj] at c_9
            refine lv_aload_n hx hb dX11_ends_53 rfl (lv_at hl 0 rfl) ?_
            refine gq_get hx hb ht hown hK hP i_X11 0 rfl rfl 4 (by decide) wd_501 rfl rfl dX11_ends_54 ?_
            refine tr_get (ci := 7) hx hb ht hown hK hT hP kr4 (by decide) i_X7 rfl 5 (by decide) wd_251 rfl dX11_ends_57 (fun v hv hf_17 => ?_)
            obtain ⟨q_18, rfl, hq_18⟩ := hv
            refine lv_iload_n hx hb dX11_ends_60 rfl (lv_at hl 1 rfl) ?_
            refine tr_iald hx hb hK hT hP 21 hq_18 (by decide) (by decide) (show vp_in _ (tk_len 21) from ia_in (n := 3) (by omega) (by omega)) dX11_ends_61 (fun n_19 hn_19 => ?_)
            clear hn_19
            refine lv_aload_n hx hb dX11_ends_62 rfl (lv_at hl 0 rfl) ?_
            refine gq_get hx hb ht hown hK hP i_X11 0 rfl rfl 3 (by decide) wd_500 rfl rfl dX11_ends_63 ?_
            refine tr_get (ci := 7) hx hb ht hown hK hT hP kr3 (by decide) i_X7 rfl 5 (by decide) wd_251 rfl dX11_ends_66 (fun v hv hf_20 => ?_)
            obtain ⟨q_21, rfl, hq_21⟩ := hv
            refine lv_iload_n hx hb dX11_ends_69 rfl (lv_at hl 1 rfl) ?_
            refine tr_iald hx hb hK hT hP 21 hq_21 (by decide) (by decide) (show vp_in _ (tk_len 21) from ia_in (n := 3) (by omega) (by omega)) dX11_ends_70 (fun n_22 hn_22 => ?_)
            clear hn_22
            obtain ⟨t_23, et_23⟩ : ∃ zz_ : Int32, n_19 - n_22 = zz_ := ⟨_, rfl⟩
            refine gq_isub hx hb t_23 et_23 dX11_ends_71 ?_
            have hP9 : va_P (gg_D G) classes ([(h0, .inr (11, [.ref tp, .ref ra1, .ref ra2, .ref ra3, .ref ra4, .ref ra5, .ref ra6, .ref ra7, .ref ra8, .ref ra9, .ref ra10, .ref ra11, .ref ra12, .int rc, .int fo, .int xx]))] ++ wt) _ := hP
            have hD9 : va_D A ([(h0, .inr (11, [.ref tp, .ref ra1, .ref ra2, .ref ra3, .ref ra4, .ref ra5, .ref ra6, .ref ra7, .ref ra8, .ref ra9, .ref ra10, .ref ra11, .ref ra12, .int rc, .int fo, .int xx]))] ++ wt) := hD
            exact W.iret (v := t_23) hx hb hr (gq_endI wt ⟨hT, hW⟩ hP9 hD9 hS) hS.2.2 dX11_ends_72
        · rw [Int32.le_iff_toInt_le] at c_8
          refine lv_bipush (v := (-2)) hx hb dX11_ends_30 (by decide +kernel) ?_
          have hP9 : va_P (gg_D G) classes ([(h0, .inr (11, [.ref tp, .ref ra1, .ref ra2, .ref ra3, .ref ra4, .ref ra5, .ref ra6, .ref ra7, .ref ra8, .ref ra9, .ref ra10, .ref ra11, .ref ra12, .int rc, .int fo, .int xx]))] ++ wt) _ := hP
          have hD9 : va_D A ([(h0, .inr (11, [.ref tp, .ref ra1, .ref ra2, .ref ra3, .ref ra4, .ref ra5, .ref ra6, .ref ra7, .ref ra8, .ref ra9, .ref ra10, .ref ra11, .ref ra12, .int rc, .int fo, .int xx]))] ++ wt) := hD
          exact W.iret (v := (-2)) hx hb hr (gq_endI wt ⟨hT, hW⟩ hP9 hD9 hS) hS.2.2 dX11_ends_32
set_option maxHeartbeats 4000000 in
set_option maxRecDepth 100000 in
theorem d_seats (l : Launch) (G : gg_T) (Γ : Nat → Nat) (sz : Nat) (wt : va_W) (hT : tk_ty G Γ wt) (b : Int32) (tp : Nat) (h0 : Nat) (ra1 : Nat) (ra2 : Nat) (ra3 : Nat) (ra4 : Nat) (ra5 : Nat) (ra6 : Nat) (ra7 : Nat) (ra8 : Nat) (ra9 : Nat) (ra10 : Nat) (ra11 : Nat) (ra12 : Nat) (rc : Int32) (fo : Int32) (xx : Int32) (kr1 : Γ ra1 = 10) (kr2 : Γ ra2 = 10) (kr3 : Γ ra3 = 8) (kr4 : Γ ra4 = 8) (kr5 : Γ ra5 = 4) (kr6 : Γ ra6 = 3) (kr7 : Γ ra7 = 41) (kr9 : Γ ra9 = 1) (kr10 : Γ ra10 = 6) (kr11 : Γ ra11 = 11) (kr12 : Γ ra12 = 7) (xr1 : 0 ≤ rc.toInt) (xr2 : rc.toInt ≤ 6) : Met l yX11_seats (ts_L yX11_seats cX11_seats 2 (some .int)) ({ frames := 7, cells := 0, slots := 0, locals := 182 }) (gc_P G ([(h0, .inr (11, [.ref tp, .ref ra1, .ref ra2, .ref ra3, .ref ra4, .ref ra5, .ref ra6, .ref ra7, .ref ra8, .ref ra9, .ref ra10, .ref ra11, .ref ra12, .int rc, .int fo, .int xx]))] ++ wt) sz [.ref h0, .int b]) (gc_I G (va_A ([(h0, .inr (11, [.ref tp, .ref ra1, .ref ra2, .ref ra3, .ref ra4, .ref ra5, .ref ra6, .ref ra7, .ref ra8, .ref ra9, .ref ra10, .ref ra11, .ref ra12, .int rc, .int fo, .int xx]))] ++ wt) sz) (fun r (u : va_W) => match u with | wt1 => tk_ty G Γ wt1 ∧ tk_kp [0, 1, 2, 504, 709] wt wt1) (fun (u : va_W) => match u with | wt1 => [(h0, .inr (11, [.ref tp, .ref ra1, .ref ra2, .ref ra3, .ref ra4, .ref ra5, .ref ra6, .ref ra7, .ref ra8, .ref ra9, .ref ra10, .ref ra11, .ref ra12, .int rc, .int fo, .int xx]))] ++ wt1)) 0 0 (va_A ([(h0, .inr (11, [.ref tp, .ref ra1, .ref ra2, .ref ra3, .ref ra4, .ref ra5, .ref ra6, .ref ra7, .ref ra8, .ref ra9, .ref ra10, .ref ra11, .ref ra12, .int rc, .int fo, .int xx]))] ++ wt) sz) := by
  refine Met.ofW (cc := cX11_seats) (maxL := 2) (ret := (some .int)) (by decide) rfl ?_
  intro p e s m args below meth c s₁ B hml hv
  obtain ⟨rfl, hsz, hP, hK, hD0⟩ := hv
  have hx := B.exec
  have hb := B.bytes
  have hr := B.returns
  have ht := ts_ht (atoms_spec (ws := ts_L yX11_seats cX11_seats 2 (some .int)) B.pre)
  have hown : s.vm.findClass RX11 = some m.cls := findClass_of_methodNamed B.named
  have hlocks := B.notSynchronized
  subst hsz
  have hD := hD0.self (sz := s.heap.size)
  generalize hAe : va_A ([(h0, .inr (11, [.ref tp, .ref ra1, .ref ra2, .ref ra3, .ref ra4, .ref ra5, .ref ra6, .ref ra7, .ref ra8, .ref ra9, .ref ra10, .ref ra11, .ref ra12, .int rc, .int fo, .int xx]))] ++ wt) s.heap.size = A at hD ⊢
  have hA : ∀ q : Nat, s.heap.size ≤ q → A q := fun q h => by rw [← hAe]; exact Or.inr h
  clear hAe hD0
  have hS : va_S A s.heap s.heap [] := va_S.rf
  obtain ⟨w0, hw0⟩ : ∃ z, z = wt := ⟨_, rfl⟩
  have hW : tk_kp [0, 1, 2, 504, 709] w0 wt := by rw [hw0]; exact tk_kp.rf
  rw [← hw0]
  clear hw0
  have hP : va_P (gg_D G) classes ([(h0, .inr (11, [.ref tp, .ref ra1, .ref ra2, .ref ra3, .ref ra4, .ref ra5, .ref ra6, .ref ra7, .ref ra8, .ref ra9, .ref ra10, .ref ra11, .ref ra12, .int rc, .int fo, .int xx]))] ++ wt) s.heap := hP
  have hD : va_D A ([(h0, .inr (11, [.ref tp, .ref ra1, .ref ra2, .ref ra3, .ref ra4, .ref ra5, .ref ra6, .ref ra7, .ref ra8, .ref ra9, .ref ra10, .ref ra11, .ref ra12, .int rc, .int fo, .int xx]))] ++ wt) := hD
  have hl := lv_entry ([.ref h0, .int b]) (n := 2) (Nat.le_of_ble_eq_true rfl)
  rw [lg_entry_eq]
  generalize (lg_sl ([.ref h0, .int b]) ++ List.replicate (2 - (lg_sl ([.ref h0, .int b])).length) Slot.unset).toArray = ls at hl ⊢
  have hl : lv_has ls 2 [(0, .ref h0), (1, .int b)] := hl
  have lm1000 : ((-1000) : Int32).toInt = -1000 := by decide +kernel
  have l0 : (0 : Int32).toInt = 0 := by decide +kernel
  have l1 : (1 : Int32).toInt = 1 := by decide +kernel
  have l5 : (5 : Int32).toInt = 5 := by decide +kernel
  refine lv_aload_n hx hb dX11_seats_0 rfl (lv_at hl 0 rfl) ?_
  have hP : va_P (gg_D G) classes ([] ++ ([(h0, .inr (11, [.ref tp, .ref ra1, .ref ra2, .ref ra3, .ref ra4, .ref ra5, .ref ra6, .ref ra7, .ref ra8, .ref ra9, .ref ra10, .ref ra11, .ref ra12, .int rc, .int fo, .int xx]))] ++ wt)) s.heap := hP
  have hD : va_D A ([] ++ ([(h0, .inr (11, [.ref tp, .ref ra1, .ref ra2, .ref ra3, .ref ra4, .ref ra5, .ref ra6, .ref ra7, .ref ra8, .ref ra9, .ref ra10, .ref ra11, .ref ra12, .int rc, .int fo, .int xx]))] ++ wt)) := hD
  refine gt_callI (wr := []) (va_runV (As := []) (rest := []) ⟨hx, hb, hml, hown, ht⟩ (d_isTold l G Γ s.heap.size wt hT tp h0 ra1 ra2 ra3 ra4 ra5 ra6 ra7 ra8 ra9 ra10 ra11 ra12 rc fo xx (by first | assumption | omega) (by first | assumption | omega) (by first | assumption | omega) (by first | assumption | omega) (by first | assumption | omega) (by first | assumption | omega) (by first | assumption | omega) (by first | assumption | omega) (by first | assumption | omega) (by first | assumption | omega) (by first | assumption | omega) (by first | assumption | omega) (by first | assumption | omega)) (cwV 0 ht (ts_gV wd_984 wd_986 wd_21 wd_122 wd_987) rfl rfl rfl (by decide +kernel) ⟨Nat.le_of_ble_eq_true rfl, Nat.le_of_ble_eq_true rfl⟩) (gc_preV (ci := 11) (q0 := 0) hK (tw_right hP) (tw_rightD hD) rfl rfl) rfl rfl hl.1 rfl (lv_room (Nat.le_of_ble_eq_true rfl)) dX11_seats_1 ⟨Nat.le_of_ble_eq_true rfl, Nat.le_of_ble_eq_true rfl⟩) hP hD hS hA (fun r_1 wt H locs hw hP hD hS => ?_)
  obtain ⟨hT, hkp, lo_r_1, hi_r_1⟩ := hw
  have hW := hW.call (show ∀ x ∈ [], x ∈ [0, 1, 2, 504, 709] by decide) hkp
  have hP : va_P (gg_D G) classes ([(h0, .inr (11, [.ref tp, .ref ra1, .ref ra2, .ref ra3, .ref ra4, .ref ra5, .ref ra6, .ref ra7, .ref ra8, .ref ra9, .ref ra10, .ref ra11, .ref ra12, .int rc, .int fo, .int xx]))] ++ wt) H := hP
  have hD : va_D A ([(h0, .inr (11, [.ref tp, .ref ra1, .ref ra2, .ref ra3, .ref ra4, .ref ra5, .ref ra6, .ref ra7, .ref ra8, .ref ra9, .ref ra10, .ref ra11, .ref ra12, .int rc, .int fo, .int xx]))] ++ wt) := hD
  refine lv_if_eq (tgt := 16) hx hb dX11_seats_4 (by decide) (fun c_2 => ?_) (fun c_2 => ?_)
  · rw [← Int32.toInt_inj] at c_2
    refine lv_sipush (v := (-1000)) hx hb dX11_seats_16 (by decide +kernel) ?_
    have hP9 : va_P (gg_D G) classes ([(h0, .inr (11, [.ref tp, .ref ra1, .ref ra2, .ref ra3, .ref ra4, .ref ra5, .ref ra6, .ref ra7, .ref ra8, .ref ra9, .ref ra10, .ref ra11, .ref ra12, .int rc, .int fo, .int xx]))] ++ wt) _ := hP
    have hD9 : va_D A ([(h0, .inr (11, [.ref tp, .ref ra1, .ref ra2, .ref ra3, .ref ra4, .ref ra5, .ref ra6, .ref ra7, .ref ra8, .ref ra9, .ref ra10, .ref ra11, .ref ra12, .int rc, .int fo, .int xx]))] ++ wt) := hD
    exact W.iret (v := (-1000)) hx hb hr (gq_endI wt ⟨hT, hW⟩ hP9 hD9 hS) hS.2.2 dX11_seats_19
  · rw [← Int32.toInt_inj] at c_2
    refine lv_iload_n hx hb dX11_seats_7 rfl (lv_at hl 1 rfl) ?_
    refine lv_if_lt (tgt := 16) hx hb dX11_seats_8 (by decide) (fun c_3 => ?_) (fun c_3 => ?_)
    · rw [Int32.lt_iff_toInt_lt] at c_3
      refine lv_sipush (v := (-1000)) hx hb dX11_seats_16 (by decide +kernel) ?_
      have hP9 : va_P (gg_D G) classes ([(h0, .inr (11, [.ref tp, .ref ra1, .ref ra2, .ref ra3, .ref ra4, .ref ra5, .ref ra6, .ref ra7, .ref ra8, .ref ra9, .ref ra10, .ref ra11, .ref ra12, .int rc, .int fo, .int xx]))] ++ wt) _ := hP
      have hD9 : va_D A ([(h0, .inr (11, [.ref tp, .ref ra1, .ref ra2, .ref ra3, .ref ra4, .ref ra5, .ref ra6, .ref ra7, .ref ra8, .ref ra9, .ref ra10, .ref ra11, .ref ra12, .int rc, .int fo, .int xx]))] ++ wt) := hD
      exact W.iret (v := (-1000)) hx hb hr (gq_endI wt ⟨hT, hW⟩ hP9 hD9 hS) hS.2.2 dX11_seats_19
    · rw [Int32.lt_iff_toInt_lt] at c_3
      refine lv_iload_n hx hb dX11_seats_11 rfl (lv_at hl 1 rfl) ?_
      refine lv_iconst (v := 5) hx hb dX11_seats_12 (by decide +kernel) ?_
      refine lv_icmp_le (tgt := 20) hx hb dX11_seats_13 (by decide) (fun c_4 => ?_) (fun c_4 => ?_)
      · rw [Int32.le_iff_toInt_le] at c_4
        refine lv_aload_n hx hb dX11_seats_20 rfl (lv_at hl 0 rfl) ?_
        have hP : va_P (gg_D G) classes ([] ++ ([(h0, .inr (11, [.ref tp, .ref ra1, .ref ra2, .ref ra3, .ref ra4, .ref ra5, .ref ra6, .ref ra7, .ref ra8, .ref ra9, .ref ra10, .ref ra11, .ref ra12, .int rc, .int fo, .int xx]))] ++ wt)) H := hP
        have hD : va_D A ([] ++ ([(h0, .inr (11, [.ref tp, .ref ra1, .ref ra2, .ref ra3, .ref ra4, .ref ra5, .ref ra6, .ref ra7, .ref ra8, .ref ra9, .ref ra10, .ref ra11, .ref ra12, .int rc, .int fo, .int xx]))] ++ wt)) := hD
        refine gt_callV (wr := []) (va_runV (As := []) (rest := []) ⟨hx, hb, hml, hown, ht⟩ (d_callClerk l G Γ H.size wt hT tp h0 ra1 ra2 ra3 ra4 ra5 ra6 ra7 ra8 ra9 ra10 ra11 ra12 rc fo xx (by first | assumption | omega) (by first | assumption | omega) (by first | assumption | omega) (by first | assumption | omega) (by first | assumption | omega) (by first | assumption | omega) (by first | assumption | omega) (by first | assumption | omega) (by first | assumption | omega) (by first | assumption | omega) (by first | assumption | omega) (by first | assumption | omega) (by first | assumption | omega)) (cwV 0 ht (ts_gV wd_868 wd_870 wd_17 wd_122 wd_871) rfl rfl rfl (by decide +kernel) ⟨Nat.le_of_ble_eq_true rfl, Nat.le_of_ble_eq_true rfl⟩) (gc_preV (ci := 11) (q0 := 0) hK (tw_right hP) (tw_rightD hD) rfl rfl) rfl rfl hl.1 rfl (lv_room (Nat.le_of_ble_eq_true rfl)) dX11_seats_21 ⟨Nat.le_of_ble_eq_true rfl, Nat.le_of_ble_eq_true rfl⟩) hP hD hS hA (fun wt H locs hw hP hD hS => ?_)
        obtain ⟨hT, hkp⟩ := hw
        have hW := hW.call (show ∀ x ∈ [0, 1, 2], x ∈ [0, 1, 2, 504, 709] by decide) hkp
        have hP : va_P (gg_D G) classes ([(h0, .inr (11, [.ref tp, .ref ra1, .ref ra2, .ref ra3, .ref ra4, .ref ra5, .ref ra6, .ref ra7, .ref ra8, .ref ra9, .ref ra10, .ref ra11, .ref ra12, .int rc, .int fo, .int xx]))] ++ wt) H := hP
        have hD : va_D A ([(h0, .inr (11, [.ref tp, .ref ra1, .ref ra2, .ref ra3, .ref ra4, .ref ra5, .ref ra6, .ref ra7, .ref ra8, .ref ra9, .ref ra10, .ref ra11, .ref ra12, .int rc, .int fo, .int xx]))] ++ wt) := hD
        refine lv_aload_n hx hb dX11_seats_24 rfl (lv_at hl 0 rfl) ?_
        refine gq_get hx hb ht hown hK hP i_X11 0 rfl rfl 10 (by decide) wd_507 rfl rfl dX11_seats_25 ?_
        refine lv_aload_n hx hb dX11_seats_28 rfl (lv_at hl 0 rfl) ?_
        refine gq_get hx hb ht hown hK hP i_X11 0 rfl rfl 9 (by decide) wd_506 rfl rfl dX11_seats_29 ?_
        refine lv_aload_n hx hb dX11_seats_32 rfl (lv_at hl 0 rfl) ?_
        refine gq_get hx hb ht hown hK hP i_X11 0 rfl rfl 1 (by decide) wd_498 rfl rfl dX11_seats_33 ?_
        refine lv_aload_n hx hb dX11_seats_36 rfl (lv_at hl 0 rfl) ?_
        refine gq_get hx hb ht hown hK hP i_X11 0 rfl rfl 3 (by decide) wd_500 rfl rfl dX11_seats_37 ?_
        refine gt_callV (wr := [(h0, .inr (11, [.ref tp, .ref ra1, .ref ra2, .ref ra3, .ref ra4, .ref ra5, .ref ra6, .ref ra7, .ref ra8, .ref ra9, .ref ra10, .ref ra11, .ref ra12, .int rc, .int fo, .int xx]))]) (va_runV (As := [.ref ra9, .ref ra1, .ref ra3]) (rest := []) ⟨hx, hb, hml, hown, ht⟩ (d_findSeats l G Γ H.size wt hT ra10 ra9 ra1 ra3 kr10 kr9 kr1 kr3) (cwV 3 ht (ts_gV wd_1038 wd_1039 wd_1040 wd_131 wd_1041) rfl rfl rfl (by decide +kernel) ⟨Nat.le_of_ble_eq_true rfl, Nat.le_of_ble_eq_true rfl⟩) (gt_preW (ci := 5) hK hT (tw_right hP) (tw_rightD hD) kr10 (by decide) rfl) rfl rfl hl.1 rfl (lv_room (Nat.le_of_ble_eq_true rfl)) dX11_seats_40 ⟨Nat.le_of_ble_eq_true rfl, Nat.le_of_ble_eq_true rfl⟩) hP hD hS hA (fun wt H locs hw hP hD hS => ?_)
        obtain ⟨hT, hkp⟩ := hw
        have hW := hW.call (show ∀ x ∈ [504, 709], x ∈ [0, 1, 2, 504, 709] by decide) hkp
        have hP : va_P (gg_D G) classes ([(h0, .inr (11, [.ref tp, .ref ra1, .ref ra2, .ref ra3, .ref ra4, .ref ra5, .ref ra6, .ref ra7, .ref ra8, .ref ra9, .ref ra10, .ref ra11, .ref ra12, .int rc, .int fo, .int xx]))] ++ wt) H := hP
        have hD : va_D A ([(h0, .inr (11, [.ref tp, .ref ra1, .ref ra2, .ref ra3, .ref ra4, .ref ra5, .ref ra6, .ref ra7, .ref ra8, .ref ra9, .ref ra10, .ref ra11, .ref ra12, .int rc, .int fo, .int xx]))] ++ wt) := hD
        refine lv_iload_n hx hb dX11_seats_43 rfl (lv_at hl 1 rfl) ?_
        refine lv_if_ne (tgt := 57) hx hb dX11_seats_44 (by decide) (fun c_5 => ?_) (fun c_5 => ?_)
        · rw [← Int32.toInt_inj] at c_5
          refine lv_aload_n hx hb dX11_seats_57 rfl (lv_at hl 0 rfl) ?_
          refine gq_get hx hb ht hown hK hP i_X11 0 rfl rfl 10 (by decide) wd_507 rfl rfl dX11_seats_58 ?_
          refine tr_get (ci := 5) hx hb ht hown hK hT hP kr10 (by decide) i_X5 rfl 3 (by decide) wd_434 rfl dX11_seats_61 (fun v hv hf_6 => ?_)
          obtain ⟨q_7, rfl, hq_7⟩ := hv
          refine lv_iload_n hx hb dX11_seats_64 rfl (lv_at hl 1 rfl) ?_
          refine lv_iconst (v := 1) hx hb dX11_seats_65 (by decide +kernel) ?_
          obtain ⟨t_8, et_8⟩ : ∃ zz_ : Int32, b - 1 = zz_ := ⟨_, rfl⟩
          refine gq_isub hx hb t_8 et_8 dX11_seats_66 ?_
          have ft_8 := ia_sub et_8 (by omega) (by omega)
          refine tr_iald hx hb hK hT hP 20 hq_7 (by decide) (by decide) (show vp_in _ (tk_len 20) from ia_in (n := 5) (by omega) (by omega)) dX11_seats_67 (fun n_9 hn_9 => ?_)
          clear hn_9
          have hP9 : va_P (gg_D G) classes ([(h0, .inr (11, [.ref tp, .ref ra1, .ref ra2, .ref ra3, .ref ra4, .ref ra5, .ref ra6, .ref ra7, .ref ra8, .ref ra9, .ref ra10, .ref ra11, .ref ra12, .int rc, .int fo, .int xx]))] ++ wt) _ := hP
          have hD9 : va_D A ([(h0, .inr (11, [.ref tp, .ref ra1, .ref ra2, .ref ra3, .ref ra4, .ref ra5, .ref ra6, .ref ra7, .ref ra8, .ref ra9, .ref ra10, .ref ra11, .ref ra12, .int rc, .int fo, .int xx]))] ++ wt) := hD
          exact W.iret (v := n_9) hx hb hr (gq_endI wt ⟨hT, hW⟩ hP9 hD9 hS) hS.2.2 dX11_seats_68
        · rw [← Int32.toInt_inj] at c_5
          refine lv_aload_n hx hb dX11_seats_47 rfl (lv_at hl 0 rfl) ?_
          refine gq_get hx hb ht hown hK hP i_X11 0 rfl rfl 10 (by decide) wd_507 rfl rfl dX11_seats_48 ?_
          refine tr_get (ci := 5) hx hb ht hown hK hT hP kr10 (by decide) i_X5 rfl 4 (by decide) wd_436 rfl dX11_seats_51 (fun v hv hf_10 => ?_)
          obtain ⟨n_11, rfl⟩ := hv
          refine lv_goto (tgt := 68) hx hb dX11_seats_54 (by decide) ?_
          have hP9 : va_P (gg_D G) classes ([(h0, .inr (11, [.ref tp, .ref ra1, .ref ra2, .ref ra3, .ref ra4, .ref ra5, .ref ra6, .ref ra7, .ref ra8, .ref ra9, .ref ra10, .ref ra11, .ref ra12, .int rc, .int fo, .int xx]))] ++ wt) _ := hP
          have hD9 : va_D A ([(h0, .inr (11, [.ref tp, .ref ra1, .ref ra2, .ref ra3, .ref ra4, .ref ra5, .ref ra6, .ref ra7, .ref ra8, .ref ra9, .ref ra10, .ref ra11, .ref ra12, .int rc, .int fo, .int xx]))] ++ wt) := hD
          exact W.iret (v := n_11) hx hb hr (gq_endI wt ⟨hT, hW⟩ hP9 hD9 hS) hS.2.2 dX11_seats_68
      · rw [Int32.le_iff_toInt_le] at c_4
        refine lv_sipush (v := (-1000)) hx hb dX11_seats_16 (by decide +kernel) ?_
        have hP9 : va_P (gg_D G) classes ([(h0, .inr (11, [.ref tp, .ref ra1, .ref ra2, .ref ra3, .ref ra4, .ref ra5, .ref ra6, .ref ra7, .ref ra8, .ref ra9, .ref ra10, .ref ra11, .ref ra12, .int rc, .int fo, .int xx]))] ++ wt) _ := hP
        have hD9 : va_D A ([(h0, .inr (11, [.ref tp, .ref ra1, .ref ra2, .ref ra3, .ref ra4, .ref ra5, .ref ra6, .ref ra7, .ref ra8, .ref ra9, .ref ra10, .ref ra11, .ref ra12, .int rc, .int fo, .int xx]))] ++ wt) := hD
        exact W.iret (v := (-1000)) hx hb hr (gq_endI wt ⟨hT, hW⟩ hP9 hD9 hS) hS.2.2 dX11_seats_19
set_option maxHeartbeats 4000000 in
set_option maxRecDepth 100000 in
theorem d_ruled (l : Launch) (G : gg_T) (Γ : Nat → Nat) (sz : Nat) (wt : va_W) (hT : tk_ty G Γ wt) (b : Int32) (tp : Nat) (h0 : Nat) (ra1 : Nat) (ra2 : Nat) (ra3 : Nat) (ra4 : Nat) (ra5 : Nat) (ra6 : Nat) (ra7 : Nat) (ra8 : Nat) (ra9 : Nat) (ra10 : Nat) (ra11 : Nat) (ra12 : Nat) (rc : Int32) (fo : Int32) (xx : Int32) (kr1 : Γ ra1 = 10) (kr2 : Γ ra2 = 10) (kr3 : Γ ra3 = 8) (kr4 : Γ ra4 = 8) (kr5 : Γ ra5 = 4) (kr6 : Γ ra6 = 3) (kr7 : Γ ra7 = 41) (kr9 : Γ ra9 = 1) (kr10 : Γ ra10 = 6) (kr11 : Γ ra11 = 11) (kr12 : Γ ra12 = 7) (xr1 : 0 ≤ rc.toInt) (xr2 : rc.toInt ≤ 6) : Met l yX11_ruled (ts_L yX11_ruled cX11_ruled 2 (some .int)) ({ frames := 7, cells := 0, slots := 0, locals := 175 }) (gc_P G ([(h0, .inr (11, [.ref tp, .ref ra1, .ref ra2, .ref ra3, .ref ra4, .ref ra5, .ref ra6, .ref ra7, .ref ra8, .ref ra9, .ref ra10, .ref ra11, .ref ra12, .int rc, .int fo, .int xx]))] ++ wt) sz [.ref h0, .int b]) (gc_I G (va_A ([(h0, .inr (11, [.ref tp, .ref ra1, .ref ra2, .ref ra3, .ref ra4, .ref ra5, .ref ra6, .ref ra7, .ref ra8, .ref ra9, .ref ra10, .ref ra11, .ref ra12, .int rc, .int fo, .int xx]))] ++ wt) sz) (fun r (u : va_W) => match u with | wt1 => tk_ty G Γ wt1 ∧ tk_kp [0, 1, 2, 603, 709] wt wt1) (fun (u : va_W) => match u with | wt1 => [(h0, .inr (11, [.ref tp, .ref ra1, .ref ra2, .ref ra3, .ref ra4, .ref ra5, .ref ra6, .ref ra7, .ref ra8, .ref ra9, .ref ra10, .ref ra11, .ref ra12, .int rc, .int fo, .int xx]))] ++ wt1)) 0 0 (va_A ([(h0, .inr (11, [.ref tp, .ref ra1, .ref ra2, .ref ra3, .ref ra4, .ref ra5, .ref ra6, .ref ra7, .ref ra8, .ref ra9, .ref ra10, .ref ra11, .ref ra12, .int rc, .int fo, .int xx]))] ++ wt) sz) := by
  refine Met.ofW (cc := cX11_ruled) (maxL := 2) (ret := (some .int)) (by decide) rfl ?_
  intro p e s m args below meth c s₁ B hml hv
  obtain ⟨rfl, hsz, hP, hK, hD0⟩ := hv
  have hx := B.exec
  have hb := B.bytes
  have hr := B.returns
  have ht := ts_ht (atoms_spec (ws := ts_L yX11_ruled cX11_ruled 2 (some .int)) B.pre)
  have hown : s.vm.findClass RX11 = some m.cls := findClass_of_methodNamed B.named
  have hlocks := B.notSynchronized
  subst hsz
  have hD := hD0.self (sz := s.heap.size)
  generalize hAe : va_A ([(h0, .inr (11, [.ref tp, .ref ra1, .ref ra2, .ref ra3, .ref ra4, .ref ra5, .ref ra6, .ref ra7, .ref ra8, .ref ra9, .ref ra10, .ref ra11, .ref ra12, .int rc, .int fo, .int xx]))] ++ wt) s.heap.size = A at hD ⊢
  have hA : ∀ q : Nat, s.heap.size ≤ q → A q := fun q h => by rw [← hAe]; exact Or.inr h
  clear hAe hD0
  have hS : va_S A s.heap s.heap [] := va_S.rf
  obtain ⟨w0, hw0⟩ : ∃ z, z = wt := ⟨_, rfl⟩
  have hW : tk_kp [0, 1, 2, 603, 709] w0 wt := by rw [hw0]; exact tk_kp.rf
  rw [← hw0]
  clear hw0
  have hP : va_P (gg_D G) classes ([(h0, .inr (11, [.ref tp, .ref ra1, .ref ra2, .ref ra3, .ref ra4, .ref ra5, .ref ra6, .ref ra7, .ref ra8, .ref ra9, .ref ra10, .ref ra11, .ref ra12, .int rc, .int fo, .int xx]))] ++ wt) s.heap := hP
  have hD : va_D A ([(h0, .inr (11, [.ref tp, .ref ra1, .ref ra2, .ref ra3, .ref ra4, .ref ra5, .ref ra6, .ref ra7, .ref ra8, .ref ra9, .ref ra10, .ref ra11, .ref ra12, .int rc, .int fo, .int xx]))] ++ wt) := hD
  have hl := lv_entry ([.ref h0, .int b]) (n := 2) (Nat.le_of_ble_eq_true rfl)
  rw [lg_entry_eq]
  generalize (lg_sl ([.ref h0, .int b]) ++ List.replicate (2 - (lg_sl ([.ref h0, .int b])).length) Slot.unset).toArray = ls at hl ⊢
  have hl : lv_has ls 2 [(0, .ref h0), (1, .int b)] := hl
  have lm3 : ((-3) : Int32).toInt = -3 := by decide +kernel
  have lm2 : ((-2) : Int32).toInt = -2 := by decide +kernel
  have l0 : (0 : Int32).toInt = 0 := by decide +kernel
  have l1 : (1 : Int32).toInt = 1 := by decide +kernel
  refine lv_aload_n hx hb dX11_ruled_0 rfl (lv_at hl 0 rfl) ?_
  have hP : va_P (gg_D G) classes ([] ++ ([(h0, .inr (11, [.ref tp, .ref ra1, .ref ra2, .ref ra3, .ref ra4, .ref ra5, .ref ra6, .ref ra7, .ref ra8, .ref ra9, .ref ra10, .ref ra11, .ref ra12, .int rc, .int fo, .int xx]))] ++ wt)) s.heap := hP
  have hD : va_D A ([] ++ ([(h0, .inr (11, [.ref tp, .ref ra1, .ref ra2, .ref ra3, .ref ra4, .ref ra5, .ref ra6, .ref ra7, .ref ra8, .ref ra9, .ref ra10, .ref ra11, .ref ra12, .int rc, .int fo, .int xx]))] ++ wt)) := hD
  refine gt_callI (wr := []) (va_runV (As := []) (rest := []) ⟨hx, hb, hml, hown, ht⟩ (d_isTold l G Γ s.heap.size wt hT tp h0 ra1 ra2 ra3 ra4 ra5 ra6 ra7 ra8 ra9 ra10 ra11 ra12 rc fo xx (by first | assumption | omega) (by first | assumption | omega) (by first | assumption | omega) (by first | assumption | omega) (by first | assumption | omega) (by first | assumption | omega) (by first | assumption | omega) (by first | assumption | omega) (by first | assumption | omega) (by first | assumption | omega) (by first | assumption | omega) (by first | assumption | omega) (by first | assumption | omega)) (cwV 0 ht (ts_gV wd_984 wd_986 wd_21 wd_122 wd_987) rfl rfl rfl (by decide +kernel) ⟨Nat.le_of_ble_eq_true rfl, Nat.le_of_ble_eq_true rfl⟩) (gc_preV (ci := 11) (q0 := 0) hK (tw_right hP) (tw_rightD hD) rfl rfl) rfl rfl hl.1 rfl (lv_room (Nat.le_of_ble_eq_true rfl)) dX11_ruled_1 ⟨Nat.le_of_ble_eq_true rfl, Nat.le_of_ble_eq_true rfl⟩) hP hD hS hA (fun r_1 wt H locs hw hP hD hS => ?_)
  obtain ⟨hT, hkp, lo_r_1, hi_r_1⟩ := hw
  have hW := hW.call (show ∀ x ∈ [], x ∈ [0, 1, 2, 603, 709] by decide) hkp
  have hP : va_P (gg_D G) classes ([(h0, .inr (11, [.ref tp, .ref ra1, .ref ra2, .ref ra3, .ref ra4, .ref ra5, .ref ra6, .ref ra7, .ref ra8, .ref ra9, .ref ra10, .ref ra11, .ref ra12, .int rc, .int fo, .int xx]))] ++ wt) H := hP
  have hD : va_D A ([(h0, .inr (11, [.ref tp, .ref ra1, .ref ra2, .ref ra3, .ref ra4, .ref ra5, .ref ra6, .ref ra7, .ref ra8, .ref ra9, .ref ra10, .ref ra11, .ref ra12, .int rc, .int fo, .int xx]))] ++ wt) := hD
  refine lv_if_eq (tgt := 16) hx hb dX11_ruled_4 (by decide) (fun c_2 => ?_) (fun c_2 => ?_)
  · rw [← Int32.toInt_inj] at c_2
    refine lv_bipush (v := (-3)) hx hb dX11_ruled_16 (by decide +kernel) ?_
    have hP9 : va_P (gg_D G) classes ([(h0, .inr (11, [.ref tp, .ref ra1, .ref ra2, .ref ra3, .ref ra4, .ref ra5, .ref ra6, .ref ra7, .ref ra8, .ref ra9, .ref ra10, .ref ra11, .ref ra12, .int rc, .int fo, .int xx]))] ++ wt) _ := hP
    have hD9 : va_D A ([(h0, .inr (11, [.ref tp, .ref ra1, .ref ra2, .ref ra3, .ref ra4, .ref ra5, .ref ra6, .ref ra7, .ref ra8, .ref ra9, .ref ra10, .ref ra11, .ref ra12, .int rc, .int fo, .int xx]))] ++ wt) := hD
    exact W.iret (v := (-3)) hx hb hr (gq_endI wt ⟨hT, hW⟩ hP9 hD9 hS) hS.2.2 dX11_ruled_18
  · rw [← Int32.toInt_inj] at c_2
    refine lv_iload_n hx hb dX11_ruled_7 rfl (lv_at hl 1 rfl) ?_
    refine lv_if_lt (tgt := 16) hx hb dX11_ruled_8 (by decide) (fun c_3 => ?_) (fun c_3 => ?_)
    · rw [Int32.lt_iff_toInt_lt] at c_3
      refine lv_bipush (v := (-3)) hx hb dX11_ruled_16 (by decide +kernel) ?_
      have hP9 : va_P (gg_D G) classes ([(h0, .inr (11, [.ref tp, .ref ra1, .ref ra2, .ref ra3, .ref ra4, .ref ra5, .ref ra6, .ref ra7, .ref ra8, .ref ra9, .ref ra10, .ref ra11, .ref ra12, .int rc, .int fo, .int xx]))] ++ wt) _ := hP
      have hD9 : va_D A ([(h0, .inr (11, [.ref tp, .ref ra1, .ref ra2, .ref ra3, .ref ra4, .ref ra5, .ref ra6, .ref ra7, .ref ra8, .ref ra9, .ref ra10, .ref ra11, .ref ra12, .int rc, .int fo, .int xx]))] ++ wt) := hD
      exact W.iret (v := (-3)) hx hb hr (gq_endI wt ⟨hT, hW⟩ hP9 hD9 hS) hS.2.2 dX11_ruled_18
    · rw [Int32.lt_iff_toInt_lt] at c_3
      refine lv_iload_n hx hb dX11_ruled_11 rfl (lv_at hl 1 rfl) ?_
      refine lv_iconst (v := 1) hx hb dX11_ruled_12 (by decide +kernel) ?_
      refine lv_icmp_le (tgt := 19) hx hb dX11_ruled_13 (by decide) (fun c_4 => ?_) (fun c_4 => ?_)
      · rw [Int32.le_iff_toInt_le] at c_4
        refine lv_aload_n hx hb dX11_ruled_19 rfl (lv_at hl 0 rfl) ?_
        refine gq_get hx hb ht hown hK hP i_X11 0 rfl rfl 12 (by decide) wd_509 rfl rfl dX11_ruled_20 ?_
        refine lv_aload_n hx hb dX11_ruled_23 rfl (lv_at hl 0 rfl) ?_
        refine gq_get hx hb ht hown hK hP i_X11 0 rfl rfl 9 (by decide) wd_506 rfl rfl dX11_ruled_24 ?_
        refine lv_aload_n hx hb dX11_ruled_27 rfl (lv_at hl 0 rfl) ?_
        refine gq_get hx hb ht hown hK hP i_X11 0 rfl rfl 1 (by decide) wd_498 rfl rfl dX11_ruled_28 ?_
        refine lv_aload_n hx hb dX11_ruled_31 rfl (lv_at hl 0 rfl) ?_
        refine gq_get hx hb ht hown hK hP i_X11 0 rfl rfl 7 (by decide) wd_504 rfl rfl dX11_ruled_32 ?_
        refine lv_aload_n hx hb dX11_ruled_35 rfl (lv_at hl 0 rfl) ?_
        refine gq_get hx hb ht hown hK hP i_X11 0 rfl rfl 13 (by decide) wd_510 rfl rfl dX11_ruled_36 ?_
        refine lv_aload_n hx hb dX11_ruled_39 rfl (lv_at hl 0 rfl) ?_
        refine gq_get hx hb ht hown hK hP i_X11 0 rfl rfl 6 (by decide) wd_503 rfl rfl dX11_ruled_40 ?_
        refine gt_callV (wr := [(h0, .inr (11, [.ref tp, .ref ra1, .ref ra2, .ref ra3, .ref ra4, .ref ra5, .ref ra6, .ref ra7, .ref ra8, .ref ra9, .ref ra10, .ref ra11, .ref ra12, .int rc, .int fo, .int xx]))]) (va_runV (As := [.ref ra9, .ref ra1, .ref ra7, .int rc, .ref ra6]) (rest := []) ⟨hx, hb, hml, hown, ht⟩ (d_findRules l G Γ H.size wt hT ra12 ra9 ra1 ra7 rc ra6 kr12 kr9 kr1 kr7 (by omega) (by omega) kr6) (cwV 5 ht (ts_gV wd_1162 wd_1163 wd_1164 wd_133 wd_1165) rfl rfl rfl (by decide +kernel) ⟨Nat.le_of_ble_eq_true rfl, Nat.le_of_ble_eq_true rfl⟩) (gt_preW (ci := 6) hK hT (tw_right hP) (tw_rightD hD) kr12 (by decide) rfl) rfl rfl hl.1 rfl (lv_room (Nat.le_of_ble_eq_true rfl)) dX11_ruled_43 ⟨Nat.le_of_ble_eq_true rfl, Nat.le_of_ble_eq_true rfl⟩) hP hD hS hA (fun wt H locs hw hP hD hS => ?_)
        obtain ⟨hT, hkp⟩ := hw
        have hW := hW.call (show ∀ x ∈ [0, 1, 2, 603, 709], x ∈ [0, 1, 2, 603, 709] by decide) hkp
        have hP : va_P (gg_D G) classes ([(h0, .inr (11, [.ref tp, .ref ra1, .ref ra2, .ref ra3, .ref ra4, .ref ra5, .ref ra6, .ref ra7, .ref ra8, .ref ra9, .ref ra10, .ref ra11, .ref ra12, .int rc, .int fo, .int xx]))] ++ wt) H := hP
        have hD : va_D A ([(h0, .inr (11, [.ref tp, .ref ra1, .ref ra2, .ref ra3, .ref ra4, .ref ra5, .ref ra6, .ref ra7, .ref ra8, .ref ra9, .ref ra10, .ref ra11, .ref ra12, .int rc, .int fo, .int xx]))] ++ wt) := hD
        refine lv_iload_n hx hb dX11_ruled_46 rfl (lv_at hl 1 rfl) ?_
        refine lv_if_ne (tgt := 58) hx hb dX11_ruled_47 (by decide) (fun c_5 => ?_) (fun c_5 => ?_)
        · rw [← Int32.toInt_inj] at c_5
          refine lv_aload_n hx hb dX11_ruled_58 rfl (lv_at hl 0 rfl) ?_
          refine gq_get hx hb ht hown hK hP i_X11 0 rfl rfl 12 (by decide) wd_509 rfl rfl dX11_ruled_59 ?_
          refine gt_callI (wr := [(h0, .inr (11, [.ref tp, .ref ra1, .ref ra2, .ref ra3, .ref ra4, .ref ra5, .ref ra6, .ref ra7, .ref ra8, .ref ra9, .ref ra10, .ref ra11, .ref ra12, .int rc, .int fo, .int xx]))]) (va_runV (As := []) (rest := []) ⟨hx, hb, hml, hown, ht⟩ (d_howMany l G Γ H.size wt hT ra12 kr12) (cwV 0 ht (ts_gV wd_1178 wd_1179 wd_1180 wd_133 wd_1181) rfl rfl rfl (by decide +kernel) ⟨Nat.le_of_ble_eq_true rfl, Nat.le_of_ble_eq_true rfl⟩) (gt_preW (ci := 6) hK hT (tw_right hP) (tw_rightD hD) kr12 (by decide) rfl) rfl rfl hl.1 rfl (lv_room (Nat.le_of_ble_eq_true rfl)) dX11_ruled_62 ⟨Nat.le_of_ble_eq_true rfl, Nat.le_of_ble_eq_true rfl⟩) hP hD hS hA (fun r_6 wt H locs hw hP hD hS => ?_)
          obtain ⟨hT, hkp⟩ := hw
          have hW := hW.call (show ∀ x ∈ [], x ∈ [0, 1, 2, 603, 709] by decide) hkp
          have hP : va_P (gg_D G) classes ([(h0, .inr (11, [.ref tp, .ref ra1, .ref ra2, .ref ra3, .ref ra4, .ref ra5, .ref ra6, .ref ra7, .ref ra8, .ref ra9, .ref ra10, .ref ra11, .ref ra12, .int rc, .int fo, .int xx]))] ++ wt) H := hP
          have hD : va_D A ([(h0, .inr (11, [.ref tp, .ref ra1, .ref ra2, .ref ra3, .ref ra4, .ref ra5, .ref ra6, .ref ra7, .ref ra8, .ref ra9, .ref ra10, .ref ra11, .ref ra12, .int rc, .int fo, .int xx]))] ++ wt) := hD
          refine lv_if_ne (tgt := 73) hx hb dX11_ruled_65 (by decide) (fun c_7 => ?_) (fun c_7 => ?_)
          · rw [← Int32.toInt_inj] at c_7
            refine lv_aload_n hx hb dX11_ruled_73 rfl (lv_at hl 0 rfl) ?_
            refine gq_get hx hb ht hown hK hP i_X11 0 rfl rfl 12 (by decide) wd_509 rfl rfl dX11_ruled_74 ?_
            refine tr_get (ci := 6) hx hb ht hown hK hT hP kr12 (by decide) i_X6 rfl 3 (by decide) wd_483 rfl dX11_ruled_77 (fun v hv hf_8 => ?_)
            obtain ⟨n_9, rfl⟩ := hv
            refine gt_callI (wr := [(h0, .inr (11, [.ref tp, .ref ra1, .ref ra2, .ref ra3, .ref ra4, .ref ra5, .ref ra6, .ref ra7, .ref ra8, .ref ra9, .ref ra10, .ref ra11, .ref ra12, .int rc, .int fo, .int xx]))]) (va_runS (As := [.int n_9]) (rest := []) ⟨hx, hb, hml, hown, ht⟩ (d_lowest l G Γ H.size wt hT n_9) (va_cwS 1 ht (ts_gS wd_1133 wd_928 wd_122 wd_929) rfl rfl rfl (by decide +kernel) ⟨Nat.le_of_ble_eq_true rfl, Nat.le_of_ble_eq_true rfl⟩) (gc_preS hK (tw_right hP) (tw_rightD hD)) rfl rfl hl.1 rfl (lv_room (Nat.le_of_ble_eq_true rfl)) dX11_ruled_80 ⟨Nat.le_of_ble_eq_true rfl, Nat.le_of_ble_eq_true rfl⟩) hP hD hS hA (fun r_10 wt H locs hw hP hD hS => ?_)
            obtain ⟨hT, hkp, lo_r_10, hi_r_10⟩ := hw
            have hW := hW.call (show ∀ x ∈ [], x ∈ [0, 1, 2, 603, 709] by decide) hkp
            have hf_8 := hkp _ _ _ _ (by decide) (by decide) hf_8
            have hP : va_P (gg_D G) classes ([(h0, .inr (11, [.ref tp, .ref ra1, .ref ra2, .ref ra3, .ref ra4, .ref ra5, .ref ra6, .ref ra7, .ref ra8, .ref ra9, .ref ra10, .ref ra11, .ref ra12, .int rc, .int fo, .int xx]))] ++ wt) H := hP
            have hD : va_D A ([(h0, .inr (11, [.ref tp, .ref ra1, .ref ra2, .ref ra3, .ref ra4, .ref ra5, .ref ra6, .ref ra7, .ref ra8, .ref ra9, .ref ra10, .ref ra11, .ref ra12, .int rc, .int fo, .int xx]))] ++ wt) := hD
            refine lv_iconst (v := 1) hx hb dX11_ruled_83 (by decide +kernel) ?_
            obtain ⟨t_11, et_11⟩ : ∃ zz_ : Int32, r_10 - 1 = zz_ := ⟨_, rfl⟩
            refine gq_isub hx hb t_11 et_11 dX11_ruled_84 ?_
            have ft_11 := ia_sub et_11 (by omega) (by omega)
            have hP9 : va_P (gg_D G) classes ([(h0, .inr (11, [.ref tp, .ref ra1, .ref ra2, .ref ra3, .ref ra4, .ref ra5, .ref ra6, .ref ra7, .ref ra8, .ref ra9, .ref ra10, .ref ra11, .ref ra12, .int rc, .int fo, .int xx]))] ++ wt) _ := hP
            have hD9 : va_D A ([(h0, .inr (11, [.ref tp, .ref ra1, .ref ra2, .ref ra3, .ref ra4, .ref ra5, .ref ra6, .ref ra7, .ref ra8, .ref ra9, .ref ra10, .ref ra11, .ref ra12, .int rc, .int fo, .int xx]))] ++ wt) := hD
            exact W.iret (v := t_11) hx hb hr (gq_endI wt ⟨hT, hW⟩ hP9 hD9 hS) hS.2.2 dX11_ruled_85
          · rw [← Int32.toInt_inj] at c_7
            refine lv_bipush (v := (-2)) hx hb dX11_ruled_68 (by decide +kernel) ?_
            refine lv_goto (tgt := 85) hx hb dX11_ruled_70 (by decide) ?_
            have hP9 : va_P (gg_D G) classes ([(h0, .inr (11, [.ref tp, .ref ra1, .ref ra2, .ref ra3, .ref ra4, .ref ra5, .ref ra6, .ref ra7, .ref ra8, .ref ra9, .ref ra10, .ref ra11, .ref ra12, .int rc, .int fo, .int xx]))] ++ wt) _ := hP
            have hD9 : va_D A ([(h0, .inr (11, [.ref tp, .ref ra1, .ref ra2, .ref ra3, .ref ra4, .ref ra5, .ref ra6, .ref ra7, .ref ra8, .ref ra9, .ref ra10, .ref ra11, .ref ra12, .int rc, .int fo, .int xx]))] ++ wt) := hD
            exact W.iret (v := (-2)) hx hb hr (gq_endI wt ⟨hT, hW⟩ hP9 hD9 hS) hS.2.2 dX11_ruled_85
        · rw [← Int32.toInt_inj] at c_5
          refine lv_aload_n hx hb dX11_ruled_50 rfl (lv_at hl 0 rfl) ?_
          refine gq_get hx hb ht hown hK hP i_X11 0 rfl rfl 12 (by decide) wd_509 rfl rfl dX11_ruled_51 ?_
          refine gt_callI (wr := [(h0, .inr (11, [.ref tp, .ref ra1, .ref ra2, .ref ra3, .ref ra4, .ref ra5, .ref ra6, .ref ra7, .ref ra8, .ref ra9, .ref ra10, .ref ra11, .ref ra12, .int rc, .int fo, .int xx]))]) (va_runV (As := []) (rest := []) ⟨hx, hb, hml, hown, ht⟩ (d_howMany l G Γ H.size wt hT ra12 kr12) (cwV 0 ht (ts_gV wd_1178 wd_1179 wd_1180 wd_133 wd_1181) rfl rfl rfl (by decide +kernel) ⟨Nat.le_of_ble_eq_true rfl, Nat.le_of_ble_eq_true rfl⟩) (gt_preW (ci := 6) hK hT (tw_right hP) (tw_rightD hD) kr12 (by decide) rfl) rfl rfl hl.1 rfl (lv_room (Nat.le_of_ble_eq_true rfl)) dX11_ruled_54 ⟨Nat.le_of_ble_eq_true rfl, Nat.le_of_ble_eq_true rfl⟩) hP hD hS hA (fun r_12 wt H locs hw hP hD hS => ?_)
          obtain ⟨hT, hkp⟩ := hw
          have hW := hW.call (show ∀ x ∈ [], x ∈ [0, 1, 2, 603, 709] by decide) hkp
          have hP : va_P (gg_D G) classes ([(h0, .inr (11, [.ref tp, .ref ra1, .ref ra2, .ref ra3, .ref ra4, .ref ra5, .ref ra6, .ref ra7, .ref ra8, .ref ra9, .ref ra10, .ref ra11, .ref ra12, .int rc, .int fo, .int xx]))] ++ wt) H := hP
          have hD : va_D A ([(h0, .inr (11, [.ref tp, .ref ra1, .ref ra2, .ref ra3, .ref ra4, .ref ra5, .ref ra6, .ref ra7, .ref ra8, .ref ra9, .ref ra10, .ref ra11, .ref ra12, .int rc, .int fo, .int xx]))] ++ wt) := hD
          have hP9 : va_P (gg_D G) classes ([(h0, .inr (11, [.ref tp, .ref ra1, .ref ra2, .ref ra3, .ref ra4, .ref ra5, .ref ra6, .ref ra7, .ref ra8, .ref ra9, .ref ra10, .ref ra11, .ref ra12, .int rc, .int fo, .int xx]))] ++ wt) _ := hP
          have hD9 : va_D A ([(h0, .inr (11, [.ref tp, .ref ra1, .ref ra2, .ref ra3, .ref ra4, .ref ra5, .ref ra6, .ref ra7, .ref ra8, .ref ra9, .ref ra10, .ref ra11, .ref ra12, .int rc, .int fo, .int xx]))] ++ wt) := hD
          exact W.iret (v := r_12) hx hb hr (gq_endI wt ⟨hT, hW⟩ hP9 hD9 hS) hS.2.2 dX11_ruled_57
      · rw [Int32.le_iff_toInt_le] at c_4
        refine lv_bipush (v := (-3)) hx hb dX11_ruled_16 (by decide +kernel) ?_
        have hP9 : va_P (gg_D G) classes ([(h0, .inr (11, [.ref tp, .ref ra1, .ref ra2, .ref ra3, .ref ra4, .ref ra5, .ref ra6, .ref ra7, .ref ra8, .ref ra9, .ref ra10, .ref ra11, .ref ra12, .int rc, .int fo, .int xx]))] ++ wt) _ := hP
        have hD9 : va_D A ([(h0, .inr (11, [.ref tp, .ref ra1, .ref ra2, .ref ra3, .ref ra4, .ref ra5, .ref ra6, .ref ra7, .ref ra8, .ref ra9, .ref ra10, .ref ra11, .ref ra12, .int rc, .int fo, .int xx]))] ++ wt) := hD
        exact W.iret (v := (-3)) hx hb hr (gq_endI wt ⟨hT, hW⟩ hP9 hD9 hS) hS.2.2 dX11_ruled_18
set_option maxHeartbeats 4000000 in
set_option maxRecDepth 100000 in
theorem d_look (l : Launch) (G : gg_T) (Γ : Nat → Nat) (sz : Nat) (wt : va_W) (hT : tk_ty G Γ wt) (b : Int32) (tp : Nat) (h0 : Nat) (ra1 : Nat) (ra2 : Nat) (ra3 : Nat) (ra4 : Nat) (ra5 : Nat) (ra6 : Nat) (ra7 : Nat) (ra8 : Nat) (ra9 : Nat) (ra10 : Nat) (ra11 : Nat) (ra12 : Nat) (rc : Int32) (fo : Int32) (xx : Int32) (kr1 : Γ ra1 = 10) (kr2 : Γ ra2 = 10) (kr3 : Γ ra3 = 8) (kr4 : Γ ra4 = 8) (kr5 : Γ ra5 = 4) (kr6 : Γ ra6 = 3) (kr7 : Γ ra7 = 41) (kr9 : Γ ra9 = 1) (kr10 : Γ ra10 = 6) (kr11 : Γ ra11 = 11) (kr12 : Γ ra12 = 7) (xr1 : 0 ≤ rc.toInt) (xr2 : rc.toInt ≤ 6) : Met l yX11_look (ts_L yX11_look cX11_look 4 (some .int)) ({ frames := 7, cells := 0, slots := 0, locals := 175 }) (gc_P G ([(h0, .inr (11, [.ref tp, .ref ra1, .ref ra2, .ref ra3, .ref ra4, .ref ra5, .ref ra6, .ref ra7, .ref ra8, .ref ra9, .ref ra10, .ref ra11, .ref ra12, .int rc, .int fo, .int xx]))] ++ wt) sz [.ref h0, .int b]) (gc_I G (va_A ([(h0, .inr (11, [.ref tp, .ref ra1, .ref ra2, .ref ra3, .ref ra4, .ref ra5, .ref ra6, .ref ra7, .ref ra8, .ref ra9, .ref ra10, .ref ra11, .ref ra12, .int rc, .int fo, .int xx]))] ++ wt) sz) (fun r (u : va_W) => match u with | wt1 => tk_ty G Γ wt1 ∧ tk_kp [0, 1, 2, 603, 709] wt wt1) (fun (u : va_W) => match u with | wt1 => [(h0, .inr (11, [.ref tp, .ref ra1, .ref ra2, .ref ra3, .ref ra4, .ref ra5, .ref ra6, .ref ra7, .ref ra8, .ref ra9, .ref ra10, .ref ra11, .ref ra12, .int rc, .int fo, .int xx]))] ++ wt1)) 0 0 (va_A ([(h0, .inr (11, [.ref tp, .ref ra1, .ref ra2, .ref ra3, .ref ra4, .ref ra5, .ref ra6, .ref ra7, .ref ra8, .ref ra9, .ref ra10, .ref ra11, .ref ra12, .int rc, .int fo, .int xx]))] ++ wt) sz) := by
  refine Met.ofW (cc := cX11_look) (maxL := 4) (ret := (some .int)) (by decide) rfl ?_
  intro p e s m args below meth c s₁ B hml hv
  obtain ⟨rfl, hsz, hP, hK, hD0⟩ := hv
  have hx := B.exec
  have hb := B.bytes
  have hr := B.returns
  have ht := ts_ht (atoms_spec (ws := ts_L yX11_look cX11_look 4 (some .int)) B.pre)
  have hown : s.vm.findClass RX11 = some m.cls := findClass_of_methodNamed B.named
  have hlocks := B.notSynchronized
  subst hsz
  have hD := hD0.self (sz := s.heap.size)
  generalize hAe : va_A ([(h0, .inr (11, [.ref tp, .ref ra1, .ref ra2, .ref ra3, .ref ra4, .ref ra5, .ref ra6, .ref ra7, .ref ra8, .ref ra9, .ref ra10, .ref ra11, .ref ra12, .int rc, .int fo, .int xx]))] ++ wt) s.heap.size = A at hD ⊢
  have hA : ∀ q : Nat, s.heap.size ≤ q → A q := fun q h => by rw [← hAe]; exact Or.inr h
  clear hAe hD0
  have hS : va_S A s.heap s.heap [] := va_S.rf
  obtain ⟨w0, hw0⟩ : ∃ z, z = wt := ⟨_, rfl⟩
  have hW : tk_kp [0, 1, 2, 603, 709] w0 wt := by rw [hw0]; exact tk_kp.rf
  rw [← hw0]
  clear hw0
  have hP : va_P (gg_D G) classes ([(h0, .inr (11, [.ref tp, .ref ra1, .ref ra2, .ref ra3, .ref ra4, .ref ra5, .ref ra6, .ref ra7, .ref ra8, .ref ra9, .ref ra10, .ref ra11, .ref ra12, .int rc, .int fo, .int xx]))] ++ wt) s.heap := hP
  have hD : va_D A ([(h0, .inr (11, [.ref tp, .ref ra1, .ref ra2, .ref ra3, .ref ra4, .ref ra5, .ref ra6, .ref ra7, .ref ra8, .ref ra9, .ref ra10, .ref ra11, .ref ra12, .int rc, .int fo, .int xx]))] ++ wt) := hD
  have hl := lv_entry ([.ref h0, .int b]) (n := 4) (Nat.le_of_ble_eq_true rfl)
  rw [lg_entry_eq]
  generalize (lg_sl ([.ref h0, .int b]) ++ List.replicate (4 - (lg_sl ([.ref h0, .int b])).length) Slot.unset).toArray = ls at hl ⊢
  have hl : lv_has ls 4 [(0, .ref h0), (1, .int b)] := hl
  have lm2 : ((-2) : Int32).toInt = -2 := by decide +kernel
  have lm1 : ((-1) : Int32).toInt = -1 := by decide +kernel
  have l0 : (0 : Int32).toInt = 0 := by decide +kernel
  have l1 : (1 : Int32).toInt = 1 := by decide +kernel
  have l2 : (2 : Int32).toInt = 2 := by decide +kernel
  have l3 : (3 : Int32).toInt = 3 := by decide +kernel
  refine lv_aload_n hx hb dX11_look_0 rfl (lv_at hl 0 rfl) ?_
  have hP : va_P (gg_D G) classes ([] ++ ([(h0, .inr (11, [.ref tp, .ref ra1, .ref ra2, .ref ra3, .ref ra4, .ref ra5, .ref ra6, .ref ra7, .ref ra8, .ref ra9, .ref ra10, .ref ra11, .ref ra12, .int rc, .int fo, .int xx]))] ++ wt)) s.heap := hP
  have hD : va_D A ([] ++ ([(h0, .inr (11, [.ref tp, .ref ra1, .ref ra2, .ref ra3, .ref ra4, .ref ra5, .ref ra6, .ref ra7, .ref ra8, .ref ra9, .ref ra10, .ref ra11, .ref ra12, .int rc, .int fo, .int xx]))] ++ wt)) := hD
  refine gt_callI (wr := []) (va_runV (As := []) (rest := []) ⟨hx, hb, hml, hown, ht⟩ (d_isTold l G Γ s.heap.size wt hT tp h0 ra1 ra2 ra3 ra4 ra5 ra6 ra7 ra8 ra9 ra10 ra11 ra12 rc fo xx (by first | assumption | omega) (by first | assumption | omega) (by first | assumption | omega) (by first | assumption | omega) (by first | assumption | omega) (by first | assumption | omega) (by first | assumption | omega) (by first | assumption | omega) (by first | assumption | omega) (by first | assumption | omega) (by first | assumption | omega) (by first | assumption | omega) (by first | assumption | omega)) (cwV 0 ht (ts_gV wd_984 wd_986 wd_21 wd_122 wd_987) rfl rfl rfl (by decide +kernel) ⟨Nat.le_of_ble_eq_true rfl, Nat.le_of_ble_eq_true rfl⟩) (gc_preV (ci := 11) (q0 := 0) hK (tw_right hP) (tw_rightD hD) rfl rfl) rfl rfl hl.1 rfl (lv_room (Nat.le_of_ble_eq_true rfl)) dX11_look_1 ⟨Nat.le_of_ble_eq_true rfl, Nat.le_of_ble_eq_true rfl⟩) hP hD hS hA (fun r_1 wt H locs hw hP hD hS => ?_)
  obtain ⟨hT, hkp, lo_r_1, hi_r_1⟩ := hw
  have hW := hW.call (show ∀ x ∈ [], x ∈ [0, 1, 2, 603, 709] by decide) hkp
  have hP : va_P (gg_D G) classes ([(h0, .inr (11, [.ref tp, .ref ra1, .ref ra2, .ref ra3, .ref ra4, .ref ra5, .ref ra6, .ref ra7, .ref ra8, .ref ra9, .ref ra10, .ref ra11, .ref ra12, .int rc, .int fo, .int xx]))] ++ wt) H := hP
  have hD : va_D A ([(h0, .inr (11, [.ref tp, .ref ra1, .ref ra2, .ref ra3, .ref ra4, .ref ra5, .ref ra6, .ref ra7, .ref ra8, .ref ra9, .ref ra10, .ref ra11, .ref ra12, .int rc, .int fo, .int xx]))] ++ wt) := hD
  refine lv_if_eq (tgt := 16) hx hb dX11_look_4 (by decide) (fun c_2 => ?_) (fun c_2 => ?_)
  · rw [← Int32.toInt_inj] at c_2
    refine lv_iconst (v := (-1)) hx hb dX11_look_16 (by decide +kernel) ?_
    have hP9 : va_P (gg_D G) classes ([(h0, .inr (11, [.ref tp, .ref ra1, .ref ra2, .ref ra3, .ref ra4, .ref ra5, .ref ra6, .ref ra7, .ref ra8, .ref ra9, .ref ra10, .ref ra11, .ref ra12, .int rc, .int fo, .int xx]))] ++ wt) _ := hP
    have hD9 : va_D A ([(h0, .inr (11, [.ref tp, .ref ra1, .ref ra2, .ref ra3, .ref ra4, .ref ra5, .ref ra6, .ref ra7, .ref ra8, .ref ra9, .ref ra10, .ref ra11, .ref ra12, .int rc, .int fo, .int xx]))] ++ wt) := hD
    exact W.iret (v := (-1)) hx hb hr (gq_endI wt ⟨hT, hW⟩ hP9 hD9 hS) hS.2.2 dX11_look_17
  · rw [← Int32.toInt_inj] at c_2
    refine lv_iload_n hx hb dX11_look_7 rfl (lv_at hl 1 rfl) ?_
    refine lv_if_lt (tgt := 16) hx hb dX11_look_8 (by decide) (fun c_3 => ?_) (fun c_3 => ?_)
    · rw [Int32.lt_iff_toInt_lt] at c_3
      refine lv_iconst (v := (-1)) hx hb dX11_look_16 (by decide +kernel) ?_
      have hP9 : va_P (gg_D G) classes ([(h0, .inr (11, [.ref tp, .ref ra1, .ref ra2, .ref ra3, .ref ra4, .ref ra5, .ref ra6, .ref ra7, .ref ra8, .ref ra9, .ref ra10, .ref ra11, .ref ra12, .int rc, .int fo, .int xx]))] ++ wt) _ := hP
      have hD9 : va_D A ([(h0, .inr (11, [.ref tp, .ref ra1, .ref ra2, .ref ra3, .ref ra4, .ref ra5, .ref ra6, .ref ra7, .ref ra8, .ref ra9, .ref ra10, .ref ra11, .ref ra12, .int rc, .int fo, .int xx]))] ++ wt) := hD
      exact W.iret (v := (-1)) hx hb hr (gq_endI wt ⟨hT, hW⟩ hP9 hD9 hS) hS.2.2 dX11_look_17
    · rw [Int32.lt_iff_toInt_lt] at c_3
      refine lv_iload_n hx hb dX11_look_11 rfl (lv_at hl 1 rfl) ?_
      refine lv_iconst (v := 1) hx hb dX11_look_12 (by decide +kernel) ?_
      refine lv_icmp_le (tgt := 18) hx hb dX11_look_13 (by decide) (fun c_4 => ?_) (fun c_4 => ?_)
      · rw [Int32.le_iff_toInt_le] at c_4
        refine lv_aload_n hx hb dX11_look_18 rfl (lv_at hl 0 rfl) ?_
        refine gq_get hx hb ht hown hK hP i_X11 0 rfl rfl 12 (by decide) wd_509 rfl rfl dX11_look_19 ?_
        refine lv_aload_n hx hb dX11_look_22 rfl (lv_at hl 0 rfl) ?_
        refine gq_get hx hb ht hown hK hP i_X11 0 rfl rfl 9 (by decide) wd_506 rfl rfl dX11_look_23 ?_
        refine lv_aload_n hx hb dX11_look_26 rfl (lv_at hl 0 rfl) ?_
        refine gq_get hx hb ht hown hK hP i_X11 0 rfl rfl 1 (by decide) wd_498 rfl rfl dX11_look_27 ?_
        refine lv_aload_n hx hb dX11_look_30 rfl (lv_at hl 0 rfl) ?_
        refine gq_get hx hb ht hown hK hP i_X11 0 rfl rfl 7 (by decide) wd_504 rfl rfl dX11_look_31 ?_
        refine lv_aload_n hx hb dX11_look_34 rfl (lv_at hl 0 rfl) ?_
        refine gq_get hx hb ht hown hK hP i_X11 0 rfl rfl 13 (by decide) wd_510 rfl rfl dX11_look_35 ?_
        refine lv_aload_n hx hb dX11_look_38 rfl (lv_at hl 0 rfl) ?_
        refine gq_get hx hb ht hown hK hP i_X11 0 rfl rfl 6 (by decide) wd_503 rfl rfl dX11_look_39 ?_
        refine gt_callV (wr := [(h0, .inr (11, [.ref tp, .ref ra1, .ref ra2, .ref ra3, .ref ra4, .ref ra5, .ref ra6, .ref ra7, .ref ra8, .ref ra9, .ref ra10, .ref ra11, .ref ra12, .int rc, .int fo, .int xx]))]) (va_runV (As := [.ref ra9, .ref ra1, .ref ra7, .int rc, .ref ra6]) (rest := []) ⟨hx, hb, hml, hown, ht⟩ (d_findRules l G Γ H.size wt hT ra12 ra9 ra1 ra7 rc ra6 kr12 kr9 kr1 kr7 (by omega) (by omega) kr6) (cwV 5 ht (ts_gV wd_1162 wd_1163 wd_1164 wd_133 wd_1165) rfl rfl rfl (by decide +kernel) ⟨Nat.le_of_ble_eq_true rfl, Nat.le_of_ble_eq_true rfl⟩) (gt_preW (ci := 6) hK hT (tw_right hP) (tw_rightD hD) kr12 (by decide) rfl) rfl rfl hl.1 rfl (lv_room (Nat.le_of_ble_eq_true rfl)) dX11_look_42 ⟨Nat.le_of_ble_eq_true rfl, Nat.le_of_ble_eq_true rfl⟩) hP hD hS hA (fun wt H locs hw hP hD hS => ?_)
        obtain ⟨hT, hkp⟩ := hw
        have hW := hW.call (show ∀ x ∈ [0, 1, 2, 603, 709], x ∈ [0, 1, 2, 603, 709] by decide) hkp
        have hP : va_P (gg_D G) classes ([(h0, .inr (11, [.ref tp, .ref ra1, .ref ra2, .ref ra3, .ref ra4, .ref ra5, .ref ra6, .ref ra7, .ref ra8, .ref ra9, .ref ra10, .ref ra11, .ref ra12, .int rc, .int fo, .int xx]))] ++ wt) H := hP
        have hD : va_D A ([(h0, .inr (11, [.ref tp, .ref ra1, .ref ra2, .ref ra3, .ref ra4, .ref ra5, .ref ra6, .ref ra7, .ref ra8, .ref ra9, .ref ra10, .ref ra11, .ref ra12, .int rc, .int fo, .int xx]))] ++ wt) := hD
        refine lv_aload_n hx hb dX11_look_45 rfl (lv_at hl 0 rfl) ?_
        refine gq_get hx hb ht hown hK hP i_X11 0 rfl rfl 12 (by decide) wd_509 rfl rfl dX11_look_46 ?_
        refine gt_callI (wr := [(h0, .inr (11, [.ref tp, .ref ra1, .ref ra2, .ref ra3, .ref ra4, .ref ra5, .ref ra6, .ref ra7, .ref ra8, .ref ra9, .ref ra10, .ref ra11, .ref ra12, .int rc, .int fo, .int xx]))]) (va_runV (As := []) (rest := []) ⟨hx, hb, hml, hown, ht⟩ (d_howMany l G Γ H.size wt hT ra12 kr12) (cwV 0 ht (ts_gV wd_1178 wd_1179 wd_1180 wd_133 wd_1181) rfl rfl rfl (by decide +kernel) ⟨Nat.le_of_ble_eq_true rfl, Nat.le_of_ble_eq_true rfl⟩) (gt_preW (ci := 6) hK hT (tw_right hP) (tw_rightD hD) kr12 (by decide) rfl) rfl rfl hl.1 rfl (lv_room (Nat.le_of_ble_eq_true rfl)) dX11_look_49 ⟨Nat.le_of_ble_eq_true rfl, Nat.le_of_ble_eq_true rfl⟩) hP hD hS hA (fun r_5 wt H locs hw hP hD hS => ?_)
        obtain ⟨hT, hkp⟩ := hw
        have hW := hW.call (show ∀ x ∈ [], x ∈ [0, 1, 2, 603, 709] by decide) hkp
        have hP : va_P (gg_D G) classes ([(h0, .inr (11, [.ref tp, .ref ra1, .ref ra2, .ref ra3, .ref ra4, .ref ra5, .ref ra6, .ref ra7, .ref ra8, .ref ra9, .ref ra10, .ref ra11, .ref ra12, .int rc, .int fo, .int xx]))] ++ wt) H := hP
        have hD : va_D A ([(h0, .inr (11, [.ref tp, .ref ra1, .ref ra2, .ref ra3, .ref ra4, .ref ra5, .ref ra6, .ref ra7, .ref ra8, .ref ra9, .ref ra10, .ref ra11, .ref ra12, .int rc, .int fo, .int xx]))] ++ wt) := hD
        refine lv_if_eq (tgt := 65) hx hb dX11_look_52 (by decide) (fun c_6 => ?_) (fun c_6 => ?_)
        · rw [← Int32.toInt_inj] at c_6
          refine lv_bipush (v := (-2)) hx hb dX11_look_65 (by decide +kernel) ?_
          have hP9 : va_P (gg_D G) classes ([(h0, .inr (11, [.ref tp, .ref ra1, .ref ra2, .ref ra3, .ref ra4, .ref ra5, .ref ra6, .ref ra7, .ref ra8, .ref ra9, .ref ra10, .ref ra11, .ref ra12, .int rc, .int fo, .int xx]))] ++ wt) _ := hP
          have hD9 : va_D A ([(h0, .inr (11, [.ref tp, .ref ra1, .ref ra2, .ref ra3, .ref ra4, .ref ra5, .ref ra6, .ref ra7, .ref ra8, .ref ra9, .ref ra10, .ref ra11, .ref ra12, .int rc, .int fo, .int xx]))] ++ wt) := hD
          exact W.iret (v := (-2)) hx hb hr (gq_endI wt ⟨hT, hW⟩ hP9 hD9 hS) hS.2.2 dX11_look_67
        · rw [← Int32.toInt_inj] at c_6
          refine lv_aload_n hx hb dX11_look_55 rfl (lv_at hl 0 rfl) ?_
          refine gq_get hx hb ht hown hK hP i_X11 0 rfl rfl 1 (by decide) wd_498 rfl rfl dX11_look_56 ?_
          refine tr_get (ci := 9) hx hb ht hown hK hT hP kr1 (by decide) i_X9 rfl 2 (by decide) wd_190 rfl dX11_look_59 (fun v hv hf_7 => ?_)
          obtain ⟨n_8, rfl, lo_n_8, hi_n_8⟩ := hv
          refine lv_if_ne (tgt := 68) hx hb dX11_look_62 (by decide) (fun c_9 => ?_) (fun c_9 => ?_)
          · rw [← Int32.toInt_inj] at c_9
            refine lv_iconst (v := 0) hx hb dX11_look_68 (by decide +kernel) ?_
            refine lv_istore_n (lv' := [(2, .int 0), (0, .ref h0), (1, .int b)]) hx hb dX11_look_69 rfl hl (by decide) rfl (fun ls hl => ?_)
            refine lv_iconst (v := 1) hx hb dX11_look_70 (by decide +kernel) ?_
            refine lv_istore_n (lv' := [(3, .int 1), (2, .int 0), (0, .ref h0), (1, .int b)]) hx hb dX11_look_71 rfl hl (by decide) rfl (fun ls hl => ?_)
            refine lv_iload_n hx hb dX11_look_72 rfl (lv_at hl 0 rfl) ?_
            refine lv_aload_n hx hb dX11_look_73 rfl (lv_at hl 2 rfl) ?_
            refine gq_get hx hb ht hown hK hP i_X11 0 rfl rfl 1 (by decide) wd_498 rfl rfl dX11_look_74 ?_
            refine tr_getK (ci := 9) hx hb ht hown hK hP i_X9 rfl 2 (by decide) wd_190 rfl hf_7 dX11_look_77 ?_
            refine lv_icmp_ge (tgt := 110) hx hb dX11_look_80 (by decide) (fun c_10 => ?_) (fun c_10 => ?_)
            · rw [Int32.le_iff_toInt_le] at c_10
              refine lv_iload_n hx hb dX11_look_110 rfl (lv_at hl 3 rfl) ?_
              refine lv_if_ne (tgt := 118) hx hb dX11_look_111 (by decide) (fun c_11 => ?_) (fun c_11 => ?_)
              · rw [← Int32.toInt_inj] at c_11
                refine lv_aload_n hx hb dX11_look_118 rfl (lv_at hl 2 rfl) ?_
                refine gq_get hx hb ht hown hK hP i_X11 0 rfl rfl 12 (by decide) wd_509 rfl rfl dX11_look_119 ?_
                refine lv_iload_n hx hb dX11_look_122 rfl (lv_at hl 1 rfl) ?_
                refine gt_callI (wr := [(h0, .inr (11, [.ref tp, .ref ra1, .ref ra2, .ref ra3, .ref ra4, .ref ra5, .ref ra6, .ref ra7, .ref ra8, .ref ra9, .ref ra10, .ref ra11, .ref ra12, .int rc, .int fo, .int xx]))]) (va_runV (As := [.int 0]) (rest := []) ⟨hx, hb, hml, hown, ht⟩ (d_mostAlike l G Γ H.size wt hT ra12 0 kr12 (by omega) (by omega)) (cwV 1 ht (ts_gV wd_1187 wd_1188 wd_1189 wd_133 wd_1190) rfl rfl rfl (by decide +kernel) ⟨Nat.le_of_ble_eq_true rfl, Nat.le_of_ble_eq_true rfl⟩) (gt_preW (ci := 6) hK hT (tw_right hP) (tw_rightD hD) kr12 (by decide) rfl) rfl rfl hl.1 rfl (lv_room (Nat.le_of_ble_eq_true rfl)) dX11_look_123 ⟨Nat.le_of_ble_eq_true rfl, Nat.le_of_ble_eq_true rfl⟩) hP hD hS hA (fun r_12 wt H locs hw hP hD hS => ?_)
                obtain ⟨hT, hkp⟩ := hw
                have hW := hW.call (show ∀ x ∈ [], x ∈ [0, 1, 2, 603, 709] by decide) hkp
                have hf_7 := hkp _ _ _ _ (by decide) (by decide) hf_7
                have hP : va_P (gg_D G) classes ([(h0, .inr (11, [.ref tp, .ref ra1, .ref ra2, .ref ra3, .ref ra4, .ref ra5, .ref ra6, .ref ra7, .ref ra8, .ref ra9, .ref ra10, .ref ra11, .ref ra12, .int rc, .int fo, .int xx]))] ++ wt) H := hP
                have hD : va_D A ([(h0, .inr (11, [.ref tp, .ref ra1, .ref ra2, .ref ra3, .ref ra4, .ref ra5, .ref ra6, .ref ra7, .ref ra8, .ref ra9, .ref ra10, .ref ra11, .ref ra12, .int rc, .int fo, .int xx]))] ++ wt) := hD
                have hP9 : va_P (gg_D G) classes ([(h0, .inr (11, [.ref tp, .ref ra1, .ref ra2, .ref ra3, .ref ra4, .ref ra5, .ref ra6, .ref ra7, .ref ra8, .ref ra9, .ref ra10, .ref ra11, .ref ra12, .int rc, .int fo, .int xx]))] ++ wt) _ := hP
                have hD9 : va_D A ([(h0, .inr (11, [.ref tp, .ref ra1, .ref ra2, .ref ra3, .ref ra4, .ref ra5, .ref ra6, .ref ra7, .ref ra8, .ref ra9, .ref ra10, .ref ra11, .ref ra12, .int rc, .int fo, .int xx]))] ++ wt) := hD
                exact W.iret (v := r_12) hx hb hr (gq_endI wt ⟨hT, hW⟩ hP9 hD9 hS) hS.2.2 dX11_look_126
              · rw [← Int32.toInt_inj] at c_11
                refine lv_iload_n hx hb dX11_look_114 rfl (lv_at hl 1 rfl) ?_
                refine lv_goto (tgt := 126) hx hb dX11_look_115 (by decide) ?_
                have hP9 : va_P (gg_D G) classes ([(h0, .inr (11, [.ref tp, .ref ra1, .ref ra2, .ref ra3, .ref ra4, .ref ra5, .ref ra6, .ref ra7, .ref ra8, .ref ra9, .ref ra10, .ref ra11, .ref ra12, .int rc, .int fo, .int xx]))] ++ wt) _ := hP
                have hD9 : va_D A ([(h0, .inr (11, [.ref tp, .ref ra1, .ref ra2, .ref ra3, .ref ra4, .ref ra5, .ref ra6, .ref ra7, .ref ra8, .ref ra9, .ref ra10, .ref ra11, .ref ra12, .int rc, .int fo, .int xx]))] ++ wt) := hD
                exact W.iret (v := 0) hx hb hr (gq_endI wt ⟨hT, hW⟩ hP9 hD9 hS) hS.2.2 dX11_look_126
            · rw [Int32.le_iff_toInt_le] at c_10
              refine lv_aload_n hx hb dX11_look_83 rfl (lv_at hl 2 rfl) ?_
              refine gq_get hx hb ht hown hK hP i_X11 0 rfl rfl 12 (by decide) wd_509 rfl rfl dX11_look_84 ?_
              refine lv_iload_n hx hb dX11_look_87 rfl (lv_at hl 0 rfl) ?_
              refine gt_callI (wr := [(h0, .inr (11, [.ref tp, .ref ra1, .ref ra2, .ref ra3, .ref ra4, .ref ra5, .ref ra6, .ref ra7, .ref ra8, .ref ra9, .ref ra10, .ref ra11, .ref ra12, .int rc, .int fo, .int xx]))]) (va_runV (As := [.int 1]) (rest := []) ⟨hx, hb, hml, hown, ht⟩ (d_mostAlike l G Γ H.size wt hT ra12 1 kr12 (by omega) (by omega)) (cwV 1 ht (ts_gV wd_1187 wd_1188 wd_1189 wd_133 wd_1190) rfl rfl rfl (by decide +kernel) ⟨Nat.le_of_ble_eq_true rfl, Nat.le_of_ble_eq_true rfl⟩) (gt_preW (ci := 6) hK hT (tw_right hP) (tw_rightD hD) kr12 (by decide) rfl) rfl rfl hl.1 rfl (lv_room (Nat.le_of_ble_eq_true rfl)) dX11_look_88 ⟨Nat.le_of_ble_eq_true rfl, Nat.le_of_ble_eq_true rfl⟩) hP hD hS hA (fun r_13 wt H locs hw hP hD hS => ?_)
              obtain ⟨hT, hkp⟩ := hw
              have hW := hW.call (show ∀ x ∈ [], x ∈ [0, 1, 2, 603, 709] by decide) hkp
              have hf_7 := hkp _ _ _ _ (by decide) (by decide) hf_7
              have hP : va_P (gg_D G) classes ([(h0, .inr (11, [.ref tp, .ref ra1, .ref ra2, .ref ra3, .ref ra4, .ref ra5, .ref ra6, .ref ra7, .ref ra8, .ref ra9, .ref ra10, .ref ra11, .ref ra12, .int rc, .int fo, .int xx]))] ++ wt) H := hP
              have hD : va_D A ([(h0, .inr (11, [.ref tp, .ref ra1, .ref ra2, .ref ra3, .ref ra4, .ref ra5, .ref ra6, .ref ra7, .ref ra8, .ref ra9, .ref ra10, .ref ra11, .ref ra12, .int rc, .int fo, .int xx]))] ++ wt) := hD
              refine lv_aload_n hx hb dX11_look_91 rfl (lv_at hl 2 rfl) ?_
              refine gq_get hx hb ht hown hK hP i_X11 0 rfl rfl 12 (by decide) wd_509 rfl rfl dX11_look_92 ?_
              refine lv_iload_n hx hb dX11_look_95 rfl (lv_at hl 1 rfl) ?_
              refine gt_callI (wr := [(h0, .inr (11, [.ref tp, .ref ra1, .ref ra2, .ref ra3, .ref ra4, .ref ra5, .ref ra6, .ref ra7, .ref ra8, .ref ra9, .ref ra10, .ref ra11, .ref ra12, .int rc, .int fo, .int xx]))]) (va_runV (As := [.int 0]) (rest := [.int r_13]) ⟨hx, hb, hml, hown, ht⟩ (d_mostAlike l G Γ H.size wt hT ra12 0 kr12 (by omega) (by omega)) (cwV 1 ht (ts_gV wd_1187 wd_1188 wd_1189 wd_133 wd_1190) rfl rfl rfl (by decide +kernel) ⟨Nat.le_of_ble_eq_true rfl, Nat.le_of_ble_eq_true rfl⟩) (gt_preW (ci := 6) hK hT (tw_right hP) (tw_rightD hD) kr12 (by decide) rfl) rfl rfl hl.1 rfl (lv_room (Nat.le_of_ble_eq_true rfl)) dX11_look_96 ⟨Nat.le_of_ble_eq_true rfl, Nat.le_of_ble_eq_true rfl⟩) hP hD hS hA (fun r_14 wt H locs hw hP hD hS => ?_)
              obtain ⟨hT, hkp⟩ := hw
              have hW := hW.call (show ∀ x ∈ [], x ∈ [0, 1, 2, 603, 709] by decide) hkp
              have hf_7 := hkp _ _ _ _ (by decide) (by decide) hf_7
              have hP : va_P (gg_D G) classes ([(h0, .inr (11, [.ref tp, .ref ra1, .ref ra2, .ref ra3, .ref ra4, .ref ra5, .ref ra6, .ref ra7, .ref ra8, .ref ra9, .ref ra10, .ref ra11, .ref ra12, .int rc, .int fo, .int xx]))] ++ wt) H := hP
              have hD : va_D A ([(h0, .inr (11, [.ref tp, .ref ra1, .ref ra2, .ref ra3, .ref ra4, .ref ra5, .ref ra6, .ref ra7, .ref ra8, .ref ra9, .ref ra10, .ref ra11, .ref ra12, .int rc, .int fo, .int xx]))] ++ wt) := hD
              refine lv_icmp_ge (tgt := 104) hx hb dX11_look_99 (by decide) (fun c_15 => ?_) (fun c_15 => ?_)
              · rw [Int32.le_iff_toInt_le] at c_15
                refine lv_iinc (v := 2) (lv' := [(3, .int 2), (2, .int 0), (0, .ref h0), (1, .int b)]) hx hb dX11_look_104 hl (k := 0) rfl (by decide +kernel) (by decide) rfl (fun ls hl => ?_)
                refine lv_goto (tgt := 72) hx hb dX11_look_107 (by decide) ?_
                refine lv_iload_n hx hb dX11_look_72 rfl (lv_at hl 0 rfl) ?_
                refine lv_aload_n hx hb dX11_look_73 rfl (lv_at hl 2 rfl) ?_
                refine gq_get hx hb ht hown hK hP i_X11 0 rfl rfl 1 (by decide) wd_498 rfl rfl dX11_look_74 ?_
                refine tr_getK (ci := 9) hx hb ht hown hK hP i_X9 rfl 2 (by decide) wd_190 rfl hf_7 dX11_look_77 ?_
                refine lv_icmp_ge (tgt := 110) hx hb dX11_look_80 (by decide) (fun c_16 => ?_) (fun c_16 => ?_)
                · rw [Int32.le_iff_toInt_le] at c_16
                  refine lv_iload_n hx hb dX11_look_110 rfl (lv_at hl 3 rfl) ?_
                  refine lv_if_ne (tgt := 118) hx hb dX11_look_111 (by decide) (fun c_17 => ?_) (fun c_17 => ?_)
                  · rw [← Int32.toInt_inj] at c_17
                    refine lv_aload_n hx hb dX11_look_118 rfl (lv_at hl 2 rfl) ?_
                    refine gq_get hx hb ht hown hK hP i_X11 0 rfl rfl 12 (by decide) wd_509 rfl rfl dX11_look_119 ?_
                    refine lv_iload_n hx hb dX11_look_122 rfl (lv_at hl 1 rfl) ?_
                    refine gt_callI (wr := [(h0, .inr (11, [.ref tp, .ref ra1, .ref ra2, .ref ra3, .ref ra4, .ref ra5, .ref ra6, .ref ra7, .ref ra8, .ref ra9, .ref ra10, .ref ra11, .ref ra12, .int rc, .int fo, .int xx]))]) (va_runV (As := [.int 0]) (rest := []) ⟨hx, hb, hml, hown, ht⟩ (d_mostAlike l G Γ H.size wt hT ra12 0 kr12 (by omega) (by omega)) (cwV 1 ht (ts_gV wd_1187 wd_1188 wd_1189 wd_133 wd_1190) rfl rfl rfl (by decide +kernel) ⟨Nat.le_of_ble_eq_true rfl, Nat.le_of_ble_eq_true rfl⟩) (gt_preW (ci := 6) hK hT (tw_right hP) (tw_rightD hD) kr12 (by decide) rfl) rfl rfl hl.1 rfl (lv_room (Nat.le_of_ble_eq_true rfl)) dX11_look_123 ⟨Nat.le_of_ble_eq_true rfl, Nat.le_of_ble_eq_true rfl⟩) hP hD hS hA (fun r_18 wt H locs hw hP hD hS => ?_)
                    obtain ⟨hT, hkp⟩ := hw
                    have hW := hW.call (show ∀ x ∈ [], x ∈ [0, 1, 2, 603, 709] by decide) hkp
                    have hf_7 := hkp _ _ _ _ (by decide) (by decide) hf_7
                    have hP : va_P (gg_D G) classes ([(h0, .inr (11, [.ref tp, .ref ra1, .ref ra2, .ref ra3, .ref ra4, .ref ra5, .ref ra6, .ref ra7, .ref ra8, .ref ra9, .ref ra10, .ref ra11, .ref ra12, .int rc, .int fo, .int xx]))] ++ wt) H := hP
                    have hD : va_D A ([(h0, .inr (11, [.ref tp, .ref ra1, .ref ra2, .ref ra3, .ref ra4, .ref ra5, .ref ra6, .ref ra7, .ref ra8, .ref ra9, .ref ra10, .ref ra11, .ref ra12, .int rc, .int fo, .int xx]))] ++ wt) := hD
                    have hP9 : va_P (gg_D G) classes ([(h0, .inr (11, [.ref tp, .ref ra1, .ref ra2, .ref ra3, .ref ra4, .ref ra5, .ref ra6, .ref ra7, .ref ra8, .ref ra9, .ref ra10, .ref ra11, .ref ra12, .int rc, .int fo, .int xx]))] ++ wt) _ := hP
                    have hD9 : va_D A ([(h0, .inr (11, [.ref tp, .ref ra1, .ref ra2, .ref ra3, .ref ra4, .ref ra5, .ref ra6, .ref ra7, .ref ra8, .ref ra9, .ref ra10, .ref ra11, .ref ra12, .int rc, .int fo, .int xx]))] ++ wt) := hD
                    exact W.iret (v := r_18) hx hb hr (gq_endI wt ⟨hT, hW⟩ hP9 hD9 hS) hS.2.2 dX11_look_126
                  · rw [← Int32.toInt_inj] at c_17
                    refine lv_iload_n hx hb dX11_look_114 rfl (lv_at hl 1 rfl) ?_
                    refine lv_goto (tgt := 126) hx hb dX11_look_115 (by decide) ?_
                    have hP9 : va_P (gg_D G) classes ([(h0, .inr (11, [.ref tp, .ref ra1, .ref ra2, .ref ra3, .ref ra4, .ref ra5, .ref ra6, .ref ra7, .ref ra8, .ref ra9, .ref ra10, .ref ra11, .ref ra12, .int rc, .int fo, .int xx]))] ++ wt) _ := hP
                    have hD9 : va_D A ([(h0, .inr (11, [.ref tp, .ref ra1, .ref ra2, .ref ra3, .ref ra4, .ref ra5, .ref ra6, .ref ra7, .ref ra8, .ref ra9, .ref ra10, .ref ra11, .ref ra12, .int rc, .int fo, .int xx]))] ++ wt) := hD
                    exact W.iret (v := 0) hx hb hr (gq_endI wt ⟨hT, hW⟩ hP9 hD9 hS) hS.2.2 dX11_look_126
                · rw [Int32.le_iff_toInt_le] at c_16
                  refine lv_aload_n hx hb dX11_look_83 rfl (lv_at hl 2 rfl) ?_
                  refine gq_get hx hb ht hown hK hP i_X11 0 rfl rfl 12 (by decide) wd_509 rfl rfl dX11_look_84 ?_
                  refine lv_iload_n hx hb dX11_look_87 rfl (lv_at hl 0 rfl) ?_
                  refine gt_callI (wr := [(h0, .inr (11, [.ref tp, .ref ra1, .ref ra2, .ref ra3, .ref ra4, .ref ra5, .ref ra6, .ref ra7, .ref ra8, .ref ra9, .ref ra10, .ref ra11, .ref ra12, .int rc, .int fo, .int xx]))]) (va_runV (As := [.int 2]) (rest := []) ⟨hx, hb, hml, hown, ht⟩ (d_mostAlike l G Γ H.size wt hT ra12 2 kr12 (by omega) (by omega)) (cwV 1 ht (ts_gV wd_1187 wd_1188 wd_1189 wd_133 wd_1190) rfl rfl rfl (by decide +kernel) ⟨Nat.le_of_ble_eq_true rfl, Nat.le_of_ble_eq_true rfl⟩) (gt_preW (ci := 6) hK hT (tw_right hP) (tw_rightD hD) kr12 (by decide) rfl) rfl rfl hl.1 rfl (lv_room (Nat.le_of_ble_eq_true rfl)) dX11_look_88 ⟨Nat.le_of_ble_eq_true rfl, Nat.le_of_ble_eq_true rfl⟩) hP hD hS hA (fun r_19 wt H locs hw hP hD hS => ?_)
                  obtain ⟨hT, hkp⟩ := hw
                  have hW := hW.call (show ∀ x ∈ [], x ∈ [0, 1, 2, 603, 709] by decide) hkp
                  have hf_7 := hkp _ _ _ _ (by decide) (by decide) hf_7
                  have hP : va_P (gg_D G) classes ([(h0, .inr (11, [.ref tp, .ref ra1, .ref ra2, .ref ra3, .ref ra4, .ref ra5, .ref ra6, .ref ra7, .ref ra8, .ref ra9, .ref ra10, .ref ra11, .ref ra12, .int rc, .int fo, .int xx]))] ++ wt) H := hP
                  have hD : va_D A ([(h0, .inr (11, [.ref tp, .ref ra1, .ref ra2, .ref ra3, .ref ra4, .ref ra5, .ref ra6, .ref ra7, .ref ra8, .ref ra9, .ref ra10, .ref ra11, .ref ra12, .int rc, .int fo, .int xx]))] ++ wt) := hD
                  refine lv_aload_n hx hb dX11_look_91 rfl (lv_at hl 2 rfl) ?_
                  refine gq_get hx hb ht hown hK hP i_X11 0 rfl rfl 12 (by decide) wd_509 rfl rfl dX11_look_92 ?_
                  refine lv_iload_n hx hb dX11_look_95 rfl (lv_at hl 1 rfl) ?_
                  refine gt_callI (wr := [(h0, .inr (11, [.ref tp, .ref ra1, .ref ra2, .ref ra3, .ref ra4, .ref ra5, .ref ra6, .ref ra7, .ref ra8, .ref ra9, .ref ra10, .ref ra11, .ref ra12, .int rc, .int fo, .int xx]))]) (va_runV (As := [.int 0]) (rest := [.int r_19]) ⟨hx, hb, hml, hown, ht⟩ (d_mostAlike l G Γ H.size wt hT ra12 0 kr12 (by omega) (by omega)) (cwV 1 ht (ts_gV wd_1187 wd_1188 wd_1189 wd_133 wd_1190) rfl rfl rfl (by decide +kernel) ⟨Nat.le_of_ble_eq_true rfl, Nat.le_of_ble_eq_true rfl⟩) (gt_preW (ci := 6) hK hT (tw_right hP) (tw_rightD hD) kr12 (by decide) rfl) rfl rfl hl.1 rfl (lv_room (Nat.le_of_ble_eq_true rfl)) dX11_look_96 ⟨Nat.le_of_ble_eq_true rfl, Nat.le_of_ble_eq_true rfl⟩) hP hD hS hA (fun r_20 wt H locs hw hP hD hS => ?_)
                  obtain ⟨hT, hkp⟩ := hw
                  have hW := hW.call (show ∀ x ∈ [], x ∈ [0, 1, 2, 603, 709] by decide) hkp
                  have hf_7 := hkp _ _ _ _ (by decide) (by decide) hf_7
                  have hP : va_P (gg_D G) classes ([(h0, .inr (11, [.ref tp, .ref ra1, .ref ra2, .ref ra3, .ref ra4, .ref ra5, .ref ra6, .ref ra7, .ref ra8, .ref ra9, .ref ra10, .ref ra11, .ref ra12, .int rc, .int fo, .int xx]))] ++ wt) H := hP
                  have hD : va_D A ([(h0, .inr (11, [.ref tp, .ref ra1, .ref ra2, .ref ra3, .ref ra4, .ref ra5, .ref ra6, .ref ra7, .ref ra8, .ref ra9, .ref ra10, .ref ra11, .ref ra12, .int rc, .int fo, .int xx]))] ++ wt) := hD
                  refine lv_icmp_ge (tgt := 104) hx hb dX11_look_99 (by decide) (fun c_21 => ?_) (fun c_21 => ?_)
                  · rw [Int32.le_iff_toInt_le] at c_21
                    refine lv_iinc (v := 3) (lv' := [(3, .int 3), (2, .int 0), (0, .ref h0), (1, .int b)]) hx hb dX11_look_104 hl (k := 0) rfl (by decide +kernel) (by decide) rfl (fun ls hl => ?_)
                    refine lv_goto (tgt := 72) hx hb dX11_look_107 (by decide) ?_
                    refine lv_iload_n hx hb dX11_look_72 rfl (lv_at hl 0 rfl) ?_
                    refine lv_aload_n hx hb dX11_look_73 rfl (lv_at hl 2 rfl) ?_
                    refine gq_get hx hb ht hown hK hP i_X11 0 rfl rfl 1 (by decide) wd_498 rfl rfl dX11_look_74 ?_
                    refine tr_getK (ci := 9) hx hb ht hown hK hP i_X9 rfl 2 (by decide) wd_190 rfl hf_7 dX11_look_77 ?_
                    refine lv_icmp_ge (tgt := 110) hx hb dX11_look_80 (by decide) (fun _ => ?_) (fun c0 => False.elim (by rw [Int32.le_iff_toInt_le] at c0; omega))
                    refine lv_iload_n hx hb dX11_look_110 rfl (lv_at hl 3 rfl) ?_
                    refine lv_if_ne (tgt := 118) hx hb dX11_look_111 (by decide) (fun c_22 => ?_) (fun c_22 => ?_)
                    · rw [← Int32.toInt_inj] at c_22
                      refine lv_aload_n hx hb dX11_look_118 rfl (lv_at hl 2 rfl) ?_
                      refine gq_get hx hb ht hown hK hP i_X11 0 rfl rfl 12 (by decide) wd_509 rfl rfl dX11_look_119 ?_
                      refine lv_iload_n hx hb dX11_look_122 rfl (lv_at hl 1 rfl) ?_
                      refine gt_callI (wr := [(h0, .inr (11, [.ref tp, .ref ra1, .ref ra2, .ref ra3, .ref ra4, .ref ra5, .ref ra6, .ref ra7, .ref ra8, .ref ra9, .ref ra10, .ref ra11, .ref ra12, .int rc, .int fo, .int xx]))]) (va_runV (As := [.int 0]) (rest := []) ⟨hx, hb, hml, hown, ht⟩ (d_mostAlike l G Γ H.size wt hT ra12 0 kr12 (by omega) (by omega)) (cwV 1 ht (ts_gV wd_1187 wd_1188 wd_1189 wd_133 wd_1190) rfl rfl rfl (by decide +kernel) ⟨Nat.le_of_ble_eq_true rfl, Nat.le_of_ble_eq_true rfl⟩) (gt_preW (ci := 6) hK hT (tw_right hP) (tw_rightD hD) kr12 (by decide) rfl) rfl rfl hl.1 rfl (lv_room (Nat.le_of_ble_eq_true rfl)) dX11_look_123 ⟨Nat.le_of_ble_eq_true rfl, Nat.le_of_ble_eq_true rfl⟩) hP hD hS hA (fun r_23 wt H locs hw hP hD hS => ?_)
                      obtain ⟨hT, hkp⟩ := hw
                      have hW := hW.call (show ∀ x ∈ [], x ∈ [0, 1, 2, 603, 709] by decide) hkp
                      have hf_7 := hkp _ _ _ _ (by decide) (by decide) hf_7
                      have hP : va_P (gg_D G) classes ([(h0, .inr (11, [.ref tp, .ref ra1, .ref ra2, .ref ra3, .ref ra4, .ref ra5, .ref ra6, .ref ra7, .ref ra8, .ref ra9, .ref ra10, .ref ra11, .ref ra12, .int rc, .int fo, .int xx]))] ++ wt) H := hP
                      have hD : va_D A ([(h0, .inr (11, [.ref tp, .ref ra1, .ref ra2, .ref ra3, .ref ra4, .ref ra5, .ref ra6, .ref ra7, .ref ra8, .ref ra9, .ref ra10, .ref ra11, .ref ra12, .int rc, .int fo, .int xx]))] ++ wt) := hD
                      have hP9 : va_P (gg_D G) classes ([(h0, .inr (11, [.ref tp, .ref ra1, .ref ra2, .ref ra3, .ref ra4, .ref ra5, .ref ra6, .ref ra7, .ref ra8, .ref ra9, .ref ra10, .ref ra11, .ref ra12, .int rc, .int fo, .int xx]))] ++ wt) _ := hP
                      have hD9 : va_D A ([(h0, .inr (11, [.ref tp, .ref ra1, .ref ra2, .ref ra3, .ref ra4, .ref ra5, .ref ra6, .ref ra7, .ref ra8, .ref ra9, .ref ra10, .ref ra11, .ref ra12, .int rc, .int fo, .int xx]))] ++ wt) := hD
                      exact W.iret (v := r_23) hx hb hr (gq_endI wt ⟨hT, hW⟩ hP9 hD9 hS) hS.2.2 dX11_look_126
                    · rw [← Int32.toInt_inj] at c_22
                      refine lv_iload_n hx hb dX11_look_114 rfl (lv_at hl 1 rfl) ?_
                      refine lv_goto (tgt := 126) hx hb dX11_look_115 (by decide) ?_
                      have hP9 : va_P (gg_D G) classes ([(h0, .inr (11, [.ref tp, .ref ra1, .ref ra2, .ref ra3, .ref ra4, .ref ra5, .ref ra6, .ref ra7, .ref ra8, .ref ra9, .ref ra10, .ref ra11, .ref ra12, .int rc, .int fo, .int xx]))] ++ wt) _ := hP
                      have hD9 : va_D A ([(h0, .inr (11, [.ref tp, .ref ra1, .ref ra2, .ref ra3, .ref ra4, .ref ra5, .ref ra6, .ref ra7, .ref ra8, .ref ra9, .ref ra10, .ref ra11, .ref ra12, .int rc, .int fo, .int xx]))] ++ wt) := hD
                      exact W.iret (v := 0) hx hb hr (gq_endI wt ⟨hT, hW⟩ hP9 hD9 hS) hS.2.2 dX11_look_126
                  · rw [Int32.le_iff_toInt_le] at c_21
                    refine lv_iload_n hx hb dX11_look_102 rfl (lv_at hl 0 rfl) ?_
                    refine lv_istore_n (lv' := [(2, .int 2), (3, .int 2), (0, .ref h0), (1, .int b)]) hx hb dX11_look_103 rfl hl (by decide) rfl (fun ls hl => ?_)
                    refine lv_iinc (v := 3) (lv' := [(3, .int 3), (2, .int 2), (0, .ref h0), (1, .int b)]) hx hb dX11_look_104 hl (k := 1) rfl (by decide +kernel) (by decide) rfl (fun ls hl => ?_)
                    refine lv_goto (tgt := 72) hx hb dX11_look_107 (by decide) ?_
                    refine lv_iload_n hx hb dX11_look_72 rfl (lv_at hl 0 rfl) ?_
                    refine lv_aload_n hx hb dX11_look_73 rfl (lv_at hl 2 rfl) ?_
                    refine gq_get hx hb ht hown hK hP i_X11 0 rfl rfl 1 (by decide) wd_498 rfl rfl dX11_look_74 ?_
                    refine tr_getK (ci := 9) hx hb ht hown hK hP i_X9 rfl 2 (by decide) wd_190 rfl hf_7 dX11_look_77 ?_
                    refine lv_icmp_ge (tgt := 110) hx hb dX11_look_80 (by decide) (fun _ => ?_) (fun c0 => False.elim (by rw [Int32.le_iff_toInt_le] at c0; omega))
                    refine lv_iload_n hx hb dX11_look_110 rfl (lv_at hl 3 rfl) ?_
                    refine lv_if_ne (tgt := 118) hx hb dX11_look_111 (by decide) (fun c_24 => ?_) (fun c_24 => ?_)
                    · rw [← Int32.toInt_inj] at c_24
                      refine lv_aload_n hx hb dX11_look_118 rfl (lv_at hl 2 rfl) ?_
                      refine gq_get hx hb ht hown hK hP i_X11 0 rfl rfl 12 (by decide) wd_509 rfl rfl dX11_look_119 ?_
                      refine lv_iload_n hx hb dX11_look_122 rfl (lv_at hl 1 rfl) ?_
                      refine gt_callI (wr := [(h0, .inr (11, [.ref tp, .ref ra1, .ref ra2, .ref ra3, .ref ra4, .ref ra5, .ref ra6, .ref ra7, .ref ra8, .ref ra9, .ref ra10, .ref ra11, .ref ra12, .int rc, .int fo, .int xx]))]) (va_runV (As := [.int 2]) (rest := []) ⟨hx, hb, hml, hown, ht⟩ (d_mostAlike l G Γ H.size wt hT ra12 2 kr12 (by omega) (by omega)) (cwV 1 ht (ts_gV wd_1187 wd_1188 wd_1189 wd_133 wd_1190) rfl rfl rfl (by decide +kernel) ⟨Nat.le_of_ble_eq_true rfl, Nat.le_of_ble_eq_true rfl⟩) (gt_preW (ci := 6) hK hT (tw_right hP) (tw_rightD hD) kr12 (by decide) rfl) rfl rfl hl.1 rfl (lv_room (Nat.le_of_ble_eq_true rfl)) dX11_look_123 ⟨Nat.le_of_ble_eq_true rfl, Nat.le_of_ble_eq_true rfl⟩) hP hD hS hA (fun r_25 wt H locs hw hP hD hS => ?_)
                      obtain ⟨hT, hkp⟩ := hw
                      have hW := hW.call (show ∀ x ∈ [], x ∈ [0, 1, 2, 603, 709] by decide) hkp
                      have hf_7 := hkp _ _ _ _ (by decide) (by decide) hf_7
                      have hP : va_P (gg_D G) classes ([(h0, .inr (11, [.ref tp, .ref ra1, .ref ra2, .ref ra3, .ref ra4, .ref ra5, .ref ra6, .ref ra7, .ref ra8, .ref ra9, .ref ra10, .ref ra11, .ref ra12, .int rc, .int fo, .int xx]))] ++ wt) H := hP
                      have hD : va_D A ([(h0, .inr (11, [.ref tp, .ref ra1, .ref ra2, .ref ra3, .ref ra4, .ref ra5, .ref ra6, .ref ra7, .ref ra8, .ref ra9, .ref ra10, .ref ra11, .ref ra12, .int rc, .int fo, .int xx]))] ++ wt) := hD
                      have hP9 : va_P (gg_D G) classes ([(h0, .inr (11, [.ref tp, .ref ra1, .ref ra2, .ref ra3, .ref ra4, .ref ra5, .ref ra6, .ref ra7, .ref ra8, .ref ra9, .ref ra10, .ref ra11, .ref ra12, .int rc, .int fo, .int xx]))] ++ wt) _ := hP
                      have hD9 : va_D A ([(h0, .inr (11, [.ref tp, .ref ra1, .ref ra2, .ref ra3, .ref ra4, .ref ra5, .ref ra6, .ref ra7, .ref ra8, .ref ra9, .ref ra10, .ref ra11, .ref ra12, .int rc, .int fo, .int xx]))] ++ wt) := hD
                      exact W.iret (v := r_25) hx hb hr (gq_endI wt ⟨hT, hW⟩ hP9 hD9 hS) hS.2.2 dX11_look_126
                    · rw [← Int32.toInt_inj] at c_24
                      refine lv_iload_n hx hb dX11_look_114 rfl (lv_at hl 1 rfl) ?_
                      refine lv_goto (tgt := 126) hx hb dX11_look_115 (by decide) ?_
                      have hP9 : va_P (gg_D G) classes ([(h0, .inr (11, [.ref tp, .ref ra1, .ref ra2, .ref ra3, .ref ra4, .ref ra5, .ref ra6, .ref ra7, .ref ra8, .ref ra9, .ref ra10, .ref ra11, .ref ra12, .int rc, .int fo, .int xx]))] ++ wt) _ := hP
                      have hD9 : va_D A ([(h0, .inr (11, [.ref tp, .ref ra1, .ref ra2, .ref ra3, .ref ra4, .ref ra5, .ref ra6, .ref ra7, .ref ra8, .ref ra9, .ref ra10, .ref ra11, .ref ra12, .int rc, .int fo, .int xx]))] ++ wt) := hD
                      exact W.iret (v := 2) hx hb hr (gq_endI wt ⟨hT, hW⟩ hP9 hD9 hS) hS.2.2 dX11_look_126
              · rw [Int32.le_iff_toInt_le] at c_15
                refine lv_iload_n hx hb dX11_look_102 rfl (lv_at hl 0 rfl) ?_
                refine lv_istore_n (lv' := [(2, .int 1), (3, .int 1), (0, .ref h0), (1, .int b)]) hx hb dX11_look_103 rfl hl (by decide) rfl (fun ls hl => ?_)
                refine lv_iinc (v := 2) (lv' := [(3, .int 2), (2, .int 1), (0, .ref h0), (1, .int b)]) hx hb dX11_look_104 hl (k := 1) rfl (by decide +kernel) (by decide) rfl (fun ls hl => ?_)
                refine lv_goto (tgt := 72) hx hb dX11_look_107 (by decide) ?_
                refine lv_iload_n hx hb dX11_look_72 rfl (lv_at hl 0 rfl) ?_
                refine lv_aload_n hx hb dX11_look_73 rfl (lv_at hl 2 rfl) ?_
                refine gq_get hx hb ht hown hK hP i_X11 0 rfl rfl 1 (by decide) wd_498 rfl rfl dX11_look_74 ?_
                refine tr_getK (ci := 9) hx hb ht hown hK hP i_X9 rfl 2 (by decide) wd_190 rfl hf_7 dX11_look_77 ?_
                refine lv_icmp_ge (tgt := 110) hx hb dX11_look_80 (by decide) (fun c_26 => ?_) (fun c_26 => ?_)
                · rw [Int32.le_iff_toInt_le] at c_26
                  refine lv_iload_n hx hb dX11_look_110 rfl (lv_at hl 3 rfl) ?_
                  refine lv_if_ne (tgt := 118) hx hb dX11_look_111 (by decide) (fun c_27 => ?_) (fun c_27 => ?_)
                  · rw [← Int32.toInt_inj] at c_27
                    refine lv_aload_n hx hb dX11_look_118 rfl (lv_at hl 2 rfl) ?_
                    refine gq_get hx hb ht hown hK hP i_X11 0 rfl rfl 12 (by decide) wd_509 rfl rfl dX11_look_119 ?_
                    refine lv_iload_n hx hb dX11_look_122 rfl (lv_at hl 1 rfl) ?_
                    refine gt_callI (wr := [(h0, .inr (11, [.ref tp, .ref ra1, .ref ra2, .ref ra3, .ref ra4, .ref ra5, .ref ra6, .ref ra7, .ref ra8, .ref ra9, .ref ra10, .ref ra11, .ref ra12, .int rc, .int fo, .int xx]))]) (va_runV (As := [.int 1]) (rest := []) ⟨hx, hb, hml, hown, ht⟩ (d_mostAlike l G Γ H.size wt hT ra12 1 kr12 (by omega) (by omega)) (cwV 1 ht (ts_gV wd_1187 wd_1188 wd_1189 wd_133 wd_1190) rfl rfl rfl (by decide +kernel) ⟨Nat.le_of_ble_eq_true rfl, Nat.le_of_ble_eq_true rfl⟩) (gt_preW (ci := 6) hK hT (tw_right hP) (tw_rightD hD) kr12 (by decide) rfl) rfl rfl hl.1 rfl (lv_room (Nat.le_of_ble_eq_true rfl)) dX11_look_123 ⟨Nat.le_of_ble_eq_true rfl, Nat.le_of_ble_eq_true rfl⟩) hP hD hS hA (fun r_28 wt H locs hw hP hD hS => ?_)
                    obtain ⟨hT, hkp⟩ := hw
                    have hW := hW.call (show ∀ x ∈ [], x ∈ [0, 1, 2, 603, 709] by decide) hkp
                    have hf_7 := hkp _ _ _ _ (by decide) (by decide) hf_7
                    have hP : va_P (gg_D G) classes ([(h0, .inr (11, [.ref tp, .ref ra1, .ref ra2, .ref ra3, .ref ra4, .ref ra5, .ref ra6, .ref ra7, .ref ra8, .ref ra9, .ref ra10, .ref ra11, .ref ra12, .int rc, .int fo, .int xx]))] ++ wt) H := hP
                    have hD : va_D A ([(h0, .inr (11, [.ref tp, .ref ra1, .ref ra2, .ref ra3, .ref ra4, .ref ra5, .ref ra6, .ref ra7, .ref ra8, .ref ra9, .ref ra10, .ref ra11, .ref ra12, .int rc, .int fo, .int xx]))] ++ wt) := hD
                    have hP9 : va_P (gg_D G) classes ([(h0, .inr (11, [.ref tp, .ref ra1, .ref ra2, .ref ra3, .ref ra4, .ref ra5, .ref ra6, .ref ra7, .ref ra8, .ref ra9, .ref ra10, .ref ra11, .ref ra12, .int rc, .int fo, .int xx]))] ++ wt) _ := hP
                    have hD9 : va_D A ([(h0, .inr (11, [.ref tp, .ref ra1, .ref ra2, .ref ra3, .ref ra4, .ref ra5, .ref ra6, .ref ra7, .ref ra8, .ref ra9, .ref ra10, .ref ra11, .ref ra12, .int rc, .int fo, .int xx]))] ++ wt) := hD
                    exact W.iret (v := r_28) hx hb hr (gq_endI wt ⟨hT, hW⟩ hP9 hD9 hS) hS.2.2 dX11_look_126
                  · rw [← Int32.toInt_inj] at c_27
                    refine lv_iload_n hx hb dX11_look_114 rfl (lv_at hl 1 rfl) ?_
                    refine lv_goto (tgt := 126) hx hb dX11_look_115 (by decide) ?_
                    have hP9 : va_P (gg_D G) classes ([(h0, .inr (11, [.ref tp, .ref ra1, .ref ra2, .ref ra3, .ref ra4, .ref ra5, .ref ra6, .ref ra7, .ref ra8, .ref ra9, .ref ra10, .ref ra11, .ref ra12, .int rc, .int fo, .int xx]))] ++ wt) _ := hP
                    have hD9 : va_D A ([(h0, .inr (11, [.ref tp, .ref ra1, .ref ra2, .ref ra3, .ref ra4, .ref ra5, .ref ra6, .ref ra7, .ref ra8, .ref ra9, .ref ra10, .ref ra11, .ref ra12, .int rc, .int fo, .int xx]))] ++ wt) := hD
                    exact W.iret (v := 1) hx hb hr (gq_endI wt ⟨hT, hW⟩ hP9 hD9 hS) hS.2.2 dX11_look_126
                · rw [Int32.le_iff_toInt_le] at c_26
                  refine lv_aload_n hx hb dX11_look_83 rfl (lv_at hl 2 rfl) ?_
                  refine gq_get hx hb ht hown hK hP i_X11 0 rfl rfl 12 (by decide) wd_509 rfl rfl dX11_look_84 ?_
                  refine lv_iload_n hx hb dX11_look_87 rfl (lv_at hl 0 rfl) ?_
                  refine gt_callI (wr := [(h0, .inr (11, [.ref tp, .ref ra1, .ref ra2, .ref ra3, .ref ra4, .ref ra5, .ref ra6, .ref ra7, .ref ra8, .ref ra9, .ref ra10, .ref ra11, .ref ra12, .int rc, .int fo, .int xx]))]) (va_runV (As := [.int 2]) (rest := []) ⟨hx, hb, hml, hown, ht⟩ (d_mostAlike l G Γ H.size wt hT ra12 2 kr12 (by omega) (by omega)) (cwV 1 ht (ts_gV wd_1187 wd_1188 wd_1189 wd_133 wd_1190) rfl rfl rfl (by decide +kernel) ⟨Nat.le_of_ble_eq_true rfl, Nat.le_of_ble_eq_true rfl⟩) (gt_preW (ci := 6) hK hT (tw_right hP) (tw_rightD hD) kr12 (by decide) rfl) rfl rfl hl.1 rfl (lv_room (Nat.le_of_ble_eq_true rfl)) dX11_look_88 ⟨Nat.le_of_ble_eq_true rfl, Nat.le_of_ble_eq_true rfl⟩) hP hD hS hA (fun r_29 wt H locs hw hP hD hS => ?_)
                  obtain ⟨hT, hkp⟩ := hw
                  have hW := hW.call (show ∀ x ∈ [], x ∈ [0, 1, 2, 603, 709] by decide) hkp
                  have hf_7 := hkp _ _ _ _ (by decide) (by decide) hf_7
                  have hP : va_P (gg_D G) classes ([(h0, .inr (11, [.ref tp, .ref ra1, .ref ra2, .ref ra3, .ref ra4, .ref ra5, .ref ra6, .ref ra7, .ref ra8, .ref ra9, .ref ra10, .ref ra11, .ref ra12, .int rc, .int fo, .int xx]))] ++ wt) H := hP
                  have hD : va_D A ([(h0, .inr (11, [.ref tp, .ref ra1, .ref ra2, .ref ra3, .ref ra4, .ref ra5, .ref ra6, .ref ra7, .ref ra8, .ref ra9, .ref ra10, .ref ra11, .ref ra12, .int rc, .int fo, .int xx]))] ++ wt) := hD
                  refine lv_aload_n hx hb dX11_look_91 rfl (lv_at hl 2 rfl) ?_
                  refine gq_get hx hb ht hown hK hP i_X11 0 rfl rfl 12 (by decide) wd_509 rfl rfl dX11_look_92 ?_
                  refine lv_iload_n hx hb dX11_look_95 rfl (lv_at hl 1 rfl) ?_
                  refine gt_callI (wr := [(h0, .inr (11, [.ref tp, .ref ra1, .ref ra2, .ref ra3, .ref ra4, .ref ra5, .ref ra6, .ref ra7, .ref ra8, .ref ra9, .ref ra10, .ref ra11, .ref ra12, .int rc, .int fo, .int xx]))]) (va_runV (As := [.int 1]) (rest := [.int r_29]) ⟨hx, hb, hml, hown, ht⟩ (d_mostAlike l G Γ H.size wt hT ra12 1 kr12 (by omega) (by omega)) (cwV 1 ht (ts_gV wd_1187 wd_1188 wd_1189 wd_133 wd_1190) rfl rfl rfl (by decide +kernel) ⟨Nat.le_of_ble_eq_true rfl, Nat.le_of_ble_eq_true rfl⟩) (gt_preW (ci := 6) hK hT (tw_right hP) (tw_rightD hD) kr12 (by decide) rfl) rfl rfl hl.1 rfl (lv_room (Nat.le_of_ble_eq_true rfl)) dX11_look_96 ⟨Nat.le_of_ble_eq_true rfl, Nat.le_of_ble_eq_true rfl⟩) hP hD hS hA (fun r_30 wt H locs hw hP hD hS => ?_)
                  obtain ⟨hT, hkp⟩ := hw
                  have hW := hW.call (show ∀ x ∈ [], x ∈ [0, 1, 2, 603, 709] by decide) hkp
                  have hf_7 := hkp _ _ _ _ (by decide) (by decide) hf_7
                  have hP : va_P (gg_D G) classes ([(h0, .inr (11, [.ref tp, .ref ra1, .ref ra2, .ref ra3, .ref ra4, .ref ra5, .ref ra6, .ref ra7, .ref ra8, .ref ra9, .ref ra10, .ref ra11, .ref ra12, .int rc, .int fo, .int xx]))] ++ wt) H := hP
                  have hD : va_D A ([(h0, .inr (11, [.ref tp, .ref ra1, .ref ra2, .ref ra3, .ref ra4, .ref ra5, .ref ra6, .ref ra7, .ref ra8, .ref ra9, .ref ra10, .ref ra11, .ref ra12, .int rc, .int fo, .int xx]))] ++ wt) := hD
                  refine lv_icmp_ge (tgt := 104) hx hb dX11_look_99 (by decide) (fun c_31 => ?_) (fun c_31 => ?_)
                  · rw [Int32.le_iff_toInt_le] at c_31
                    refine lv_iinc (v := 3) (lv' := [(3, .int 3), (2, .int 1), (0, .ref h0), (1, .int b)]) hx hb dX11_look_104 hl (k := 0) rfl (by decide +kernel) (by decide) rfl (fun ls hl => ?_)
                    refine lv_goto (tgt := 72) hx hb dX11_look_107 (by decide) ?_
                    refine lv_iload_n hx hb dX11_look_72 rfl (lv_at hl 0 rfl) ?_
                    refine lv_aload_n hx hb dX11_look_73 rfl (lv_at hl 2 rfl) ?_
                    refine gq_get hx hb ht hown hK hP i_X11 0 rfl rfl 1 (by decide) wd_498 rfl rfl dX11_look_74 ?_
                    refine tr_getK (ci := 9) hx hb ht hown hK hP i_X9 rfl 2 (by decide) wd_190 rfl hf_7 dX11_look_77 ?_
                    refine lv_icmp_ge (tgt := 110) hx hb dX11_look_80 (by decide) (fun _ => ?_) (fun c0 => False.elim (by rw [Int32.le_iff_toInt_le] at c0; omega))
                    refine lv_iload_n hx hb dX11_look_110 rfl (lv_at hl 3 rfl) ?_
                    refine lv_if_ne (tgt := 118) hx hb dX11_look_111 (by decide) (fun c_32 => ?_) (fun c_32 => ?_)
                    · rw [← Int32.toInt_inj] at c_32
                      refine lv_aload_n hx hb dX11_look_118 rfl (lv_at hl 2 rfl) ?_
                      refine gq_get hx hb ht hown hK hP i_X11 0 rfl rfl 12 (by decide) wd_509 rfl rfl dX11_look_119 ?_
                      refine lv_iload_n hx hb dX11_look_122 rfl (lv_at hl 1 rfl) ?_
                      refine gt_callI (wr := [(h0, .inr (11, [.ref tp, .ref ra1, .ref ra2, .ref ra3, .ref ra4, .ref ra5, .ref ra6, .ref ra7, .ref ra8, .ref ra9, .ref ra10, .ref ra11, .ref ra12, .int rc, .int fo, .int xx]))]) (va_runV (As := [.int 1]) (rest := []) ⟨hx, hb, hml, hown, ht⟩ (d_mostAlike l G Γ H.size wt hT ra12 1 kr12 (by omega) (by omega)) (cwV 1 ht (ts_gV wd_1187 wd_1188 wd_1189 wd_133 wd_1190) rfl rfl rfl (by decide +kernel) ⟨Nat.le_of_ble_eq_true rfl, Nat.le_of_ble_eq_true rfl⟩) (gt_preW (ci := 6) hK hT (tw_right hP) (tw_rightD hD) kr12 (by decide) rfl) rfl rfl hl.1 rfl (lv_room (Nat.le_of_ble_eq_true rfl)) dX11_look_123 ⟨Nat.le_of_ble_eq_true rfl, Nat.le_of_ble_eq_true rfl⟩) hP hD hS hA (fun r_33 wt H locs hw hP hD hS => ?_)
                      obtain ⟨hT, hkp⟩ := hw
                      have hW := hW.call (show ∀ x ∈ [], x ∈ [0, 1, 2, 603, 709] by decide) hkp
                      have hf_7 := hkp _ _ _ _ (by decide) (by decide) hf_7
                      have hP : va_P (gg_D G) classes ([(h0, .inr (11, [.ref tp, .ref ra1, .ref ra2, .ref ra3, .ref ra4, .ref ra5, .ref ra6, .ref ra7, .ref ra8, .ref ra9, .ref ra10, .ref ra11, .ref ra12, .int rc, .int fo, .int xx]))] ++ wt) H := hP
                      have hD : va_D A ([(h0, .inr (11, [.ref tp, .ref ra1, .ref ra2, .ref ra3, .ref ra4, .ref ra5, .ref ra6, .ref ra7, .ref ra8, .ref ra9, .ref ra10, .ref ra11, .ref ra12, .int rc, .int fo, .int xx]))] ++ wt) := hD
                      have hP9 : va_P (gg_D G) classes ([(h0, .inr (11, [.ref tp, .ref ra1, .ref ra2, .ref ra3, .ref ra4, .ref ra5, .ref ra6, .ref ra7, .ref ra8, .ref ra9, .ref ra10, .ref ra11, .ref ra12, .int rc, .int fo, .int xx]))] ++ wt) _ := hP
                      have hD9 : va_D A ([(h0, .inr (11, [.ref tp, .ref ra1, .ref ra2, .ref ra3, .ref ra4, .ref ra5, .ref ra6, .ref ra7, .ref ra8, .ref ra9, .ref ra10, .ref ra11, .ref ra12, .int rc, .int fo, .int xx]))] ++ wt) := hD
                      exact W.iret (v := r_33) hx hb hr (gq_endI wt ⟨hT, hW⟩ hP9 hD9 hS) hS.2.2 dX11_look_126
                    · rw [← Int32.toInt_inj] at c_32
                      refine lv_iload_n hx hb dX11_look_114 rfl (lv_at hl 1 rfl) ?_
                      refine lv_goto (tgt := 126) hx hb dX11_look_115 (by decide) ?_
                      have hP9 : va_P (gg_D G) classes ([(h0, .inr (11, [.ref tp, .ref ra1, .ref ra2, .ref ra3, .ref ra4, .ref ra5, .ref ra6, .ref ra7, .ref ra8, .ref ra9, .ref ra10, .ref ra11, .ref ra12, .int rc, .int fo, .int xx]))] ++ wt) _ := hP
                      have hD9 : va_D A ([(h0, .inr (11, [.ref tp, .ref ra1, .ref ra2, .ref ra3, .ref ra4, .ref ra5, .ref ra6, .ref ra7, .ref ra8, .ref ra9, .ref ra10, .ref ra11, .ref ra12, .int rc, .int fo, .int xx]))] ++ wt) := hD
                      exact W.iret (v := 1) hx hb hr (gq_endI wt ⟨hT, hW⟩ hP9 hD9 hS) hS.2.2 dX11_look_126
                  · rw [Int32.le_iff_toInt_le] at c_31
                    refine lv_iload_n hx hb dX11_look_102 rfl (lv_at hl 0 rfl) ?_
                    refine lv_istore_n (lv' := [(2, .int 2), (3, .int 2), (0, .ref h0), (1, .int b)]) hx hb dX11_look_103 rfl hl (by decide) rfl (fun ls hl => ?_)
                    refine lv_iinc (v := 3) (lv' := [(3, .int 3), (2, .int 2), (0, .ref h0), (1, .int b)]) hx hb dX11_look_104 hl (k := 1) rfl (by decide +kernel) (by decide) rfl (fun ls hl => ?_)
                    refine lv_goto (tgt := 72) hx hb dX11_look_107 (by decide) ?_
                    refine lv_iload_n hx hb dX11_look_72 rfl (lv_at hl 0 rfl) ?_
                    refine lv_aload_n hx hb dX11_look_73 rfl (lv_at hl 2 rfl) ?_
                    refine gq_get hx hb ht hown hK hP i_X11 0 rfl rfl 1 (by decide) wd_498 rfl rfl dX11_look_74 ?_
                    refine tr_getK (ci := 9) hx hb ht hown hK hP i_X9 rfl 2 (by decide) wd_190 rfl hf_7 dX11_look_77 ?_
                    refine lv_icmp_ge (tgt := 110) hx hb dX11_look_80 (by decide) (fun _ => ?_) (fun c0 => False.elim (by rw [Int32.le_iff_toInt_le] at c0; omega))
                    refine lv_iload_n hx hb dX11_look_110 rfl (lv_at hl 3 rfl) ?_
                    refine lv_if_ne (tgt := 118) hx hb dX11_look_111 (by decide) (fun c_34 => ?_) (fun c_34 => ?_)
                    · rw [← Int32.toInt_inj] at c_34
                      refine lv_aload_n hx hb dX11_look_118 rfl (lv_at hl 2 rfl) ?_
                      refine gq_get hx hb ht hown hK hP i_X11 0 rfl rfl 12 (by decide) wd_509 rfl rfl dX11_look_119 ?_
                      refine lv_iload_n hx hb dX11_look_122 rfl (lv_at hl 1 rfl) ?_
                      refine gt_callI (wr := [(h0, .inr (11, [.ref tp, .ref ra1, .ref ra2, .ref ra3, .ref ra4, .ref ra5, .ref ra6, .ref ra7, .ref ra8, .ref ra9, .ref ra10, .ref ra11, .ref ra12, .int rc, .int fo, .int xx]))]) (va_runV (As := [.int 2]) (rest := []) ⟨hx, hb, hml, hown, ht⟩ (d_mostAlike l G Γ H.size wt hT ra12 2 kr12 (by omega) (by omega)) (cwV 1 ht (ts_gV wd_1187 wd_1188 wd_1189 wd_133 wd_1190) rfl rfl rfl (by decide +kernel) ⟨Nat.le_of_ble_eq_true rfl, Nat.le_of_ble_eq_true rfl⟩) (gt_preW (ci := 6) hK hT (tw_right hP) (tw_rightD hD) kr12 (by decide) rfl) rfl rfl hl.1 rfl (lv_room (Nat.le_of_ble_eq_true rfl)) dX11_look_123 ⟨Nat.le_of_ble_eq_true rfl, Nat.le_of_ble_eq_true rfl⟩) hP hD hS hA (fun r_35 wt H locs hw hP hD hS => ?_)
                      obtain ⟨hT, hkp⟩ := hw
                      have hW := hW.call (show ∀ x ∈ [], x ∈ [0, 1, 2, 603, 709] by decide) hkp
                      have hf_7 := hkp _ _ _ _ (by decide) (by decide) hf_7
                      have hP : va_P (gg_D G) classes ([(h0, .inr (11, [.ref tp, .ref ra1, .ref ra2, .ref ra3, .ref ra4, .ref ra5, .ref ra6, .ref ra7, .ref ra8, .ref ra9, .ref ra10, .ref ra11, .ref ra12, .int rc, .int fo, .int xx]))] ++ wt) H := hP
                      have hD : va_D A ([(h0, .inr (11, [.ref tp, .ref ra1, .ref ra2, .ref ra3, .ref ra4, .ref ra5, .ref ra6, .ref ra7, .ref ra8, .ref ra9, .ref ra10, .ref ra11, .ref ra12, .int rc, .int fo, .int xx]))] ++ wt) := hD
                      have hP9 : va_P (gg_D G) classes ([(h0, .inr (11, [.ref tp, .ref ra1, .ref ra2, .ref ra3, .ref ra4, .ref ra5, .ref ra6, .ref ra7, .ref ra8, .ref ra9, .ref ra10, .ref ra11, .ref ra12, .int rc, .int fo, .int xx]))] ++ wt) _ := hP
                      have hD9 : va_D A ([(h0, .inr (11, [.ref tp, .ref ra1, .ref ra2, .ref ra3, .ref ra4, .ref ra5, .ref ra6, .ref ra7, .ref ra8, .ref ra9, .ref ra10, .ref ra11, .ref ra12, .int rc, .int fo, .int xx]))] ++ wt) := hD
                      exact W.iret (v := r_35) hx hb hr (gq_endI wt ⟨hT, hW⟩ hP9 hD9 hS) hS.2.2 dX11_look_126
                    · rw [← Int32.toInt_inj] at c_34
                      refine lv_iload_n hx hb dX11_look_114 rfl (lv_at hl 1 rfl) ?_
                      refine lv_goto (tgt := 126) hx hb dX11_look_115 (by decide) ?_
                      have hP9 : va_P (gg_D G) classes ([(h0, .inr (11, [.ref tp, .ref ra1, .ref ra2, .ref ra3, .ref ra4, .ref ra5, .ref ra6, .ref ra7, .ref ra8, .ref ra9, .ref ra10, .ref ra11, .ref ra12, .int rc, .int fo, .int xx]))] ++ wt) _ := hP
                      have hD9 : va_D A ([(h0, .inr (11, [.ref tp, .ref ra1, .ref ra2, .ref ra3, .ref ra4, .ref ra5, .ref ra6, .ref ra7, .ref ra8, .ref ra9, .ref ra10, .ref ra11, .ref ra12, .int rc, .int fo, .int xx]))] ++ wt) := hD
                      exact W.iret (v := 2) hx hb hr (gq_endI wt ⟨hT, hW⟩ hP9 hD9 hS) hS.2.2 dX11_look_126
          · rw [← Int32.toInt_inj] at c_9
            refine lv_bipush (v := (-2)) hx hb dX11_look_65 (by decide +kernel) ?_
            have hP9 : va_P (gg_D G) classes ([(h0, .inr (11, [.ref tp, .ref ra1, .ref ra2, .ref ra3, .ref ra4, .ref ra5, .ref ra6, .ref ra7, .ref ra8, .ref ra9, .ref ra10, .ref ra11, .ref ra12, .int rc, .int fo, .int xx]))] ++ wt) _ := hP
            have hD9 : va_D A ([(h0, .inr (11, [.ref tp, .ref ra1, .ref ra2, .ref ra3, .ref ra4, .ref ra5, .ref ra6, .ref ra7, .ref ra8, .ref ra9, .ref ra10, .ref ra11, .ref ra12, .int rc, .int fo, .int xx]))] ++ wt) := hD
            exact W.iret (v := (-2)) hx hb hr (gq_endI wt ⟨hT, hW⟩ hP9 hD9 hS) hS.2.2 dX11_look_67
      · rw [Int32.le_iff_toInt_le] at c_4
        refine lv_iconst (v := (-1)) hx hb dX11_look_16 (by decide +kernel) ?_
        have hP9 : va_P (gg_D G) classes ([(h0, .inr (11, [.ref tp, .ref ra1, .ref ra2, .ref ra3, .ref ra4, .ref ra5, .ref ra6, .ref ra7, .ref ra8, .ref ra9, .ref ra10, .ref ra11, .ref ra12, .int rc, .int fo, .int xx]))] ++ wt) _ := hP
        have hD9 : va_D A ([(h0, .inr (11, [.ref tp, .ref ra1, .ref ra2, .ref ra3, .ref ra4, .ref ra5, .ref ra6, .ref ra7, .ref ra8, .ref ra9, .ref ra10, .ref ra11, .ref ra12, .int rc, .int fo, .int xx]))] ++ wt) := hD
        exact W.iret (v := (-1)) hx hb hr (gq_endI wt ⟨hT, hW⟩ hP9 hD9 hS) hS.2.2 dX11_look_17
set_option maxHeartbeats 4000000 in
set_option maxRecDepth 100000 in
theorem d_log (l : Launch) (G : gg_T) (Γ : Nat → Nat) (sz : Nat) (wt : va_W) (hT : tk_ty G Γ wt) (b : Int32) (w : Int32) (z : Int32) (tp : Nat) (h0 : Nat) (ra1 : Nat) (ra2 : Nat) (ra3 : Nat) (ra4 : Nat) (ra5 : Nat) (ra6 : Nat) (ra7 : Nat) (ra8 : Nat) (ra9 : Nat) (ra10 : Nat) (ra11 : Nat) (ra12 : Nat) (rc : Int32) (fo : Int32) (xx : Int32) (kr1 : Γ ra1 = 10) (kr2 : Γ ra2 = 10) (kr3 : Γ ra3 = 8) (kr4 : Γ ra4 = 8) (kr5 : Γ ra5 = 4) (kr6 : Γ ra6 = 3) (kr7 : Γ ra7 = 41) (kr9 : Γ ra9 = 1) (kr10 : Γ ra10 = 6) (kr11 : Γ ra11 = 11) (kr12 : Γ ra12 = 7) (xr1 : 0 ≤ rc.toInt) (xr2 : rc.toInt ≤ 6) : Met l yX11_log (ts_L yX11_log cX11_log 4 (some .int)) ({ frames := 1, cells := 0, slots := 0, locals := 23 }) (gc_P G ([(h0, .inr (11, [.ref tp, .ref ra1, .ref ra2, .ref ra3, .ref ra4, .ref ra5, .ref ra6, .ref ra7, .ref ra8, .ref ra9, .ref ra10, .ref ra11, .ref ra12, .int rc, .int fo, .int xx]))] ++ wt) sz [.ref h0, .int b, .int w, .int z]) (gc_I G (va_A ([(h0, .inr (11, [.ref tp, .ref ra1, .ref ra2, .ref ra3, .ref ra4, .ref ra5, .ref ra6, .ref ra7, .ref ra8, .ref ra9, .ref ra10, .ref ra11, .ref ra12, .int rc, .int fo, .int xx]))] ++ wt) sz) (fun r (u : va_W) => match u with | wt1 => tk_ty G Γ wt1 ∧ tk_kp [203] wt wt1) (fun (u : va_W) => match u with | wt1 => [(h0, .inr (11, [.ref tp, .ref ra1, .ref ra2, .ref ra3, .ref ra4, .ref ra5, .ref ra6, .ref ra7, .ref ra8, .ref ra9, .ref ra10, .ref ra11, .ref ra12, .int rc, .int fo, .int xx]))] ++ wt1)) 0 0 (va_A ([(h0, .inr (11, [.ref tp, .ref ra1, .ref ra2, .ref ra3, .ref ra4, .ref ra5, .ref ra6, .ref ra7, .ref ra8, .ref ra9, .ref ra10, .ref ra11, .ref ra12, .int rc, .int fo, .int xx]))] ++ wt) sz) := by
  refine Met.ofW (cc := cX11_log) (maxL := 4) (ret := (some .int)) (by decide) rfl ?_
  intro p e s m args below meth c s₁ B hml hv
  obtain ⟨rfl, hsz, hP, hK, hD0⟩ := hv
  have hx := B.exec
  have hb := B.bytes
  have hr := B.returns
  have ht := ts_ht (atoms_spec (ws := ts_L yX11_log cX11_log 4 (some .int)) B.pre)
  have hown : s.vm.findClass RX11 = some m.cls := findClass_of_methodNamed B.named
  have hlocks := B.notSynchronized
  subst hsz
  have hD := hD0.self (sz := s.heap.size)
  generalize hAe : va_A ([(h0, .inr (11, [.ref tp, .ref ra1, .ref ra2, .ref ra3, .ref ra4, .ref ra5, .ref ra6, .ref ra7, .ref ra8, .ref ra9, .ref ra10, .ref ra11, .ref ra12, .int rc, .int fo, .int xx]))] ++ wt) s.heap.size = A at hD ⊢
  have hA : ∀ q : Nat, s.heap.size ≤ q → A q := fun q h => by rw [← hAe]; exact Or.inr h
  clear hAe hD0
  have hS : va_S A s.heap s.heap [] := va_S.rf
  obtain ⟨w0, hw0⟩ : ∃ z, z = wt := ⟨_, rfl⟩
  have hW : tk_kp [203] w0 wt := by rw [hw0]; exact tk_kp.rf
  rw [← hw0]
  clear hw0
  have hP : va_P (gg_D G) classes ([(h0, .inr (11, [.ref tp, .ref ra1, .ref ra2, .ref ra3, .ref ra4, .ref ra5, .ref ra6, .ref ra7, .ref ra8, .ref ra9, .ref ra10, .ref ra11, .ref ra12, .int rc, .int fo, .int xx]))] ++ wt) s.heap := hP
  have hD : va_D A ([(h0, .inr (11, [.ref tp, .ref ra1, .ref ra2, .ref ra3, .ref ra4, .ref ra5, .ref ra6, .ref ra7, .ref ra8, .ref ra9, .ref ra10, .ref ra11, .ref ra12, .int rc, .int fo, .int xx]))] ++ wt) := hD
  have hl := lv_entry ([.ref h0, .int b, .int w, .int z]) (n := 4) (Nat.le_of_ble_eq_true rfl)
  rw [lg_entry_eq]
  generalize (lg_sl ([.ref h0, .int b, .int w, .int z]) ++ List.replicate (4 - (lg_sl ([.ref h0, .int b, .int w, .int z])).length) Slot.unset).toArray = ls at hl ⊢
  have hl : lv_has ls 4 [(0, .ref h0), (1, .int b), (2, .int w), (3, .int z)] := hl
  have lm2 : ((-2) : Int32).toInt = -2 := by decide +kernel
  have lm1 : ((-1) : Int32).toInt = -1 := by decide +kernel
  have l0 : (0 : Int32).toInt = 0 := by decide +kernel
  have l999 : (999 : Int32).toInt = 999 := by decide +kernel
  refine lv_iload_n hx hb dX11_log_0 rfl (lv_at hl 1 rfl) ?_
  refine lv_iconst (v := (-1)) hx hb dX11_log_1 (by decide +kernel) ?_
  refine lv_icmp_ne (tgt := 14) hx hb dX11_log_2 (by decide) (fun c_1 => ?_) (fun c_1 => ?_)
  · rw [← Int32.toInt_inj] at c_1
    refine lv_aload_n hx hb dX11_log_14 rfl (lv_at hl 0 rfl) ?_
    refine lv_iload_n hx hb dX11_log_15 rfl (lv_at hl 1 rfl) ?_
    have hP : va_P (gg_D G) classes ([] ++ ([(h0, .inr (11, [.ref tp, .ref ra1, .ref ra2, .ref ra3, .ref ra4, .ref ra5, .ref ra6, .ref ra7, .ref ra8, .ref ra9, .ref ra10, .ref ra11, .ref ra12, .int rc, .int fo, .int xx]))] ++ wt)) s.heap := hP
    have hD : va_D A ([] ++ ([(h0, .inr (11, [.ref tp, .ref ra1, .ref ra2, .ref ra3, .ref ra4, .ref ra5, .ref ra6, .ref ra7, .ref ra8, .ref ra9, .ref ra10, .ref ra11, .ref ra12, .int rc, .int fo, .int xx]))] ++ wt)) := hD
    refine gt_callI (wr := []) (va_runV (As := [.int b]) (rest := []) ⟨hx, hb, hml, hown, ht⟩ (d_isLot l G Γ s.heap.size wt hT b tp h0 ra1 ra2 ra3 ra4 ra5 ra6 ra7 ra8 ra9 ra10 ra11 ra12 rc fo xx (by first | assumption | omega) (by first | assumption | omega) (by first | assumption | omega) (by first | assumption | omega) (by first | assumption | omega) (by first | assumption | omega) (by first | assumption | omega) (by first | assumption | omega) (by first | assumption | omega) (by first | assumption | omega) (by first | assumption | omega) (by first | assumption | omega) (by first | assumption | omega)) (cwV 1 ht (ts_gV wd_820 wd_822 wd_15 wd_122 wd_823) rfl rfl rfl (by decide +kernel) ⟨Nat.le_of_ble_eq_true rfl, Nat.le_of_ble_eq_true rfl⟩) (gc_preV (ci := 11) (q0 := 0) hK (tw_right hP) (tw_rightD hD) rfl rfl) rfl rfl hl.1 rfl (lv_room (Nat.le_of_ble_eq_true rfl)) dX11_log_16 ⟨Nat.le_of_ble_eq_true rfl, Nat.le_of_ble_eq_true rfl⟩) hP hD hS hA (fun r_2 wt H locs hw hP hD hS => ?_)
    obtain ⟨hT, hkp, lo_r_2, hi_r_2, im_r_2⟩ := hw
    have hW := hW.call (show ∀ x ∈ [], x ∈ [203] by decide) hkp
    have hP : va_P (gg_D G) classes ([(h0, .inr (11, [.ref tp, .ref ra1, .ref ra2, .ref ra3, .ref ra4, .ref ra5, .ref ra6, .ref ra7, .ref ra8, .ref ra9, .ref ra10, .ref ra11, .ref ra12, .int rc, .int fo, .int xx]))] ++ wt) H := hP
    have hD : va_D A ([(h0, .inr (11, [.ref tp, .ref ra1, .ref ra2, .ref ra3, .ref ra4, .ref ra5, .ref ra6, .ref ra7, .ref ra8, .ref ra9, .ref ra10, .ref ra11, .ref ra12, .int rc, .int fo, .int xx]))] ++ wt) := hD
    refine lv_if_eq (tgt := 46) hx hb dX11_log_19 (by decide) (fun c_3 => ?_) (fun c_3 => ?_)
    · rw [← Int32.toInt_inj] at c_3
      refine lv_bipush (v := (-2)) hx hb dX11_log_46 (by decide +kernel) ?_
      have hP9 : va_P (gg_D G) classes ([(h0, .inr (11, [.ref tp, .ref ra1, .ref ra2, .ref ra3, .ref ra4, .ref ra5, .ref ra6, .ref ra7, .ref ra8, .ref ra9, .ref ra10, .ref ra11, .ref ra12, .int rc, .int fo, .int xx]))] ++ wt) _ := hP
      have hD9 : va_D A ([(h0, .inr (11, [.ref tp, .ref ra1, .ref ra2, .ref ra3, .ref ra4, .ref ra5, .ref ra6, .ref ra7, .ref ra8, .ref ra9, .ref ra10, .ref ra11, .ref ra12, .int rc, .int fo, .int xx]))] ++ wt) := hD
      exact W.iret (v := (-2)) hx hb hr (gq_endI wt ⟨hT, hW⟩ hP9 hD9 hS) hS.2.2 dX11_log_48
    · have ic_3 := im_r_2 c_3
      rw [← Int32.toInt_inj] at c_3
      refine lv_iload_n hx hb dX11_log_22 rfl (lv_at hl 2 rfl) ?_
      refine lv_iconst (v := (-1)) hx hb dX11_log_23 (by decide +kernel) ?_
      refine lv_icmp_eq (tgt := 35) hx hb dX11_log_24 (by decide) (fun c_4 => ?_) (fun c_4 => ?_)
      · rw [← Int32.toInt_inj] at c_4
        refine lv_iload_n hx hb dX11_log_35 rfl (lv_at hl 3 rfl) ?_
        refine lv_if_lt (tgt := 46) hx hb dX11_log_36 (by decide) (fun c_5 => ?_) (fun c_5 => ?_)
        · rw [Int32.lt_iff_toInt_lt] at c_5
          refine lv_bipush (v := (-2)) hx hb dX11_log_46 (by decide +kernel) ?_
          have hP9 : va_P (gg_D G) classes ([(h0, .inr (11, [.ref tp, .ref ra1, .ref ra2, .ref ra3, .ref ra4, .ref ra5, .ref ra6, .ref ra7, .ref ra8, .ref ra9, .ref ra10, .ref ra11, .ref ra12, .int rc, .int fo, .int xx]))] ++ wt) _ := hP
          have hD9 : va_D A ([(h0, .inr (11, [.ref tp, .ref ra1, .ref ra2, .ref ra3, .ref ra4, .ref ra5, .ref ra6, .ref ra7, .ref ra8, .ref ra9, .ref ra10, .ref ra11, .ref ra12, .int rc, .int fo, .int xx]))] ++ wt) := hD
          exact W.iret (v := (-2)) hx hb hr (gq_endI wt ⟨hT, hW⟩ hP9 hD9 hS) hS.2.2 dX11_log_48
        · rw [Int32.lt_iff_toInt_lt] at c_5
          refine lv_iload_n hx hb dX11_log_39 rfl (lv_at hl 3 rfl) ?_
          refine lv_sipush (v := 999) hx hb dX11_log_40 (by decide +kernel) ?_
          refine lv_icmp_le (tgt := 49) hx hb dX11_log_43 (by decide) (fun c_6 => ?_) (fun c_6 => ?_)
          · rw [Int32.le_iff_toInt_le] at c_6
            refine lv_aload_n hx hb dX11_log_49 rfl (lv_at hl 0 rfl) ?_
            refine gq_get hx hb ht hown hK hP i_X11 0 rfl rfl 6 (by decide) wd_503 rfl rfl dX11_log_50 ?_
            refine lv_iload_n hx hb dX11_log_53 rfl (lv_at hl 1 rfl) ?_
            refine lv_iload_n hx hb dX11_log_54 rfl (lv_at hl 2 rfl) ?_
            refine lv_iload_n hx hb dX11_log_55 rfl (lv_at hl 3 rfl) ?_
            refine gt_callI (wr := [(h0, .inr (11, [.ref tp, .ref ra1, .ref ra2, .ref ra3, .ref ra4, .ref ra5, .ref ra6, .ref ra7, .ref ra8, .ref ra9, .ref ra10, .ref ra11, .ref ra12, .int rc, .int fo, .int xx]))]) (va_runV (As := [.int b, .int w, .int z]) (rest := []) ⟨hx, hb, hml, hown, ht⟩ (d_L_add l G Γ H.size wt hT ra6 b w z kr6) (cwV 3 ht (ts_gV wd_1154 wd_1155 wd_1156 wd_127 wd_1157) rfl rfl rfl (by decide +kernel) ⟨Nat.le_of_ble_eq_true rfl, Nat.le_of_ble_eq_true rfl⟩) (gt_preW (ci := 2) hK hT (tw_right hP) (tw_rightD hD) kr6 (by decide) rfl) rfl rfl hl.1 rfl (lv_room (Nat.le_of_ble_eq_true rfl)) dX11_log_56 ⟨Nat.le_of_ble_eq_true rfl, Nat.le_of_ble_eq_true rfl⟩) hP hD hS hA (fun r_7 wt H locs hw hP hD hS => ?_)
            obtain ⟨hT, hkp, lo_r_7, hi_r_7⟩ := hw
            have hW := hW.call (show ∀ x ∈ [203], x ∈ [203] by decide) hkp
            have hP : va_P (gg_D G) classes ([(h0, .inr (11, [.ref tp, .ref ra1, .ref ra2, .ref ra3, .ref ra4, .ref ra5, .ref ra6, .ref ra7, .ref ra8, .ref ra9, .ref ra10, .ref ra11, .ref ra12, .int rc, .int fo, .int xx]))] ++ wt) H := hP
            have hD : va_D A ([(h0, .inr (11, [.ref tp, .ref ra1, .ref ra2, .ref ra3, .ref ra4, .ref ra5, .ref ra6, .ref ra7, .ref ra8, .ref ra9, .ref ra10, .ref ra11, .ref ra12, .int rc, .int fo, .int xx]))] ++ wt) := hD
            refine lv_if_eq (tgt := 72) hx hb dX11_log_59 (by decide) (fun c_8 => ?_) (fun c_8 => ?_)
            · rw [← Int32.toInt_inj] at c_8
              refine lv_bipush (v := (-2)) hx hb dX11_log_72 (by decide +kernel) ?_
              have hP9 : va_P (gg_D G) classes ([(h0, .inr (11, [.ref tp, .ref ra1, .ref ra2, .ref ra3, .ref ra4, .ref ra5, .ref ra6, .ref ra7, .ref ra8, .ref ra9, .ref ra10, .ref ra11, .ref ra12, .int rc, .int fo, .int xx]))] ++ wt) _ := hP
              have hD9 : va_D A ([(h0, .inr (11, [.ref tp, .ref ra1, .ref ra2, .ref ra3, .ref ra4, .ref ra5, .ref ra6, .ref ra7, .ref ra8, .ref ra9, .ref ra10, .ref ra11, .ref ra12, .int rc, .int fo, .int xx]))] ++ wt) := hD
              exact W.iret (v := (-2)) hx hb hr (gq_endI wt ⟨hT, hW⟩ hP9 hD9 hS) hS.2.2 dX11_log_74
            · rw [← Int32.toInt_inj] at c_8
              refine lv_aload_n hx hb dX11_log_62 rfl (lv_at hl 0 rfl) ?_
              refine gq_get hx hb ht hown hK hP i_X11 0 rfl rfl 6 (by decide) wd_503 rfl rfl dX11_log_63 ?_
              refine tr_get (ci := 2) hx hb ht hown hK hT hP kr6 (by decide) i_X2 rfl 3 (by decide) wd_320 rfl dX11_log_66 (fun v hv hf_9 => ?_)
              obtain ⟨n_10, rfl, lo_n_10, hi_n_10⟩ := hv
              refine lv_goto (tgt := 74) hx hb dX11_log_69 (by decide) ?_
              have hP9 : va_P (gg_D G) classes ([(h0, .inr (11, [.ref tp, .ref ra1, .ref ra2, .ref ra3, .ref ra4, .ref ra5, .ref ra6, .ref ra7, .ref ra8, .ref ra9, .ref ra10, .ref ra11, .ref ra12, .int rc, .int fo, .int xx]))] ++ wt) _ := hP
              have hD9 : va_D A ([(h0, .inr (11, [.ref tp, .ref ra1, .ref ra2, .ref ra3, .ref ra4, .ref ra5, .ref ra6, .ref ra7, .ref ra8, .ref ra9, .ref ra10, .ref ra11, .ref ra12, .int rc, .int fo, .int xx]))] ++ wt) := hD
              exact W.iret (v := n_10) hx hb hr (gq_endI wt ⟨hT, hW⟩ hP9 hD9 hS) hS.2.2 dX11_log_74
          · rw [Int32.le_iff_toInt_le] at c_6
            refine lv_bipush (v := (-2)) hx hb dX11_log_46 (by decide +kernel) ?_
            have hP9 : va_P (gg_D G) classes ([(h0, .inr (11, [.ref tp, .ref ra1, .ref ra2, .ref ra3, .ref ra4, .ref ra5, .ref ra6, .ref ra7, .ref ra8, .ref ra9, .ref ra10, .ref ra11, .ref ra12, .int rc, .int fo, .int xx]))] ++ wt) _ := hP
            have hD9 : va_D A ([(h0, .inr (11, [.ref tp, .ref ra1, .ref ra2, .ref ra3, .ref ra4, .ref ra5, .ref ra6, .ref ra7, .ref ra8, .ref ra9, .ref ra10, .ref ra11, .ref ra12, .int rc, .int fo, .int xx]))] ++ wt) := hD
            exact W.iret (v := (-2)) hx hb hr (gq_endI wt ⟨hT, hW⟩ hP9 hD9 hS) hS.2.2 dX11_log_48
      · rw [← Int32.toInt_inj] at c_4
        refine lv_aload_n hx hb dX11_log_27 rfl (lv_at hl 0 rfl) ?_
        refine lv_iload_n hx hb dX11_log_28 rfl (lv_at hl 2 rfl) ?_
        have hP : va_P (gg_D G) classes ([] ++ ([(h0, .inr (11, [.ref tp, .ref ra1, .ref ra2, .ref ra3, .ref ra4, .ref ra5, .ref ra6, .ref ra7, .ref ra8, .ref ra9, .ref ra10, .ref ra11, .ref ra12, .int rc, .int fo, .int xx]))] ++ wt)) H := hP
        have hD : va_D A ([] ++ ([(h0, .inr (11, [.ref tp, .ref ra1, .ref ra2, .ref ra3, .ref ra4, .ref ra5, .ref ra6, .ref ra7, .ref ra8, .ref ra9, .ref ra10, .ref ra11, .ref ra12, .int rc, .int fo, .int xx]))] ++ wt)) := hD
        refine gt_callI (wr := []) (va_runV (As := [.int w]) (rest := []) ⟨hx, hb, hml, hown, ht⟩ (d_isBidder l G Γ H.size wt hT w tp h0 ra1 ra2 ra3 ra4 ra5 ra6 ra7 ra8 ra9 ra10 ra11 ra12 rc fo xx (by first | assumption | omega) (by first | assumption | omega) (by first | assumption | omega) (by first | assumption | omega) (by first | assumption | omega) (by first | assumption | omega) (by first | assumption | omega) (by first | assumption | omega) (by first | assumption | omega) (by first | assumption | omega) (by first | assumption | omega) (by first | assumption | omega) (by first | assumption | omega)) (cwV 1 ht (ts_gV wd_789 wd_791 wd_14 wd_122 wd_792) rfl rfl rfl (by decide +kernel) ⟨Nat.le_of_ble_eq_true rfl, Nat.le_of_ble_eq_true rfl⟩) (gc_preV (ci := 11) (q0 := 0) hK (tw_right hP) (tw_rightD hD) rfl rfl) rfl rfl hl.1 rfl (lv_room (Nat.le_of_ble_eq_true rfl)) dX11_log_29 ⟨Nat.le_of_ble_eq_true rfl, Nat.le_of_ble_eq_true rfl⟩) hP hD hS hA (fun r_11 wt H locs hw hP hD hS => ?_)
        obtain ⟨hT, hkp, lo_r_11, hi_r_11, im_r_11⟩ := hw
        have hW := hW.call (show ∀ x ∈ [], x ∈ [203] by decide) hkp
        have hP : va_P (gg_D G) classes ([(h0, .inr (11, [.ref tp, .ref ra1, .ref ra2, .ref ra3, .ref ra4, .ref ra5, .ref ra6, .ref ra7, .ref ra8, .ref ra9, .ref ra10, .ref ra11, .ref ra12, .int rc, .int fo, .int xx]))] ++ wt) H := hP
        have hD : va_D A ([(h0, .inr (11, [.ref tp, .ref ra1, .ref ra2, .ref ra3, .ref ra4, .ref ra5, .ref ra6, .ref ra7, .ref ra8, .ref ra9, .ref ra10, .ref ra11, .ref ra12, .int rc, .int fo, .int xx]))] ++ wt) := hD
        refine lv_if_eq (tgt := 46) hx hb dX11_log_32 (by decide) (fun c_12 => ?_) (fun c_12 => ?_)
        · rw [← Int32.toInt_inj] at c_12
          refine lv_bipush (v := (-2)) hx hb dX11_log_46 (by decide +kernel) ?_
          have hP9 : va_P (gg_D G) classes ([(h0, .inr (11, [.ref tp, .ref ra1, .ref ra2, .ref ra3, .ref ra4, .ref ra5, .ref ra6, .ref ra7, .ref ra8, .ref ra9, .ref ra10, .ref ra11, .ref ra12, .int rc, .int fo, .int xx]))] ++ wt) _ := hP
          have hD9 : va_D A ([(h0, .inr (11, [.ref tp, .ref ra1, .ref ra2, .ref ra3, .ref ra4, .ref ra5, .ref ra6, .ref ra7, .ref ra8, .ref ra9, .ref ra10, .ref ra11, .ref ra12, .int rc, .int fo, .int xx]))] ++ wt) := hD
          exact W.iret (v := (-2)) hx hb hr (gq_endI wt ⟨hT, hW⟩ hP9 hD9 hS) hS.2.2 dX11_log_48
        · have ic_12 := im_r_11 c_12
          rw [← Int32.toInt_inj] at c_12
          refine lv_iload_n hx hb dX11_log_35 rfl (lv_at hl 3 rfl) ?_
          refine lv_if_lt (tgt := 46) hx hb dX11_log_36 (by decide) (fun c_13 => ?_) (fun c_13 => ?_)
          · rw [Int32.lt_iff_toInt_lt] at c_13
            refine lv_bipush (v := (-2)) hx hb dX11_log_46 (by decide +kernel) ?_
            have hP9 : va_P (gg_D G) classes ([(h0, .inr (11, [.ref tp, .ref ra1, .ref ra2, .ref ra3, .ref ra4, .ref ra5, .ref ra6, .ref ra7, .ref ra8, .ref ra9, .ref ra10, .ref ra11, .ref ra12, .int rc, .int fo, .int xx]))] ++ wt) _ := hP
            have hD9 : va_D A ([(h0, .inr (11, [.ref tp, .ref ra1, .ref ra2, .ref ra3, .ref ra4, .ref ra5, .ref ra6, .ref ra7, .ref ra8, .ref ra9, .ref ra10, .ref ra11, .ref ra12, .int rc, .int fo, .int xx]))] ++ wt) := hD
            exact W.iret (v := (-2)) hx hb hr (gq_endI wt ⟨hT, hW⟩ hP9 hD9 hS) hS.2.2 dX11_log_48
          · rw [Int32.lt_iff_toInt_lt] at c_13
            refine lv_iload_n hx hb dX11_log_39 rfl (lv_at hl 3 rfl) ?_
            refine lv_sipush (v := 999) hx hb dX11_log_40 (by decide +kernel) ?_
            refine lv_icmp_le (tgt := 49) hx hb dX11_log_43 (by decide) (fun c_14 => ?_) (fun c_14 => ?_)
            · rw [Int32.le_iff_toInt_le] at c_14
              refine lv_aload_n hx hb dX11_log_49 rfl (lv_at hl 0 rfl) ?_
              refine gq_get hx hb ht hown hK hP i_X11 0 rfl rfl 6 (by decide) wd_503 rfl rfl dX11_log_50 ?_
              refine lv_iload_n hx hb dX11_log_53 rfl (lv_at hl 1 rfl) ?_
              refine lv_iload_n hx hb dX11_log_54 rfl (lv_at hl 2 rfl) ?_
              refine lv_iload_n hx hb dX11_log_55 rfl (lv_at hl 3 rfl) ?_
              refine gt_callI (wr := [(h0, .inr (11, [.ref tp, .ref ra1, .ref ra2, .ref ra3, .ref ra4, .ref ra5, .ref ra6, .ref ra7, .ref ra8, .ref ra9, .ref ra10, .ref ra11, .ref ra12, .int rc, .int fo, .int xx]))]) (va_runV (As := [.int b, .int w, .int z]) (rest := []) ⟨hx, hb, hml, hown, ht⟩ (d_L_add l G Γ H.size wt hT ra6 b w z kr6) (cwV 3 ht (ts_gV wd_1154 wd_1155 wd_1156 wd_127 wd_1157) rfl rfl rfl (by decide +kernel) ⟨Nat.le_of_ble_eq_true rfl, Nat.le_of_ble_eq_true rfl⟩) (gt_preW (ci := 2) hK hT (tw_right hP) (tw_rightD hD) kr6 (by decide) rfl) rfl rfl hl.1 rfl (lv_room (Nat.le_of_ble_eq_true rfl)) dX11_log_56 ⟨Nat.le_of_ble_eq_true rfl, Nat.le_of_ble_eq_true rfl⟩) hP hD hS hA (fun r_15 wt H locs hw hP hD hS => ?_)
              obtain ⟨hT, hkp, lo_r_15, hi_r_15⟩ := hw
              have hW := hW.call (show ∀ x ∈ [203], x ∈ [203] by decide) hkp
              have hP : va_P (gg_D G) classes ([(h0, .inr (11, [.ref tp, .ref ra1, .ref ra2, .ref ra3, .ref ra4, .ref ra5, .ref ra6, .ref ra7, .ref ra8, .ref ra9, .ref ra10, .ref ra11, .ref ra12, .int rc, .int fo, .int xx]))] ++ wt) H := hP
              have hD : va_D A ([(h0, .inr (11, [.ref tp, .ref ra1, .ref ra2, .ref ra3, .ref ra4, .ref ra5, .ref ra6, .ref ra7, .ref ra8, .ref ra9, .ref ra10, .ref ra11, .ref ra12, .int rc, .int fo, .int xx]))] ++ wt) := hD
              refine lv_if_eq (tgt := 72) hx hb dX11_log_59 (by decide) (fun c_16 => ?_) (fun c_16 => ?_)
              · rw [← Int32.toInt_inj] at c_16
                refine lv_bipush (v := (-2)) hx hb dX11_log_72 (by decide +kernel) ?_
                have hP9 : va_P (gg_D G) classes ([(h0, .inr (11, [.ref tp, .ref ra1, .ref ra2, .ref ra3, .ref ra4, .ref ra5, .ref ra6, .ref ra7, .ref ra8, .ref ra9, .ref ra10, .ref ra11, .ref ra12, .int rc, .int fo, .int xx]))] ++ wt) _ := hP
                have hD9 : va_D A ([(h0, .inr (11, [.ref tp, .ref ra1, .ref ra2, .ref ra3, .ref ra4, .ref ra5, .ref ra6, .ref ra7, .ref ra8, .ref ra9, .ref ra10, .ref ra11, .ref ra12, .int rc, .int fo, .int xx]))] ++ wt) := hD
                exact W.iret (v := (-2)) hx hb hr (gq_endI wt ⟨hT, hW⟩ hP9 hD9 hS) hS.2.2 dX11_log_74
              · rw [← Int32.toInt_inj] at c_16
                refine lv_aload_n hx hb dX11_log_62 rfl (lv_at hl 0 rfl) ?_
                refine gq_get hx hb ht hown hK hP i_X11 0 rfl rfl 6 (by decide) wd_503 rfl rfl dX11_log_63 ?_
                refine tr_get (ci := 2) hx hb ht hown hK hT hP kr6 (by decide) i_X2 rfl 3 (by decide) wd_320 rfl dX11_log_66 (fun v hv hf_17 => ?_)
                obtain ⟨n_18, rfl, lo_n_18, hi_n_18⟩ := hv
                refine lv_goto (tgt := 74) hx hb dX11_log_69 (by decide) ?_
                have hP9 : va_P (gg_D G) classes ([(h0, .inr (11, [.ref tp, .ref ra1, .ref ra2, .ref ra3, .ref ra4, .ref ra5, .ref ra6, .ref ra7, .ref ra8, .ref ra9, .ref ra10, .ref ra11, .ref ra12, .int rc, .int fo, .int xx]))] ++ wt) _ := hP
                have hD9 : va_D A ([(h0, .inr (11, [.ref tp, .ref ra1, .ref ra2, .ref ra3, .ref ra4, .ref ra5, .ref ra6, .ref ra7, .ref ra8, .ref ra9, .ref ra10, .ref ra11, .ref ra12, .int rc, .int fo, .int xx]))] ++ wt) := hD
                exact W.iret (v := n_18) hx hb hr (gq_endI wt ⟨hT, hW⟩ hP9 hD9 hS) hS.2.2 dX11_log_74
            · rw [Int32.le_iff_toInt_le] at c_14
              refine lv_bipush (v := (-2)) hx hb dX11_log_46 (by decide +kernel) ?_
              have hP9 : va_P (gg_D G) classes ([(h0, .inr (11, [.ref tp, .ref ra1, .ref ra2, .ref ra3, .ref ra4, .ref ra5, .ref ra6, .ref ra7, .ref ra8, .ref ra9, .ref ra10, .ref ra11, .ref ra12, .int rc, .int fo, .int xx]))] ++ wt) _ := hP
              have hD9 : va_D A ([(h0, .inr (11, [.ref tp, .ref ra1, .ref ra2, .ref ra3, .ref ra4, .ref ra5, .ref ra6, .ref ra7, .ref ra8, .ref ra9, .ref ra10, .ref ra11, .ref ra12, .int rc, .int fo, .int xx]))] ++ wt) := hD
              exact W.iret (v := (-2)) hx hb hr (gq_endI wt ⟨hT, hW⟩ hP9 hD9 hS) hS.2.2 dX11_log_48
  · rw [← Int32.toInt_inj] at c_1
    refine lv_aload_n hx hb dX11_log_5 rfl (lv_at hl 0 rfl) ?_
    refine gq_get hx hb ht hown hK hP i_X11 0 rfl rfl 6 (by decide) wd_503 rfl rfl dX11_log_6 ?_
    refine gt_callV (wr := [(h0, .inr (11, [.ref tp, .ref ra1, .ref ra2, .ref ra3, .ref ra4, .ref ra5, .ref ra6, .ref ra7, .ref ra8, .ref ra9, .ref ra10, .ref ra11, .ref ra12, .int rc, .int fo, .int xx]))]) (va_runV (As := []) (rest := []) ⟨hx, hb, hml, hown, ht⟩ (d_L_clear l G Γ s.heap.size wt hT ra6 kr6) (cwV 0 ht (ts_gV wd_695 wd_696 wd_697 wd_127 wd_698) rfl rfl rfl (by decide +kernel) ⟨Nat.le_of_ble_eq_true rfl, Nat.le_of_ble_eq_true rfl⟩) (gt_preW (ci := 2) hK hT (tw_right hP) (tw_rightD hD) kr6 (by decide) rfl) rfl rfl hl.1 rfl (lv_room (Nat.le_of_ble_eq_true rfl)) dX11_log_9 ⟨Nat.le_of_ble_eq_true rfl, Nat.le_of_ble_eq_true rfl⟩) hP hD hS hA (fun wt H locs hw hP hD hS => ?_)
    obtain ⟨hT, hkp⟩ := hw
    have hW := hW.call (show ∀ x ∈ [203], x ∈ [203] by decide) hkp
    have hP : va_P (gg_D G) classes ([(h0, .inr (11, [.ref tp, .ref ra1, .ref ra2, .ref ra3, .ref ra4, .ref ra5, .ref ra6, .ref ra7, .ref ra8, .ref ra9, .ref ra10, .ref ra11, .ref ra12, .int rc, .int fo, .int xx]))] ++ wt) H := hP
    have hD : va_D A ([(h0, .inr (11, [.ref tp, .ref ra1, .ref ra2, .ref ra3, .ref ra4, .ref ra5, .ref ra6, .ref ra7, .ref ra8, .ref ra9, .ref ra10, .ref ra11, .ref ra12, .int rc, .int fo, .int xx]))] ++ wt) := hD
    refine lv_iconst (v := 0) hx hb dX11_log_12 (by decide +kernel) ?_
    have hP9 : va_P (gg_D G) classes ([(h0, .inr (11, [.ref tp, .ref ra1, .ref ra2, .ref ra3, .ref ra4, .ref ra5, .ref ra6, .ref ra7, .ref ra8, .ref ra9, .ref ra10, .ref ra11, .ref ra12, .int rc, .int fo, .int xx]))] ++ wt) _ := hP
    have hD9 : va_D A ([(h0, .inr (11, [.ref tp, .ref ra1, .ref ra2, .ref ra3, .ref ra4, .ref ra5, .ref ra6, .ref ra7, .ref ra8, .ref ra9, .ref ra10, .ref ra11, .ref ra12, .int rc, .int fo, .int xx]))] ++ wt) := hD
    exact W.iret (v := 0) hx hb hr (gq_endI wt ⟨hT, hW⟩ hP9 hD9 hS) hS.2.2 dX11_log_13

theorem wd_1018 : (Jvm.Cond.code ({ cls := "SilentSale", name := "roomOfAll", desc := "(I)I" } : Jvm.MethodName) prog_1_method_40_code (3 : Nat) (Option.some Jvm.ClassFile.FieldType.int)) ∈ tb_L := tb_in (i := 1018) (by decide +kernel) (by decide +kernel)
theorem dX11_roomOfAll_0 : decode cX11_roomOfAll 0 = .ok (.iconst 0, 1) := by decide +kernel
theorem dX11_roomOfAll_1 : decode cX11_roomOfAll 1 = .ok (.istore_n 2, 1) := by decide +kernel
theorem dX11_roomOfAll_2 : decode cX11_roomOfAll 2 = .ok (.iload_n 2, 1) := by decide +kernel
theorem dX11_roomOfAll_3 : decode cX11_roomOfAll 3 = .ok (.aload_n 0, 1) := by decide +kernel
theorem dX11_roomOfAll_4 : decode cX11_roomOfAll 4 = .ok (.getfield 19, 3) := by decide +kernel
theorem dX11_roomOfAll_7 : decode cX11_roomOfAll 7 = .ok (.getfield 130, 3) := by decide +kernel
theorem dX11_roomOfAll_10 : decode cX11_roomOfAll 10 = .ok (.if_icmp .ge 27, 3) := by decide +kernel
theorem dX11_roomOfAll_13 : decode cX11_roomOfAll 13 = .ok (.iload_n 1, 1) := by decide +kernel
theorem dX11_roomOfAll_14 : decode cX11_roomOfAll 14 = .ok (.aload_n 0, 1) := by decide +kernel
theorem dX11_roomOfAll_15 : decode cX11_roomOfAll 15 = .ok (.getfield 29, 3) := by decide +kernel
theorem dX11_roomOfAll_18 : decode cX11_roomOfAll 18 = .ok (.getfield 182, 3) := by decide +kernel
theorem dX11_roomOfAll_21 : decode cX11_roomOfAll 21 = .ok (.iload_n 2, 1) := by decide +kernel
theorem dX11_roomOfAll_22 : decode cX11_roomOfAll 22 = .ok (.iaload, 1) := by decide +kernel
theorem dX11_roomOfAll_23 : decode cX11_roomOfAll 23 = .ok (.iconst (-1), 1) := by decide +kernel
theorem dX11_roomOfAll_24 : decode cX11_roomOfAll 24 = .ok (.ixor, 1) := by decide +kernel
theorem dX11_roomOfAll_25 : decode cX11_roomOfAll 25 = .ok (.iand, 1) := by decide +kernel
theorem dX11_roomOfAll_26 : decode cX11_roomOfAll 26 = .ok (.ifCond .ne 5, 3) := by decide +kernel
theorem dX11_roomOfAll_29 : decode cX11_roomOfAll 29 = .ok (.iload_n 2, 1) := by decide +kernel
theorem dX11_roomOfAll_30 : decode cX11_roomOfAll 30 = .ok (.ireturn, 1) := by decide +kernel
theorem dX11_roomOfAll_31 : decode cX11_roomOfAll 31 = .ok (.iinc 2 1, 3) := by decide +kernel
theorem dX11_roomOfAll_34 : decode cX11_roomOfAll 34 = .ok (.goto (-32), 3) := by decide +kernel
theorem dX11_roomOfAll_37 : decode cX11_roomOfAll 37 = .ok (.iconst (-1), 1) := by decide +kernel
theorem dX11_roomOfAll_38 : decode cX11_roomOfAll 38 = .ok (.ireturn, 1) := by decide +kernel
theorem wd_24 : (Jvm.Cond.selects "SilentSale" ({ cls := "SilentSale", name := "roomOfAll", desc := "(I)I" } : Jvm.MethodName) ({ cls := "SilentSale", name := "roomOfAll", desc := "(I)I" } : Jvm.MethodName)) ∈ tb_L := tb_in (i := 24) (by decide +kernel) (by decide +kernel)
theorem wd_1014 : (Jvm.Cond.code ({ cls := "SilentSale", name := "roomOf", desc := "(I)I" } : Jvm.MethodName) prog_1_method_39_code (2 : Nat) (Option.some Jvm.ClassFile.FieldType.int)) ∈ tb_L := tb_in (i := 1014) (by decide +kernel) (by decide +kernel)
theorem wd_1015 : (Jvm.Cond.methodLink "SilentSale" (303 : Nat) ({ cls := "SilentSale", name := "roomOfAll", desc := "(I)I" } : Jvm.MethodName)) ∈ tb_L := tb_in (i := 1015) (by decide +kernel) (by decide +kernel)
theorem wd_1017 : (Jvm.Cond.instanceMethod ({ cls := "SilentSale", name := "roomOfAll", desc := "(I)I" } : Jvm.MethodName)) ∈ tb_L := tb_in (i := 1017) (by decide +kernel) (by decide +kernel)
theorem dX11_roomOf_0 : decode cX11_roomOf 0 = .ok (.aload_n 0, 1) := by decide +kernel
theorem dX11_roomOf_1 : decode cX11_roomOf 1 = .ok (.iload_n 1, 1) := by decide +kernel
theorem dX11_roomOf_2 : decode cX11_roomOf 2 = .ok (.invokevirtual 136, 3) := by decide +kernel
theorem dX11_roomOf_5 : decode cX11_roomOf 5 = .ok (.ifCond .eq 13, 3) := by decide +kernel
theorem dX11_roomOf_8 : decode cX11_roomOf 8 = .ok (.aload_n 0, 1) := by decide +kernel
theorem dX11_roomOf_9 : decode cX11_roomOf 9 = .ok (.iconst 1, 1) := by decide +kernel
theorem dX11_roomOf_10 : decode cX11_roomOf 10 = .ok (.iload_n 1, 1) := by decide +kernel
theorem dX11_roomOf_11 : decode cX11_roomOf 11 = .ok (.ishl, 1) := by decide +kernel
theorem dX11_roomOf_12 : decode cX11_roomOf 12 = .ok (.invokevirtual 303, 3) := by decide +kernel
theorem dX11_roomOf_15 : decode cX11_roomOf 15 = .ok (.goto 4, 3) := by decide +kernel
theorem dX11_roomOf_18 : decode cX11_roomOf 18 = .ok (.iconst (-1), 1) := by decide +kernel
theorem dX11_roomOf_19 : decode cX11_roomOf 19 = .ok (.ireturn, 1) := by decide +kernel
theorem wd_1132 : (Jvm.Cond.code ({ cls := "SilentSale", name := "keeperOf", desc := "(II)I" } : Jvm.MethodName) prog_1_method_41_code (5 : Nat) (Option.some Jvm.ClassFile.FieldType.int)) ∈ tb_L := tb_in (i := 1132) (by decide +kernel) (by decide +kernel)
theorem dX11_keeperOf_0 : decode cX11_keeperOf 0 = .ok (.iload_n 1, 1) := by decide +kernel
theorem dX11_keeperOf_1 : decode cX11_keeperOf 1 = .ok (.invokestatic 338, 3) := by decide +kernel
theorem dX11_keeperOf_4 : decode cX11_keeperOf 4 = .ok (.istore_n 3, 1) := by decide +kernel
theorem dX11_keeperOf_5 : decode cX11_keeperOf 5 = .ok (.iconst 0, 1) := by decide +kernel
theorem dX11_keeperOf_6 : decode cX11_keeperOf 6 = .ok (.istore 4, 2) := by decide +kernel
theorem dX11_keeperOf_8 : decode cX11_keeperOf 8 = .ok (.iload 4, 2) := by decide +kernel
theorem dX11_keeperOf_10 : decode cX11_keeperOf 10 = .ok (.aload_n 0, 1) := by decide +kernel
theorem dX11_keeperOf_11 : decode cX11_keeperOf 11 = .ok (.getfield 19, 3) := by decide +kernel
theorem dX11_keeperOf_14 : decode cX11_keeperOf 14 = .ok (.getfield 201, 3) := by decide +kernel
theorem dX11_keeperOf_17 : decode cX11_keeperOf 17 = .ok (.if_icmp .ge 43, 3) := by decide +kernel
theorem dX11_keeperOf_20 : decode cX11_keeperOf 20 = .ok (.iload 4, 2) := by decide +kernel
theorem dX11_keeperOf_22 : decode cX11_keeperOf 22 = .ok (.iload_n 1, 1) := by decide +kernel
theorem dX11_keeperOf_23 : decode cX11_keeperOf 23 = .ok (.invokestatic 370, 3) := by decide +kernel
theorem dX11_keeperOf_26 : decode cX11_keeperOf 26 = .ok (.ifCond .eq 28, 3) := by decide +kernel
theorem dX11_keeperOf_29 : decode cX11_keeperOf 29 = .ok (.aload_n 0, 1) := by decide +kernel
theorem dX11_keeperOf_30 : decode cX11_keeperOf 30 = .ok (.getfield 19, 3) := by decide +kernel
theorem dX11_keeperOf_33 : decode cX11_keeperOf 33 = .ok (.iload 4, 2) := by decide +kernel
theorem dX11_keeperOf_35 : decode cX11_keeperOf 35 = .ok (.iload_n 2, 1) := by decide +kernel
theorem dX11_keeperOf_36 : decode cX11_keeperOf 36 = .ok (.invokevirtual 185, 3) := by decide +kernel
theorem dX11_keeperOf_39 : decode cX11_keeperOf 39 = .ok (.aload_n 0, 1) := by decide +kernel
theorem dX11_keeperOf_40 : decode cX11_keeperOf 40 = .ok (.getfield 19, 3) := by decide +kernel
theorem dX11_keeperOf_43 : decode cX11_keeperOf 43 = .ok (.iload_n 3, 1) := by decide +kernel
theorem dX11_keeperOf_44 : decode cX11_keeperOf 44 = .ok (.iload_n 2, 1) := by decide +kernel
theorem dX11_keeperOf_45 : decode cX11_keeperOf 45 = .ok (.invokevirtual 185, 3) := by decide +kernel
theorem dX11_keeperOf_48 : decode cX11_keeperOf 48 = .ok (.if_icmp .le 6, 3) := by decide +kernel
theorem dX11_keeperOf_51 : decode cX11_keeperOf 51 = .ok (.iload 4, 2) := by decide +kernel
theorem dX11_keeperOf_53 : decode cX11_keeperOf 53 = .ok (.istore_n 3, 1) := by decide +kernel
theorem dX11_keeperOf_54 : decode cX11_keeperOf 54 = .ok (.iinc 4 1, 3) := by decide +kernel
theorem dX11_keeperOf_57 : decode cX11_keeperOf 57 = .ok (.goto (-49), 3) := by decide +kernel
theorem dX11_keeperOf_60 : decode cX11_keeperOf 60 = .ok (.iload_n 3, 1) := by decide +kernel
theorem dX11_keeperOf_61 : decode cX11_keeperOf 61 = .ok (.ireturn, 1) := by decide +kernel
theorem wd_1137 : (Jvm.Cond.code ({ cls := "SilentSale", name := "gainsOf", desc := "(I)I" } : Jvm.MethodName) prog_1_method_42_code (4 : Nat) (Option.some Jvm.ClassFile.FieldType.int)) ∈ tb_L := tb_in (i := 1137) (by decide +kernel) (by decide +kernel)
theorem dX11_gainsOf_0 : decode cX11_gainsOf 0 = .ok (.iconst 0, 1) := by decide +kernel
theorem dX11_gainsOf_1 : decode cX11_gainsOf 1 = .ok (.istore_n 2, 1) := by decide +kernel
theorem dX11_gainsOf_2 : decode cX11_gainsOf 2 = .ok (.iconst 0, 1) := by decide +kernel
theorem dX11_gainsOf_3 : decode cX11_gainsOf 3 = .ok (.istore_n 3, 1) := by decide +kernel
theorem dX11_gainsOf_4 : decode cX11_gainsOf 4 = .ok (.iload_n 3, 1) := by decide +kernel
theorem dX11_gainsOf_5 : decode cX11_gainsOf 5 = .ok (.aload_n 0, 1) := by decide +kernel
theorem dX11_gainsOf_6 : decode cX11_gainsOf 6 = .ok (.getfield 19, 3) := by decide +kernel
theorem dX11_gainsOf_9 : decode cX11_gainsOf 9 = .ok (.getfield 201, 3) := by decide +kernel
theorem dX11_gainsOf_12 : decode cX11_gainsOf 12 = .ok (.if_icmp .ge 36, 3) := by decide +kernel
theorem dX11_gainsOf_15 : decode cX11_gainsOf 15 = .ok (.iload_n 2, 1) := by decide +kernel
theorem dX11_gainsOf_16 : decode cX11_gainsOf 16 = .ok (.iload_n 3, 1) := by decide +kernel
theorem dX11_gainsOf_17 : decode cX11_gainsOf 17 = .ok (.iload_n 1, 1) := by decide +kernel
theorem dX11_gainsOf_18 : decode cX11_gainsOf 18 = .ok (.invokestatic 370, 3) := by decide +kernel
theorem dX11_gainsOf_21 : decode cX11_gainsOf 21 = .ok (.ifCond .eq 18, 3) := by decide +kernel
theorem dX11_gainsOf_24 : decode cX11_gainsOf 24 = .ok (.aload_n 0, 1) := by decide +kernel
theorem dX11_gainsOf_25 : decode cX11_gainsOf 25 = .ok (.getfield 33, 3) := by decide +kernel
theorem dX11_gainsOf_28 : decode cX11_gainsOf 28 = .ok (.iload_n 3, 1) := by decide +kernel
theorem dX11_gainsOf_29 : decode cX11_gainsOf 29 = .ok (.aload_n 0, 1) := by decide +kernel
theorem dX11_gainsOf_30 : decode cX11_gainsOf 30 = .ok (.getfield 19, 3) := by decide +kernel
theorem dX11_gainsOf_33 : decode cX11_gainsOf 33 = .ok (.invokevirtual 160, 3) := by decide +kernel
theorem dX11_gainsOf_36 : decode cX11_gainsOf 36 = .ok (.goto 4, 3) := by decide +kernel
theorem dX11_gainsOf_39 : decode cX11_gainsOf 39 = .ok (.iconst 0, 1) := by decide +kernel
theorem dX11_gainsOf_40 : decode cX11_gainsOf 40 = .ok (.iadd, 1) := by decide +kernel
theorem dX11_gainsOf_41 : decode cX11_gainsOf 41 = .ok (.istore_n 2, 1) := by decide +kernel
theorem dX11_gainsOf_42 : decode cX11_gainsOf 42 = .ok (.iinc 3 1, 3) := by decide +kernel
theorem dX11_gainsOf_45 : decode cX11_gainsOf 45 = .ok (.goto (-41), 3) := by decide +kernel
theorem dX11_gainsOf_48 : decode cX11_gainsOf 48 = .ok (.iload_n 2, 1) := by decide +kernel
theorem dX11_gainsOf_49 : decode cX11_gainsOf 49 = .ok (.ireturn, 1) := by decide +kernel
theorem wd_1144 : (Jvm.Cond.code ({ cls := "SilentSale", name := "nobodyHasMore", desc := "(II)Z" } : Jvm.MethodName) prog_1_method_43_code (4 : Nat) (Option.some Jvm.ClassFile.FieldType.boolean)) ∈ tb_L := tb_in (i := 1144) (by decide +kernel) (by decide +kernel)
theorem dX11_nobodyHasMore_0 : decode cX11_nobodyHasMore 0 = .ok (.iconst 0, 1) := by decide +kernel
theorem dX11_nobodyHasMore_1 : decode cX11_nobodyHasMore 1 = .ok (.istore_n 3, 1) := by decide +kernel
theorem dX11_nobodyHasMore_2 : decode cX11_nobodyHasMore 2 = .ok (.iload_n 3, 1) := by decide +kernel
theorem dX11_nobodyHasMore_3 : decode cX11_nobodyHasMore 3 = .ok (.aload_n 0, 1) := by decide +kernel
theorem dX11_nobodyHasMore_4 : decode cX11_nobodyHasMore 4 = .ok (.getfield 19, 3) := by decide +kernel
theorem dX11_nobodyHasMore_7 : decode cX11_nobodyHasMore 7 = .ok (.getfield 201, 3) := by decide +kernel
theorem dX11_nobodyHasMore_10 : decode cX11_nobodyHasMore 10 = .ok (.if_icmp .ge 35, 3) := by decide +kernel
theorem dX11_nobodyHasMore_13 : decode cX11_nobodyHasMore 13 = .ok (.iload_n 3, 1) := by decide +kernel
theorem dX11_nobodyHasMore_14 : decode cX11_nobodyHasMore 14 = .ok (.iload_n 1, 1) := by decide +kernel
theorem dX11_nobodyHasMore_15 : decode cX11_nobodyHasMore 15 = .ok (.invokestatic 370, 3) := by decide +kernel
theorem dX11_nobodyHasMore_18 : decode cX11_nobodyHasMore 18 = .ok (.ifCond .eq 21, 3) := by decide +kernel
theorem dX11_nobodyHasMore_21 : decode cX11_nobodyHasMore 21 = .ok (.aload_n 0, 1) := by decide +kernel
theorem dX11_nobodyHasMore_22 : decode cX11_nobodyHasMore 22 = .ok (.getfield 33, 3) := by decide +kernel
theorem dX11_nobodyHasMore_25 : decode cX11_nobodyHasMore 25 = .ok (.iload_n 3, 1) := by decide +kernel
theorem dX11_nobodyHasMore_26 : decode cX11_nobodyHasMore 26 = .ok (.aload_n 0, 1) := by decide +kernel
theorem dX11_nobodyHasMore_27 : decode cX11_nobodyHasMore 27 = .ok (.getfield 19, 3) := by decide +kernel
theorem dX11_nobodyHasMore_30 : decode cX11_nobodyHasMore 30 = .ok (.invokevirtual 160, 3) := by decide +kernel
theorem dX11_nobodyHasMore_33 : decode cX11_nobodyHasMore 33 = .ok (.iload_n 2, 1) := by decide +kernel
theorem dX11_nobodyHasMore_34 : decode cX11_nobodyHasMore 34 = .ok (.if_icmp .le 5, 3) := by decide +kernel
theorem dX11_nobodyHasMore_37 : decode cX11_nobodyHasMore 37 = .ok (.iconst 0, 1) := by decide +kernel
theorem dX11_nobodyHasMore_38 : decode cX11_nobodyHasMore 38 = .ok (.ireturn, 1) := by decide +kernel
theorem dX11_nobodyHasMore_39 : decode cX11_nobodyHasMore 39 = .ok (.iinc 3 1, 3) := by decide +kernel
theorem dX11_nobodyHasMore_42 : decode cX11_nobodyHasMore 42 = .ok (.goto (-40), 3) := by decide +kernel
theorem dX11_nobodyHasMore_45 : decode cX11_nobodyHasMore 45 = .ok (.iconst 1, 1) := by decide +kernel
theorem dX11_nobodyHasMore_46 : decode cX11_nobodyHasMore 46 = .ok (.ireturn, 1) := by decide +kernel
theorem wd_1033 : (Jvm.Cond.code ({ cls := "SilentSale", name := "duelGain", desc := "(III)I" } : Jvm.MethodName) prog_1_method_45_code (3 : Nat) (Option.some Jvm.ClassFile.FieldType.int)) ∈ tb_L := tb_in (i := 1033) (by decide +kernel) (by decide +kernel)
theorem dX11_duelGain_0 : decode cX11_duelGain 0 = .ok (.iload_n 1, 1) := by decide +kernel
theorem dX11_duelGain_1 : decode cX11_duelGain 1 = .ok (.iload_n 2, 1) := by decide +kernel
theorem dX11_duelGain_2 : decode cX11_duelGain 2 = .ok (.if_icmp .le 9, 3) := by decide +kernel
theorem dX11_duelGain_5 : decode cX11_duelGain 5 = .ok (.iload_n 0, 1) := by decide +kernel
theorem dX11_duelGain_6 : decode cX11_duelGain 6 = .ok (.iload_n 2, 1) := by decide +kernel
theorem dX11_duelGain_7 : decode cX11_duelGain 7 = .ok (.isub, 1) := by decide +kernel
theorem dX11_duelGain_8 : decode cX11_duelGain 8 = .ok (.goto 4, 3) := by decide +kernel
theorem dX11_duelGain_11 : decode cX11_duelGain 11 = .ok (.iconst 0, 1) := by decide +kernel
theorem dX11_duelGain_12 : decode cX11_duelGain 12 = .ok (.ireturn, 1) := by decide +kernel
theorem wd_1030 : (Jvm.Cond.code ({ cls := "SilentSale", name := "isBestAgainst", desc := "(III)Z" } : Jvm.MethodName) prog_1_method_44_code (5 : Nat) (Option.some Jvm.ClassFile.FieldType.boolean)) ∈ tb_L := tb_in (i := 1030) (by decide +kernel) (by decide +kernel)
theorem wd_1031 : (Jvm.Cond.methodLink "SilentSale" (373 : Nat) ({ cls := "SilentSale", name := "duelGain", desc := "(III)I" } : Jvm.MethodName)) ∈ tb_L := tb_in (i := 1031) (by decide +kernel) (by decide +kernel)
theorem wd_1032 : (Jvm.Cond.static ({ cls := "SilentSale", name := "duelGain", desc := "(III)I" } : Jvm.MethodName)) ∈ tb_L := tb_in (i := 1032) (by decide +kernel) (by decide +kernel)
theorem dX11_isBestAgainst_0 : decode cX11_isBestAgainst 0 = .ok (.iload_n 0, 1) := by decide +kernel
theorem dX11_isBestAgainst_1 : decode cX11_isBestAgainst 1 = .ok (.iload_n 1, 1) := by decide +kernel
theorem dX11_isBestAgainst_2 : decode cX11_isBestAgainst 2 = .ok (.iload_n 2, 1) := by decide +kernel
theorem dX11_isBestAgainst_3 : decode cX11_isBestAgainst 3 = .ok (.invokestatic 373, 3) := by decide +kernel
theorem dX11_isBestAgainst_6 : decode cX11_isBestAgainst 6 = .ok (.istore_n 3, 1) := by decide +kernel
theorem dX11_isBestAgainst_7 : decode cX11_isBestAgainst 7 = .ok (.iconst 0, 1) := by decide +kernel
theorem dX11_isBestAgainst_8 : decode cX11_isBestAgainst 8 = .ok (.istore 4, 2) := by decide +kernel
theorem dX11_isBestAgainst_10 : decode cX11_isBestAgainst 10 = .ok (.iload 4, 2) := by decide +kernel
theorem dX11_isBestAgainst_12 : decode cX11_isBestAgainst 12 = .ok (.bipush 10, 2) := by decide +kernel
theorem dX11_isBestAgainst_14 : decode cX11_isBestAgainst 14 = .ok (.if_icmp .ge 25, 3) := by decide +kernel
theorem dX11_isBestAgainst_17 : decode cX11_isBestAgainst 17 = .ok (.iload_n 0, 1) := by decide +kernel
theorem dX11_isBestAgainst_18 : decode cX11_isBestAgainst 18 = .ok (.iload 4, 2) := by decide +kernel
theorem dX11_isBestAgainst_20 : decode cX11_isBestAgainst 20 = .ok (.bipush 10, 2) := by decide +kernel
theorem dX11_isBestAgainst_22 : decode cX11_isBestAgainst 22 = .ok (.imul, 1) := by decide +kernel
theorem dX11_isBestAgainst_23 : decode cX11_isBestAgainst 23 = .ok (.iload_n 2, 1) := by decide +kernel
theorem dX11_isBestAgainst_24 : decode cX11_isBestAgainst 24 = .ok (.invokestatic 373, 3) := by decide +kernel
theorem dX11_isBestAgainst_27 : decode cX11_isBestAgainst 27 = .ok (.iload_n 3, 1) := by decide +kernel
theorem dX11_isBestAgainst_28 : decode cX11_isBestAgainst 28 = .ok (.if_icmp .le 5, 3) := by decide +kernel
theorem dX11_isBestAgainst_31 : decode cX11_isBestAgainst 31 = .ok (.iconst 0, 1) := by decide +kernel
theorem dX11_isBestAgainst_32 : decode cX11_isBestAgainst 32 = .ok (.ireturn, 1) := by decide +kernel
theorem dX11_isBestAgainst_33 : decode cX11_isBestAgainst 33 = .ok (.iinc 4 1, 3) := by decide +kernel
theorem dX11_isBestAgainst_36 : decode cX11_isBestAgainst 36 = .ok (.goto (-26), 3) := by decide +kernel
theorem dX11_isBestAgainst_39 : decode cX11_isBestAgainst 39 = .ok (.iconst 1, 1) := by decide +kernel
theorem dX11_isBestAgainst_40 : decode cX11_isBestAgainst 40 = .ok (.ireturn, 1) := by decide +kernel
theorem wd_1140 : (Jvm.Cond.code ({ cls := "java/lang/Math", name := "floorDiv", desc := "(II)I" } : Jvm.MethodName) prog_16_method_47_code (3 : Nat) (Option.some Jvm.ClassFile.FieldType.int)) ∈ tb_L := tb_in (i := 1140) (by decide +kernel) (by decide +kernel)
theorem dJ9_floorDiv_7cf53_0 : decode cJ9_floorDiv_7cf53 0 = .ok (.iload_n 0, 1) := by decide +kernel
theorem dJ9_floorDiv_7cf53_1 : decode cJ9_floorDiv_7cf53 1 = .ok (.iload_n 1, 1) := by decide +kernel
theorem dJ9_floorDiv_7cf53_2 : decode cJ9_floorDiv_7cf53 2 = .ok (.idiv, 1) := by decide +kernel
theorem dJ9_floorDiv_7cf53_3 : decode cJ9_floorDiv_7cf53 3 = .ok (.istore_n 2, 1) := by decide +kernel
theorem dJ9_floorDiv_7cf53_4 : decode cJ9_floorDiv_7cf53 4 = .ok (.iload_n 0, 1) := by decide +kernel
theorem dJ9_floorDiv_7cf53_5 : decode cJ9_floorDiv_7cf53 5 = .ok (.iload_n 1, 1) := by decide +kernel
theorem dJ9_floorDiv_7cf53_6 : decode cJ9_floorDiv_7cf53 6 = .ok (.ixor, 1) := by decide +kernel
theorem dJ9_floorDiv_7cf53_7 : decode cJ9_floorDiv_7cf53 7 = .ok (.ifCond .ge 14, 3) := by decide +kernel
theorem dJ9_floorDiv_7cf53_10 : decode cJ9_floorDiv_7cf53 10 = .ok (.iload_n 2, 1) := by decide +kernel
theorem dJ9_floorDiv_7cf53_11 : decode cJ9_floorDiv_7cf53 11 = .ok (.iload_n 1, 1) := by decide +kernel
theorem dJ9_floorDiv_7cf53_12 : decode cJ9_floorDiv_7cf53 12 = .ok (.imul, 1) := by decide +kernel
theorem dJ9_floorDiv_7cf53_13 : decode cJ9_floorDiv_7cf53 13 = .ok (.iload_n 0, 1) := by decide +kernel
theorem dJ9_floorDiv_7cf53_14 : decode cJ9_floorDiv_7cf53 14 = .ok (.if_icmp .eq 7, 3) := by decide +kernel
theorem dJ9_floorDiv_7cf53_17 : decode cJ9_floorDiv_7cf53 17 = .ok (.iload_n 2, 1) := by decide +kernel
theorem dJ9_floorDiv_7cf53_18 : decode cJ9_floorDiv_7cf53 18 = .ok (.iconst 1, 1) := by decide +kernel
theorem dJ9_floorDiv_7cf53_19 : decode cJ9_floorDiv_7cf53 19 = .ok (.isub, 1) := by decide +kernel
theorem dJ9_floorDiv_7cf53_20 : decode cJ9_floorDiv_7cf53 20 = .ok (.ireturn, 1) := by decide +kernel
theorem dJ9_floorDiv_7cf53_21 : decode cJ9_floorDiv_7cf53 21 = .ok (.iload_n 2, 1) := by decide +kernel
theorem dJ9_floorDiv_7cf53_22 : decode cJ9_floorDiv_7cf53 22 = .ok (.ireturn, 1) := by decide +kernel
theorem wd_23 : (Jvm.Cond.selects "SilentSale" ({ cls := "SilentSale", name := "roomOf", desc := "(I)I" } : Jvm.MethodName) ({ cls := "SilentSale", name := "roomOf", desc := "(I)I" } : Jvm.MethodName)) ∈ tb_L := tb_in (i := 23) (by decide +kernel) (by decide +kernel)
theorem wd_1010 : (Jvm.Cond.code ({ cls := "SilentSale", name := "hold", desc := "(II)I" } : Jvm.MethodName) prog_1_method_20_code (6 : Nat) (Option.some Jvm.ClassFile.FieldType.int)) ∈ tb_L := tb_in (i := 1010) (by decide +kernel) (by decide +kernel)
theorem wd_1011 : (Jvm.Cond.methodLink "SilentSale" (265 : Nat) ({ cls := "SilentSale", name := "roomOf", desc := "(I)I" } : Jvm.MethodName)) ∈ tb_L := tb_in (i := 1011) (by decide +kernel) (by decide +kernel)
theorem wd_1013 : (Jvm.Cond.instanceMethod ({ cls := "SilentSale", name := "roomOf", desc := "(I)I" } : Jvm.MethodName)) ∈ tb_L := tb_in (i := 1013) (by decide +kernel) (by decide +kernel)
theorem wd_1019 : (Jvm.Cond.methodLink "SilentSale" (268 : Nat) ({ cls := "SilentSale$Clerk", name := "letHold", desc := "(I)V" } : Jvm.MethodName)) ∈ tb_L := tb_in (i := 1019) (by decide +kernel) (by decide +kernel)
theorem wd_1020 : (Jvm.Cond.instanceMethod ({ cls := "SilentSale$Clerk", name := "letHold", desc := "(I)V" } : Jvm.MethodName)) ∈ tb_L := tb_in (i := 1020) (by decide +kernel) (by decide +kernel)
theorem wd_1021 : (Jvm.Cond.selects "SilentSale$Clerk" ({ cls := "SilentSale$Clerk", name := "letHold", desc := "(I)V" } : Jvm.MethodName) ({ cls := "SilentSale$Clerk", name := "letHold", desc := "(I)V" } : Jvm.MethodName)) ∈ tb_L := tb_in (i := 1021) (by decide +kernel) (by decide +kernel)
theorem wd_1023 : (Jvm.Cond.methodLink "SilentSale" (271 : Nat) ({ cls := "java/lang/Math", name := "max", desc := "(II)I" } : Jvm.MethodName)) ∈ tb_L := tb_in (i := 1023) (by decide +kernel) (by decide +kernel)
theorem dX11_hold_0 : decode cX11_hold 0 = .ok (.aload_n 0, 1) := by decide +kernel
theorem dX11_hold_1 : decode cX11_hold 1 = .ok (.iload_n 1, 1) := by decide +kernel
theorem dX11_hold_2 : decode cX11_hold 2 = .ok (.invokevirtual 265, 3) := by decide +kernel
theorem dX11_hold_5 : decode cX11_hold 5 = .ok (.istore_n 3, 1) := by decide +kernel
theorem dX11_hold_6 : decode cX11_hold 6 = .ok (.iload_n 3, 1) := by decide +kernel
theorem dX11_hold_7 : decode cX11_hold 7 = .ok (.iconst (-1), 1) := by decide +kernel
theorem dX11_hold_8 : decode cX11_hold 8 = .ok (.if_icmp .eq 12, 3) := by decide +kernel
theorem dX11_hold_11 : decode cX11_hold 11 = .ok (.iload_n 2, 1) := by decide +kernel
theorem dX11_hold_12 : decode cX11_hold 12 = .ok (.ifCond .lt 8, 3) := by decide +kernel
theorem dX11_hold_15 : decode cX11_hold 15 = .ok (.iload_n 2, 1) := by decide +kernel
theorem dX11_hold_16 : decode cX11_hold 16 = .ok (.iconst 1, 1) := by decide +kernel
theorem dX11_hold_17 : decode cX11_hold 17 = .ok (.if_icmp .le 7, 3) := by decide +kernel
theorem dX11_hold_20 : decode cX11_hold 20 = .ok (.sipush (-1000), 3) := by decide +kernel
theorem dX11_hold_23 : decode cX11_hold 23 = .ok (.ireturn, 1) := by decide +kernel
theorem dX11_hold_24 : decode cX11_hold 24 = .ok (.aload_n 0, 1) := by decide +kernel
theorem dX11_hold_25 : decode cX11_hold 25 = .ok (.getfield 29, 3) := by decide +kernel
theorem dX11_hold_28 : decode cX11_hold 28 = .ok (.iload_n 1, 1) := by decide +kernel
theorem dX11_hold_29 : decode cX11_hold 29 = .ok (.aload_n 0, 1) := by decide +kernel
theorem dX11_hold_30 : decode cX11_hold 30 = .ok (.getfield 19, 3) := by decide +kernel
theorem dX11_hold_33 : decode cX11_hold 33 = .ok (.invokevirtual 160, 3) := by decide +kernel
theorem dX11_hold_36 : decode cX11_hold 36 = .ok (.istore 4, 2) := by decide +kernel
theorem dX11_hold_38 : decode cX11_hold 38 = .ok (.aload_n 0, 1) := by decide +kernel
theorem dX11_hold_39 : decode cX11_hold 39 = .ok (.invokevirtual 255, 3) := by decide +kernel
theorem dX11_hold_42 : decode cX11_hold 42 = .ok (.aload_n 0, 1) := by decide +kernel
theorem dX11_hold_43 : decode cX11_hold 43 = .ok (.getfield 67, 3) := by decide +kernel
theorem dX11_hold_46 : decode cX11_hold 46 = .ok (.iload_n 1, 1) := by decide +kernel
theorem dX11_hold_47 : decode cX11_hold 47 = .ok (.invokevirtual 268, 3) := by decide +kernel
theorem dX11_hold_50 : decode cX11_hold 50 = .ok (.aload_n 0, 1) := by decide +kernel
theorem dX11_hold_51 : decode cX11_hold 51 = .ok (.getfield 67, 3) := by decide +kernel
theorem dX11_hold_54 : decode cX11_hold 54 = .ok (.aload_n 0, 1) := by decide +kernel
theorem dX11_hold_55 : decode cX11_hold 55 = .ok (.getfield 33, 3) := by decide +kernel
theorem dX11_hold_58 : decode cX11_hold 58 = .ok (.iload_n 3, 1) := by decide +kernel
theorem dX11_hold_59 : decode cX11_hold 59 = .ok (.invokevirtual 262, 3) := by decide +kernel
theorem dX11_hold_62 : decode cX11_hold 62 = .ok (.aload_n 0, 1) := by decide +kernel
theorem dX11_hold_63 : decode cX11_hold 63 = .ok (.getfield 33, 3) := by decide +kernel
theorem dX11_hold_66 : decode cX11_hold 66 = .ok (.iload_n 1, 1) := by decide +kernel
theorem dX11_hold_67 : decode cX11_hold 67 = .ok (.aload_n 0, 1) := by decide +kernel
theorem dX11_hold_68 : decode cX11_hold 68 = .ok (.getfield 19, 3) := by decide +kernel
theorem dX11_hold_71 : decode cX11_hold 71 = .ok (.invokevirtual 160, 3) := by decide +kernel
theorem dX11_hold_74 : decode cX11_hold 74 = .ok (.istore 5, 2) := by decide +kernel
theorem dX11_hold_76 : decode cX11_hold 76 = .ok (.iload_n 2, 1) := by decide +kernel
theorem dX11_hold_77 : decode cX11_hold 77 = .ok (.iconst 1, 1) := by decide +kernel
theorem dX11_hold_78 : decode cX11_hold 78 = .ok (.if_icmp .ne 11, 3) := by decide +kernel
theorem dX11_hold_81 : decode cX11_hold 81 = .ok (.iload 5, 2) := by decide +kernel
theorem dX11_hold_83 : decode cX11_hold 83 = .ok (.iload 4, 2) := by decide +kernel
theorem dX11_hold_85 : decode cX11_hold 85 = .ok (.invokestatic 271, 3) := by decide +kernel
theorem dX11_hold_88 : decode cX11_hold 88 = .ok (.ireturn, 1) := by decide +kernel
theorem dX11_hold_89 : decode cX11_hold 89 = .ok (.iload 5, 2) := by decide +kernel
theorem dX11_hold_91 : decode cX11_hold 91 = .ok (.iload 4, 2) := by decide +kernel
theorem dX11_hold_93 : decode cX11_hold 93 = .ok (.if_icmp .le 15, 3) := by decide +kernel
theorem dX11_hold_96 : decode cX11_hold 96 = .ok (.aload_n 0, 1) := by decide +kernel
theorem dX11_hold_97 : decode cX11_hold 97 = .ok (.getfield 33, 3) := by decide +kernel
theorem dX11_hold_100 : decode cX11_hold 100 = .ok (.getfield 170, 3) := by decide +kernel
theorem dX11_hold_103 : decode cX11_hold 103 = .ok (.iload_n 3, 1) := by decide +kernel
theorem dX11_hold_104 : decode cX11_hold 104 = .ok (.iaload, 1) := by decide +kernel
theorem dX11_hold_105 : decode cX11_hold 105 = .ok (.goto 4, 3) := by decide +kernel
theorem dX11_hold_108 : decode cX11_hold 108 = .ok (.iconst 0, 1) := by decide +kernel
theorem dX11_hold_109 : decode cX11_hold 109 = .ok (.ireturn, 1) := by decide +kernel
theorem wd_1027 : (Jvm.Cond.code ({ cls := "SilentSale", name := "rests", desc := "(IIII)I" } : Jvm.MethodName) prog_1_method_21_code (10 : Nat) (Option.some Jvm.ClassFile.FieldType.int)) ∈ tb_L := tb_in (i := 1027) (by decide +kernel) (by decide +kernel)
theorem wd_1028 : (Jvm.Cond.methodLink "SilentSale" (276 : Nat) ({ cls := "SilentSale", name := "isBestAgainst", desc := "(III)Z" } : Jvm.MethodName)) ∈ tb_L := tb_in (i := 1028) (by decide +kernel) (by decide +kernel)
theorem wd_1029 : (Jvm.Cond.static ({ cls := "SilentSale", name := "isBestAgainst", desc := "(III)Z" } : Jvm.MethodName)) ∈ tb_L := tb_in (i := 1029) (by decide +kernel) (by decide +kernel)
theorem dX11_rests_0 : decode cX11_rests 0 = .ok (.aload_n 0, 1) := by decide +kernel
theorem dX11_rests_1 : decode cX11_rests 1 = .ok (.iload_n 1, 1) := by decide +kernel
theorem dX11_rests_2 : decode cX11_rests 2 = .ok (.invokevirtual 136, 3) := by decide +kernel
theorem dX11_rests_5 : decode cX11_rests 5 = .ok (.ifCond .eq 35, 3) := by decide +kernel
theorem dX11_rests_8 : decode cX11_rests 8 = .ok (.aload_n 0, 1) := by decide +kernel
theorem dX11_rests_9 : decode cX11_rests 9 = .ok (.iload_n 2, 1) := by decide +kernel
theorem dX11_rests_10 : decode cX11_rests 10 = .ok (.invokevirtual 136, 3) := by decide +kernel
theorem dX11_rests_13 : decode cX11_rests 13 = .ok (.ifCond .eq 27, 3) := by decide +kernel
theorem dX11_rests_16 : decode cX11_rests 16 = .ok (.iload_n 1, 1) := by decide +kernel
theorem dX11_rests_17 : decode cX11_rests 17 = .ok (.iload_n 2, 1) := by decide +kernel
theorem dX11_rests_18 : decode cX11_rests 18 = .ok (.if_icmp .eq 22, 3) := by decide +kernel
theorem dX11_rests_21 : decode cX11_rests 21 = .ok (.aload_n 0, 1) := by decide +kernel
theorem dX11_rests_22 : decode cX11_rests 22 = .ok (.iload_n 3, 1) := by decide +kernel
theorem dX11_rests_23 : decode cX11_rests 23 = .ok (.invokevirtual 164, 3) := by decide +kernel
theorem dX11_rests_26 : decode cX11_rests 26 = .ok (.ifCond .eq 14, 3) := by decide +kernel
theorem dX11_rests_29 : decode cX11_rests 29 = .ok (.iload 4, 2) := by decide +kernel
theorem dX11_rests_31 : decode cX11_rests 31 = .ok (.ifCond .lt 9, 3) := by decide +kernel
theorem dX11_rests_34 : decode cX11_rests 34 = .ok (.iload 4, 2) := by decide +kernel
theorem dX11_rests_36 : decode cX11_rests 36 = .ok (.iconst 2, 1) := by decide +kernel
theorem dX11_rests_37 : decode cX11_rests 37 = .ok (.if_icmp .le 5, 3) := by decide +kernel
theorem dX11_rests_40 : decode cX11_rests 40 = .ok (.iconst (-1), 1) := by decide +kernel
theorem dX11_rests_41 : decode cX11_rests 41 = .ok (.ireturn, 1) := by decide +kernel
theorem dX11_rests_42 : decode cX11_rests 42 = .ok (.iconst 0, 1) := by decide +kernel
theorem dX11_rests_43 : decode cX11_rests 43 = .ok (.istore 5, 2) := by decide +kernel
theorem dX11_rests_45 : decode cX11_rests 45 = .ok (.bipush (-2), 2) := by decide +kernel
theorem dX11_rests_47 : decode cX11_rests 47 = .ok (.istore 6, 2) := by decide +kernel
theorem dX11_rests_49 : decode cX11_rests 49 = .ok (.iconst 0, 1) := by decide +kernel
theorem dX11_rests_50 : decode cX11_rests 50 = .ok (.istore 7, 2) := by decide +kernel
theorem dX11_rests_52 : decode cX11_rests 52 = .ok (.iload 7, 2) := by decide +kernel
theorem dX11_rests_54 : decode cX11_rests 54 = .ok (.bipush 100, 2) := by decide +kernel
theorem dX11_rests_56 : decode cX11_rests 56 = .ok (.if_icmp .ge 84, 3) := by decide +kernel
theorem dX11_rests_59 : decode cX11_rests 59 = .ok (.iload 7, 2) := by decide +kernel
theorem dX11_rests_61 : decode cX11_rests 61 = .ok (.bipush 10, 2) := by decide +kernel
theorem dX11_rests_63 : decode cX11_rests 63 = .ok (.idiv, 1) := by decide +kernel
theorem dX11_rests_64 : decode cX11_rests 64 = .ok (.bipush 10, 2) := by decide +kernel
theorem dX11_rests_66 : decode cX11_rests 66 = .ok (.imul, 1) := by decide +kernel
theorem dX11_rests_67 : decode cX11_rests 67 = .ok (.istore 8, 2) := by decide +kernel
theorem dX11_rests_69 : decode cX11_rests 69 = .ok (.iload 7, 2) := by decide +kernel
theorem dX11_rests_71 : decode cX11_rests 71 = .ok (.bipush 10, 2) := by decide +kernel
theorem dX11_rests_73 : decode cX11_rests 73 = .ok (.irem, 1) := by decide +kernel
theorem dX11_rests_74 : decode cX11_rests 74 = .ok (.bipush 10, 2) := by decide +kernel
theorem dX11_rests_76 : decode cX11_rests 76 = .ok (.imul, 1) := by decide +kernel
theorem dX11_rests_77 : decode cX11_rests 77 = .ok (.istore 9, 2) := by decide +kernel
theorem dX11_rests_79 : decode cX11_rests 79 = .ok (.aload_n 0, 1) := by decide +kernel
theorem dX11_rests_80 : decode cX11_rests 80 = .ok (.getfield 19, 3) := by decide +kernel
theorem dX11_rests_83 : decode cX11_rests 83 = .ok (.iload_n 1, 1) := by decide +kernel
theorem dX11_rests_84 : decode cX11_rests 84 = .ok (.iload_n 3, 1) := by decide +kernel
theorem dX11_rests_85 : decode cX11_rests 85 = .ok (.invokevirtual 185, 3) := by decide +kernel
theorem dX11_rests_88 : decode cX11_rests 88 = .ok (.iload 8, 2) := by decide +kernel
theorem dX11_rests_90 : decode cX11_rests 90 = .ok (.iload 9, 2) := by decide +kernel
theorem dX11_rests_92 : decode cX11_rests 92 = .ok (.invokestatic 276, 3) := by decide +kernel
theorem dX11_rests_95 : decode cX11_rests 95 = .ok (.ifCond .eq 39, 3) := by decide +kernel
theorem dX11_rests_98 : decode cX11_rests 98 = .ok (.aload_n 0, 1) := by decide +kernel
theorem dX11_rests_99 : decode cX11_rests 99 = .ok (.getfield 19, 3) := by decide +kernel
theorem dX11_rests_102 : decode cX11_rests 102 = .ok (.iload_n 2, 1) := by decide +kernel
theorem dX11_rests_103 : decode cX11_rests 103 = .ok (.iload_n 3, 1) := by decide +kernel
theorem dX11_rests_104 : decode cX11_rests 104 = .ok (.invokevirtual 185, 3) := by decide +kernel
theorem dX11_rests_107 : decode cX11_rests 107 = .ok (.iload 9, 2) := by decide +kernel
theorem dX11_rests_109 : decode cX11_rests 109 = .ok (.iload 8, 2) := by decide +kernel
theorem dX11_rests_111 : decode cX11_rests 111 = .ok (.invokestatic 276, 3) := by decide +kernel
theorem dX11_rests_114 : decode cX11_rests 114 = .ok (.ifCond .eq 20, 3) := by decide +kernel
theorem dX11_rests_117 : decode cX11_rests 117 = .ok (.iload 5, 2) := by decide +kernel
theorem dX11_rests_119 : decode cX11_rests 119 = .ok (.ifCond .ne 8, 3) := by decide +kernel
theorem dX11_rests_122 : decode cX11_rests 122 = .ok (.iload 7, 2) := by decide +kernel
theorem dX11_rests_124 : decode cX11_rests 124 = .ok (.goto 5, 3) := by decide +kernel
theorem dX11_rests_127 : decode cX11_rests 127 = .ok (.iload 6, 2) := by decide +kernel
theorem dX11_rests_129 : decode cX11_rests 129 = .ok (.istore 6, 2) := by decide +kernel
theorem dX11_rests_131 : decode cX11_rests 131 = .ok (.iinc 5 1, 3) := by decide +kernel
theorem dX11_rests_134 : decode cX11_rests 134 = .ok (.iinc 7 1, 3) := by decide +kernel
theorem dX11_rests_137 : decode cX11_rests 137 = .ok (.goto (-85), 3) := by decide +kernel
theorem dX11_rests_140 : decode cX11_rests 140 = .ok (.iload 4, 2) := by decide +kernel
theorem dX11_rests_142 : decode cX11_rests 142 = .ok (.ifCond .ne 6, 3) := by decide +kernel
theorem dX11_rests_145 : decode cX11_rests 145 = .ok (.iload 5, 2) := by decide +kernel
theorem dX11_rests_147 : decode cX11_rests 147 = .ok (.ireturn, 1) := by decide +kernel
theorem dX11_rests_148 : decode cX11_rests 148 = .ok (.iload 6, 2) := by decide +kernel
theorem dX11_rests_150 : decode cX11_rests 150 = .ok (.ifCond .ge 6, 3) := by decide +kernel
theorem dX11_rests_153 : decode cX11_rests 153 = .ok (.bipush (-2), 2) := by decide +kernel
theorem dX11_rests_155 : decode cX11_rests 155 = .ok (.ireturn, 1) := by decide +kernel
theorem dX11_rests_156 : decode cX11_rests 156 = .ok (.iload 4, 2) := by decide +kernel
theorem dX11_rests_158 : decode cX11_rests 158 = .ok (.iconst 1, 1) := by decide +kernel
theorem dX11_rests_159 : decode cX11_rests 159 = .ok (.if_icmp .ne 11, 3) := by decide +kernel
theorem dX11_rests_162 : decode cX11_rests 162 = .ok (.iload 6, 2) := by decide +kernel
theorem dX11_rests_164 : decode cX11_rests 164 = .ok (.bipush 10, 2) := by decide +kernel
theorem dX11_rests_166 : decode cX11_rests 166 = .ok (.idiv, 1) := by decide +kernel
theorem dX11_rests_167 : decode cX11_rests 167 = .ok (.goto 8, 3) := by decide +kernel
theorem dX11_rests_170 : decode cX11_rests 170 = .ok (.iload 6, 2) := by decide +kernel
theorem dX11_rests_172 : decode cX11_rests 172 = .ok (.bipush 10, 2) := by decide +kernel
theorem dX11_rests_174 : decode cX11_rests 174 = .ok (.irem, 1) := by decide +kernel
theorem dX11_rests_175 : decode cX11_rests 175 = .ok (.bipush 10, 2) := by decide +kernel
theorem dX11_rests_177 : decode cX11_rests 177 = .ok (.imul, 1) := by decide +kernel
theorem dX11_rests_178 : decode cX11_rests 178 = .ok (.ireturn, 1) := by decide +kernel
theorem wd_459 : (Jvm.Cond.fieldLink "SilentSale" (297 : Nat) "SilentSale$Trickery" "best" "[I") ∈ tb_L := tb_in (i := 459) (by decide +kernel) (by decide +kernel)
theorem wd_461 : (Jvm.Cond.fieldLink "SilentSale" (294 : Nat) "SilentSale$Trickery" "coins" "I") ∈ tb_L := tb_in (i := 461) (by decide +kernel) (by decide +kernel)
theorem wd_508 : (Jvm.Cond.fieldLink "SilentSale" (81 : Nat) "SilentSale" "trickery" "LSilentSale$Trickery;") ∈ tb_L := tb_in (i := 508) (by decide +kernel) (by decide +kernel)
theorem wd_1100 : (Jvm.Cond.code ({ cls := "SilentSale", name := "tricks", desc := "(II)I" } : Jvm.MethodName) prog_1_method_23_code (4 : Nat) (Option.some Jvm.ClassFile.FieldType.int)) ∈ tb_L := tb_in (i := 1100) (by decide +kernel) (by decide +kernel)
theorem wd_1101 : (Jvm.Cond.methodLink "SilentSale" (290 : Nat) ({ cls := "SilentSale$Trickery", name := "findTricks", desc := "(LSilentSale$Clerk;LSilentSale$Terms;LSilentSale$State;II)V" } : Jvm.MethodName)) ∈ tb_L := tb_in (i := 1101) (by decide +kernel) (by decide +kernel)
theorem wd_1102 : (Jvm.Cond.instanceMethod ({ cls := "SilentSale$Trickery", name := "findTricks", desc := "(LSilentSale$Clerk;LSilentSale$Terms;LSilentSale$State;II)V" } : Jvm.MethodName)) ∈ tb_L := tb_in (i := 1102) (by decide +kernel) (by decide +kernel)
theorem wd_1103 : (Jvm.Cond.selects "SilentSale$Trickery" ({ cls := "SilentSale$Trickery", name := "findTricks", desc := "(LSilentSale$Clerk;LSilentSale$Terms;LSilentSale$State;II)V" } : Jvm.MethodName) ({ cls := "SilentSale$Trickery", name := "findTricks", desc := "(LSilentSale$Clerk;LSilentSale$Terms;LSilentSale$State;II)V" } : Jvm.MethodName)) ∈ tb_L := tb_in (i := 1103) (by decide +kernel) (by decide +kernel)
theorem dX11_tricks_0 : decode cX11_tricks 0 = .ok (.aload_n 0, 1) := by decide +kernel
theorem dX11_tricks_1 : decode cX11_tricks 1 = .ok (.iload_n 1, 1) := by decide +kernel
theorem dX11_tricks_2 : decode cX11_tricks 2 = .ok (.invokevirtual 265, 3) := by decide +kernel
theorem dX11_tricks_5 : decode cX11_tricks 5 = .ok (.istore_n 3, 1) := by decide +kernel
theorem dX11_tricks_6 : decode cX11_tricks 6 = .ok (.iload_n 3, 1) := by decide +kernel
theorem dX11_tricks_7 : decode cX11_tricks 7 = .ok (.iconst (-1), 1) := by decide +kernel
theorem dX11_tricks_8 : decode cX11_tricks 8 = .ok (.if_icmp .eq 12, 3) := by decide +kernel
theorem dX11_tricks_11 : decode cX11_tricks 11 = .ok (.iload_n 2, 1) := by decide +kernel
theorem dX11_tricks_12 : decode cX11_tricks 12 = .ok (.ifCond .lt 8, 3) := by decide +kernel
theorem dX11_tricks_15 : decode cX11_tricks 15 = .ok (.iload_n 2, 1) := by decide +kernel
theorem dX11_tricks_16 : decode cX11_tricks 16 = .ok (.iconst 5, 1) := by decide +kernel
theorem dX11_tricks_17 : decode cX11_tricks 17 = .ok (.if_icmp .le 6, 3) := by decide +kernel
theorem dX11_tricks_20 : decode cX11_tricks 20 = .ok (.bipush (-4), 2) := by decide +kernel
theorem dX11_tricks_22 : decode cX11_tricks 22 = .ok (.ireturn, 1) := by decide +kernel
theorem dX11_tricks_23 : decode cX11_tricks 23 = .ok (.aload_n 0, 1) := by decide +kernel
theorem dX11_tricks_24 : decode cX11_tricks 24 = .ok (.invokevirtual 226, 3) := by decide +kernel
theorem dX11_tricks_27 : decode cX11_tricks 27 = .ok (.aload_n 0, 1) := by decide +kernel
theorem dX11_tricks_28 : decode cX11_tricks 28 = .ok (.getfield 81, 3) := by decide +kernel
theorem dX11_tricks_31 : decode cX11_tricks 31 = .ok (.aload_n 0, 1) := by decide +kernel
theorem dX11_tricks_32 : decode cX11_tricks 32 = .ok (.getfield 67, 3) := by decide +kernel
theorem dX11_tricks_35 : decode cX11_tricks 35 = .ok (.aload_n 0, 1) := by decide +kernel
theorem dX11_tricks_36 : decode cX11_tricks 36 = .ok (.getfield 19, 3) := by decide +kernel
theorem dX11_tricks_39 : decode cX11_tricks 39 = .ok (.aload_n 0, 1) := by decide +kernel
theorem dX11_tricks_40 : decode cX11_tricks 40 = .ok (.getfield 29, 3) := by decide +kernel
theorem dX11_tricks_43 : decode cX11_tricks 43 = .ok (.iload_n 1, 1) := by decide +kernel
theorem dX11_tricks_44 : decode cX11_tricks 44 = .ok (.iload_n 3, 1) := by decide +kernel
theorem dX11_tricks_45 : decode cX11_tricks 45 = .ok (.invokevirtual 290, 3) := by decide +kernel
theorem dX11_tricks_48 : decode cX11_tricks 48 = .ok (.aload_n 0, 1) := by decide +kernel
theorem dX11_tricks_49 : decode cX11_tricks 49 = .ok (.getfield 81, 3) := by decide +kernel
theorem dX11_tricks_52 : decode cX11_tricks 52 = .ok (.getfield 294, 3) := by decide +kernel
theorem dX11_tricks_55 : decode cX11_tricks 55 = .ok (.ifCond .ge 6, 3) := by decide +kernel
theorem dX11_tricks_58 : decode cX11_tricks 58 = .ok (.bipush (-3), 2) := by decide +kernel
theorem dX11_tricks_60 : decode cX11_tricks 60 = .ok (.ireturn, 1) := by decide +kernel
theorem dX11_tricks_61 : decode cX11_tricks 61 = .ok (.iload_n 2, 1) := by decide +kernel
theorem dX11_tricks_62 : decode cX11_tricks 62 = .ok (.ifCond .ne 13, 3) := by decide +kernel
theorem dX11_tricks_65 : decode cX11_tricks 65 = .ok (.aload_n 0, 1) := by decide +kernel
theorem dX11_tricks_66 : decode cX11_tricks 66 = .ok (.getfield 81, 3) := by decide +kernel
theorem dX11_tricks_69 : decode cX11_tricks 69 = .ok (.getfield 294, 3) := by decide +kernel
theorem dX11_tricks_72 : decode cX11_tricks 72 = .ok (.goto 14, 3) := by decide +kernel
theorem dX11_tricks_75 : decode cX11_tricks 75 = .ok (.aload_n 0, 1) := by decide +kernel
theorem dX11_tricks_76 : decode cX11_tricks 76 = .ok (.getfield 81, 3) := by decide +kernel
theorem dX11_tricks_79 : decode cX11_tricks 79 = .ok (.getfield 297, 3) := by decide +kernel
theorem dX11_tricks_82 : decode cX11_tricks 82 = .ok (.iload_n 2, 1) := by decide +kernel
theorem dX11_tricks_83 : decode cX11_tricks 83 = .ok (.iconst 1, 1) := by decide +kernel
theorem dX11_tricks_84 : decode cX11_tricks 84 = .ok (.isub, 1) := by decide +kernel
theorem dX11_tricks_85 : decode cX11_tricks 85 = .ok (.iaload, 1) := by decide +kernel
theorem dX11_tricks_86 : decode cX11_tricks 86 = .ok (.ireturn, 1) := by decide +kernel
theorem wd_33 : (Jvm.Cond.selects "SilentSale" ({ cls := "SilentSale", name := "keeperOf", desc := "(II)I" } : Jvm.MethodName) ({ cls := "SilentSale", name := "keeperOf", desc := "(II)I" } : Jvm.MethodName)) ∈ tb_L := tb_in (i := 33) (by decide +kernel) (by decide +kernel)
theorem wd_34 : (Jvm.Cond.selects "SilentSale" ({ cls := "SilentSale", name := "gainsOf", desc := "(I)I" } : Jvm.MethodName) ({ cls := "SilentSale", name := "gainsOf", desc := "(I)I" } : Jvm.MethodName)) ∈ tb_L := tb_in (i := 34) (by decide +kernel) (by decide +kernel)
theorem wd_35 : (Jvm.Cond.selects "SilentSale" ({ cls := "SilentSale", name := "nobodyHasMore", desc := "(II)Z" } : Jvm.MethodName) ({ cls := "SilentSale", name := "nobodyHasMore", desc := "(II)Z" } : Jvm.MethodName)) ∈ tb_L := tb_in (i := 35) (by decide +kernel) (by decide +kernel)
theorem wd_1127 : (Jvm.Cond.code ({ cls := "SilentSale", name := "ring", desc := "(II)I" } : Jvm.MethodName) prog_1_method_24_code (5 : Nat) (Option.some Jvm.ClassFile.FieldType.int)) ∈ tb_L := tb_in (i := 1127) (by decide +kernel) (by decide +kernel)
theorem wd_1128 : (Jvm.Cond.methodLink "SilentSale" (298 : Nat) ({ cls := "java/lang/Integer", name := "bitCount", desc := "(I)I" } : Jvm.MethodName)) ∈ tb_L := tb_in (i := 1128) (by decide +kernel) (by decide +kernel)
theorem wd_1129 : (Jvm.Cond.methodLink "SilentSale" (306 : Nat) ({ cls := "SilentSale", name := "keeperOf", desc := "(II)I" } : Jvm.MethodName)) ∈ tb_L := tb_in (i := 1129) (by decide +kernel) (by decide +kernel)
theorem wd_1131 : (Jvm.Cond.instanceMethod ({ cls := "SilentSale", name := "keeperOf", desc := "(II)I" } : Jvm.MethodName)) ∈ tb_L := tb_in (i := 1131) (by decide +kernel) (by decide +kernel)
theorem wd_1134 : (Jvm.Cond.methodLink "SilentSale" (309 : Nat) ({ cls := "SilentSale", name := "gainsOf", desc := "(I)I" } : Jvm.MethodName)) ∈ tb_L := tb_in (i := 1134) (by decide +kernel) (by decide +kernel)
theorem wd_1136 : (Jvm.Cond.instanceMethod ({ cls := "SilentSale", name := "gainsOf", desc := "(I)I" } : Jvm.MethodName)) ∈ tb_L := tb_in (i := 1136) (by decide +kernel) (by decide +kernel)
theorem wd_1138 : (Jvm.Cond.methodLink "SilentSale" (314 : Nat) ({ cls := "java/lang/Math", name := "floorDiv", desc := "(II)I" } : Jvm.MethodName)) ∈ tb_L := tb_in (i := 1138) (by decide +kernel) (by decide +kernel)
theorem wd_1139 : (Jvm.Cond.static ({ cls := "java/lang/Math", name := "floorDiv", desc := "(II)I" } : Jvm.MethodName)) ∈ tb_L := tb_in (i := 1139) (by decide +kernel) (by decide +kernel)
theorem wd_1141 : (Jvm.Cond.methodLink "SilentSale" (317 : Nat) ({ cls := "SilentSale", name := "nobodyHasMore", desc := "(II)Z" } : Jvm.MethodName)) ∈ tb_L := tb_in (i := 1141) (by decide +kernel) (by decide +kernel)
theorem wd_1143 : (Jvm.Cond.instanceMethod ({ cls := "SilentSale", name := "nobodyHasMore", desc := "(II)Z" } : Jvm.MethodName)) ∈ tb_L := tb_in (i := 1143) (by decide +kernel) (by decide +kernel)
theorem dX11_ring_0 : decode cX11_ring 0 = .ok (.iload_n 1, 1) := by decide +kernel
theorem dX11_ring_1 : decode cX11_ring 1 = .ok (.invokestatic 298, 3) := by decide +kernel
theorem dX11_ring_4 : decode cX11_ring 4 = .ok (.iconst 2, 1) := by decide +kernel
theorem dX11_ring_5 : decode cX11_ring 5 = .ok (.if_icmp .ge 7, 3) := by decide +kernel
theorem dX11_ring_8 : decode cX11_ring 8 = .ok (.iconst (-1), 1) := by decide +kernel
theorem dX11_ring_9 : decode cX11_ring 9 = .ok (.goto 8, 3) := by decide +kernel
theorem dX11_ring_12 : decode cX11_ring 12 = .ok (.aload_n 0, 1) := by decide +kernel
theorem dX11_ring_13 : decode cX11_ring 13 = .ok (.iload_n 1, 1) := by decide +kernel
theorem dX11_ring_14 : decode cX11_ring 14 = .ok (.invokevirtual 303, 3) := by decide +kernel
theorem dX11_ring_17 : decode cX11_ring 17 = .ok (.istore_n 3, 1) := by decide +kernel
theorem dX11_ring_18 : decode cX11_ring 18 = .ok (.iload_n 3, 1) := by decide +kernel
theorem dX11_ring_19 : decode cX11_ring 19 = .ok (.iconst (-1), 1) := by decide +kernel
theorem dX11_ring_20 : decode cX11_ring 20 = .ok (.if_icmp .eq 12, 3) := by decide +kernel
theorem dX11_ring_23 : decode cX11_ring 23 = .ok (.iload_n 2, 1) := by decide +kernel
theorem dX11_ring_24 : decode cX11_ring 24 = .ok (.ifCond .lt 8, 3) := by decide +kernel
theorem dX11_ring_27 : decode cX11_ring 27 = .ok (.iload_n 2, 1) := by decide +kernel
theorem dX11_ring_28 : decode cX11_ring 28 = .ok (.iconst 1, 1) := by decide +kernel
theorem dX11_ring_29 : decode cX11_ring 29 = .ok (.if_icmp .le 7, 3) := by decide +kernel
theorem dX11_ring_32 : decode cX11_ring 32 = .ok (.sipush (-1000), 3) := by decide +kernel
theorem dX11_ring_35 : decode cX11_ring 35 = .ok (.ireturn, 1) := by decide +kernel
theorem dX11_ring_36 : decode cX11_ring 36 = .ok (.aload_n 0, 1) := by decide +kernel
theorem dX11_ring_37 : decode cX11_ring 37 = .ok (.invokevirtual 255, 3) := by decide +kernel
theorem dX11_ring_40 : decode cX11_ring 40 = .ok (.aload_n 0, 1) := by decide +kernel
theorem dX11_ring_41 : decode cX11_ring 41 = .ok (.getfield 67, 3) := by decide +kernel
theorem dX11_ring_44 : decode cX11_ring 44 = .ok (.aload_n 0, 1) := by decide +kernel
theorem dX11_ring_45 : decode cX11_ring 45 = .ok (.getfield 33, 3) := by decide +kernel
theorem dX11_ring_48 : decode cX11_ring 48 = .ok (.iload_n 1, 1) := by decide +kernel
theorem dX11_ring_49 : decode cX11_ring 49 = .ok (.iconst 1, 1) := by decide +kernel
theorem dX11_ring_50 : decode cX11_ring 50 = .ok (.aload_n 0, 1) := by decide +kernel
theorem dX11_ring_51 : decode cX11_ring 51 = .ok (.iload_n 1, 1) := by decide +kernel
theorem dX11_ring_52 : decode cX11_ring 52 = .ok (.iload_n 3, 1) := by decide +kernel
theorem dX11_ring_53 : decode cX11_ring 53 = .ok (.invokevirtual 306, 3) := by decide +kernel
theorem dX11_ring_56 : decode cX11_ring 56 = .ok (.ishl, 1) := by decide +kernel
theorem dX11_ring_57 : decode cX11_ring 57 = .ok (.iconst (-1), 1) := by decide +kernel
theorem dX11_ring_58 : decode cX11_ring 58 = .ok (.ixor, 1) := by decide +kernel
theorem dX11_ring_59 : decode cX11_ring 59 = .ok (.iand, 1) := by decide +kernel
theorem dX11_ring_60 : decode cX11_ring 60 = .ok (.invokevirtual 229, 3) := by decide +kernel
theorem dX11_ring_63 : decode cX11_ring 63 = .ok (.pop, 1) := by decide +kernel
theorem dX11_ring_64 : decode cX11_ring 64 = .ok (.aload_n 0, 1) := by decide +kernel
theorem dX11_ring_65 : decode cX11_ring 65 = .ok (.getfield 67, 3) := by decide +kernel
theorem dX11_ring_68 : decode cX11_ring 68 = .ok (.aload_n 0, 1) := by decide +kernel
theorem dX11_ring_69 : decode cX11_ring 69 = .ok (.getfield 33, 3) := by decide +kernel
theorem dX11_ring_72 : decode cX11_ring 72 = .ok (.iload_n 3, 1) := by decide +kernel
theorem dX11_ring_73 : decode cX11_ring 73 = .ok (.invokevirtual 262, 3) := by decide +kernel
theorem dX11_ring_76 : decode cX11_ring 76 = .ok (.aload_n 0, 1) := by decide +kernel
theorem dX11_ring_77 : decode cX11_ring 77 = .ok (.iload_n 1, 1) := by decide +kernel
theorem dX11_ring_78 : decode cX11_ring 78 = .ok (.invokevirtual 309, 3) := by decide +kernel
theorem dX11_ring_81 : decode cX11_ring 81 = .ok (.istore 4, 2) := by decide +kernel
theorem dX11_ring_83 : decode cX11_ring 83 = .ok (.aload_n 0, 1) := by decide +kernel
theorem dX11_ring_84 : decode cX11_ring 84 = .ok (.getfield 33, 3) := by decide +kernel
theorem dX11_ring_87 : decode cX11_ring 87 = .ok (.aload_n 0, 1) := by decide +kernel
theorem dX11_ring_88 : decode cX11_ring 88 = .ok (.getfield 29, 3) := by decide +kernel
theorem dX11_ring_91 : decode cX11_ring 91 = .ok (.invokevirtual 312, 3) := by decide +kernel
theorem dX11_ring_94 : decode cX11_ring 94 = .ok (.aload_n 0, 1) := by decide +kernel
theorem dX11_ring_95 : decode cX11_ring 95 = .ok (.getfield 67, 3) := by decide +kernel
theorem dX11_ring_98 : decode cX11_ring 98 = .ok (.aload_n 0, 1) := by decide +kernel
theorem dX11_ring_99 : decode cX11_ring 99 = .ok (.getfield 33, 3) := by decide +kernel
theorem dX11_ring_102 : decode cX11_ring 102 = .ok (.iload_n 3, 1) := by decide +kernel
theorem dX11_ring_103 : decode cX11_ring 103 = .ok (.invokevirtual 262, 3) := by decide +kernel
theorem dX11_ring_106 : decode cX11_ring 106 = .ok (.iload_n 2, 1) := by decide +kernel
theorem dX11_ring_107 : decode cX11_ring 107 = .ok (.ifCond .ne 12, 3) := by decide +kernel
theorem dX11_ring_110 : decode cX11_ring 110 = .ok (.iload 4, 2) := by decide +kernel
theorem dX11_ring_112 : decode cX11_ring 112 = .ok (.aload_n 0, 1) := by decide +kernel
theorem dX11_ring_113 : decode cX11_ring 113 = .ok (.iload_n 1, 1) := by decide +kernel
theorem dX11_ring_114 : decode cX11_ring 114 = .ok (.invokevirtual 309, 3) := by decide +kernel
theorem dX11_ring_117 : decode cX11_ring 117 = .ok (.isub, 1) := by decide +kernel
theorem dX11_ring_118 : decode cX11_ring 118 = .ok (.ireturn, 1) := by decide +kernel
theorem dX11_ring_119 : decode cX11_ring 119 = .ok (.aload_n 0, 1) := by decide +kernel
theorem dX11_ring_120 : decode cX11_ring 120 = .ok (.iload_n 1, 1) := by decide +kernel
theorem dX11_ring_121 : decode cX11_ring 121 = .ok (.iload 4, 2) := by decide +kernel
theorem dX11_ring_123 : decode cX11_ring 123 = .ok (.iconst 1, 1) := by decide +kernel
theorem dX11_ring_124 : decode cX11_ring 124 = .ok (.iload_n 1, 1) := by decide +kernel
theorem dX11_ring_125 : decode cX11_ring 125 = .ok (.invokestatic 298, 3) := by decide +kernel
theorem dX11_ring_128 : decode cX11_ring 128 = .ok (.invokestatic 271, 3) := by decide +kernel
theorem dX11_ring_131 : decode cX11_ring 131 = .ok (.invokestatic 314, 3) := by decide +kernel
theorem dX11_ring_134 : decode cX11_ring 134 = .ok (.invokevirtual 317, 3) := by decide +kernel
theorem dX11_ring_137 : decode cX11_ring 137 = .ok (.ifCond .eq 7, 3) := by decide +kernel
theorem dX11_ring_140 : decode cX11_ring 140 = .ok (.iconst 1, 1) := by decide +kernel
theorem dX11_ring_141 : decode cX11_ring 141 = .ok (.goto 4, 3) := by decide +kernel
theorem dX11_ring_144 : decode cX11_ring 144 = .ok (.iconst 0, 1) := by decide +kernel
theorem dX11_ring_145 : decode cX11_ring 145 = .ok (.ireturn, 1) := by decide +kernel
theorem wd_1148 : (Jvm.Cond.code ({ cls := "SilentSale", name := "breath", desc := "(I)I" } : Jvm.MethodName) prog_1_method_25_code (4 : Nat) (Option.some Jvm.ClassFile.FieldType.int)) ∈ tb_L := tb_in (i := 1148) (by decide +kernel) (by decide +kernel)
theorem wd_1149 : (Jvm.Cond.methodLink "SilentSale" (321 : Nat) ({ cls := "SilentSale$Clerk", name := "passTillDecided", desc := "(LSilentSale$State;II)Z" } : Jvm.MethodName)) ∈ tb_L := tb_in (i := 1149) (by decide +kernel) (by decide +kernel)
theorem dX11_breath_0 : decode cX11_breath 0 = .ok (.aload_n 0, 1) := by decide +kernel
theorem dX11_breath_1 : decode cX11_breath 1 = .ok (.iload_n 1, 1) := by decide +kernel
theorem dX11_breath_2 : decode cX11_breath 2 = .ok (.invokevirtual 265, 3) := by decide +kernel
theorem dX11_breath_5 : decode cX11_breath 5 = .ok (.istore_n 2, 1) := by decide +kernel
theorem dX11_breath_6 : decode cX11_breath 6 = .ok (.iload_n 2, 1) := by decide +kernel
theorem dX11_breath_7 : decode cX11_breath 7 = .ok (.iconst (-1), 1) := by decide +kernel
theorem dX11_breath_8 : decode cX11_breath 8 = .ok (.if_icmp .ne 5, 3) := by decide +kernel
theorem dX11_breath_11 : decode cX11_breath 11 = .ok (.iconst (-1), 1) := by decide +kernel
theorem dX11_breath_12 : decode cX11_breath 12 = .ok (.ireturn, 1) := by decide +kernel
theorem dX11_breath_13 : decode cX11_breath 13 = .ok (.aload_n 0, 1) := by decide +kernel
theorem dX11_breath_14 : decode cX11_breath 14 = .ok (.invokevirtual 226, 3) := by decide +kernel
theorem dX11_breath_17 : decode cX11_breath 17 = .ok (.iconst 1, 1) := by decide +kernel
theorem dX11_breath_18 : decode cX11_breath 18 = .ok (.istore_n 3, 1) := by decide +kernel
theorem dX11_breath_19 : decode cX11_breath 19 = .ok (.iload_n 3, 1) := by decide +kernel
theorem dX11_breath_20 : decode cX11_breath 20 = .ok (.sipush 300, 3) := by decide +kernel
theorem dX11_breath_23 : decode cX11_breath 23 = .ok (.if_icmp .gt 48, 3) := by decide +kernel
theorem dX11_breath_26 : decode cX11_breath 26 = .ok (.aload_n 0, 1) := by decide +kernel
theorem dX11_breath_27 : decode cX11_breath 27 = .ok (.getfield 33, 3) := by decide +kernel
theorem dX11_breath_30 : decode cX11_breath 30 = .ok (.aload_n 0, 1) := by decide +kernel
theorem dX11_breath_31 : decode cX11_breath 31 = .ok (.getfield 29, 3) := by decide +kernel
theorem dX11_breath_34 : decode cX11_breath 34 = .ok (.invokevirtual 312, 3) := by decide +kernel
theorem dX11_breath_37 : decode cX11_breath 37 = .ok (.aload_n 0, 1) := by decide +kernel
theorem dX11_breath_38 : decode cX11_breath 38 = .ok (.getfield 33, 3) := by decide +kernel
theorem dX11_breath_41 : decode cX11_breath 41 = .ok (.getfield 144, 3) := by decide +kernel
theorem dX11_breath_44 : decode cX11_breath 44 = .ok (.iload_n 1, 1) := by decide +kernel
theorem dX11_breath_45 : decode cX11_breath 45 = .ok (.iload_n 3, 1) := by decide +kernel
theorem dX11_breath_46 : decode cX11_breath 46 = .ok (.iastore, 1) := by decide +kernel
theorem dX11_breath_47 : decode cX11_breath 47 = .ok (.aload_n 0, 1) := by decide +kernel
theorem dX11_breath_48 : decode cX11_breath 48 = .ok (.getfield 67, 3) := by decide +kernel
theorem dX11_breath_51 : decode cX11_breath 51 = .ok (.aload_n 0, 1) := by decide +kernel
theorem dX11_breath_52 : decode cX11_breath 52 = .ok (.getfield 33, 3) := by decide +kernel
theorem dX11_breath_55 : decode cX11_breath 55 = .ok (.iload_n 2, 1) := by decide +kernel
theorem dX11_breath_56 : decode cX11_breath 56 = .ok (.iload_n 1, 1) := by decide +kernel
theorem dX11_breath_57 : decode cX11_breath 57 = .ok (.invokevirtual 321, 3) := by decide +kernel
theorem dX11_breath_60 : decode cX11_breath 60 = .ok (.ifCond .eq 5, 3) := by decide +kernel
theorem dX11_breath_63 : decode cX11_breath 63 = .ok (.iload_n 3, 1) := by decide +kernel
theorem dX11_breath_64 : decode cX11_breath 64 = .ok (.ireturn, 1) := by decide +kernel
theorem dX11_breath_65 : decode cX11_breath 65 = .ok (.iinc 3 1, 3) := by decide +kernel
theorem dX11_breath_68 : decode cX11_breath 68 = .ok (.goto (-49), 3) := by decide +kernel
theorem dX11_breath_71 : decode cX11_breath 71 = .ok (.bipush (-2), 2) := by decide +kernel
theorem dX11_breath_73 : decode cX11_breath 73 = .ok (.ireturn, 1) := by decide +kernel
theorem wd_512 : (Jvm.Cond.fieldLink "SilentSale" (99 : Nat) "SilentSale" "x" "I") ∈ tb_L := tb_in (i := 512) (by decide +kernel) (by decide +kernel)
theorem wd_850 : (Jvm.Cond.methodLink "SilentSale" (216 : Nat) ({ cls := "SilentSale$State", name := "allPaid", desc := "()I" } : Jvm.MethodName)) ∈ tb_L := tb_in (i := 850) (by decide +kernel) (by decide +kernel)
theorem wd_851 : (Jvm.Cond.instanceMethod ({ cls := "SilentSale$State", name := "allPaid", desc := "()I" } : Jvm.MethodName)) ∈ tb_L := tb_in (i := 851) (by decide +kernel) (by decide +kernel)
theorem wd_852 : (Jvm.Cond.selects "SilentSale$State" ({ cls := "SilentSale$State", name := "allPaid", desc := "()I" } : Jvm.MethodName) ({ cls := "SilentSale$State", name := "allPaid", desc := "()I" } : Jvm.MethodName)) ∈ tb_L := tb_in (i := 852) (by decide +kernel) (by decide +kernel)
theorem wd_1204 : (Jvm.Cond.code ({ cls := "SilentSale", name := "coughs", desc := "(IIII)I" } : Jvm.MethodName) prog_1_method_30_code (8 : Nat) (Option.some Jvm.ClassFile.FieldType.int)) ∈ tb_L := tb_in (i := 1204) (by decide +kernel) (by decide +kernel)
theorem wd_1205 : (Jvm.Cond.methodLink "SilentSale" (344 : Nat) ({ cls := "SilentSale$Clerk", name := "drawFrom", desc := "(I)V" } : Jvm.MethodName)) ∈ tb_L := tb_in (i := 1205) (by decide +kernel) (by decide +kernel)
theorem wd_1206 : (Jvm.Cond.instanceMethod ({ cls := "SilentSale$Clerk", name := "drawFrom", desc := "(I)V" } : Jvm.MethodName)) ∈ tb_L := tb_in (i := 1206) (by decide +kernel) (by decide +kernel)
theorem wd_1207 : (Jvm.Cond.selects "SilentSale$Clerk" ({ cls := "SilentSale$Clerk", name := "drawFrom", desc := "(I)V" } : Jvm.MethodName) ({ cls := "SilentSale$Clerk", name := "drawFrom", desc := "(I)V" } : Jvm.MethodName)) ∈ tb_L := tb_in (i := 1207) (by decide +kernel) (by decide +kernel)
theorem wd_1209 : (Jvm.Cond.methodLink "SilentSale" (347 : Nat) ({ cls := "SilentSale$Clerk", name := "drawCoughs", desc := "(LSilentSale$State;I)I" } : Jvm.MethodName)) ∈ tb_L := tb_in (i := 1209) (by decide +kernel) (by decide +kernel)
theorem wd_1210 : (Jvm.Cond.instanceMethod ({ cls := "SilentSale$Clerk", name := "drawCoughs", desc := "(LSilentSale$State;I)I" } : Jvm.MethodName)) ∈ tb_L := tb_in (i := 1210) (by decide +kernel) (by decide +kernel)
theorem wd_1211 : (Jvm.Cond.selects "SilentSale$Clerk" ({ cls := "SilentSale$Clerk", name := "drawCoughs", desc := "(LSilentSale$State;I)I" } : Jvm.MethodName) ({ cls := "SilentSale$Clerk", name := "drawCoughs", desc := "(LSilentSale$State;I)I" } : Jvm.MethodName)) ∈ tb_L := tb_in (i := 1211) (by decide +kernel) (by decide +kernel)
theorem wd_1219 : (Jvm.Cond.methodLink "SilentSale" (350 : Nat) ({ cls := "SilentSale$State", name := "lotsHad", desc := "()I" } : Jvm.MethodName)) ∈ tb_L := tb_in (i := 1219) (by decide +kernel) (by decide +kernel)
theorem wd_1220 : (Jvm.Cond.instanceMethod ({ cls := "SilentSale$State", name := "lotsHad", desc := "()I" } : Jvm.MethodName)) ∈ tb_L := tb_in (i := 1220) (by decide +kernel) (by decide +kernel)
theorem wd_1221 : (Jvm.Cond.selects "SilentSale$State" ({ cls := "SilentSale$State", name := "lotsHad", desc := "()I" } : Jvm.MethodName) ({ cls := "SilentSale$State", name := "lotsHad", desc := "()I" } : Jvm.MethodName)) ∈ tb_L := tb_in (i := 1221) (by decide +kernel) (by decide +kernel)
theorem dX11_coughs_0 : decode cX11_coughs 0 = .ok (.aload_n 0, 1) := by decide +kernel
theorem dX11_coughs_1 : decode cX11_coughs 1 = .ok (.invokevirtual 251, 3) := by decide +kernel
theorem dX11_coughs_4 : decode cX11_coughs 4 = .ok (.ifCond .eq 25, 3) := by decide +kernel
theorem dX11_coughs_7 : decode cX11_coughs 7 = .ok (.iload_n 1, 1) := by decide +kernel
theorem dX11_coughs_8 : decode cX11_coughs 8 = .ok (.iconst 1, 1) := by decide +kernel
theorem dX11_coughs_9 : decode cX11_coughs 9 = .ok (.if_icmp .lt 20, 3) := by decide +kernel
theorem dX11_coughs_12 : decode cX11_coughs 12 = .ok (.iload_n 1, 1) := by decide +kernel
theorem dX11_coughs_13 : decode cX11_coughs 13 = .ok (.bipush 10, 2) := by decide +kernel
theorem dX11_coughs_15 : decode cX11_coughs 15 = .ok (.if_icmp .gt 14, 3) := by decide +kernel
theorem dX11_coughs_18 : decode cX11_coughs 18 = .ok (.iload_n 2, 1) := by decide +kernel
theorem dX11_coughs_19 : decode cX11_coughs 19 = .ok (.iconst 1, 1) := by decide +kernel
theorem dX11_coughs_20 : decode cX11_coughs 20 = .ok (.if_icmp .lt 9, 3) := by decide +kernel
theorem dX11_coughs_23 : decode cX11_coughs 23 = .ok (.iload_n 2, 1) := by decide +kernel
theorem dX11_coughs_24 : decode cX11_coughs 24 = .ok (.bipush 60, 2) := by decide +kernel
theorem dX11_coughs_26 : decode cX11_coughs 26 = .ok (.if_icmp .le 5, 3) := by decide +kernel
theorem dX11_coughs_29 : decode cX11_coughs 29 = .ok (.iconst (-1), 1) := by decide +kernel
theorem dX11_coughs_30 : decode cX11_coughs 30 = .ok (.ireturn, 1) := by decide +kernel
theorem dX11_coughs_31 : decode cX11_coughs 31 = .ok (.iload_n 3, 1) := by decide +kernel
theorem dX11_coughs_32 : decode cX11_coughs 32 = .ok (.ifCond .lt 20, 3) := by decide +kernel
theorem dX11_coughs_35 : decode cX11_coughs 35 = .ok (.iload_n 3, 1) := by decide +kernel
theorem dX11_coughs_36 : decode cX11_coughs 36 = .ok (.bipush 100, 2) := by decide +kernel
theorem dX11_coughs_38 : decode cX11_coughs 38 = .ok (.if_icmp .gt 14, 3) := by decide +kernel
theorem dX11_coughs_41 : decode cX11_coughs 41 = .ok (.iload 4, 2) := by decide +kernel
theorem dX11_coughs_43 : decode cX11_coughs 43 = .ok (.ifCond .lt 9, 3) := by decide +kernel
theorem dX11_coughs_46 : decode cX11_coughs 46 = .ok (.iload 4, 2) := by decide +kernel
theorem dX11_coughs_48 : decode cX11_coughs 48 = .ok (.iconst 1, 1) := by decide +kernel
theorem dX11_coughs_49 : decode cX11_coughs 49 = .ok (.if_icmp .le 5, 3) := by decide +kernel
theorem dX11_coughs_52 : decode cX11_coughs 52 = .ok (.iconst (-1), 1) := by decide +kernel
theorem dX11_coughs_53 : decode cX11_coughs 53 = .ok (.ireturn, 1) := by decide +kernel
theorem dX11_coughs_54 : decode cX11_coughs 54 = .ok (.aload_n 0, 1) := by decide +kernel
theorem dX11_coughs_55 : decode cX11_coughs 55 = .ok (.invokevirtual 226, 3) := by decide +kernel
theorem dX11_coughs_58 : decode cX11_coughs 58 = .ok (.aload_n 0, 1) := by decide +kernel
theorem dX11_coughs_59 : decode cX11_coughs 59 = .ok (.getfield 67, 3) := by decide +kernel
theorem dX11_coughs_62 : decode cX11_coughs 62 = .ok (.aload_n 0, 1) := by decide +kernel
theorem dX11_coughs_63 : decode cX11_coughs 63 = .ok (.getfield 99, 3) := by decide +kernel
theorem dX11_coughs_66 : decode cX11_coughs 66 = .ok (.invokevirtual 344, 3) := by decide +kernel
theorem dX11_coughs_69 : decode cX11_coughs 69 = .ok (.iconst 0, 1) := by decide +kernel
theorem dX11_coughs_70 : decode cX11_coughs 70 = .ok (.istore 5, 2) := by decide +kernel
theorem dX11_coughs_72 : decode cX11_coughs 72 = .ok (.iconst 0, 1) := by decide +kernel
theorem dX11_coughs_73 : decode cX11_coughs 73 = .ok (.istore 6, 2) := by decide +kernel
theorem dX11_coughs_75 : decode cX11_coughs 75 = .ok (.iload 6, 2) := by decide +kernel
theorem dX11_coughs_77 : decode cX11_coughs 77 = .ok (.iload_n 1, 1) := by decide +kernel
theorem dX11_coughs_78 : decode cX11_coughs 78 = .ok (.if_icmp .ge 113, 3) := by decide +kernel
theorem dX11_coughs_81 : decode cX11_coughs 81 = .ok (.aload_n 0, 1) := by decide +kernel
theorem dX11_coughs_82 : decode cX11_coughs 82 = .ok (.getfield 33, 3) := by decide +kernel
theorem dX11_coughs_85 : decode cX11_coughs 85 = .ok (.aload_n 0, 1) := by decide +kernel
theorem dX11_coughs_86 : decode cX11_coughs 86 = .ok (.getfield 29, 3) := by decide +kernel
theorem dX11_coughs_89 : decode cX11_coughs 89 = .ok (.invokevirtual 312, 3) := by decide +kernel
theorem dX11_coughs_92 : decode cX11_coughs 92 = .ok (.iconst 0, 1) := by decide +kernel
theorem dX11_coughs_93 : decode cX11_coughs 93 = .ok (.istore 7, 2) := by decide +kernel
theorem dX11_coughs_95 : decode cX11_coughs 95 = .ok (.iload 7, 2) := by decide +kernel
theorem dX11_coughs_97 : decode cX11_coughs 97 = .ok (.iload_n 2, 1) := by decide +kernel
theorem dX11_coughs_98 : decode cX11_coughs 98 = .ok (.if_icmp .ge 44, 3) := by decide +kernel
theorem dX11_coughs_101 : decode cX11_coughs 101 = .ok (.aload_n 0, 1) := by decide +kernel
theorem dX11_coughs_102 : decode cX11_coughs 102 = .ok (.getfield 33, 3) := by decide +kernel
theorem dX11_coughs_105 : decode cX11_coughs 105 = .ok (.iconst 1, 1) := by decide +kernel
theorem dX11_coughs_106 : decode cX11_coughs 106 = .ok (.invokevirtual 213, 3) := by decide +kernel
theorem dX11_coughs_109 : decode cX11_coughs 109 = .ok (.ifCond .eq 33, 3) := by decide +kernel
theorem dX11_coughs_112 : decode cX11_coughs 112 = .ok (.aload_n 0, 1) := by decide +kernel
theorem dX11_coughs_113 : decode cX11_coughs 113 = .ok (.getfield 67, 3) := by decide +kernel
theorem dX11_coughs_116 : decode cX11_coughs 116 = .ok (.aload_n 0, 1) := by decide +kernel
theorem dX11_coughs_117 : decode cX11_coughs 117 = .ok (.getfield 33, 3) := by decide +kernel
theorem dX11_coughs_120 : decode cX11_coughs 120 = .ok (.aload_n 0, 1) := by decide +kernel
theorem dX11_coughs_121 : decode cX11_coughs 121 = .ok (.getfield 67, 3) := by decide +kernel
theorem dX11_coughs_124 : decode cX11_coughs 124 = .ok (.aload_n 0, 1) := by decide +kernel
theorem dX11_coughs_125 : decode cX11_coughs 125 = .ok (.getfield 33, 3) := by decide +kernel
theorem dX11_coughs_128 : decode cX11_coughs 128 = .ok (.iload_n 3, 1) := by decide +kernel
theorem dX11_coughs_129 : decode cX11_coughs 129 = .ok (.invokevirtual 347, 3) := by decide +kernel
theorem dX11_coughs_132 : decode cX11_coughs 132 = .ok (.invokevirtual 229, 3) := by decide +kernel
theorem dX11_coughs_135 : decode cX11_coughs 135 = .ok (.pop, 1) := by decide +kernel
theorem dX11_coughs_136 : decode cX11_coughs 136 = .ok (.iinc 7 1, 3) := by decide +kernel
theorem dX11_coughs_139 : decode cX11_coughs 139 = .ok (.goto (-44), 3) := by decide +kernel
theorem dX11_coughs_142 : decode cX11_coughs 142 = .ok (.iload 5, 2) := by decide +kernel
theorem dX11_coughs_144 : decode cX11_coughs 144 = .ok (.iload 4, 2) := by decide +kernel
theorem dX11_coughs_146 : decode cX11_coughs 146 = .ok (.ifCond .ne 21, 3) := by decide +kernel
theorem dX11_coughs_149 : decode cX11_coughs 149 = .ok (.aload_n 0, 1) := by decide +kernel
theorem dX11_coughs_150 : decode cX11_coughs 150 = .ok (.getfield 33, 3) := by decide +kernel
theorem dX11_coughs_153 : decode cX11_coughs 153 = .ok (.invokevirtual 350, 3) := by decide +kernel
theorem dX11_coughs_156 : decode cX11_coughs 156 = .ok (.aload_n 0, 1) := by decide +kernel
theorem dX11_coughs_157 : decode cX11_coughs 157 = .ok (.getfield 29, 3) := by decide +kernel
theorem dX11_coughs_160 : decode cX11_coughs 160 = .ok (.invokevirtual 350, 3) := by decide +kernel
theorem dX11_coughs_163 : decode cX11_coughs 163 = .ok (.isub, 1) := by decide +kernel
theorem dX11_coughs_164 : decode cX11_coughs 164 = .ok (.goto 18, 3) := by decide +kernel
theorem dX11_coughs_167 : decode cX11_coughs 167 = .ok (.aload_n 0, 1) := by decide +kernel
theorem dX11_coughs_168 : decode cX11_coughs 168 = .ok (.getfield 33, 3) := by decide +kernel
theorem dX11_coughs_171 : decode cX11_coughs 171 = .ok (.invokevirtual 216, 3) := by decide +kernel
theorem dX11_coughs_174 : decode cX11_coughs 174 = .ok (.aload_n 0, 1) := by decide +kernel
theorem dX11_coughs_175 : decode cX11_coughs 175 = .ok (.getfield 29, 3) := by decide +kernel
theorem dX11_coughs_178 : decode cX11_coughs 178 = .ok (.invokevirtual 216, 3) := by decide +kernel
theorem dX11_coughs_181 : decode cX11_coughs 181 = .ok (.isub, 1) := by decide +kernel
theorem dX11_coughs_182 : decode cX11_coughs 182 = .ok (.iadd, 1) := by decide +kernel
theorem dX11_coughs_183 : decode cX11_coughs 183 = .ok (.istore 5, 2) := by decide +kernel
theorem dX11_coughs_185 : decode cX11_coughs 185 = .ok (.iinc 6 1, 3) := by decide +kernel
theorem dX11_coughs_188 : decode cX11_coughs 188 = .ok (.goto (-113), 3) := by decide +kernel
theorem dX11_coughs_191 : decode cX11_coughs 191 = .ok (.iload 5, 2) := by decide +kernel
theorem dX11_coughs_193 : decode cX11_coughs 193 = .ok (.ireturn, 1) := by decide +kernel
set_option maxHeartbeats 4000000 in
set_option maxRecDepth 100000 in
theorem d_roomOfAll (l : Launch) (G : gg_T) (Γ : Nat → Nat) (sz : Nat) (wt : va_W) (hT : tk_ty G Γ wt) (b : Int32) (tp : Nat) (h0 : Nat) (ra1 : Nat) (ra2 : Nat) (ra3 : Nat) (ra4 : Nat) (ra5 : Nat) (ra6 : Nat) (ra7 : Nat) (ra8 : Nat) (ra9 : Nat) (ra10 : Nat) (ra11 : Nat) (ra12 : Nat) (rc : Int32) (fo : Int32) (xx : Int32) (kr1 : Γ ra1 = 10) (kr2 : Γ ra2 = 10) (kr3 : Γ ra3 = 8) (kr4 : Γ ra4 = 8) (kr5 : Γ ra5 = 4) (kr6 : Γ ra6 = 3) (kr7 : Γ ra7 = 41) (kr9 : Γ ra9 = 1) (kr10 : Γ ra10 = 6) (kr11 : Γ ra11 = 11) (kr12 : Γ ra12 = 7) (xr1 : 0 ≤ rc.toInt) (xr2 : rc.toInt ≤ 6) : Met l yX11_roomOfAll (ts_L yX11_roomOfAll cX11_roomOfAll 3 (some .int)) ({ frames := 0, cells := 0, slots := 0, locals := 0 }) (gc_P G ([(h0, .inr (11, [.ref tp, .ref ra1, .ref ra2, .ref ra3, .ref ra4, .ref ra5, .ref ra6, .ref ra7, .ref ra8, .ref ra9, .ref ra10, .ref ra11, .ref ra12, .int rc, .int fo, .int xx]))] ++ wt) sz [.ref h0, .int b]) (gc_I G (va_A ([(h0, .inr (11, [.ref tp, .ref ra1, .ref ra2, .ref ra3, .ref ra4, .ref ra5, .ref ra6, .ref ra7, .ref ra8, .ref ra9, .ref ra10, .ref ra11, .ref ra12, .int rc, .int fo, .int xx]))] ++ wt) sz) (fun r (u : va_W) => match u with | wt1 => tk_ty G Γ wt1 ∧ tk_kp [] wt wt1 ∧ -1 ≤ r.toInt ∧ r.toInt ≤ 2 ∧ (r.toInt = -1 ∨ (0 ≤ b.toInt ∧ b.toInt ≤ 31))) (fun (u : va_W) => match u with | wt1 => [(h0, .inr (11, [.ref tp, .ref ra1, .ref ra2, .ref ra3, .ref ra4, .ref ra5, .ref ra6, .ref ra7, .ref ra8, .ref ra9, .ref ra10, .ref ra11, .ref ra12, .int rc, .int fo, .int xx]))] ++ wt1)) 0 0 (va_A ([(h0, .inr (11, [.ref tp, .ref ra1, .ref ra2, .ref ra3, .ref ra4, .ref ra5, .ref ra6, .ref ra7, .ref ra8, .ref ra9, .ref ra10, .ref ra11, .ref ra12, .int rc, .int fo, .int xx]))] ++ wt) sz) := by
  refine Met.ofW (cc := cX11_roomOfAll) (maxL := 3) (ret := (some .int)) (by decide) rfl ?_
  intro p e s m args below meth c s₁ B hml hv
  obtain ⟨rfl, hsz, hP, hK, hD0⟩ := hv
  have hx := B.exec
  have hb := B.bytes
  have hr := B.returns
  have ht := ts_ht (atoms_spec (ws := ts_L yX11_roomOfAll cX11_roomOfAll 3 (some .int)) B.pre)
  have hown : s.vm.findClass RX11 = some m.cls := findClass_of_methodNamed B.named
  have hlocks := B.notSynchronized
  subst hsz
  have hD := hD0.self (sz := s.heap.size)
  generalize hAe : va_A ([(h0, .inr (11, [.ref tp, .ref ra1, .ref ra2, .ref ra3, .ref ra4, .ref ra5, .ref ra6, .ref ra7, .ref ra8, .ref ra9, .ref ra10, .ref ra11, .ref ra12, .int rc, .int fo, .int xx]))] ++ wt) s.heap.size = A at hD ⊢
  have hA : ∀ q : Nat, s.heap.size ≤ q → A q := fun q h => by rw [← hAe]; exact Or.inr h
  clear hAe hD0
  have hS : va_S A s.heap s.heap [] := va_S.rf
  obtain ⟨w0, hw0⟩ : ∃ z, z = wt := ⟨_, rfl⟩
  have hW : tk_kp [] w0 wt := by rw [hw0]; exact tk_kp.rf
  rw [← hw0]
  clear hw0
  have hP : va_P (gg_D G) classes ([(h0, .inr (11, [.ref tp, .ref ra1, .ref ra2, .ref ra3, .ref ra4, .ref ra5, .ref ra6, .ref ra7, .ref ra8, .ref ra9, .ref ra10, .ref ra11, .ref ra12, .int rc, .int fo, .int xx]))] ++ wt) s.heap := hP
  have hD : va_D A ([(h0, .inr (11, [.ref tp, .ref ra1, .ref ra2, .ref ra3, .ref ra4, .ref ra5, .ref ra6, .ref ra7, .ref ra8, .ref ra9, .ref ra10, .ref ra11, .ref ra12, .int rc, .int fo, .int xx]))] ++ wt) := hD
  have hl := lv_entry ([.ref h0, .int b]) (n := 3) (Nat.le_of_ble_eq_true rfl)
  rw [lg_entry_eq]
  generalize (lg_sl ([.ref h0, .int b]) ++ List.replicate (3 - (lg_sl ([.ref h0, .int b])).length) Slot.unset).toArray = ls at hl ⊢
  have hl : lv_has ls 3 [(0, .ref h0), (1, .int b)] := hl
  have lm1 : ((-1) : Int32).toInt = -1 := by decide +kernel
  have l0 : (0 : Int32).toInt = 0 := by decide +kernel
  have l1 : (1 : Int32).toInt = 1 := by decide +kernel
  refine lv_iconst (v := 0) hx hb dX11_roomOfAll_0 (by decide +kernel) ?_
  refine lv_istore_n (lv' := [(2, .int 0), (0, .ref h0), (1, .int b)]) hx hb dX11_roomOfAll_1 rfl hl (by decide) rfl (fun ls hl => ?_)
  refine tl_loopE (Γ := Γ) (nL := 3) (fun (zz_ : Int32) => match zz_ with | x2_0 => 0 ≤ x2_0.toInt ∧ x2_0.toInt ≤ 3) (fun (zz_ : Int32) => match zz_ with | x2_0 => (3 - x2_0.toInt).toNat) (fun (zz_ : Int32) => match zz_ with | x2_0 => [(2, .int x2_0), (0, .ref h0), (1, .int b)]) (fun (zz_ : Int32) => match zz_ with | x2_0 => [(h0, .inr (11, [.ref tp, .ref ra1, .ref ra2, .ref ra3, .ref ra4, .ref ra5, .ref ra6, .ref ra7, .ref ra8, .ref ra9, .ref ra10, .ref ra11, .ref ra12, .int rc, .int fo, .int xx]))]) (fun (zz_ : Int32) (w : va_W) => match zz_ with | x2_0 => tk_kp [] w0 w) (fun zz_ hI H locs wt ls hT hW hP hD hS hl ih2 => ?_) 0 (show 0 ≤ (0 : Int32).toInt ∧ (0 : Int32).toInt ≤ 3 from ⟨by omega, by omega⟩) _ _ wt ls hT hW hP hD hS hl
  obtain ⟨x2_0, rfl⟩ : ∃ z2, z2 = zz_ := ⟨_, rfl⟩
  have hW : tk_kp [] w0 wt := hW
  have hI : 0 ≤ x2_0.toInt ∧ x2_0.toInt ≤ 3 := hI
  obtain ⟨j2_0, j2_1⟩ := hI
  have hl : lv_has ls 3 [(2, .int x2_0), (0, .ref h0), (1, .int b)] := hl
  have hP : va_P (gg_D G) classes ([(h0, .inr (11, [.ref tp, .ref ra1, .ref ra2, .ref ra3, .ref ra4, .ref ra5, .ref ra6, .ref ra7, .ref ra8, .ref ra9, .ref ra10, .ref ra11, .ref ra12, .int rc, .int fo, .int xx]))] ++ wt) H := hP
  have hD : va_D A ([(h0, .inr (11, [.ref tp, .ref ra1, .ref ra2, .ref ra3, .ref ra4, .ref ra5, .ref ra6, .ref ra7, .ref ra8, .ref ra9, .ref ra10, .ref ra11, .ref ra12, .int rc, .int fo, .int xx]))] ++ wt) := hD
  refine lv_iload_n hx hb dX11_roomOfAll_2 rfl (lv_at hl 0 rfl) ?_
  refine lv_aload_n hx hb dX11_roomOfAll_3 rfl (lv_at hl 1 rfl) ?_
  refine gq_get hx hb ht hown hK hP i_X11 0 rfl rfl 1 (by decide) wd_498 rfl rfl dX11_roomOfAll_4 ?_
  refine tr_get (ci := 9) hx hb ht hown hK hT hP kr1 (by decide) i_X9 rfl 2 (by decide) wd_190 rfl dX11_roomOfAll_7 (fun v hv hf_1 => ?_)
  obtain ⟨n_2, rfl, lo_n_2, hi_n_2⟩ := hv
  refine lv_icmp_ge (tgt := 37) hx hb dX11_roomOfAll_10 (by decide) (fun c_3 => ?_) (fun c_3 => ?_)
  · rw [Int32.le_iff_toInt_le] at c_3
    refine lv_iconst (v := (-1)) hx hb dX11_roomOfAll_37 (by decide +kernel) ?_
    have hP9 : va_P (gg_D G) classes ([(h0, .inr (11, [.ref tp, .ref ra1, .ref ra2, .ref ra3, .ref ra4, .ref ra5, .ref ra6, .ref ra7, .ref ra8, .ref ra9, .ref ra10, .ref ra11, .ref ra12, .int rc, .int fo, .int xx]))] ++ wt) _ := hP
    have hD9 : va_D A ([(h0, .inr (11, [.ref tp, .ref ra1, .ref ra2, .ref ra3, .ref ra4, .ref ra5, .ref ra6, .ref ra7, .ref ra8, .ref ra9, .ref ra10, .ref ra11, .ref ra12, .int rc, .int fo, .int xx]))] ++ wt) := hD
    exact W.iret (v := (-1)) hx hb hr (gq_endI wt ⟨hT, hW, (by omega), (by omega), (by omega)⟩ hP9 hD9 hS) hS.2.2 dX11_roomOfAll_38
  · rw [Int32.le_iff_toInt_le] at c_3
    refine lv_iload_n hx hb dX11_roomOfAll_13 rfl (lv_at hl 2 rfl) ?_
    refine lv_aload_n hx hb dX11_roomOfAll_14 rfl (lv_at hl 1 rfl) ?_
    refine gq_get hx hb ht hown hK hP i_X11 0 rfl rfl 3 (by decide) wd_500 rfl rfl dX11_roomOfAll_15 ?_
    refine tr_get (ci := 7) hx hb ht hown hK hT hP kr3 (by decide) i_X7 rfl 8 (by decide) wd_264 rfl dX11_roomOfAll_18 (fun v hv hf_4 => ?_)
    obtain ⟨q_5, rfl, hq_5⟩ := hv
    refine lv_iload_n hx hb dX11_roomOfAll_21 rfl (lv_at hl 0 rfl) ?_
    refine tr_iald hx hb hK hT hP 22 hq_5 (by decide) (by decide) (show vp_in _ (tk_len 22) from ia_in (n := 3) (by omega) (by omega)) dX11_roomOfAll_22 (fun n_6 hn_6 => ?_)
    have hn_6 : 0 ≤ n_6.toInt ∧ n_6.toInt ≤ 31 := hn_6
    refine lv_iconst (v := (-1)) hx hb dX11_roomOfAll_23 (by decide +kernel) ?_
    refine lv_ixor hx hb dX11_roomOfAll_24 ?_
    refine lv_topi (fun t_7 et_7 => ?_)
    obtain ⟨t_8, et_8⟩ : ∃ zz_ : Int32, b &&& t_7 = zz_ := ⟨_, rfl⟩
    refine gq_iand hx hb t_8 et_8 dX11_roomOfAll_25 ?_
    have mt_8 := ia_sub31 et_7 et_8 (by omega) (by omega)
    refine lv_if_ne (tgt := 31) hx hb dX11_roomOfAll_26 (by decide) (fun c_9 => ?_) (fun c_9 => ?_)
    · rw [← Int32.toInt_inj] at c_9
      obtain ⟨t_10, et_10⟩ : ∃ zz_ : Int32, x2_0 + Int32.ofInt (1) = zz_ := ⟨_, rfl⟩
      have ft_10 : t_10.toInt = x2_0.toInt + (1 : Int32).toInt := ia_add (y := 1) et_10 (by omega) (by omega)
      refine lv_iinc (v := t_10) (lv' := [(2, .int t_10), (0, .ref h0), (1, .int b)]) hx hb dX11_roomOfAll_31 hl (k := 0) rfl et_10 (by decide) rfl (fun ls hl => ?_)
      refine lv_goto (tgt := 2) hx hb dX11_roomOfAll_34 (by decide) ?_
      exact ih2 t_10 (show 0 ≤ t_10.toInt ∧ t_10.toInt ≤ 3 from ⟨by omega, by omega⟩) (show (3 - t_10.toInt).toNat < (3 - x2_0.toInt).toNat by omega) H locs wt ls hT hW hP hD hS (lv_sub hl [0, 1, 2] rfl)
    · rw [← Int32.toInt_inj] at c_9
      refine lv_iload_n hx hb dX11_roomOfAll_29 rfl (lv_at hl 0 rfl) ?_
      have hP9 : va_P (gg_D G) classes ([(h0, .inr (11, [.ref tp, .ref ra1, .ref ra2, .ref ra3, .ref ra4, .ref ra5, .ref ra6, .ref ra7, .ref ra8, .ref ra9, .ref ra10, .ref ra11, .ref ra12, .int rc, .int fo, .int xx]))] ++ wt) _ := hP
      have hD9 : va_D A ([(h0, .inr (11, [.ref tp, .ref ra1, .ref ra2, .ref ra3, .ref ra4, .ref ra5, .ref ra6, .ref ra7, .ref ra8, .ref ra9, .ref ra10, .ref ra11, .ref ra12, .int rc, .int fo, .int xx]))] ++ wt) := hD
      exact W.iret (v := x2_0) hx hb hr (gq_endI wt ⟨hT, hW, (by omega), (by omega), (by omega)⟩ hP9 hD9 hS) hS.2.2 dX11_roomOfAll_30
set_option maxHeartbeats 4000000 in
set_option maxRecDepth 100000 in
theorem d_roomOf (l : Launch) (G : gg_T) (Γ : Nat → Nat) (sz : Nat) (wt : va_W) (hT : tk_ty G Γ wt) (b : Int32) (tp : Nat) (h0 : Nat) (ra1 : Nat) (ra2 : Nat) (ra3 : Nat) (ra4 : Nat) (ra5 : Nat) (ra6 : Nat) (ra7 : Nat) (ra8 : Nat) (ra9 : Nat) (ra10 : Nat) (ra11 : Nat) (ra12 : Nat) (rc : Int32) (fo : Int32) (xx : Int32) (kr1 : Γ ra1 = 10) (kr2 : Γ ra2 = 10) (kr3 : Γ ra3 = 8) (kr4 : Γ ra4 = 8) (kr5 : Γ ra5 = 4) (kr6 : Γ ra6 = 3) (kr7 : Γ ra7 = 41) (kr9 : Γ ra9 = 1) (kr10 : Γ ra10 = 6) (kr11 : Γ ra11 = 11) (kr12 : Γ ra12 = 7) (xr1 : 0 ≤ rc.toInt) (xr2 : rc.toInt ≤ 6) : Met l yX11_roomOf (ts_L yX11_roomOf cX11_roomOf 2 (some .int)) ({ frames := 1, cells := 0, slots := 0, locals := 22 }) (gc_P G ([(h0, .inr (11, [.ref tp, .ref ra1, .ref ra2, .ref ra3, .ref ra4, .ref ra5, .ref ra6, .ref ra7, .ref ra8, .ref ra9, .ref ra10, .ref ra11, .ref ra12, .int rc, .int fo, .int xx]))] ++ wt) sz [.ref h0, .int b]) (gc_I G (va_A ([(h0, .inr (11, [.ref tp, .ref ra1, .ref ra2, .ref ra3, .ref ra4, .ref ra5, .ref ra6, .ref ra7, .ref ra8, .ref ra9, .ref ra10, .ref ra11, .ref ra12, .int rc, .int fo, .int xx]))] ++ wt) sz) (fun r (u : va_W) => match u with | wt1 => tk_ty G Γ wt1 ∧ tk_kp [] wt wt1 ∧ -1 ≤ r.toInt ∧ r.toInt ≤ 2 ∧ (r.toInt = -1 ∨ (0 ≤ b.toInt ∧ b.toInt ≤ 4))) (fun (u : va_W) => match u with | wt1 => [(h0, .inr (11, [.ref tp, .ref ra1, .ref ra2, .ref ra3, .ref ra4, .ref ra5, .ref ra6, .ref ra7, .ref ra8, .ref ra9, .ref ra10, .ref ra11, .ref ra12, .int rc, .int fo, .int xx]))] ++ wt1)) 0 0 (va_A ([(h0, .inr (11, [.ref tp, .ref ra1, .ref ra2, .ref ra3, .ref ra4, .ref ra5, .ref ra6, .ref ra7, .ref ra8, .ref ra9, .ref ra10, .ref ra11, .ref ra12, .int rc, .int fo, .int xx]))] ++ wt) sz) := by
  refine Met.ofW (cc := cX11_roomOf) (maxL := 2) (ret := (some .int)) (by decide) rfl ?_
  intro p e s m args below meth c s₁ B hml hv
  obtain ⟨rfl, hsz, hP, hK, hD0⟩ := hv
  have hx := B.exec
  have hb := B.bytes
  have hr := B.returns
  have ht := ts_ht (atoms_spec (ws := ts_L yX11_roomOf cX11_roomOf 2 (some .int)) B.pre)
  have hown : s.vm.findClass RX11 = some m.cls := findClass_of_methodNamed B.named
  have hlocks := B.notSynchronized
  subst hsz
  have hD := hD0.self (sz := s.heap.size)
  generalize hAe : va_A ([(h0, .inr (11, [.ref tp, .ref ra1, .ref ra2, .ref ra3, .ref ra4, .ref ra5, .ref ra6, .ref ra7, .ref ra8, .ref ra9, .ref ra10, .ref ra11, .ref ra12, .int rc, .int fo, .int xx]))] ++ wt) s.heap.size = A at hD ⊢
  have hA : ∀ q : Nat, s.heap.size ≤ q → A q := fun q h => by rw [← hAe]; exact Or.inr h
  clear hAe hD0
  have hS : va_S A s.heap s.heap [] := va_S.rf
  obtain ⟨w0, hw0⟩ : ∃ z, z = wt := ⟨_, rfl⟩
  have hW : tk_kp [] w0 wt := by rw [hw0]; exact tk_kp.rf
  rw [← hw0]
  clear hw0
  have hP : va_P (gg_D G) classes ([(h0, .inr (11, [.ref tp, .ref ra1, .ref ra2, .ref ra3, .ref ra4, .ref ra5, .ref ra6, .ref ra7, .ref ra8, .ref ra9, .ref ra10, .ref ra11, .ref ra12, .int rc, .int fo, .int xx]))] ++ wt) s.heap := hP
  have hD : va_D A ([(h0, .inr (11, [.ref tp, .ref ra1, .ref ra2, .ref ra3, .ref ra4, .ref ra5, .ref ra6, .ref ra7, .ref ra8, .ref ra9, .ref ra10, .ref ra11, .ref ra12, .int rc, .int fo, .int xx]))] ++ wt) := hD
  have hl := lv_entry ([.ref h0, .int b]) (n := 2) (Nat.le_of_ble_eq_true rfl)
  rw [lg_entry_eq]
  generalize (lg_sl ([.ref h0, .int b]) ++ List.replicate (2 - (lg_sl ([.ref h0, .int b])).length) Slot.unset).toArray = ls at hl ⊢
  have hl : lv_has ls 2 [(0, .ref h0), (1, .int b)] := hl
  have lm1 : ((-1) : Int32).toInt = -1 := by decide +kernel
  have l0 : (0 : Int32).toInt = 0 := by decide +kernel
  refine lv_aload_n hx hb dX11_roomOf_0 rfl (lv_at hl 0 rfl) ?_
  refine lv_iload_n hx hb dX11_roomOf_1 rfl (lv_at hl 1 rfl) ?_
  have hP : va_P (gg_D G) classes ([] ++ ([(h0, .inr (11, [.ref tp, .ref ra1, .ref ra2, .ref ra3, .ref ra4, .ref ra5, .ref ra6, .ref ra7, .ref ra8, .ref ra9, .ref ra10, .ref ra11, .ref ra12, .int rc, .int fo, .int xx]))] ++ wt)) s.heap := hP
  have hD : va_D A ([] ++ ([(h0, .inr (11, [.ref tp, .ref ra1, .ref ra2, .ref ra3, .ref ra4, .ref ra5, .ref ra6, .ref ra7, .ref ra8, .ref ra9, .ref ra10, .ref ra11, .ref ra12, .int rc, .int fo, .int xx]))] ++ wt)) := hD
  refine gt_callI (wr := []) (va_runV (As := [.int b]) (rest := []) ⟨hx, hb, hml, hown, ht⟩ (d_isBidder l G Γ s.heap.size wt hT b tp h0 ra1 ra2 ra3 ra4 ra5 ra6 ra7 ra8 ra9 ra10 ra11 ra12 rc fo xx (by first | assumption | omega) (by first | assumption | omega) (by first | assumption | omega) (by first | assumption | omega) (by first | assumption | omega) (by first | assumption | omega) (by first | assumption | omega) (by first | assumption | omega) (by first | assumption | omega) (by first | assumption | omega) (by first | assumption | omega) (by first | assumption | omega) (by first | assumption | omega)) (cwV 1 ht (ts_gV wd_789 wd_791 wd_14 wd_122 wd_792) rfl rfl rfl (by decide +kernel) ⟨Nat.le_of_ble_eq_true rfl, Nat.le_of_ble_eq_true rfl⟩) (gc_preV (ci := 11) (q0 := 0) hK (tw_right hP) (tw_rightD hD) rfl rfl) rfl rfl hl.1 rfl (lv_room (Nat.le_of_ble_eq_true rfl)) dX11_roomOf_2 ⟨Nat.le_of_ble_eq_true rfl, Nat.le_of_ble_eq_true rfl⟩) hP hD hS hA (fun r_1 wt H locs hw hP hD hS => ?_)
  obtain ⟨hT, hkp, lo_r_1, hi_r_1, im_r_1⟩ := hw
  have hW := hW.call (show ∀ x ∈ [], x ∈ [] by decide) hkp
  have hP : va_P (gg_D G) classes ([(h0, .inr (11, [.ref tp, .ref ra1, .ref ra2, .ref ra3, .ref ra4, .ref ra5, .ref ra6, .ref ra7, .ref ra8, .ref ra9, .ref ra10, .ref ra11, .ref ra12, .int rc, .int fo, .int xx]))] ++ wt) H := hP
  have hD : va_D A ([(h0, .inr (11, [.ref tp, .ref ra1, .ref ra2, .ref ra3, .ref ra4, .ref ra5, .ref ra6, .ref ra7, .ref ra8, .ref ra9, .ref ra10, .ref ra11, .ref ra12, .int rc, .int fo, .int xx]))] ++ wt) := hD
  refine lv_if_eq (tgt := 18) hx hb dX11_roomOf_5 (by decide) (fun c_2 => ?_) (fun c_2 => ?_)
  · rw [← Int32.toInt_inj] at c_2
    refine lv_iconst (v := (-1)) hx hb dX11_roomOf_18 (by decide +kernel) ?_
    have hP9 : va_P (gg_D G) classes ([(h0, .inr (11, [.ref tp, .ref ra1, .ref ra2, .ref ra3, .ref ra4, .ref ra5, .ref ra6, .ref ra7, .ref ra8, .ref ra9, .ref ra10, .ref ra11, .ref ra12, .int rc, .int fo, .int xx]))] ++ wt) _ := hP
    have hD9 : va_D A ([(h0, .inr (11, [.ref tp, .ref ra1, .ref ra2, .ref ra3, .ref ra4, .ref ra5, .ref ra6, .ref ra7, .ref ra8, .ref ra9, .ref ra10, .ref ra11, .ref ra12, .int rc, .int fo, .int xx]))] ++ wt) := hD
    exact W.iret (v := (-1)) hx hb hr (gq_endI wt ⟨hT, hW, (by omega), (by omega), (by omega)⟩ hP9 hD9 hS) hS.2.2 dX11_roomOf_19
  · have ic_2 := im_r_1 c_2
    rw [← Int32.toInt_inj] at c_2
    refine lv_aload_n hx hb dX11_roomOf_8 rfl (lv_at hl 0 rfl) ?_
    refine lv_iconst (v := 1) hx hb dX11_roomOf_9 (by decide +kernel) ?_
    refine lv_iload_n hx hb dX11_roomOf_10 rfl (lv_at hl 1 rfl) ?_
    obtain ⟨t_3, et_3⟩ : ∃ zz_ : Int32, 1 <<< (b &&& 31) = zz_ := ⟨_, rfl⟩
    refine gq_ishl hx hb t_3 et_3 dX11_roomOf_11 ?_
    have ft_3 := ia_bit et_3 (by omega) (by omega)
    have hP : va_P (gg_D G) classes ([] ++ ([(h0, .inr (11, [.ref tp, .ref ra1, .ref ra2, .ref ra3, .ref ra4, .ref ra5, .ref ra6, .ref ra7, .ref ra8, .ref ra9, .ref ra10, .ref ra11, .ref ra12, .int rc, .int fo, .int xx]))] ++ wt)) H := hP
    have hD : va_D A ([] ++ ([(h0, .inr (11, [.ref tp, .ref ra1, .ref ra2, .ref ra3, .ref ra4, .ref ra5, .ref ra6, .ref ra7, .ref ra8, .ref ra9, .ref ra10, .ref ra11, .ref ra12, .int rc, .int fo, .int xx]))] ++ wt)) := hD
    refine gt_callI (wr := []) (va_runV (As := [.int t_3]) (rest := []) ⟨hx, hb, hml, hown, ht⟩ (d_roomOfAll l G Γ H.size wt hT t_3 tp h0 ra1 ra2 ra3 ra4 ra5 ra6 ra7 ra8 ra9 ra10 ra11 ra12 rc fo xx (by first | assumption | omega) (by first | assumption | omega) (by first | assumption | omega) (by first | assumption | omega) (by first | assumption | omega) (by first | assumption | omega) (by first | assumption | omega) (by first | assumption | omega) (by first | assumption | omega) (by first | assumption | omega) (by first | assumption | omega) (by first | assumption | omega) (by first | assumption | omega)) (cwV 1 ht (ts_gV wd_1015 wd_1017 wd_24 wd_122 wd_1018) rfl rfl rfl (by decide +kernel) ⟨Nat.le_of_ble_eq_true rfl, Nat.le_of_ble_eq_true rfl⟩) (gc_preV (ci := 11) (q0 := 0) hK (tw_right hP) (tw_rightD hD) rfl rfl) rfl rfl hl.1 rfl (lv_room (Nat.le_of_ble_eq_true rfl)) dX11_roomOf_12 ⟨Nat.le_of_ble_eq_true rfl, Nat.le_of_ble_eq_true rfl⟩) hP hD hS hA (fun r_4 wt H locs hw hP hD hS => ?_)
    obtain ⟨hT, hkp, lo_r_4, hi_r_4, rp_r_4⟩ := hw
    have hW := hW.call (show ∀ x ∈ [], x ∈ [] by decide) hkp
    have hP : va_P (gg_D G) classes ([(h0, .inr (11, [.ref tp, .ref ra1, .ref ra2, .ref ra3, .ref ra4, .ref ra5, .ref ra6, .ref ra7, .ref ra8, .ref ra9, .ref ra10, .ref ra11, .ref ra12, .int rc, .int fo, .int xx]))] ++ wt) H := hP
    have hD : va_D A ([(h0, .inr (11, [.ref tp, .ref ra1, .ref ra2, .ref ra3, .ref ra4, .ref ra5, .ref ra6, .ref ra7, .ref ra8, .ref ra9, .ref ra10, .ref ra11, .ref ra12, .int rc, .int fo, .int xx]))] ++ wt) := hD
    refine lv_goto (tgt := 19) hx hb dX11_roomOf_15 (by decide) ?_
    have hP9 : va_P (gg_D G) classes ([(h0, .inr (11, [.ref tp, .ref ra1, .ref ra2, .ref ra3, .ref ra4, .ref ra5, .ref ra6, .ref ra7, .ref ra8, .ref ra9, .ref ra10, .ref ra11, .ref ra12, .int rc, .int fo, .int xx]))] ++ wt) _ := hP
    have hD9 : va_D A ([(h0, .inr (11, [.ref tp, .ref ra1, .ref ra2, .ref ra3, .ref ra4, .ref ra5, .ref ra6, .ref ra7, .ref ra8, .ref ra9, .ref ra10, .ref ra11, .ref ra12, .int rc, .int fo, .int xx]))] ++ wt) := hD
    exact W.iret (v := r_4) hx hb hr (gq_endI wt ⟨hT, hW, (by omega), (by omega), (by omega)⟩ hP9 hD9 hS) hS.2.2 dX11_roomOf_19
set_option maxHeartbeats 4000000 in
set_option maxRecDepth 100000 in
theorem d_keeperOf (l : Launch) (G : gg_T) (Γ : Nat → Nat) (sz : Nat) (wt : va_W) (hT : tk_ty G Γ wt) (b : Int32) (w : Int32) (tp : Nat) (h0 : Nat) (ra1 : Nat) (ra2 : Nat) (ra3 : Nat) (ra4 : Nat) (ra5 : Nat) (ra6 : Nat) (ra7 : Nat) (ra8 : Nat) (ra9 : Nat) (ra10 : Nat) (ra11 : Nat) (ra12 : Nat) (rc : Int32) (fo : Int32) (xx : Int32) (lo_b : 0 ≤ b.toInt) (hi_b : b.toInt ≤ 31) (lo_w : 0 ≤ w.toInt) (hi_w : w.toInt ≤ 2) (kr1 : Γ ra1 = 10) (kr2 : Γ ra2 = 10) (kr3 : Γ ra3 = 8) (kr4 : Γ ra4 = 8) (kr5 : Γ ra5 = 4) (kr6 : Γ ra6 = 3) (kr7 : Γ ra7 = 41) (kr9 : Γ ra9 = 1) (kr10 : Γ ra10 = 6) (kr11 : Γ ra11 = 11) (kr12 : Γ ra12 = 7) (xr1 : 0 ≤ rc.toInt) (xr2 : rc.toInt ≤ 6) : Met l yX11_keeperOf (ts_L yX11_keeperOf cX11_keeperOf 5 (some .int)) ({ frames := 1, cells := 0, slots := 0, locals := 22 }) (gc_P G ([(h0, .inr (11, [.ref tp, .ref ra1, .ref ra2, .ref ra3, .ref ra4, .ref ra5, .ref ra6, .ref ra7, .ref ra8, .ref ra9, .ref ra10, .ref ra11, .ref ra12, .int rc, .int fo, .int xx]))] ++ wt) sz [.ref h0, .int b, .int w]) (gc_I G (va_A ([(h0, .inr (11, [.ref tp, .ref ra1, .ref ra2, .ref ra3, .ref ra4, .ref ra5, .ref ra6, .ref ra7, .ref ra8, .ref ra9, .ref ra10, .ref ra11, .ref ra12, .int rc, .int fo, .int xx]))] ++ wt) sz) (fun r (u : va_W) => match u with | wt1 => tk_ty G Γ wt1 ∧ tk_kp [] wt wt1 ∧ 0 ≤ r.toInt ∧ r.toInt ≤ 4) (fun (u : va_W) => match u with | wt1 => [(h0, .inr (11, [.ref tp, .ref ra1, .ref ra2, .ref ra3, .ref ra4, .ref ra5, .ref ra6, .ref ra7, .ref ra8, .ref ra9, .ref ra10, .ref ra11, .ref ra12, .int rc, .int fo, .int xx]))] ++ wt1)) 0 0 (va_A ([(h0, .inr (11, [.ref tp, .ref ra1, .ref ra2, .ref ra3, .ref ra4, .ref ra5, .ref ra6, .ref ra7, .ref ra8, .ref ra9, .ref ra10, .ref ra11, .ref ra12, .int rc, .int fo, .int xx]))] ++ wt) sz) := by
  refine Met.ofW (cc := cX11_keeperOf) (maxL := 5) (ret := (some .int)) (by decide) rfl ?_
  intro p e s m args below meth c s₁ B hml hv
  obtain ⟨rfl, hsz, hP, hK, hD0⟩ := hv
  have hx := B.exec
  have hb := B.bytes
  have hr := B.returns
  have ht := ts_ht (atoms_spec (ws := ts_L yX11_keeperOf cX11_keeperOf 5 (some .int)) B.pre)
  have hown : s.vm.findClass RX11 = some m.cls := findClass_of_methodNamed B.named
  have hlocks := B.notSynchronized
  subst hsz
  have hD := hD0.self (sz := s.heap.size)
  generalize hAe : va_A ([(h0, .inr (11, [.ref tp, .ref ra1, .ref ra2, .ref ra3, .ref ra4, .ref ra5, .ref ra6, .ref ra7, .ref ra8, .ref ra9, .ref ra10, .ref ra11, .ref ra12, .int rc, .int fo, .int xx]))] ++ wt) s.heap.size = A at hD ⊢
  have hA : ∀ q : Nat, s.heap.size ≤ q → A q := fun q h => by rw [← hAe]; exact Or.inr h
  clear hAe hD0
  have hS : va_S A s.heap s.heap [] := va_S.rf
  obtain ⟨w0, hw0⟩ : ∃ z, z = wt := ⟨_, rfl⟩
  have hW : tk_kp [] w0 wt := by rw [hw0]; exact tk_kp.rf
  rw [← hw0]
  clear hw0
  have hP : va_P (gg_D G) classes ([(h0, .inr (11, [.ref tp, .ref ra1, .ref ra2, .ref ra3, .ref ra4, .ref ra5, .ref ra6, .ref ra7, .ref ra8, .ref ra9, .ref ra10, .ref ra11, .ref ra12, .int rc, .int fo, .int xx]))] ++ wt) s.heap := hP
  have hD : va_D A ([(h0, .inr (11, [.ref tp, .ref ra1, .ref ra2, .ref ra3, .ref ra4, .ref ra5, .ref ra6, .ref ra7, .ref ra8, .ref ra9, .ref ra10, .ref ra11, .ref ra12, .int rc, .int fo, .int xx]))] ++ wt) := hD
  have hl := lv_entry ([.ref h0, .int b, .int w]) (n := 5) (Nat.le_of_ble_eq_true rfl)
  rw [lg_entry_eq]
  generalize (lg_sl ([.ref h0, .int b, .int w]) ++ List.replicate (5 - (lg_sl ([.ref h0, .int b, .int w])).length) Slot.unset).toArray = ls at hl ⊢
  have hl : lv_has ls 5 [(0, .ref h0), (1, .int b), (2, .int w)] := hl
  have l0 : (0 : Int32).toInt = 0 := by decide +kernel
  have l1 : (1 : Int32).toInt = 1 := by decide +kernel
  refine lv_iload_n hx hb dX11_keeperOf_0 rfl (lv_at hl 1 rfl) ?_
  refine gt_callI (wr := [(h0, .inr (11, [.ref tp, .ref ra1, .ref ra2, .ref ra3, .ref ra4, .ref ra5, .ref ra6, .ref ra7, .ref ra8, .ref ra9, .ref ra10, .ref ra11, .ref ra12, .int rc, .int fo, .int xx]))]) (va_runS (As := [.int b]) (rest := []) ⟨hx, hb, hml, hown, ht⟩ (d_lowest5 l G Γ s.heap.size wt hT b (by omega) (by omega)) (va_cwS 1 ht (ts_gS wd_1133 wd_928 wd_122 wd_929) rfl rfl rfl (by decide +kernel) ⟨Nat.le_of_ble_eq_true rfl, Nat.le_of_ble_eq_true rfl⟩) (gc_preS hK (tw_right hP) (tw_rightD hD)) rfl rfl hl.1 rfl (lv_room (Nat.le_of_ble_eq_true rfl)) dX11_keeperOf_1 ⟨Nat.le_of_ble_eq_true rfl, Nat.le_of_ble_eq_true rfl⟩) hP hD hS hA (fun r_1 wt H locs hw hP hD hS => ?_)
  obtain ⟨hT, hkp, lo_r_1, hi_r_1⟩ := hw
  have hW := hW.call (show ∀ x ∈ [], x ∈ [] by decide) hkp
  have hP : va_P (gg_D G) classes ([(h0, .inr (11, [.ref tp, .ref ra1, .ref ra2, .ref ra3, .ref ra4, .ref ra5, .ref ra6, .ref ra7, .ref ra8, .ref ra9, .ref ra10, .ref ra11, .ref ra12, .int rc, .int fo, .int xx]))] ++ wt) H := hP
  have hD : va_D A ([(h0, .inr (11, [.ref tp, .ref ra1, .ref ra2, .ref ra3, .ref ra4, .ref ra5, .ref ra6, .ref ra7, .ref ra8, .ref ra9, .ref ra10, .ref ra11, .ref ra12, .int rc, .int fo, .int xx]))] ++ wt) := hD
  refine lv_istore_n (lv' := [(3, .int r_1), (0, .ref h0), (1, .int b), (2, .int w)]) hx hb dX11_keeperOf_4 rfl hl (by decide) rfl (fun ls hl => ?_)
  refine lv_iconst (v := 0) hx hb dX11_keeperOf_5 (by decide +kernel) ?_
  refine lv_istore (lv' := [(4, .int 0), (3, .int r_1), (0, .ref h0), (1, .int b), (2, .int w)]) hx hb dX11_keeperOf_6 hl (by decide) rfl (fun ls hl => ?_)
  refine tl_loopE (Γ := Γ) (nL := 5) (fun (zz_ : Int32 × Int32) => match zz_ with | (x8_0, x8_1) => 0 ≤ x8_0.toInt ∧ x8_0.toInt ≤ 5 ∧ 0 ≤ x8_1.toInt ∧ x8_1.toInt ≤ 4) (fun (zz_ : Int32 × Int32) => match zz_ with | (x8_0, x8_1) => (5 - x8_0.toInt).toNat) (fun (zz_ : Int32 × Int32) => match zz_ with | (x8_0, x8_1) => [(4, .int x8_0), (3, .int x8_1), (0, .ref h0), (1, .int b), (2, .int w)]) (fun (zz_ : Int32 × Int32) => match zz_ with | (x8_0, x8_1) => [(h0, .inr (11, [.ref tp, .ref ra1, .ref ra2, .ref ra3, .ref ra4, .ref ra5, .ref ra6, .ref ra7, .ref ra8, .ref ra9, .ref ra10, .ref ra11, .ref ra12, .int rc, .int fo, .int xx]))]) (fun (zz_ : Int32 × Int32) (w : va_W) => match zz_ with | (x8_0, x8_1) => tk_kp [] w0 w) (fun zz_ hI H locs wt ls hT hW hP hD hS hl ih8 => ?_) (0, r_1) (show 0 ≤ (0 : Int32).toInt ∧ (0 : Int32).toInt ≤ 5 ∧ 0 ≤ r_1.toInt ∧ r_1.toInt ≤ 4 from ⟨by omega, by omega, by omega, by omega⟩) _ _ wt ls hT hW hP hD hS hl
  obtain ⟨x8_0, x8_1⟩ := zz_
  have hW : tk_kp [] w0 wt := hW
  have hI : 0 ≤ x8_0.toInt ∧ x8_0.toInt ≤ 5 ∧ 0 ≤ x8_1.toInt ∧ x8_1.toInt ≤ 4 := hI
  obtain ⟨j8_0, j8_1, j8_2, j8_3⟩ := hI
  have hl : lv_has ls 5 [(4, .int x8_0), (3, .int x8_1), (0, .ref h0), (1, .int b), (2, .int w)] := hl
  have hP : va_P (gg_D G) classes ([(h0, .inr (11, [.ref tp, .ref ra1, .ref ra2, .ref ra3, .ref ra4, .ref ra5, .ref ra6, .ref ra7, .ref ra8, .ref ra9, .ref ra10, .ref ra11, .ref ra12, .int rc, .int fo, .int xx]))] ++ wt) H := hP
  have hD : va_D A ([(h0, .inr (11, [.ref tp, .ref ra1, .ref ra2, .ref ra3, .ref ra4, .ref ra5, .ref ra6, .ref ra7, .ref ra8, .ref ra9, .ref ra10, .ref ra11, .ref ra12, .int rc, .int fo, .int xx]))] ++ wt) := hD
  refine lv_iload hx hb dX11_keeperOf_8 (lv_at hl 0 rfl) ?_
  refine lv_aload_n hx hb dX11_keeperOf_10 rfl (lv_at hl 2 rfl) ?_
  refine gq_get hx hb ht hown hK hP i_X11 0 rfl rfl 1 (by decide) wd_498 rfl rfl dX11_keeperOf_11 ?_
  refine tr_get (ci := 9) hx hb ht hown hK hT hP kr1 (by decide) i_X9 rfl 1 (by decide) wd_185 rfl dX11_keeperOf_14 (fun v hv hf_2 => ?_)
  obtain ⟨n_3, rfl, lo_n_3, hi_n_3⟩ := hv
  refine lv_icmp_ge (tgt := 60) hx hb dX11_keeperOf_17 (by decide) (fun c_4 => ?_) (fun c_4 => ?_)
  · rw [Int32.le_iff_toInt_le] at c_4
    refine lv_iload_n hx hb dX11_keeperOf_60 rfl (lv_at hl 1 rfl) ?_
    have hP9 : va_P (gg_D G) classes ([(h0, .inr (11, [.ref tp, .ref ra1, .ref ra2, .ref ra3, .ref ra4, .ref ra5, .ref ra6, .ref ra7, .ref ra8, .ref ra9, .ref ra10, .ref ra11, .ref ra12, .int rc, .int fo, .int xx]))] ++ wt) _ := hP
    have hD9 : va_D A ([(h0, .inr (11, [.ref tp, .ref ra1, .ref ra2, .ref ra3, .ref ra4, .ref ra5, .ref ra6, .ref ra7, .ref ra8, .ref ra9, .ref ra10, .ref ra11, .ref ra12, .int rc, .int fo, .int xx]))] ++ wt) := hD
    exact W.iret (v := x8_1) hx hb hr (gq_endI wt ⟨hT, hW, (by omega), (by omega)⟩ hP9 hD9 hS) hS.2.2 dX11_keeperOf_61
  · rw [Int32.le_iff_toInt_le] at c_4
    refine lv_iload hx hb dX11_keeperOf_20 (lv_at hl 0 rfl) ?_
    refine lv_iload_n hx hb dX11_keeperOf_22 rfl (lv_at hl 3 rfl) ?_
    refine gt_callI (wr := [(h0, .inr (11, [.ref tp, .ref ra1, .ref ra2, .ref ra3, .ref ra4, .ref ra5, .ref ra6, .ref ra7, .ref ra8, .ref ra9, .ref ra10, .ref ra11, .ref ra12, .int rc, .int fo, .int xx]))]) (va_runS (As := [.int x8_0, .int b]) (rest := []) ⟨hx, hb, hml, hown, ht⟩ (d_isIn l G Γ H.size wt hT x8_0 b) (va_cwS 2 ht (ts_gS wd_1081 wd_802 wd_122 wd_803) rfl rfl rfl (by decide +kernel) ⟨Nat.le_of_ble_eq_true rfl, Nat.le_of_ble_eq_true rfl⟩) (gc_preS hK (tw_right hP) (tw_rightD hD)) rfl rfl hl.1 rfl (lv_room (Nat.le_of_ble_eq_true rfl)) dX11_keeperOf_23 ⟨Nat.le_of_ble_eq_true rfl, Nat.le_of_ble_eq_true rfl⟩) hP hD hS hA (fun r_5 wt H locs hw hP hD hS => ?_)
    obtain ⟨hT, hkp, lo_r_5, hi_r_5⟩ := hw
    have hW := hW.call (show ∀ x ∈ [], x ∈ [] by decide) hkp
    have hf_2 := hkp _ _ _ _ (by decide) (by decide) hf_2
    have hP : va_P (gg_D G) classes ([(h0, .inr (11, [.ref tp, .ref ra1, .ref ra2, .ref ra3, .ref ra4, .ref ra5, .ref ra6, .ref ra7, .ref ra8, .ref ra9, .ref ra10, .ref ra11, .ref ra12, .int rc, .int fo, .int xx]))] ++ wt) H := hP
    have hD : va_D A ([(h0, .inr (11, [.ref tp, .ref ra1, .ref ra2, .ref ra3, .ref ra4, .ref ra5, .ref ra6, .ref ra7, .ref ra8, .ref ra9, .ref ra10, .ref ra11, .ref ra12, .int rc, .int fo, .int xx]))] ++ wt) := hD
    refine lv_if_eq (tgt := 54) hx hb dX11_keeperOf_26 (by decide) (fun c_6 => ?_) (fun c_6 => ?_)
    · rw [← Int32.toInt_inj] at c_6
      obtain ⟨t_7, et_7⟩ : ∃ zz_ : Int32, x8_0 + Int32.ofInt (1) = zz_ := ⟨_, rfl⟩
      have ft_7 : t_7.toInt = x8_0.toInt + (1 : Int32).toInt := ia_add (y := 1) et_7 (by omega) (by omega)
      refine lv_iinc (v := t_7) (lv' := [(4, .int t_7), (3, .int x8_1), (0, .ref h0), (1, .int b), (2, .int w)]) hx hb dX11_keeperOf_54 hl (k := 0) rfl et_7 (by decide) rfl (fun ls hl => ?_)
      refine lv_goto (tgt := 8) hx hb dX11_keeperOf_57 (by decide) ?_
      exact ih8 (t_7, x8_1) (show 0 ≤ t_7.toInt ∧ t_7.toInt ≤ 5 ∧ 0 ≤ x8_1.toInt ∧ x8_1.toInt ≤ 4 from ⟨by omega, by omega, by omega, by omega⟩) (show (5 - t_7.toInt).toNat < (5 - x8_0.toInt).toNat by omega) H locs wt ls hT hW hP hD hS (lv_sub hl [0, 1, 2, 3, 4] rfl)
    · rw [← Int32.toInt_inj] at c_6
      refine lv_aload_n hx hb dX11_keeperOf_29 rfl (lv_at hl 2 rfl) ?_
      refine gq_get hx hb ht hown hK hP i_X11 0 rfl rfl 1 (by decide) wd_498 rfl rfl dX11_keeperOf_30 ?_
      refine lv_iload hx hb dX11_keeperOf_33 (lv_at hl 0 rfl) ?_
      refine lv_iload_n hx hb dX11_keeperOf_35 rfl (lv_at hl 4 rfl) ?_
      refine gt_callI (wr := [(h0, .inr (11, [.ref tp, .ref ra1, .ref ra2, .ref ra3, .ref ra4, .ref ra5, .ref ra6, .ref ra7, .ref ra8, .ref ra9, .ref ra10, .ref ra11, .ref ra12, .int rc, .int fo, .int xx]))]) (va_runV (As := [.int x8_0, .int w]) (rest := []) ⟨hx, hb, hml, hown, ht⟩ (d_worthTo l G Γ H.size wt hT ra1 x8_0 w kr1 (by omega) (by omega) (by omega) (by omega)) (cwV 2 ht (ts_gV wd_832 wd_813 wd_814 wd_124 wd_815) rfl rfl rfl (by decide +kernel) ⟨Nat.le_of_ble_eq_true rfl, Nat.le_of_ble_eq_true rfl⟩) (gt_preW (ci := 9) hK hT (tw_right hP) (tw_rightD hD) kr1 (by decide) rfl) rfl rfl hl.1 rfl (lv_room (Nat.le_of_ble_eq_true rfl)) dX11_keeperOf_36 ⟨Nat.le_of_ble_eq_true rfl, Nat.le_of_ble_eq_true rfl⟩) hP hD hS hA (fun r_8 wt H locs hw hP hD hS => ?_)
      obtain ⟨hT, hkp⟩ := hw
      have hW := hW.call (show ∀ x ∈ [], x ∈ [] by decide) hkp
      have hf_2 := hkp _ _ _ _ (by decide) (by decide) hf_2
      have hP : va_P (gg_D G) classes ([(h0, .inr (11, [.ref tp, .ref ra1, .ref ra2, .ref ra3, .ref ra4, .ref ra5, .ref ra6, .ref ra7, .ref ra8, .ref ra9, .ref ra10, .ref ra11, .ref ra12, .int rc, .int fo, .int xx]))] ++ wt) H := hP
      have hD : va_D A ([(h0, .inr (11, [.ref tp, .ref ra1, .ref ra2, .ref ra3, .ref ra4, .ref ra5, .ref ra6, .ref ra7, .ref ra8, .ref ra9, .ref ra10, .ref ra11, .ref ra12, .int rc, .int fo, .int xx]))] ++ wt) := hD
      refine lv_aload_n hx hb dX11_keeperOf_39 rfl (lv_at hl 2 rfl) ?_
      refine gq_get hx hb ht hown hK hP i_X11 0 rfl rfl 1 (by decide) wd_498 rfl rfl dX11_keeperOf_40 ?_
      refine lv_iload_n hx hb dX11_keeperOf_43 rfl (lv_at hl 1 rfl) ?_
      refine lv_iload_n hx hb dX11_keeperOf_44 rfl (lv_at hl 4 rfl) ?_
      refine gt_callI (wr := [(h0, .inr (11, [.ref tp, .ref ra1, .ref ra2, .ref ra3, .ref ra4, .ref ra5, .ref ra6, .ref ra7, .ref ra8, .ref ra9, .ref ra10, .ref ra11, .ref ra12, .int rc, .int fo, .int xx]))]) (va_runV (As := [.int x8_1, .int w]) (rest := [.int r_8]) ⟨hx, hb, hml, hown, ht⟩ (d_worthTo l G Γ H.size wt hT ra1 x8_1 w kr1 (by omega) (by omega) (by omega) (by omega)) (cwV 2 ht (ts_gV wd_832 wd_813 wd_814 wd_124 wd_815) rfl rfl rfl (by decide +kernel) ⟨Nat.le_of_ble_eq_true rfl, Nat.le_of_ble_eq_true rfl⟩) (gt_preW (ci := 9) hK hT (tw_right hP) (tw_rightD hD) kr1 (by decide) rfl) rfl rfl hl.1 rfl (lv_room (Nat.le_of_ble_eq_true rfl)) dX11_keeperOf_45 ⟨Nat.le_of_ble_eq_true rfl, Nat.le_of_ble_eq_true rfl⟩) hP hD hS hA (fun r_9 wt H locs hw hP hD hS => ?_)
      obtain ⟨hT, hkp⟩ := hw
      have hW := hW.call (show ∀ x ∈ [], x ∈ [] by decide) hkp
      have hf_2 := hkp _ _ _ _ (by decide) (by decide) hf_2
      have hP : va_P (gg_D G) classes ([(h0, .inr (11, [.ref tp, .ref ra1, .ref ra2, .ref ra3, .ref ra4, .ref ra5, .ref ra6, .ref ra7, .ref ra8, .ref ra9, .ref ra10, .ref ra11, .ref ra12, .int rc, .int fo, .int xx]))] ++ wt) H := hP
      have hD : va_D A ([(h0, .inr (11, [.ref tp, .ref ra1, .ref ra2, .ref ra3, .ref ra4, .ref ra5, .ref ra6, .ref ra7, .ref ra8, .ref ra9, .ref ra10, .ref ra11, .ref ra12, .int rc, .int fo, .int xx]))] ++ wt) := hD
      refine lv_icmp_le (tgt := 54) hx hb dX11_keeperOf_48 (by decide) (fun c_10 => ?_) (fun c_10 => ?_)
      · rw [Int32.le_iff_toInt_le] at c_10
        obtain ⟨t_11, et_11⟩ : ∃ zz_ : Int32, x8_0 + Int32.ofInt (1) = zz_ := ⟨_, rfl⟩
        have ft_11 : t_11.toInt = x8_0.toInt + (1 : Int32).toInt := ia_add (y := 1) et_11 (by omega) (by omega)
        refine lv_iinc (v := t_11) (lv' := [(4, .int t_11), (3, .int x8_1), (0, .ref h0), (1, .int b), (2, .int w)]) hx hb dX11_keeperOf_54 hl (k := 0) rfl et_11 (by decide) rfl (fun ls hl => ?_)
        refine lv_goto (tgt := 8) hx hb dX11_keeperOf_57 (by decide) ?_
        exact ih8 (t_11, x8_1) (show 0 ≤ t_11.toInt ∧ t_11.toInt ≤ 5 ∧ 0 ≤ x8_1.toInt ∧ x8_1.toInt ≤ 4 from ⟨by omega, by omega, by omega, by omega⟩) (show (5 - t_11.toInt).toNat < (5 - x8_0.toInt).toNat by omega) H locs wt ls hT hW hP hD hS (lv_sub hl [0, 1, 2, 3, 4] rfl)
      · rw [Int32.le_iff_toInt_le] at c_10
        refine lv_iload hx hb dX11_keeperOf_51 (lv_at hl 0 rfl) ?_
        refine lv_istore_n (lv' := [(3, .int x8_0), (4, .int x8_0), (0, .ref h0), (1, .int b), (2, .int w)]) hx hb dX11_keeperOf_53 rfl hl (by decide) rfl (fun ls hl => ?_)
        obtain ⟨t_12, et_12⟩ : ∃ zz_ : Int32, x8_0 + Int32.ofInt (1) = zz_ := ⟨_, rfl⟩
        have ft_12 : t_12.toInt = x8_0.toInt + (1 : Int32).toInt := ia_add (y := 1) et_12 (by omega) (by omega)
        refine lv_iinc (v := t_12) (lv' := [(4, .int t_12), (3, .int x8_0), (0, .ref h0), (1, .int b), (2, .int w)]) hx hb dX11_keeperOf_54 hl (k := 1) rfl et_12 (by decide) rfl (fun ls hl => ?_)
        refine lv_goto (tgt := 8) hx hb dX11_keeperOf_57 (by decide) ?_
        exact ih8 (t_12, x8_0) (show 0 ≤ t_12.toInt ∧ t_12.toInt ≤ 5 ∧ 0 ≤ x8_0.toInt ∧ x8_0.toInt ≤ 4 from ⟨by omega, by omega, by omega, by omega⟩) (show (5 - t_12.toInt).toNat < (5 - x8_0.toInt).toNat by omega) H locs wt ls hT hW hP hD hS (lv_sub hl [0, 1, 2, 3, 4] rfl)
set_option maxHeartbeats 4000000 in
set_option maxRecDepth 100000 in
theorem d_gainsOf (l : Launch) (G : gg_T) (Γ : Nat → Nat) (sz : Nat) (wt : va_W) (hT : tk_ty G Γ wt) (b : Int32) (tp : Nat) (h0 : Nat) (ra1 : Nat) (ra2 : Nat) (ra3 : Nat) (ra4 : Nat) (ra5 : Nat) (ra6 : Nat) (ra7 : Nat) (ra8 : Nat) (ra9 : Nat) (ra10 : Nat) (ra11 : Nat) (ra12 : Nat) (rc : Int32) (fo : Int32) (xx : Int32) (kr1 : Γ ra1 = 10) (kr2 : Γ ra2 = 10) (kr3 : Γ ra3 = 8) (kr4 : Γ ra4 = 8) (kr5 : Γ ra5 = 4) (kr6 : Γ ra6 = 3) (kr7 : Γ ra7 = 41) (kr9 : Γ ra9 = 1) (kr10 : Γ ra10 = 6) (kr11 : Γ ra11 = 11) (kr12 : Γ ra12 = 7) (xr1 : 0 ≤ rc.toInt) (xr2 : rc.toInt ≤ 6) : Met l yX11_gainsOf (ts_L yX11_gainsOf cX11_gainsOf 4 (some .int)) ({ frames := 2, cells := 0, slots := 0, locals := 46 }) (gc_P G ([(h0, .inr (11, [.ref tp, .ref ra1, .ref ra2, .ref ra3, .ref ra4, .ref ra5, .ref ra6, .ref ra7, .ref ra8, .ref ra9, .ref ra10, .ref ra11, .ref ra12, .int rc, .int fo, .int xx]))] ++ wt) sz [.ref h0, .int b]) (gc_I G (va_A ([(h0, .inr (11, [.ref tp, .ref ra1, .ref ra2, .ref ra3, .ref ra4, .ref ra5, .ref ra6, .ref ra7, .ref ra8, .ref ra9, .ref ra10, .ref ra11, .ref ra12, .int rc, .int fo, .int xx]))] ++ wt) sz) (fun r (u : va_W) => match u with | wt1 => tk_ty G Γ wt1 ∧ tk_kp [] wt wt1) (fun (u : va_W) => match u with | wt1 => [(h0, .inr (11, [.ref tp, .ref ra1, .ref ra2, .ref ra3, .ref ra4, .ref ra5, .ref ra6, .ref ra7, .ref ra8, .ref ra9, .ref ra10, .ref ra11, .ref ra12, .int rc, .int fo, .int xx]))] ++ wt1)) 0 0 (va_A ([(h0, .inr (11, [.ref tp, .ref ra1, .ref ra2, .ref ra3, .ref ra4, .ref ra5, .ref ra6, .ref ra7, .ref ra8, .ref ra9, .ref ra10, .ref ra11, .ref ra12, .int rc, .int fo, .int xx]))] ++ wt) sz) := by
  refine Met.ofW (cc := cX11_gainsOf) (maxL := 4) (ret := (some .int)) (by decide) rfl ?_
  intro p e s m args below meth c s₁ B hml hv
  obtain ⟨rfl, hsz, hP, hK, hD0⟩ := hv
  have hx := B.exec
  have hb := B.bytes
  have hr := B.returns
  have ht := ts_ht (atoms_spec (ws := ts_L yX11_gainsOf cX11_gainsOf 4 (some .int)) B.pre)
  have hown : s.vm.findClass RX11 = some m.cls := findClass_of_methodNamed B.named
  have hlocks := B.notSynchronized
  subst hsz
  have hD := hD0.self (sz := s.heap.size)
  generalize hAe : va_A ([(h0, .inr (11, [.ref tp, .ref ra1, .ref ra2, .ref ra3, .ref ra4, .ref ra5, .ref ra6, .ref ra7, .ref ra8, .ref ra9, .ref ra10, .ref ra11, .ref ra12, .int rc, .int fo, .int xx]))] ++ wt) s.heap.size = A at hD ⊢
  have hA : ∀ q : Nat, s.heap.size ≤ q → A q := fun q h => by rw [← hAe]; exact Or.inr h
  clear hAe hD0
  have hS : va_S A s.heap s.heap [] := va_S.rf
  obtain ⟨w0, hw0⟩ : ∃ z, z = wt := ⟨_, rfl⟩
  have hW : tk_kp [] w0 wt := by rw [hw0]; exact tk_kp.rf
  rw [← hw0]
  clear hw0
  have hP : va_P (gg_D G) classes ([(h0, .inr (11, [.ref tp, .ref ra1, .ref ra2, .ref ra3, .ref ra4, .ref ra5, .ref ra6, .ref ra7, .ref ra8, .ref ra9, .ref ra10, .ref ra11, .ref ra12, .int rc, .int fo, .int xx]))] ++ wt) s.heap := hP
  have hD : va_D A ([(h0, .inr (11, [.ref tp, .ref ra1, .ref ra2, .ref ra3, .ref ra4, .ref ra5, .ref ra6, .ref ra7, .ref ra8, .ref ra9, .ref ra10, .ref ra11, .ref ra12, .int rc, .int fo, .int xx]))] ++ wt) := hD
  have hl := lv_entry ([.ref h0, .int b]) (n := 4) (Nat.le_of_ble_eq_true rfl)
  rw [lg_entry_eq]
  generalize (lg_sl ([.ref h0, .int b]) ++ List.replicate (4 - (lg_sl ([.ref h0, .int b])).length) Slot.unset).toArray = ls at hl ⊢
  have hl : lv_has ls 4 [(0, .ref h0), (1, .int b)] := hl
  have l0 : (0 : Int32).toInt = 0 := by decide +kernel
  have l1 : (1 : Int32).toInt = 1 := by decide +kernel
  refine lv_iconst (v := 0) hx hb dX11_gainsOf_0 (by decide +kernel) ?_
  refine lv_istore_n (lv' := [(2, .int 0), (0, .ref h0), (1, .int b)]) hx hb dX11_gainsOf_1 rfl hl (by decide) rfl (fun ls hl => ?_)
  refine lv_iconst (v := 0) hx hb dX11_gainsOf_2 (by decide +kernel) ?_
  refine lv_istore_n (lv' := [(3, .int 0), (2, .int 0), (0, .ref h0), (1, .int b)]) hx hb dX11_gainsOf_3 rfl hl (by decide) rfl (fun ls hl => ?_)
  refine tl_loopE (Γ := Γ) (nL := 4) (fun (zz_ : Int32 × Int32) => match zz_ with | (x4_0, x4_1) => 0 ≤ x4_0.toInt ∧ x4_0.toInt ≤ 5) (fun (zz_ : Int32 × Int32) => match zz_ with | (x4_0, x4_1) => (5 - x4_0.toInt).toNat) (fun (zz_ : Int32 × Int32) => match zz_ with | (x4_0, x4_1) => [(3, .int x4_0), (2, .int x4_1), (0, .ref h0), (1, .int b)]) (fun (zz_ : Int32 × Int32) => match zz_ with | (x4_0, x4_1) => [(h0, .inr (11, [.ref tp, .ref ra1, .ref ra2, .ref ra3, .ref ra4, .ref ra5, .ref ra6, .ref ra7, .ref ra8, .ref ra9, .ref ra10, .ref ra11, .ref ra12, .int rc, .int fo, .int xx]))]) (fun (zz_ : Int32 × Int32) (w : va_W) => match zz_ with | (x4_0, x4_1) => tk_kp [] w0 w) (fun zz_ hI H locs wt ls hT hW hP hD hS hl ih4 => ?_) (0, 0) (show 0 ≤ (0 : Int32).toInt ∧ (0 : Int32).toInt ≤ 5 from ⟨by omega, by omega⟩) _ _ wt ls hT hW hP hD hS hl
  obtain ⟨x4_0, x4_1⟩ := zz_
  have hW : tk_kp [] w0 wt := hW
  have hI : 0 ≤ x4_0.toInt ∧ x4_0.toInt ≤ 5 := hI
  obtain ⟨j4_0, j4_1⟩ := hI
  have hl : lv_has ls 4 [(3, .int x4_0), (2, .int x4_1), (0, .ref h0), (1, .int b)] := hl
  have hP : va_P (gg_D G) classes ([(h0, .inr (11, [.ref tp, .ref ra1, .ref ra2, .ref ra3, .ref ra4, .ref ra5, .ref ra6, .ref ra7, .ref ra8, .ref ra9, .ref ra10, .ref ra11, .ref ra12, .int rc, .int fo, .int xx]))] ++ wt) H := hP
  have hD : va_D A ([(h0, .inr (11, [.ref tp, .ref ra1, .ref ra2, .ref ra3, .ref ra4, .ref ra5, .ref ra6, .ref ra7, .ref ra8, .ref ra9, .ref ra10, .ref ra11, .ref ra12, .int rc, .int fo, .int xx]))] ++ wt) := hD
  refine lv_iload_n hx hb dX11_gainsOf_4 rfl (lv_at hl 0 rfl) ?_
  refine lv_aload_n hx hb dX11_gainsOf_5 rfl (lv_at hl 2 rfl) ?_
  refine gq_get hx hb ht hown hK hP i_X11 0 rfl rfl 1 (by decide) wd_498 rfl rfl dX11_gainsOf_6 ?_
  refine tr_get (ci := 9) hx hb ht hown hK hT hP kr1 (by decide) i_X9 rfl 1 (by decide) wd_185 rfl dX11_gainsOf_9 (fun v hv hf_1 => ?_)
  obtain ⟨n_2, rfl, lo_n_2, hi_n_2⟩ := hv
  refine lv_icmp_ge (tgt := 48) hx hb dX11_gainsOf_12 (by decide) (fun c_3 => ?_) (fun c_3 => ?_)
  · rw [Int32.le_iff_toInt_le] at c_3
    refine lv_iload_n hx hb dX11_gainsOf_48 rfl (lv_at hl 1 rfl) ?_
    have hP9 : va_P (gg_D G) classes ([(h0, .inr (11, [.ref tp, .ref ra1, .ref ra2, .ref ra3, .ref ra4, .ref ra5, .ref ra6, .ref ra7, .ref ra8, .ref ra9, .ref ra10, .ref ra11, .ref ra12, .int rc, .int fo, .int xx]))] ++ wt) _ := hP
    have hD9 : va_D A ([(h0, .inr (11, [.ref tp, .ref ra1, .ref ra2, .ref ra3, .ref ra4, .ref ra5, .ref ra6, .ref ra7, .ref ra8, .ref ra9, .ref ra10, .ref ra11, .ref ra12, .int rc, .int fo, .int xx]))] ++ wt) := hD
    exact W.iret (v := x4_1) hx hb hr (gq_endI wt ⟨hT, hW⟩ hP9 hD9 hS) hS.2.2 dX11_gainsOf_49
  · rw [Int32.le_iff_toInt_le] at c_3
    refine lv_iload_n hx hb dX11_gainsOf_15 rfl (lv_at hl 1 rfl) ?_
    refine lv_iload_n hx hb dX11_gainsOf_16 rfl (lv_at hl 0 rfl) ?_
    refine lv_iload_n hx hb dX11_gainsOf_17 rfl (lv_at hl 3 rfl) ?_
    refine gt_callI (wr := [(h0, .inr (11, [.ref tp, .ref ra1, .ref ra2, .ref ra3, .ref ra4, .ref ra5, .ref ra6, .ref ra7, .ref ra8, .ref ra9, .ref ra10, .ref ra11, .ref ra12, .int rc, .int fo, .int xx]))]) (va_runS (As := [.int x4_0, .int b]) (rest := [.int x4_1]) ⟨hx, hb, hml, hown, ht⟩ (d_isIn l G Γ H.size wt hT x4_0 b) (va_cwS 2 ht (ts_gS wd_1081 wd_802 wd_122 wd_803) rfl rfl rfl (by decide +kernel) ⟨Nat.le_of_ble_eq_true rfl, Nat.le_of_ble_eq_true rfl⟩) (gc_preS hK (tw_right hP) (tw_rightD hD)) rfl rfl hl.1 rfl (lv_room (Nat.le_of_ble_eq_true rfl)) dX11_gainsOf_18 ⟨Nat.le_of_ble_eq_true rfl, Nat.le_of_ble_eq_true rfl⟩) hP hD hS hA (fun r_4 wt H locs hw hP hD hS => ?_)
    obtain ⟨hT, hkp, lo_r_4, hi_r_4⟩ := hw
    have hW := hW.call (show ∀ x ∈ [], x ∈ [] by decide) hkp
    have hf_1 := hkp _ _ _ _ (by decide) (by decide) hf_1
    have hP : va_P (gg_D G) classes ([(h0, .inr (11, [.ref tp, .ref ra1, .ref ra2, .ref ra3, .ref ra4, .ref ra5, .ref ra6, .ref ra7, .ref ra8, .ref ra9, .ref ra10, .ref ra11, .ref ra12, .int rc, .int fo, .int xx]))] ++ wt) H := hP
    have hD : va_D A ([(h0, .inr (11, [.ref tp, .ref ra1, .ref ra2, .ref ra3, .ref ra4, .ref ra5, .ref ra6, .ref ra7, .ref ra8, .ref ra9, .ref ra10, .ref ra11, .ref ra12, .int rc, .int fo, .int xx]))] ++ wt) := hD
    refine lv_if_eq (tgt := 39) hx hb dX11_gainsOf_21 (by decide) (fun c_5 => ?_) (fun c_5 => ?_)
    · rw [← Int32.toInt_inj] at c_5
      refine lv_iconst (v := 0) hx hb dX11_gainsOf_39 (by decide +kernel) ?_
      obtain ⟨t_6, et_6⟩ : ∃ zz_ : Int32, x4_1 + 0 = zz_ := ⟨_, rfl⟩
      refine gq_iadd hx hb t_6 et_6 dX11_gainsOf_40 ?_
      have bd_x4_1 := ia_bd x4_1
      have ft_6 := ia_add et_6 (by omega) (by omega)
      refine lv_istore_n (lv' := [(2, .int t_6), (3, .int x4_0), (0, .ref h0), (1, .int b)]) hx hb dX11_gainsOf_41 rfl hl (by decide) rfl (fun ls hl => ?_)
      obtain ⟨t_7, et_7⟩ : ∃ zz_ : Int32, x4_0 + Int32.ofInt (1) = zz_ := ⟨_, rfl⟩
      have ft_7 : t_7.toInt = x4_0.toInt + (1 : Int32).toInt := ia_add (y := 1) et_7 (by omega) (by omega)
      refine lv_iinc (v := t_7) (lv' := [(3, .int t_7), (2, .int t_6), (0, .ref h0), (1, .int b)]) hx hb dX11_gainsOf_42 hl (k := 1) rfl et_7 (by decide) rfl (fun ls hl => ?_)
      refine lv_goto (tgt := 4) hx hb dX11_gainsOf_45 (by decide) ?_
      exact ih4 (t_7, t_6) (show 0 ≤ t_7.toInt ∧ t_7.toInt ≤ 5 from ⟨by omega, by omega⟩) (show (5 - t_7.toInt).toNat < (5 - x4_0.toInt).toNat by omega) H locs wt ls hT hW hP hD hS (lv_sub hl [0, 1, 2, 3] rfl)
    · rw [← Int32.toInt_inj] at c_5
      refine lv_aload_n hx hb dX11_gainsOf_24 rfl (lv_at hl 2 rfl) ?_
      refine gq_get hx hb ht hown hK hP i_X11 0 rfl rfl 4 (by decide) wd_501 rfl rfl dX11_gainsOf_25 ?_
      refine lv_iload_n hx hb dX11_gainsOf_28 rfl (lv_at hl 0 rfl) ?_
      refine lv_aload_n hx hb dX11_gainsOf_29 rfl (lv_at hl 2 rfl) ?_
      refine gq_get hx hb ht hown hK hP i_X11 0 rfl rfl 1 (by decide) wd_498 rfl rfl dX11_gainsOf_30 ?_
      refine gt_callI (wr := [(h0, .inr (11, [.ref tp, .ref ra1, .ref ra2, .ref ra3, .ref ra4, .ref ra5, .ref ra6, .ref ra7, .ref ra8, .ref ra9, .ref ra10, .ref ra11, .ref ra12, .int rc, .int fo, .int xx]))]) (va_runV (As := [.int x4_0, .ref ra1]) (rest := [.int x4_1]) ⟨hx, hb, hml, hown, ht⟩ (d_gainOf l G Γ H.size wt hT ra4 x4_0 ra1 kr4 (by omega) (by omega) kr1) (cwV 2 ht (ts_gV wd_808 wd_809 wd_810 wd_125 wd_811) rfl rfl rfl (by decide +kernel) ⟨Nat.le_of_ble_eq_true rfl, Nat.le_of_ble_eq_true rfl⟩) (gt_preW (ci := 7) hK hT (tw_right hP) (tw_rightD hD) kr4 (by decide) rfl) rfl rfl hl.1 rfl (lv_room (Nat.le_of_ble_eq_true rfl)) dX11_gainsOf_33 ⟨Nat.le_of_ble_eq_true rfl, Nat.le_of_ble_eq_true rfl⟩) hP hD hS hA (fun r_8 wt H locs hw hP hD hS => ?_)
      obtain ⟨hT, hkp⟩ := hw
      have hW := hW.call (show ∀ x ∈ [], x ∈ [] by decide) hkp
      have hf_1 := hkp _ _ _ _ (by decide) (by decide) hf_1
      have hP : va_P (gg_D G) classes ([(h0, .inr (11, [.ref tp, .ref ra1, .ref ra2, .ref ra3, .ref ra4, .ref ra5, .ref ra6, .ref ra7, .ref ra8, .ref ra9, .ref ra10, .ref ra11, .ref ra12, .int rc, .int fo, .int xx]))] ++ wt) H := hP
      have hD : va_D A ([(h0, .inr (11, [.ref tp, .ref ra1, .ref ra2, .ref ra3, .ref ra4, .ref ra5, .ref ra6, .ref ra7, .ref ra8, .ref ra9, .ref ra10, .ref ra11, .ref ra12, .int rc, .int fo, .int xx]))] ++ wt) := hD
      refine lv_goto (tgt := 40) hx hb dX11_gainsOf_36 (by decide) ?_
      obtain ⟨t_9, et_9⟩ : ∃ zz_ : Int32, x4_1 + r_8 = zz_ := ⟨_, rfl⟩
      refine gq_iadd hx hb t_9 et_9 dX11_gainsOf_40 ?_
      refine lv_istore_n (lv' := [(2, .int t_9), (3, .int x4_0), (0, .ref h0), (1, .int b)]) hx hb dX11_gainsOf_41 rfl hl (by decide) rfl (fun ls hl => ?_)
      obtain ⟨t_10, et_10⟩ : ∃ zz_ : Int32, x4_0 + Int32.ofInt (1) = zz_ := ⟨_, rfl⟩
      have ft_10 : t_10.toInt = x4_0.toInt + (1 : Int32).toInt := ia_add (y := 1) et_10 (by omega) (by omega)
      refine lv_iinc (v := t_10) (lv' := [(3, .int t_10), (2, .int t_9), (0, .ref h0), (1, .int b)]) hx hb dX11_gainsOf_42 hl (k := 1) rfl et_10 (by decide) rfl (fun ls hl => ?_)
      refine lv_goto (tgt := 4) hx hb dX11_gainsOf_45 (by decide) ?_
      exact ih4 (t_10, t_9) (show 0 ≤ t_10.toInt ∧ t_10.toInt ≤ 5 from ⟨by omega, by omega⟩) (show (5 - t_10.toInt).toNat < (5 - x4_0.toInt).toNat by omega) H locs wt ls hT hW hP hD hS (lv_sub hl [0, 1, 2, 3] rfl)
set_option maxHeartbeats 4000000 in
set_option maxRecDepth 100000 in
theorem d_nobody (l : Launch) (G : gg_T) (Γ : Nat → Nat) (sz : Nat) (wt : va_W) (hT : tk_ty G Γ wt) (b : Int32) (w : Int32) (tp : Nat) (h0 : Nat) (ra1 : Nat) (ra2 : Nat) (ra3 : Nat) (ra4 : Nat) (ra5 : Nat) (ra6 : Nat) (ra7 : Nat) (ra8 : Nat) (ra9 : Nat) (ra10 : Nat) (ra11 : Nat) (ra12 : Nat) (rc : Int32) (fo : Int32) (xx : Int32) (kr1 : Γ ra1 = 10) (kr2 : Γ ra2 = 10) (kr3 : Γ ra3 = 8) (kr4 : Γ ra4 = 8) (kr5 : Γ ra5 = 4) (kr6 : Γ ra6 = 3) (kr7 : Γ ra7 = 41) (kr9 : Γ ra9 = 1) (kr10 : Γ ra10 = 6) (kr11 : Γ ra11 = 11) (kr12 : Γ ra12 = 7) (xr1 : 0 ≤ rc.toInt) (xr2 : rc.toInt ≤ 6) : Met l yX11_nobodyHasMore (ts_L yX11_nobodyHasMore cX11_nobodyHasMore 4 (some .boolean)) ({ frames := 2, cells := 0, slots := 0, locals := 46 }) (gc_P G ([(h0, .inr (11, [.ref tp, .ref ra1, .ref ra2, .ref ra3, .ref ra4, .ref ra5, .ref ra6, .ref ra7, .ref ra8, .ref ra9, .ref ra10, .ref ra11, .ref ra12, .int rc, .int fo, .int xx]))] ++ wt) sz [.ref h0, .int b, .int w]) (gc_I G (va_A ([(h0, .inr (11, [.ref tp, .ref ra1, .ref ra2, .ref ra3, .ref ra4, .ref ra5, .ref ra6, .ref ra7, .ref ra8, .ref ra9, .ref ra10, .ref ra11, .ref ra12, .int rc, .int fo, .int xx]))] ++ wt) sz) (fun r (u : va_W) => match u with | wt1 => tk_ty G Γ wt1 ∧ tk_kp [] wt wt1 ∧ 0 ≤ r.toInt ∧ r.toInt ≤ 1) (fun (u : va_W) => match u with | wt1 => [(h0, .inr (11, [.ref tp, .ref ra1, .ref ra2, .ref ra3, .ref ra4, .ref ra5, .ref ra6, .ref ra7, .ref ra8, .ref ra9, .ref ra10, .ref ra11, .ref ra12, .int rc, .int fo, .int xx]))] ++ wt1)) 0 0 (va_A ([(h0, .inr (11, [.ref tp, .ref ra1, .ref ra2, .ref ra3, .ref ra4, .ref ra5, .ref ra6, .ref ra7, .ref ra8, .ref ra9, .ref ra10, .ref ra11, .ref ra12, .int rc, .int fo, .int xx]))] ++ wt) sz) := by
  refine Met.ofW (cc := cX11_nobodyHasMore) (maxL := 4) (ret := (some .boolean)) (by decide) rfl ?_
  intro p e s m args below meth c s₁ B hml hv
  obtain ⟨rfl, hsz, hP, hK, hD0⟩ := hv
  have hx := B.exec
  have hb := B.bytes
  have hr := B.returns
  have ht := ts_ht (atoms_spec (ws := ts_L yX11_nobodyHasMore cX11_nobodyHasMore 4 (some .boolean)) B.pre)
  have hown : s.vm.findClass RX11 = some m.cls := findClass_of_methodNamed B.named
  have hlocks := B.notSynchronized
  subst hsz
  have hD := hD0.self (sz := s.heap.size)
  generalize hAe : va_A ([(h0, .inr (11, [.ref tp, .ref ra1, .ref ra2, .ref ra3, .ref ra4, .ref ra5, .ref ra6, .ref ra7, .ref ra8, .ref ra9, .ref ra10, .ref ra11, .ref ra12, .int rc, .int fo, .int xx]))] ++ wt) s.heap.size = A at hD ⊢
  have hA : ∀ q : Nat, s.heap.size ≤ q → A q := fun q h => by rw [← hAe]; exact Or.inr h
  clear hAe hD0
  have hS : va_S A s.heap s.heap [] := va_S.rf
  obtain ⟨w0, hw0⟩ : ∃ z, z = wt := ⟨_, rfl⟩
  have hW : tk_kp [] w0 wt := by rw [hw0]; exact tk_kp.rf
  rw [← hw0]
  clear hw0
  have hP : va_P (gg_D G) classes ([(h0, .inr (11, [.ref tp, .ref ra1, .ref ra2, .ref ra3, .ref ra4, .ref ra5, .ref ra6, .ref ra7, .ref ra8, .ref ra9, .ref ra10, .ref ra11, .ref ra12, .int rc, .int fo, .int xx]))] ++ wt) s.heap := hP
  have hD : va_D A ([(h0, .inr (11, [.ref tp, .ref ra1, .ref ra2, .ref ra3, .ref ra4, .ref ra5, .ref ra6, .ref ra7, .ref ra8, .ref ra9, .ref ra10, .ref ra11, .ref ra12, .int rc, .int fo, .int xx]))] ++ wt) := hD
  have hl := lv_entry ([.ref h0, .int b, .int w]) (n := 4) (Nat.le_of_ble_eq_true rfl)
  rw [lg_entry_eq]
  generalize (lg_sl ([.ref h0, .int b, .int w]) ++ List.replicate (4 - (lg_sl ([.ref h0, .int b, .int w])).length) Slot.unset).toArray = ls at hl ⊢
  have hl : lv_has ls 4 [(0, .ref h0), (1, .int b), (2, .int w)] := hl
  have l0 : (0 : Int32).toInt = 0 := by decide +kernel
  have l1 : (1 : Int32).toInt = 1 := by decide +kernel
  refine lv_iconst (v := 0) hx hb dX11_nobodyHasMore_0 (by decide +kernel) ?_
  refine lv_istore_n (lv' := [(3, .int 0), (0, .ref h0), (1, .int b), (2, .int w)]) hx hb dX11_nobodyHasMore_1 rfl hl (by decide) rfl (fun ls hl => ?_)
  refine tl_loopE (Γ := Γ) (nL := 4) (fun (zz_ : Int32) => match zz_ with | x2_0 => 0 ≤ x2_0.toInt ∧ x2_0.toInt ≤ 5) (fun (zz_ : Int32) => match zz_ with | x2_0 => (5 - x2_0.toInt).toNat) (fun (zz_ : Int32) => match zz_ with | x2_0 => [(3, .int x2_0), (0, .ref h0), (1, .int b), (2, .int w)]) (fun (zz_ : Int32) => match zz_ with | x2_0 => [(h0, .inr (11, [.ref tp, .ref ra1, .ref ra2, .ref ra3, .ref ra4, .ref ra5, .ref ra6, .ref ra7, .ref ra8, .ref ra9, .ref ra10, .ref ra11, .ref ra12, .int rc, .int fo, .int xx]))]) (fun (zz_ : Int32) (w : va_W) => match zz_ with | x2_0 => tk_kp [] w0 w) (fun zz_ hI H locs wt ls hT hW hP hD hS hl ih2 => ?_) 0 (show 0 ≤ (0 : Int32).toInt ∧ (0 : Int32).toInt ≤ 5 from ⟨by omega, by omega⟩) _ _ wt ls hT hW hP hD hS hl
  obtain ⟨x2_0, rfl⟩ : ∃ z2, z2 = zz_ := ⟨_, rfl⟩
  have hW : tk_kp [] w0 wt := hW
  have hI : 0 ≤ x2_0.toInt ∧ x2_0.toInt ≤ 5 := hI
  obtain ⟨j2_0, j2_1⟩ := hI
  have hl : lv_has ls 4 [(3, .int x2_0), (0, .ref h0), (1, .int b), (2, .int w)] := hl
  have hP : va_P (gg_D G) classes ([(h0, .inr (11, [.ref tp, .ref ra1, .ref ra2, .ref ra3, .ref ra4, .ref ra5, .ref ra6, .ref ra7, .ref ra8, .ref ra9, .ref ra10, .ref ra11, .ref ra12, .int rc, .int fo, .int xx]))] ++ wt) H := hP
  have hD : va_D A ([(h0, .inr (11, [.ref tp, .ref ra1, .ref ra2, .ref ra3, .ref ra4, .ref ra5, .ref ra6, .ref ra7, .ref ra8, .ref ra9, .ref ra10, .ref ra11, .ref ra12, .int rc, .int fo, .int xx]))] ++ wt) := hD
  refine lv_iload_n hx hb dX11_nobodyHasMore_2 rfl (lv_at hl 0 rfl) ?_
  refine lv_aload_n hx hb dX11_nobodyHasMore_3 rfl (lv_at hl 1 rfl) ?_
  refine gq_get hx hb ht hown hK hP i_X11 0 rfl rfl 1 (by decide) wd_498 rfl rfl dX11_nobodyHasMore_4 ?_
  refine tr_get (ci := 9) hx hb ht hown hK hT hP kr1 (by decide) i_X9 rfl 1 (by decide) wd_185 rfl dX11_nobodyHasMore_7 (fun v hv hf_1 => ?_)
  obtain ⟨n_2, rfl, lo_n_2, hi_n_2⟩ := hv
  refine lv_icmp_ge (tgt := 45) hx hb dX11_nobodyHasMore_10 (by decide) (fun c_3 => ?_) (fun c_3 => ?_)
  · rw [Int32.le_iff_toInt_le] at c_3
    refine lv_iconst (v := 1) hx hb dX11_nobodyHasMore_45 (by decide +kernel) ?_
    have hP9 : va_P (gg_D G) classes ([(h0, .inr (11, [.ref tp, .ref ra1, .ref ra2, .ref ra3, .ref ra4, .ref ra5, .ref ra6, .ref ra7, .ref ra8, .ref ra9, .ref ra10, .ref ra11, .ref ra12, .int rc, .int fo, .int xx]))] ++ wt) _ := hP
    have hD9 : va_D A ([(h0, .inr (11, [.ref tp, .ref ra1, .ref ra2, .ref ra3, .ref ra4, .ref ra5, .ref ra6, .ref ra7, .ref ra8, .ref ra9, .ref ra10, .ref ra11, .ref ra12, .int rc, .int fo, .int xx]))] ++ wt) := hD
    exact W.zret (v := 1) hx hb hr (by decide +kernel) (gq_endI wt ⟨hT, hW, (by omega), (by omega)⟩ hP9 hD9 hS) hS.2.2 dX11_nobodyHasMore_46
  · rw [Int32.le_iff_toInt_le] at c_3
    refine lv_iload_n hx hb dX11_nobodyHasMore_13 rfl (lv_at hl 0 rfl) ?_
    refine lv_iload_n hx hb dX11_nobodyHasMore_14 rfl (lv_at hl 2 rfl) ?_
    refine gt_callI (wr := [(h0, .inr (11, [.ref tp, .ref ra1, .ref ra2, .ref ra3, .ref ra4, .ref ra5, .ref ra6, .ref ra7, .ref ra8, .ref ra9, .ref ra10, .ref ra11, .ref ra12, .int rc, .int fo, .int xx]))]) (va_runS (As := [.int x2_0, .int b]) (rest := []) ⟨hx, hb, hml, hown, ht⟩ (d_isIn l G Γ H.size wt hT x2_0 b) (va_cwS 2 ht (ts_gS wd_1081 wd_802 wd_122 wd_803) rfl rfl rfl (by decide +kernel) ⟨Nat.le_of_ble_eq_true rfl, Nat.le_of_ble_eq_true rfl⟩) (gc_preS hK (tw_right hP) (tw_rightD hD)) rfl rfl hl.1 rfl (lv_room (Nat.le_of_ble_eq_true rfl)) dX11_nobodyHasMore_15 ⟨Nat.le_of_ble_eq_true rfl, Nat.le_of_ble_eq_true rfl⟩) hP hD hS hA (fun r_4 wt H locs hw hP hD hS => ?_)
    obtain ⟨hT, hkp, lo_r_4, hi_r_4⟩ := hw
    have hW := hW.call (show ∀ x ∈ [], x ∈ [] by decide) hkp
    have hf_1 := hkp _ _ _ _ (by decide) (by decide) hf_1
    have hP : va_P (gg_D G) classes ([(h0, .inr (11, [.ref tp, .ref ra1, .ref ra2, .ref ra3, .ref ra4, .ref ra5, .ref ra6, .ref ra7, .ref ra8, .ref ra9, .ref ra10, .ref ra11, .ref ra12, .int rc, .int fo, .int xx]))] ++ wt) H := hP
    have hD : va_D A ([(h0, .inr (11, [.ref tp, .ref ra1, .ref ra2, .ref ra3, .ref ra4, .ref ra5, .ref ra6, .ref ra7, .ref ra8, .ref ra9, .ref ra10, .ref ra11, .ref ra12, .int rc, .int fo, .int xx]))] ++ wt) := hD
    refine lv_if_eq (tgt := 39) hx hb dX11_nobodyHasMore_18 (by decide) (fun c_5 => ?_) (fun c_5 => ?_)
    · rw [← Int32.toInt_inj] at c_5
      obtain ⟨t_6, et_6⟩ : ∃ zz_ : Int32, x2_0 + Int32.ofInt (1) = zz_ := ⟨_, rfl⟩
      have ft_6 : t_6.toInt = x2_0.toInt + (1 : Int32).toInt := ia_add (y := 1) et_6 (by omega) (by omega)
      refine lv_iinc (v := t_6) (lv' := [(3, .int t_6), (0, .ref h0), (1, .int b), (2, .int w)]) hx hb dX11_nobodyHasMore_39 hl (k := 0) rfl et_6 (by decide) rfl (fun ls hl => ?_)
      refine lv_goto (tgt := 2) hx hb dX11_nobodyHasMore_42 (by decide) ?_
      exact ih2 t_6 (show 0 ≤ t_6.toInt ∧ t_6.toInt ≤ 5 from ⟨by omega, by omega⟩) (show (5 - t_6.toInt).toNat < (5 - x2_0.toInt).toNat by omega) H locs wt ls hT hW hP hD hS (lv_sub hl [0, 1, 2, 3] rfl)
    · rw [← Int32.toInt_inj] at c_5
      refine lv_aload_n hx hb dX11_nobodyHasMore_21 rfl (lv_at hl 1 rfl) ?_
      refine gq_get hx hb ht hown hK hP i_X11 0 rfl rfl 4 (by decide) wd_501 rfl rfl dX11_nobodyHasMore_22 ?_
      refine lv_iload_n hx hb dX11_nobodyHasMore_25 rfl (lv_at hl 0 rfl) ?_
      refine lv_aload_n hx hb dX11_nobodyHasMore_26 rfl (lv_at hl 1 rfl) ?_
      refine gq_get hx hb ht hown hK hP i_X11 0 rfl rfl 1 (by decide) wd_498 rfl rfl dX11_nobodyHasMore_27 ?_
      refine gt_callI (wr := [(h0, .inr (11, [.ref tp, .ref ra1, .ref ra2, .ref ra3, .ref ra4, .ref ra5, .ref ra6, .ref ra7, .ref ra8, .ref ra9, .ref ra10, .ref ra11, .ref ra12, .int rc, .int fo, .int xx]))]) (va_runV (As := [.int x2_0, .ref ra1]) (rest := []) ⟨hx, hb, hml, hown, ht⟩ (d_gainOf l G Γ H.size wt hT ra4 x2_0 ra1 kr4 (by omega) (by omega) kr1) (cwV 2 ht (ts_gV wd_808 wd_809 wd_810 wd_125 wd_811) rfl rfl rfl (by decide +kernel) ⟨Nat.le_of_ble_eq_true rfl, Nat.le_of_ble_eq_true rfl⟩) (gt_preW (ci := 7) hK hT (tw_right hP) (tw_rightD hD) kr4 (by decide) rfl) rfl rfl hl.1 rfl (lv_room (Nat.le_of_ble_eq_true rfl)) dX11_nobodyHasMore_30 ⟨Nat.le_of_ble_eq_true rfl, Nat.le_of_ble_eq_true rfl⟩) hP hD hS hA (fun r_7 wt H locs hw hP hD hS => ?_)
      obtain ⟨hT, hkp⟩ := hw
      have hW := hW.call (show ∀ x ∈ [], x ∈ [] by decide) hkp
      have hf_1 := hkp _ _ _ _ (by decide) (by decide) hf_1
      have hP : va_P (gg_D G) classes ([(h0, .inr (11, [.ref tp, .ref ra1, .ref ra2, .ref ra3, .ref ra4, .ref ra5, .ref ra6, .ref ra7, .ref ra8, .ref ra9, .ref ra10, .ref ra11, .ref ra12, .int rc, .int fo, .int xx]))] ++ wt) H := hP
      have hD : va_D A ([(h0, .inr (11, [.ref tp, .ref ra1, .ref ra2, .ref ra3, .ref ra4, .ref ra5, .ref ra6, .ref ra7, .ref ra8, .ref ra9, .ref ra10, .ref ra11, .ref ra12, .int rc, .int fo, .int xx]))] ++ wt) := hD
      refine lv_iload_n hx hb dX11_nobodyHasMore_33 rfl (lv_at hl 3 rfl) ?_
      refine lv_icmp_le (tgt := 39) hx hb dX11_nobodyHasMore_34 (by decide) (fun c_8 => ?_) (fun c_8 => ?_)
      · rw [Int32.le_iff_toInt_le] at c_8
        obtain ⟨t_9, et_9⟩ : ∃ zz_ : Int32, x2_0 + Int32.ofInt (1) = zz_ := ⟨_, rfl⟩
        have ft_9 : t_9.toInt = x2_0.toInt + (1 : Int32).toInt := ia_add (y := 1) et_9 (by omega) (by omega)
        refine lv_iinc (v := t_9) (lv' := [(3, .int t_9), (0, .ref h0), (1, .int b), (2, .int w)]) hx hb dX11_nobodyHasMore_39 hl (k := 0) rfl et_9 (by decide) rfl (fun ls hl => ?_)
        refine lv_goto (tgt := 2) hx hb dX11_nobodyHasMore_42 (by decide) ?_
        exact ih2 t_9 (show 0 ≤ t_9.toInt ∧ t_9.toInt ≤ 5 from ⟨by omega, by omega⟩) (show (5 - t_9.toInt).toNat < (5 - x2_0.toInt).toNat by omega) H locs wt ls hT hW hP hD hS (lv_sub hl [0, 1, 2, 3] rfl)
      · rw [Int32.le_iff_toInt_le] at c_8
        refine lv_iconst (v := 0) hx hb dX11_nobodyHasMore_37 (by decide +kernel) ?_
        have hP9 : va_P (gg_D G) classes ([(h0, .inr (11, [.ref tp, .ref ra1, .ref ra2, .ref ra3, .ref ra4, .ref ra5, .ref ra6, .ref ra7, .ref ra8, .ref ra9, .ref ra10, .ref ra11, .ref ra12, .int rc, .int fo, .int xx]))] ++ wt) _ := hP
        have hD9 : va_D A ([(h0, .inr (11, [.ref tp, .ref ra1, .ref ra2, .ref ra3, .ref ra4, .ref ra5, .ref ra6, .ref ra7, .ref ra8, .ref ra9, .ref ra10, .ref ra11, .ref ra12, .int rc, .int fo, .int xx]))] ++ wt) := hD
        exact W.zret (v := 0) hx hb hr (by decide +kernel) (gq_endI wt ⟨hT, hW, (by omega), (by omega)⟩ hP9 hD9 hS) hS.2.2 dX11_nobodyHasMore_38
set_option maxHeartbeats 4000000 in
set_option maxRecDepth 100000 in
theorem d_duelGain (l : Launch) (G : gg_T) (Γ : Nat → Nat) (sz : Nat) (wt : va_W) (hT : tk_ty G Γ wt) (b : Int32) (w : Int32) (z : Int32) : Met l yX11_duelGain (ts_L yX11_duelGain cX11_duelGain 3 (some .int)) ({ frames := 0, cells := 0, slots := 0, locals := 0 }) (gc_P G wt sz [.int b, .int w, .int z]) (gc_I G (va_A wt sz) (fun r (u : va_W) => tk_ty G Γ u ∧ tk_kp [] wt u) (fun u => u)) 0 0 (va_A wt sz) := by
  refine Met.ofW (cc := cX11_duelGain) (maxL := 3) (ret := (some .int)) (by decide) rfl ?_
  intro p e s m args below meth c s₁ B hml hv
  obtain ⟨rfl, hsz, hP, hK, hD0⟩ := hv
  have hx := B.exec
  have hb := B.bytes
  have hr := B.returns
  have ht := ts_ht (atoms_spec (ws := ts_L yX11_duelGain cX11_duelGain 3 (some .int)) B.pre)
  have hown : s.vm.findClass RX11 = some m.cls := findClass_of_methodNamed B.named
  have hlocks := B.notSynchronized
  subst hsz
  have hD := hD0.self (sz := s.heap.size)
  generalize hAe : va_A wt s.heap.size = A at hD ⊢
  have hA : ∀ q : Nat, s.heap.size ≤ q → A q := fun q h => by rw [← hAe]; exact Or.inr h
  clear hAe hD0
  have hS : va_S A s.heap s.heap [] := va_S.rf
  obtain ⟨w0, hw0⟩ : ∃ z, z = wt := ⟨_, rfl⟩
  have hW : tk_kp [] w0 wt := by rw [hw0]; exact tk_kp.rf
  rw [← hw0]
  clear hw0
  have hP : va_P (gg_D G) classes ([] ++ wt) s.heap := hP
  have hD : va_D A ([] ++ wt) := hD
  have hl := lv_entry ([.int b, .int w, .int z]) (n := 3) (Nat.le_of_ble_eq_true rfl)
  rw [lg_entry_eq]
  generalize (lg_sl ([.int b, .int w, .int z]) ++ List.replicate (3 - (lg_sl ([.int b, .int w, .int z])).length) Slot.unset).toArray = ls at hl ⊢
  have hl : lv_has ls 3 [(0, .int b), (1, .int w), (2, .int z)] := hl
  have l0 : (0 : Int32).toInt = 0 := by decide +kernel
  refine lv_iload_n hx hb dX11_duelGain_0 rfl (lv_at hl 1 rfl) ?_
  refine lv_iload_n hx hb dX11_duelGain_1 rfl (lv_at hl 2 rfl) ?_
  refine lv_icmp_le (tgt := 11) hx hb dX11_duelGain_2 (by decide) (fun c_1 => ?_) (fun c_1 => ?_)
  · rw [Int32.le_iff_toInt_le] at c_1
    refine lv_iconst (v := 0) hx hb dX11_duelGain_11 (by decide +kernel) ?_
    have hP9 := tw_right hP
    have hD9 := tw_rightD hD
    exact W.iret (v := 0) hx hb hr (gq_endI wt ⟨hT, hW⟩ hP9 hD9 hS) hS.2.2 dX11_duelGain_12
  · rw [Int32.le_iff_toInt_le] at c_1
    refine lv_iload_n hx hb dX11_duelGain_5 rfl (lv_at hl 0 rfl) ?_
    refine lv_iload_n hx hb dX11_duelGain_6 rfl (lv_at hl 2 rfl) ?_
    obtain ⟨t_2, et_2⟩ : ∃ zz_ : Int32, b - z = zz_ := ⟨_, rfl⟩
    refine gq_isub hx hb t_2 et_2 dX11_duelGain_7 ?_
    refine lv_goto (tgt := 12) hx hb dX11_duelGain_8 (by decide) ?_
    have hP9 := tw_right hP
    have hD9 := tw_rightD hD
    exact W.iret (v := t_2) hx hb hr (gq_endI wt ⟨hT, hW⟩ hP9 hD9 hS) hS.2.2 dX11_duelGain_12
set_option maxHeartbeats 4000000 in
set_option maxRecDepth 100000 in
theorem d_isBest (l : Launch) (G : gg_T) (Γ : Nat → Nat) (sz : Nat) (wt : va_W) (hT : tk_ty G Γ wt) (b : Int32) (w : Int32) (z : Int32) : Met l yX11_isBestAgainst (ts_L yX11_isBestAgainst cX11_isBestAgainst 5 (some .boolean)) ({ frames := 1, cells := 0, slots := 0, locals := 22 }) (gc_P G wt sz [.int b, .int w, .int z]) (gc_I G (va_A wt sz) (fun r (u : va_W) => tk_ty G Γ u ∧ tk_kp [] wt u ∧ 0 ≤ r.toInt ∧ r.toInt ≤ 1) (fun u => u)) 0 0 (va_A wt sz) := by
  refine Met.ofW (cc := cX11_isBestAgainst) (maxL := 5) (ret := (some .boolean)) (by decide) rfl ?_
  intro p e s m args below meth c s₁ B hml hv
  obtain ⟨rfl, hsz, hP, hK, hD0⟩ := hv
  have hx := B.exec
  have hb := B.bytes
  have hr := B.returns
  have ht := ts_ht (atoms_spec (ws := ts_L yX11_isBestAgainst cX11_isBestAgainst 5 (some .boolean)) B.pre)
  have hown : s.vm.findClass RX11 = some m.cls := findClass_of_methodNamed B.named
  have hlocks := B.notSynchronized
  subst hsz
  have hD := hD0.self (sz := s.heap.size)
  generalize hAe : va_A wt s.heap.size = A at hD ⊢
  have hA : ∀ q : Nat, s.heap.size ≤ q → A q := fun q h => by rw [← hAe]; exact Or.inr h
  clear hAe hD0
  have hS : va_S A s.heap s.heap [] := va_S.rf
  obtain ⟨w0, hw0⟩ : ∃ z, z = wt := ⟨_, rfl⟩
  have hW : tk_kp [] w0 wt := by rw [hw0]; exact tk_kp.rf
  rw [← hw0]
  clear hw0
  have hP : va_P (gg_D G) classes ([] ++ wt) s.heap := hP
  have hD : va_D A ([] ++ wt) := hD
  have hl := lv_entry ([.int b, .int w, .int z]) (n := 5) (Nat.le_of_ble_eq_true rfl)
  rw [lg_entry_eq]
  generalize (lg_sl ([.int b, .int w, .int z]) ++ List.replicate (5 - (lg_sl ([.int b, .int w, .int z])).length) Slot.unset).toArray = ls at hl ⊢
  have hl : lv_has ls 5 [(0, .int b), (1, .int w), (2, .int z)] := hl
  have l0 : (0 : Int32).toInt = 0 := by decide +kernel
  have l1 : (1 : Int32).toInt = 1 := by decide +kernel
  have l10 : (10 : Int32).toInt = 10 := by decide +kernel
  refine lv_iload_n hx hb dX11_isBestAgainst_0 rfl (lv_at hl 0 rfl) ?_
  refine lv_iload_n hx hb dX11_isBestAgainst_1 rfl (lv_at hl 1 rfl) ?_
  refine lv_iload_n hx hb dX11_isBestAgainst_2 rfl (lv_at hl 2 rfl) ?_
  refine gt_callI (wr := []) (va_runS (As := [.int b, .int w, .int z]) (rest := []) ⟨hx, hb, hml, hown, ht⟩ (d_duelGain l G Γ s.heap.size wt hT b w z) (va_cwS 3 ht (ts_gS wd_1031 wd_1032 wd_122 wd_1033) rfl rfl rfl (by decide +kernel) ⟨Nat.le_of_ble_eq_true rfl, Nat.le_of_ble_eq_true rfl⟩) (gc_preS hK (tw_right hP) (tw_rightD hD)) rfl rfl hl.1 rfl (lv_room (Nat.le_of_ble_eq_true rfl)) dX11_isBestAgainst_3 ⟨Nat.le_of_ble_eq_true rfl, Nat.le_of_ble_eq_true rfl⟩) hP hD hS hA (fun r_1 wt H locs hw hP hD hS => ?_)
  obtain ⟨hT, hkp⟩ := hw
  have hW := hW.call (show ∀ x ∈ [], x ∈ [] by decide) hkp
  refine lv_istore_n (lv' := [(3, .int r_1), (0, .int b), (1, .int w), (2, .int z)]) hx hb dX11_isBestAgainst_6 rfl hl (by decide) rfl (fun ls hl => ?_)
  refine lv_iconst (v := 0) hx hb dX11_isBestAgainst_7 (by decide +kernel) ?_
  refine lv_istore (lv' := [(4, .int 0), (3, .int r_1), (0, .int b), (1, .int w), (2, .int z)]) hx hb dX11_isBestAgainst_8 hl (by decide) rfl (fun ls hl => ?_)
  refine tl_loopE (Γ := Γ) (nL := 5) (fun (zz_ : Int32) => match zz_ with | x10_0 => 0 ≤ x10_0.toInt ∧ x10_0.toInt ≤ 10) (fun (zz_ : Int32) => match zz_ with | x10_0 => (10 - x10_0.toInt).toNat) (fun (zz_ : Int32) => match zz_ with | x10_0 => [(4, .int x10_0), (3, .int r_1), (0, .int b), (1, .int w), (2, .int z)]) (fun (zz_ : Int32) => match zz_ with | x10_0 => []) (fun (zz_ : Int32) (w : va_W) => match zz_ with | x10_0 => tk_kp [] w0 w) (fun zz_ hI H locs wt ls hT hW hP hD hS hl ih10 => ?_) 0 (show 0 ≤ (0 : Int32).toInt ∧ (0 : Int32).toInt ≤ 10 from ⟨by omega, by omega⟩) _ _ wt ls hT hW hP hD hS hl
  obtain ⟨x10_0, rfl⟩ : ∃ z2, z2 = zz_ := ⟨_, rfl⟩
  have hW : tk_kp [] w0 wt := hW
  have hI : 0 ≤ x10_0.toInt ∧ x10_0.toInt ≤ 10 := hI
  obtain ⟨j10_0, j10_1⟩ := hI
  have hl : lv_has ls 5 [(4, .int x10_0), (3, .int r_1), (0, .int b), (1, .int w), (2, .int z)] := hl
  have hP : va_P (gg_D G) classes ([] ++ wt) H := hP
  have hD : va_D A ([] ++ wt) := hD
  refine lv_iload hx hb dX11_isBestAgainst_10 (lv_at hl 0 rfl) ?_
  refine lv_bipush (v := 10) hx hb dX11_isBestAgainst_12 (by decide +kernel) ?_
  refine lv_icmp_ge (tgt := 39) hx hb dX11_isBestAgainst_14 (by decide) (fun c_2 => ?_) (fun c_2 => ?_)
  · rw [Int32.le_iff_toInt_le] at c_2
    refine lv_iconst (v := 1) hx hb dX11_isBestAgainst_39 (by decide +kernel) ?_
    have hP9 := tw_right hP
    have hD9 := tw_rightD hD
    exact W.zret (v := 1) hx hb hr (by decide +kernel) (gq_endI wt ⟨hT, hW, (by omega), (by omega)⟩ hP9 hD9 hS) hS.2.2 dX11_isBestAgainst_40
  · rw [Int32.le_iff_toInt_le] at c_2
    refine lv_iload_n hx hb dX11_isBestAgainst_17 rfl (lv_at hl 2 rfl) ?_
    refine lv_iload hx hb dX11_isBestAgainst_18 (lv_at hl 0 rfl) ?_
    refine lv_bipush (v := 10) hx hb dX11_isBestAgainst_20 (by decide +kernel) ?_
    obtain ⟨t_3, et_3⟩ : ∃ zz_ : Int32, x10_0 * 10 = zz_ := ⟨_, rfl⟩
    refine gq_imul hx hb t_3 et_3 dX11_isBestAgainst_22 ?_
    have ft_3 := ia_mul et_3 (by rw [l10]; omega) (by rw [l10]; omega)
    rw [l10] at ft_3
    refine lv_iload_n hx hb dX11_isBestAgainst_23 rfl (lv_at hl 4 rfl) ?_
    refine gt_callI (wr := []) (va_runS (As := [.int b, .int t_3, .int z]) (rest := []) ⟨hx, hb, hml, hown, ht⟩ (d_duelGain l G Γ H.size wt hT b t_3 z) (va_cwS 3 ht (ts_gS wd_1031 wd_1032 wd_122 wd_1033) rfl rfl rfl (by decide +kernel) ⟨Nat.le_of_ble_eq_true rfl, Nat.le_of_ble_eq_true rfl⟩) (gc_preS hK (tw_right hP) (tw_rightD hD)) rfl rfl hl.1 rfl (lv_room (Nat.le_of_ble_eq_true rfl)) dX11_isBestAgainst_24 ⟨Nat.le_of_ble_eq_true rfl, Nat.le_of_ble_eq_true rfl⟩) hP hD hS hA (fun r_4 wt H locs hw hP hD hS => ?_)
    obtain ⟨hT, hkp⟩ := hw
    have hW := hW.call (show ∀ x ∈ [], x ∈ [] by decide) hkp
    refine lv_iload_n hx hb dX11_isBestAgainst_27 rfl (lv_at hl 1 rfl) ?_
    refine lv_icmp_le (tgt := 33) hx hb dX11_isBestAgainst_28 (by decide) (fun c_5 => ?_) (fun c_5 => ?_)
    · rw [Int32.le_iff_toInt_le] at c_5
      obtain ⟨t_6, et_6⟩ : ∃ zz_ : Int32, x10_0 + Int32.ofInt (1) = zz_ := ⟨_, rfl⟩
      have ft_6 : t_6.toInt = x10_0.toInt + (1 : Int32).toInt := ia_add (y := 1) et_6 (by omega) (by omega)
      refine lv_iinc (v := t_6) (lv' := [(4, .int t_6), (3, .int r_1), (0, .int b), (1, .int w), (2, .int z)]) hx hb dX11_isBestAgainst_33 hl (k := 0) rfl et_6 (by decide) rfl (fun ls hl => ?_)
      refine lv_goto (tgt := 10) hx hb dX11_isBestAgainst_36 (by decide) ?_
      exact ih10 t_6 (show 0 ≤ t_6.toInt ∧ t_6.toInt ≤ 10 from ⟨by omega, by omega⟩) (show (10 - t_6.toInt).toNat < (10 - x10_0.toInt).toNat by omega) H locs wt ls hT hW hP hD hS (lv_sub hl [0, 1, 2, 3, 4] rfl)
    · rw [Int32.le_iff_toInt_le] at c_5
      refine lv_iconst (v := 0) hx hb dX11_isBestAgainst_31 (by decide +kernel) ?_
      have hP9 := tw_right hP
      have hD9 := tw_rightD hD
      exact W.zret (v := 0) hx hb hr (by decide +kernel) (gq_endI wt ⟨hT, hW, (by omega), (by omega)⟩ hP9 hD9 hS) hS.2.2 dX11_isBestAgainst_32
set_option maxHeartbeats 4000000 in
set_option maxRecDepth 100000 in
theorem d_floorDiv (l : Launch) (G : gg_T) (Γ : Nat → Nat) (sz : Nat) (wt : va_W) (hT : tk_ty G Γ wt) (b : Int32) (w : Int32) (lo_w : 1 ≤ w.toInt) (hi_w : w.toInt ≤ 2147483647) : Met l yJ9_floorDiv_7cf53 (ts_L yJ9_floorDiv_7cf53 cJ9_floorDiv_7cf53 3 (some .int)) ({ frames := 0, cells := 0, slots := 0, locals := 0 }) (gc_P G wt sz [.int b, .int w]) (gc_I G (va_A wt sz) (fun r (u : va_W) => tk_ty G Γ u ∧ tk_kp [] wt u) (fun u => u)) 0 0 (va_A wt sz) := by
  refine Met.ofWF (cc := cJ9_floorDiv_7cf53) (maxL := 3) (ret := (some .int)) (by decide +kernel) rfl ?_
  intro p e s m args below meth c s₁ B hml hv
  obtain ⟨rfl, hsz, hP, hK, hD0⟩ := hv
  have hx := B.exec
  have hb := B.bytes
  have hr := B.returns
  have ht := ts_ht (atoms_spec (ws := ts_L yJ9_floorDiv_7cf53 cJ9_floorDiv_7cf53 3 (some .int)) B.pre)
  have hown : s.vm.findClass RJ9 = some m.cls := findClass_of_methodNamed B.named
  have hlocks := B.notSynchronized
  subst hsz
  have hD := hD0.self (sz := s.heap.size)
  generalize hAe : va_A wt s.heap.size = A at hD ⊢
  have hA : ∀ q : Nat, s.heap.size ≤ q → A q := fun q h => by rw [← hAe]; exact Or.inr h
  clear hAe hD0
  have hS : va_S A s.heap s.heap [] := va_S.rf
  obtain ⟨w0, hw0⟩ : ∃ z, z = wt := ⟨_, rfl⟩
  have hW : tk_kp [] w0 wt := by rw [hw0]; exact tk_kp.rf
  rw [← hw0]
  clear hw0
  have hP : va_P (gg_D G) classes ([] ++ wt) s.heap := hP
  have hD : va_D A ([] ++ wt) := hD
  have hl := lv_entry ([.int b, .int w]) (n := 3) (Nat.le_of_ble_eq_true rfl)
  rw [lg_entry_eq]
  generalize (lg_sl ([.int b, .int w]) ++ List.replicate (3 - (lg_sl ([.int b, .int w])).length) Slot.unset).toArray = ls at hl ⊢
  have hl : lv_has ls 3 [(0, .int b), (1, .int w)] := hl
  have l0 : (0 : Int32).toInt = 0 := by decide +kernel
  refine lv_iload_n hx hb dJ9_floorDiv_7cf53_0 rfl (lv_at hl 0 rfl) ?_
  refine lv_iload_n hx hb dJ9_floorDiv_7cf53_1 rfl (lv_at hl 1 rfl) ?_
  refine lv_idiv hx hb dJ9_floorDiv_7cf53_2 (fun h0 => absurd h0 (by rw [← Int32.toInt_inj]; omega)) ?_
  refine lv_topi (fun t_1 et_1 => ?_)
  refine lv_istore_n (lv' := [(2, .int t_1), (0, .int b), (1, .int w)]) hx hb dJ9_floorDiv_7cf53_3 rfl hl (by decide) rfl (fun ls hl => ?_)
  refine lv_iload_n hx hb dJ9_floorDiv_7cf53_4 rfl (lv_at hl 1 rfl) ?_
  refine lv_iload_n hx hb dJ9_floorDiv_7cf53_5 rfl (lv_at hl 2 rfl) ?_
  refine lv_ixor hx hb dJ9_floorDiv_7cf53_6 ?_
  refine lv_topi (fun t_2 et_2 => ?_)
  refine lv_if_ge (tgt := 21) hx hb dJ9_floorDiv_7cf53_7 (by decide) (fun c_3 => ?_) (fun c_3 => ?_)
  · rw [Int32.le_iff_toInt_le] at c_3
    refine lv_iload_n hx hb dJ9_floorDiv_7cf53_21 rfl (lv_at hl 0 rfl) ?_
    have hP9 := tw_right hP
    have hD9 := tw_rightD hD
    exact W.iret (v := t_1) hx hb hr (gq_endI wt ⟨hT, hW⟩ hP9 hD9 hS) hS.2.2 dJ9_floorDiv_7cf53_22
  · rw [Int32.le_iff_toInt_le] at c_3
    refine lv_iload_n hx hb dJ9_floorDiv_7cf53_10 rfl (lv_at hl 0 rfl) ?_
    refine lv_iload_n hx hb dJ9_floorDiv_7cf53_11 rfl (lv_at hl 2 rfl) ?_
    obtain ⟨t_4, et_4⟩ : ∃ zz_ : Int32, t_1 * w = zz_ := ⟨_, rfl⟩
    refine gq_imul hx hb t_4 et_4 dJ9_floorDiv_7cf53_12 ?_
    refine lv_iload_n hx hb dJ9_floorDiv_7cf53_13 rfl (lv_at hl 1 rfl) ?_
    refine lv_icmp_eq (tgt := 21) hx hb dJ9_floorDiv_7cf53_14 (by decide) (fun c_5 => ?_) (fun c_5 => ?_)
    · rw [← Int32.toInt_inj] at c_5
      refine lv_iload_n hx hb dJ9_floorDiv_7cf53_21 rfl (lv_at hl 0 rfl) ?_
      have hP9 := tw_right hP
      have hD9 := tw_rightD hD
      exact W.iret (v := t_1) hx hb hr (gq_endI wt ⟨hT, hW⟩ hP9 hD9 hS) hS.2.2 dJ9_floorDiv_7cf53_22
    · rw [← Int32.toInt_inj] at c_5
      refine lv_iload_n hx hb dJ9_floorDiv_7cf53_17 rfl (lv_at hl 0 rfl) ?_
      refine lv_iconst (v := 1) hx hb dJ9_floorDiv_7cf53_18 (by decide +kernel) ?_
      obtain ⟨t_6, et_6⟩ : ∃ zz_ : Int32, t_1 - 1 = zz_ := ⟨_, rfl⟩
      refine gq_isub hx hb t_6 et_6 dJ9_floorDiv_7cf53_19 ?_
      have hP9 := tw_right hP
      have hD9 := tw_rightD hD
      exact W.iret (v := t_6) hx hb hr (gq_endI wt ⟨hT, hW⟩ hP9 hD9 hS) hS.2.2 dJ9_floorDiv_7cf53_20
set_option maxHeartbeats 4000000 in
set_option maxRecDepth 100000 in
theorem d_hold (l : Launch) (G : gg_T) (Γ : Nat → Nat) (sz : Nat) (wt : va_W) (hT : tk_ty G Γ wt) (b : Int32) (w : Int32) (tp : Nat) (h0 : Nat) (ra1 : Nat) (ra2 : Nat) (ra3 : Nat) (ra4 : Nat) (ra5 : Nat) (ra6 : Nat) (ra7 : Nat) (ra8 : Nat) (ra9 : Nat) (ra10 : Nat) (ra11 : Nat) (ra12 : Nat) (rc : Int32) (fo : Int32) (xx : Int32) (kr1 : Γ ra1 = 10) (kr2 : Γ ra2 = 10) (kr3 : Γ ra3 = 8) (kr4 : Γ ra4 = 8) (kr5 : Γ ra5 = 4) (kr6 : Γ ra6 = 3) (kr7 : Γ ra7 = 41) (kr9 : Γ ra9 = 1) (kr10 : Γ ra10 = 6) (kr11 : Γ ra11 = 11) (kr12 : Γ ra12 = 7) (xr1 : 0 ≤ rc.toInt) (xr2 : rc.toInt ≤ 6) : Met l yX11_hold (ts_L yX11_hold cX11_hold 6 (some .int)) ({ frames := 6, cells := 0, slots := 0, locals := 146 }) (gc_P G ([(h0, .inr (11, [.ref tp, .ref ra1, .ref ra2, .ref ra3, .ref ra4, .ref ra5, .ref ra6, .ref ra7, .ref ra8, .ref ra9, .ref ra10, .ref ra11, .ref ra12, .int rc, .int fo, .int xx]))] ++ wt) sz [.ref h0, .int b, .int w]) (gc_I G (va_A ([(h0, .inr (11, [.ref tp, .ref ra1, .ref ra2, .ref ra3, .ref ra4, .ref ra5, .ref ra6, .ref ra7, .ref ra8, .ref ra9, .ref ra10, .ref ra11, .ref ra12, .int rc, .int fo, .int xx]))] ++ wt) sz) (fun r (u : va_W) => match u with | wt1 => tk_ty G Γ wt1 ∧ tk_kp [0, 1, 2, 709] wt wt1) (fun (u : va_W) => match u with | wt1 => [(h0, .inr (11, [.ref tp, .ref ra1, .ref ra2, .ref ra3, .ref ra4, .ref ra5, .ref ra6, .ref ra7, .ref ra8, .ref ra9, .ref ra10, .ref ra11, .ref ra12, .int rc, .int fo, .int xx]))] ++ wt1)) 0 0 (va_A ([(h0, .inr (11, [.ref tp, .ref ra1, .ref ra2, .ref ra3, .ref ra4, .ref ra5, .ref ra6, .ref ra7, .ref ra8, .ref ra9, .ref ra10, .ref ra11, .ref ra12, .int rc, .int fo, .int xx]))] ++ wt) sz) := by
  refine Met.ofW (cc := cX11_hold) (maxL := 6) (ret := (some .int)) (by decide) rfl ?_
  intro p e s m args below meth c s₁ B hml hv
  obtain ⟨rfl, hsz, hP, hK, hD0⟩ := hv
  have hx := B.exec
  have hb := B.bytes
  have hr := B.returns
  have ht := ts_ht (atoms_spec (ws := ts_L yX11_hold cX11_hold 6 (some .int)) B.pre)
  have hown : s.vm.findClass RX11 = some m.cls := findClass_of_methodNamed B.named
  have hlocks := B.notSynchronized
  subst hsz
  have hD := hD0.self (sz := s.heap.size)
  generalize hAe : va_A ([(h0, .inr (11, [.ref tp, .ref ra1, .ref ra2, .ref ra3, .ref ra4, .ref ra5, .ref ra6, .ref ra7, .ref ra8, .ref ra9, .ref ra10, .ref ra11, .ref ra12, .int rc, .int fo, .int xx]))] ++ wt) s.heap.size = A at hD ⊢
  have hA : ∀ q : Nat, s.heap.size ≤ q → A q := fun q h => by rw [← hAe]; exact Or.inr h
  clear hAe hD0
  have hS : va_S A s.heap s.heap [] := va_S.rf
  obtain ⟨w0, hw0⟩ : ∃ z, z = wt := ⟨_, rfl⟩
  have hW : tk_kp [0, 1, 2, 709] w0 wt := by rw [hw0]; exact tk_kp.rf
  rw [← hw0]
  clear hw0
  have hP : va_P (gg_D G) classes ([(h0, .inr (11, [.ref tp, .ref ra1, .ref ra2, .ref ra3, .ref ra4, .ref ra5, .ref ra6, .ref ra7, .ref ra8, .ref ra9, .ref ra10, .ref ra11, .ref ra12, .int rc, .int fo, .int xx]))] ++ wt) s.heap := hP
  have hD : va_D A ([(h0, .inr (11, [.ref tp, .ref ra1, .ref ra2, .ref ra3, .ref ra4, .ref ra5, .ref ra6, .ref ra7, .ref ra8, .ref ra9, .ref ra10, .ref ra11, .ref ra12, .int rc, .int fo, .int xx]))] ++ wt) := hD
  have hl := lv_entry ([.ref h0, .int b, .int w]) (n := 6) (Nat.le_of_ble_eq_true rfl)
  rw [lg_entry_eq]
  generalize (lg_sl ([.ref h0, .int b, .int w]) ++ List.replicate (6 - (lg_sl ([.ref h0, .int b, .int w])).length) Slot.unset).toArray = ls at hl ⊢
  have hl : lv_has ls 6 [(0, .ref h0), (1, .int b), (2, .int w)] := hl
  have lm1000 : ((-1000) : Int32).toInt = -1000 := by decide +kernel
  have lm1 : ((-1) : Int32).toInt = -1 := by decide +kernel
  have l0 : (0 : Int32).toInt = 0 := by decide +kernel
  have l1 : (1 : Int32).toInt = 1 := by decide +kernel
  refine lv_aload_n hx hb dX11_hold_0 rfl (lv_at hl 0 rfl) ?_
  refine lv_iload_n hx hb dX11_hold_1 rfl (lv_at hl 1 rfl) ?_
  have hP : va_P (gg_D G) classes ([] ++ ([(h0, .inr (11, [.ref tp, .ref ra1, .ref ra2, .ref ra3, .ref ra4, .ref ra5, .ref ra6, .ref ra7, .ref ra8, .ref ra9, .ref ra10, .ref ra11, .ref ra12, .int rc, .int fo, .int xx]))] ++ wt)) s.heap := hP
  have hD : va_D A ([] ++ ([(h0, .inr (11, [.ref tp, .ref ra1, .ref ra2, .ref ra3, .ref ra4, .ref ra5, .ref ra6, .ref ra7, .ref ra8, .ref ra9, .ref ra10, .ref ra11, .ref ra12, .int rc, .int fo, .int xx]))] ++ wt)) := hD
  refine gt_callI (wr := []) (va_runV (As := [.int b]) (rest := []) ⟨hx, hb, hml, hown, ht⟩ (d_roomOf l G Γ s.heap.size wt hT b tp h0 ra1 ra2 ra3 ra4 ra5 ra6 ra7 ra8 ra9 ra10 ra11 ra12 rc fo xx (by first | assumption | omega) (by first | assumption | omega) (by first | assumption | omega) (by first | assumption | omega) (by first | assumption | omega) (by first | assumption | omega) (by first | assumption | omega) (by first | assumption | omega) (by first | assumption | omega) (by first | assumption | omega) (by first | assumption | omega) (by first | assumption | omega) (by first | assumption | omega)) (cwV 1 ht (ts_gV wd_1011 wd_1013 wd_23 wd_122 wd_1014) rfl rfl rfl (by decide +kernel) ⟨Nat.le_of_ble_eq_true rfl, Nat.le_of_ble_eq_true rfl⟩) (gc_preV (ci := 11) (q0 := 0) hK (tw_right hP) (tw_rightD hD) rfl rfl) rfl rfl hl.1 rfl (lv_room (Nat.le_of_ble_eq_true rfl)) dX11_hold_2 ⟨Nat.le_of_ble_eq_true rfl, Nat.le_of_ble_eq_true rfl⟩) hP hD hS hA (fun r_1 wt H locs hw hP hD hS => ?_)
  obtain ⟨hT, hkp, lo_r_1, hi_r_1, rp_r_1⟩ := hw
  have hW := hW.call (show ∀ x ∈ [], x ∈ [0, 1, 2, 709] by decide) hkp
  have hP : va_P (gg_D G) classes ([(h0, .inr (11, [.ref tp, .ref ra1, .ref ra2, .ref ra3, .ref ra4, .ref ra5, .ref ra6, .ref ra7, .ref ra8, .ref ra9, .ref ra10, .ref ra11, .ref ra12, .int rc, .int fo, .int xx]))] ++ wt) H := hP
  have hD : va_D A ([(h0, .inr (11, [.ref tp, .ref ra1, .ref ra2, .ref ra3, .ref ra4, .ref ra5, .ref ra6, .ref ra7, .ref ra8, .ref ra9, .ref ra10, .ref ra11, .ref ra12, .int rc, .int fo, .int xx]))] ++ wt) := hD
  refine lv_istore_n (lv' := [(3, .int r_1), (0, .ref h0), (1, .int b), (2, .int w)]) hx hb dX11_hold_5 rfl hl (by decide) rfl (fun ls hl => ?_)
  refine lv_iload_n hx hb dX11_hold_6 rfl (lv_at hl 0 rfl) ?_
  refine lv_iconst (v := (-1)) hx hb dX11_hold_7 (by decide +kernel) ?_
  refine lv_icmp_eq (tgt := 20) hx hb dX11_hold_8 (by decide) (fun c_2 => ?_) (fun c_2 => ?_)
  · rw [← Int32.toInt_inj] at c_2
    refine lv_sipush (v := (-1000)) hx hb dX11_hold_20 (by decide +kernel) ?_
    have hP9 : va_P (gg_D G) classes ([(h0, .inr (11, [.ref tp, .ref ra1, .ref ra2, .ref ra3, .ref ra4, .ref ra5, .ref ra6, .ref ra7, .ref ra8, .ref ra9, .ref ra10, .ref ra11, .ref ra12, .int rc, .int fo, .int xx]))] ++ wt) _ := hP
    have hD9 : va_D A ([(h0, .inr (11, [.ref tp, .ref ra1, .ref ra2, .ref ra3, .ref ra4, .ref ra5, .ref ra6, .ref ra7, .ref ra8, .ref ra9, .ref ra10, .ref ra11, .ref ra12, .int rc, .int fo, .int xx]))] ++ wt) := hD
    exact W.iret (v := (-1000)) hx hb hr (gq_endI wt ⟨hT, hW⟩ hP9 hD9 hS) hS.2.2 dX11_hold_23
  · rw [← Int32.toInt_inj] at c_2
    refine lv_iload_n hx hb dX11_hold_11 rfl (lv_at hl 3 rfl) ?_
    refine lv_if_lt (tgt := 20) hx hb dX11_hold_12 (by decide) (fun c_3 => ?_) (fun c_3 => ?_)
    · rw [Int32.lt_iff_toInt_lt] at c_3
      refine lv_sipush (v := (-1000)) hx hb dX11_hold_20 (by decide +kernel) ?_
      have hP9 : va_P (gg_D G) classes ([(h0, .inr (11, [.ref tp, .ref ra1, .ref ra2, .ref ra3, .ref ra4, .ref ra5, .ref ra6, .ref ra7, .ref ra8, .ref ra9, .ref ra10, .ref ra11, .ref ra12, .int rc, .int fo, .int xx]))] ++ wt) _ := hP
      have hD9 : va_D A ([(h0, .inr (11, [.ref tp, .ref ra1, .ref ra2, .ref ra3, .ref ra4, .ref ra5, .ref ra6, .ref ra7, .ref ra8, .ref ra9, .ref ra10, .ref ra11, .ref ra12, .int rc, .int fo, .int xx]))] ++ wt) := hD
      exact W.iret (v := (-1000)) hx hb hr (gq_endI wt ⟨hT, hW⟩ hP9 hD9 hS) hS.2.2 dX11_hold_23
    · rw [Int32.lt_iff_toInt_lt] at c_3
      refine lv_iload_n hx hb dX11_hold_15 rfl (lv_at hl 3 rfl) ?_
      refine lv_iconst (v := 1) hx hb dX11_hold_16 (by decide +kernel) ?_
      refine lv_icmp_le (tgt := 24) hx hb dX11_hold_17 (by decide) (fun c_4 => ?_) (fun c_4 => ?_)
      · rw [Int32.le_iff_toInt_le] at c_4
        refine lv_aload_n hx hb dX11_hold_24 rfl (lv_at hl 1 rfl) ?_
        refine gq_get hx hb ht hown hK hP i_X11 0 rfl rfl 3 (by decide) wd_500 rfl rfl dX11_hold_25 ?_
        refine lv_iload_n hx hb dX11_hold_28 rfl (lv_at hl 2 rfl) ?_
        refine lv_aload_n hx hb dX11_hold_29 rfl (lv_at hl 1 rfl) ?_
        refine gq_get hx hb ht hown hK hP i_X11 0 rfl rfl 1 (by decide) wd_498 rfl rfl dX11_hold_30 ?_
        refine gt_callI (wr := [(h0, .inr (11, [.ref tp, .ref ra1, .ref ra2, .ref ra3, .ref ra4, .ref ra5, .ref ra6, .ref ra7, .ref ra8, .ref ra9, .ref ra10, .ref ra11, .ref ra12, .int rc, .int fo, .int xx]))]) (va_runV (As := [.int b, .ref ra1]) (rest := []) ⟨hx, hb, hml, hown, ht⟩ (d_gainOf l G Γ H.size wt hT ra3 b ra1 kr3 (by omega) (by omega) kr1) (cwV 2 ht (ts_gV wd_808 wd_809 wd_810 wd_125 wd_811) rfl rfl rfl (by decide +kernel) ⟨Nat.le_of_ble_eq_true rfl, Nat.le_of_ble_eq_true rfl⟩) (gt_preW (ci := 7) hK hT (tw_right hP) (tw_rightD hD) kr3 (by decide) rfl) rfl rfl hl.1 rfl (lv_room (Nat.le_of_ble_eq_true rfl)) dX11_hold_33 ⟨Nat.le_of_ble_eq_true rfl, Nat.le_of_ble_eq_true rfl⟩) hP hD hS hA (fun r_5 wt H locs hw hP hD hS => ?_)
        obtain ⟨hT, hkp⟩ := hw
        have hW := hW.call (show ∀ x ∈ [], x ∈ [0, 1, 2, 709] by decide) hkp
        have hP : va_P (gg_D G) classes ([(h0, .inr (11, [.ref tp, .ref ra1, .ref ra2, .ref ra3, .ref ra4, .ref ra5, .ref ra6, .ref ra7, .ref ra8, .ref ra9, .ref ra10, .ref ra11, .ref ra12, .int rc, .int fo, .int xx]))] ++ wt) H := hP
        have hD : va_D A ([(h0, .inr (11, [.ref tp, .ref ra1, .ref ra2, .ref ra3, .ref ra4, .ref ra5, .ref ra6, .ref ra7, .ref ra8, .ref ra9, .ref ra10, .ref ra11, .ref ra12, .int rc, .int fo, .int xx]))] ++ wt) := hD
        refine lv_istore (lv' := [(4, .int r_5), (3, .int r_1), (0, .ref h0), (1, .int b), (2, .int w)]) hx hb dX11_hold_36 hl (by decide) rfl (fun ls hl => ?_)
        refine lv_aload_n hx hb dX11_hold_38 rfl (lv_at hl 2 rfl) ?_
        have hP : va_P (gg_D G) classes ([] ++ ([(h0, .inr (11, [.ref tp, .ref ra1, .ref ra2, .ref ra3, .ref ra4, .ref ra5, .ref ra6, .ref ra7, .ref ra8, .ref ra9, .ref ra10, .ref ra11, .ref ra12, .int rc, .int fo, .int xx]))] ++ wt)) H := hP
        have hD : va_D A ([] ++ ([(h0, .inr (11, [.ref tp, .ref ra1, .ref ra2, .ref ra3, .ref ra4, .ref ra5, .ref ra6, .ref ra7, .ref ra8, .ref ra9, .ref ra10, .ref ra11, .ref ra12, .int rc, .int fo, .int xx]))] ++ wt)) := hD
        refine gt_callV (wr := []) (va_runV (As := []) (rest := []) ⟨hx, hb, hml, hown, ht⟩ (d_beginAsking l G Γ H.size wt hT tp h0 ra1 ra2 ra3 ra4 ra5 ra6 ra7 ra8 ra9 ra10 ra11 ra12 rc fo xx (by first | assumption | omega) (by first | assumption | omega) (by first | assumption | omega) (by first | assumption | omega) (by first | assumption | omega) (by first | assumption | omega) (by first | assumption | omega) (by first | assumption | omega) (by first | assumption | omega) (by first | assumption | omega) (by first | assumption | omega) (by first | assumption | omega) (by first | assumption | omega)) (cwV 0 ht (ts_gV wd_988 wd_990 wd_22 wd_122 wd_991) rfl rfl rfl (by decide +kernel) ⟨Nat.le_of_ble_eq_true rfl, Nat.le_of_ble_eq_true rfl⟩) (gc_preV (ci := 11) (q0 := 0) hK (tw_right hP) (tw_rightD hD) rfl rfl) rfl rfl hl.1 rfl (lv_room (Nat.le_of_ble_eq_true rfl)) dX11_hold_39 ⟨Nat.le_of_ble_eq_true rfl, Nat.le_of_ble_eq_true rfl⟩) hP hD hS hA (fun wt H locs hw hP hD hS => ?_)
        obtain ⟨hT, hkp⟩ := hw
        have hW := hW.call (show ∀ x ∈ [0, 1, 2, 709], x ∈ [0, 1, 2, 709] by decide) hkp
        have hP : va_P (gg_D G) classes ([(h0, .inr (11, [.ref tp, .ref ra1, .ref ra2, .ref ra3, .ref ra4, .ref ra5, .ref ra6, .ref ra7, .ref ra8, .ref ra9, .ref ra10, .ref ra11, .ref ra12, .int rc, .int fo, .int xx]))] ++ wt) H := hP
        have hD : va_D A ([(h0, .inr (11, [.ref tp, .ref ra1, .ref ra2, .ref ra3, .ref ra4, .ref ra5, .ref ra6, .ref ra7, .ref ra8, .ref ra9, .ref ra10, .ref ra11, .ref ra12, .int rc, .int fo, .int xx]))] ++ wt) := hD
        refine lv_aload_n hx hb dX11_hold_42 rfl (lv_at hl 2 rfl) ?_
        refine gq_get hx hb ht hown hK hP i_X11 0 rfl rfl 9 (by decide) wd_506 rfl rfl dX11_hold_43 ?_
        refine lv_iload_n hx hb dX11_hold_46 rfl (lv_at hl 3 rfl) ?_
        refine gt_callV (wr := [(h0, .inr (11, [.ref tp, .ref ra1, .ref ra2, .ref ra3, .ref ra4, .ref ra5, .ref ra6, .ref ra7, .ref ra8, .ref ra9, .ref ra10, .ref ra11, .ref ra12, .int rc, .int fo, .int xx]))]) (va_runV (As := [.int b]) (rest := []) ⟨hx, hb, hml, hown, ht⟩ (d_letHold l G Γ H.size wt hT ra9 b kr9) (cwV 1 ht (ts_gV wd_1019 wd_1020 wd_1021 wd_130 wd_1022) rfl rfl rfl (by decide +kernel) ⟨Nat.le_of_ble_eq_true rfl, Nat.le_of_ble_eq_true rfl⟩) (gt_preW (ci := 0) hK hT (tw_right hP) (tw_rightD hD) kr9 (by decide) rfl) rfl rfl hl.1 rfl (lv_room (Nat.le_of_ble_eq_true rfl)) dX11_hold_47 ⟨Nat.le_of_ble_eq_true rfl, Nat.le_of_ble_eq_true rfl⟩) hP hD hS hA (fun wt H locs hw hP hD hS => ?_)
        obtain ⟨hT, hkp⟩ := hw
        have hW := hW.call (show ∀ x ∈ [2], x ∈ [0, 1, 2, 709] by decide) hkp
        have hP : va_P (gg_D G) classes ([(h0, .inr (11, [.ref tp, .ref ra1, .ref ra2, .ref ra3, .ref ra4, .ref ra5, .ref ra6, .ref ra7, .ref ra8, .ref ra9, .ref ra10, .ref ra11, .ref ra12, .int rc, .int fo, .int xx]))] ++ wt) H := hP
        have hD : va_D A ([(h0, .inr (11, [.ref tp, .ref ra1, .ref ra2, .ref ra3, .ref ra4, .ref ra5, .ref ra6, .ref ra7, .ref ra8, .ref ra9, .ref ra10, .ref ra11, .ref ra12, .int rc, .int fo, .int xx]))] ++ wt) := hD
        refine lv_aload_n hx hb dX11_hold_50 rfl (lv_at hl 2 rfl) ?_
        refine gq_get hx hb ht hown hK hP i_X11 0 rfl rfl 9 (by decide) wd_506 rfl rfl dX11_hold_51 ?_
        refine lv_aload_n hx hb dX11_hold_54 rfl (lv_at hl 2 rfl) ?_
        refine gq_get hx hb ht hown hK hP i_X11 0 rfl rfl 4 (by decide) wd_501 rfl rfl dX11_hold_55 ?_
        refine lv_iload_n hx hb dX11_hold_58 rfl (lv_at hl 1 rfl) ?_
        refine gt_callV (wr := [(h0, .inr (11, [.ref tp, .ref ra1, .ref ra2, .ref ra3, .ref ra4, .ref ra5, .ref ra6, .ref ra7, .ref ra8, .ref ra9, .ref ra10, .ref ra11, .ref ra12, .int rc, .int fo, .int xx]))]) (va_runV (As := [.ref ra4, .int r_1]) (rest := []) ⟨hx, hb, hml, hown, ht⟩ (d_passTillOver l G Γ H.size wt hT ra9 ra4 r_1 kr9 kr4 (by omega) (by omega)) (cwV 2 ht (ts_gV wd_1003 wd_1004 wd_1005 wd_130 wd_1006) rfl rfl rfl (by decide +kernel) ⟨Nat.le_of_ble_eq_true rfl, Nat.le_of_ble_eq_true rfl⟩) (gt_preW (ci := 0) hK hT (tw_right hP) (tw_rightD hD) kr9 (by decide) rfl) rfl rfl hl.1 rfl (lv_room (Nat.le_of_ble_eq_true rfl)) dX11_hold_59 ⟨Nat.le_of_ble_eq_true rfl, Nat.le_of_ble_eq_true rfl⟩) hP hD hS hA (fun wt H locs hw hP hD hS => ?_)
        obtain ⟨hT, hkp⟩ := hw
        have hW := hW.call (show ∀ x ∈ [709], x ∈ [0, 1, 2, 709] by decide) hkp
        have hP : va_P (gg_D G) classes ([(h0, .inr (11, [.ref tp, .ref ra1, .ref ra2, .ref ra3, .ref ra4, .ref ra5, .ref ra6, .ref ra7, .ref ra8, .ref ra9, .ref ra10, .ref ra11, .ref ra12, .int rc, .int fo, .int xx]))] ++ wt) H := hP
        have hD : va_D A ([(h0, .inr (11, [.ref tp, .ref ra1, .ref ra2, .ref ra3, .ref ra4, .ref ra5, .ref ra6, .ref ra7, .ref ra8, .ref ra9, .ref ra10, .ref ra11, .ref ra12, .int rc, .int fo, .int xx]))] ++ wt) := hD
        refine lv_aload_n hx hb dX11_hold_62 rfl (lv_at hl 2 rfl) ?_
        refine gq_get hx hb ht hown hK hP i_X11 0 rfl rfl 4 (by decide) wd_501 rfl rfl dX11_hold_63 ?_
        refine lv_iload_n hx hb dX11_hold_66 rfl (lv_at hl 3 rfl) ?_
        refine lv_aload_n hx hb dX11_hold_67 rfl (lv_at hl 2 rfl) ?_
        refine gq_get hx hb ht hown hK hP i_X11 0 rfl rfl 1 (by decide) wd_498 rfl rfl dX11_hold_68 ?_
        refine gt_callI (wr := [(h0, .inr (11, [.ref tp, .ref ra1, .ref ra2, .ref ra3, .ref ra4, .ref ra5, .ref ra6, .ref ra7, .ref ra8, .ref ra9, .ref ra10, .ref ra11, .ref ra12, .int rc, .int fo, .int xx]))]) (va_runV (As := [.int b, .ref ra1]) (rest := []) ⟨hx, hb, hml, hown, ht⟩ (d_gainOf l G Γ H.size wt hT ra4 b ra1 kr4 (by omega) (by omega) kr1) (cwV 2 ht (ts_gV wd_808 wd_809 wd_810 wd_125 wd_811) rfl rfl rfl (by decide +kernel) ⟨Nat.le_of_ble_eq_true rfl, Nat.le_of_ble_eq_true rfl⟩) (gt_preW (ci := 7) hK hT (tw_right hP) (tw_rightD hD) kr4 (by decide) rfl) rfl rfl hl.1 rfl (lv_room (Nat.le_of_ble_eq_true rfl)) dX11_hold_71 ⟨Nat.le_of_ble_eq_true rfl, Nat.le_of_ble_eq_true rfl⟩) hP hD hS hA (fun r_6 wt H locs hw hP hD hS => ?_)
        obtain ⟨hT, hkp⟩ := hw
        have hW := hW.call (show ∀ x ∈ [], x ∈ [0, 1, 2, 709] by decide) hkp
        have hP : va_P (gg_D G) classes ([(h0, .inr (11, [.ref tp, .ref ra1, .ref ra2, .ref ra3, .ref ra4, .ref ra5, .ref ra6, .ref ra7, .ref ra8, .ref ra9, .ref ra10, .ref ra11, .ref ra12, .int rc, .int fo, .int xx]))] ++ wt) H := hP
        have hD : va_D A ([(h0, .inr (11, [.ref tp, .ref ra1, .ref ra2, .ref ra3, .ref ra4, .ref ra5, .ref ra6, .ref ra7, .ref ra8, .ref ra9, .ref ra10, .ref ra11, .ref ra12, .int rc, .int fo, .int xx]))] ++ wt) := hD
        refine lv_istore (lv' := [(5, .int r_6), (4, .int r_5), (3, .int r_1), (0, .ref h0), (1, .int b), (2, .int w)]) hx hb dX11_hold_74 hl (by decide) rfl (fun ls hl => ?_)
        refine lv_iload_n hx hb dX11_hold_76 rfl (lv_at hl 5 rfl) ?_
        refine lv_iconst (v := 1) hx hb dX11_hold_77 (by decide +kernel) ?_
        refine lv_icmp_ne (tgt := 89) hx hb dX11_hold_78 (by decide) (fun c_7 => ?_) (fun c_7 => ?_)
        · rw [← Int32.toInt_inj] at c_7
          refine lv_iload hx hb dX11_hold_89 (lv_at hl 0 rfl) ?_
          refine lv_iload hx hb dX11_hold_91 (lv_at hl 1 rfl) ?_
          refine lv_icmp_le (tgt := 108) hx hb dX11_hold_93 (by decide) (fun c_8 => ?_) (fun c_8 => ?_)
          · rw [Int32.le_iff_toInt_le] at c_8
            refine lv_iconst (v := 0) hx hb dX11_hold_108 (by decide +kernel) ?_
            have hP9 : va_P (gg_D G) classes ([(h0, .inr (11, [.ref tp, .ref ra1, .ref ra2, .ref ra3, .ref ra4, .ref ra5, .ref ra6, .ref ra7, .ref ra8, .ref ra9, .ref ra10, .ref ra11, .ref ra12, .int rc, .int fo, .int xx]))] ++ wt) _ := hP
            have hD9 : va_D A ([(h0, .inr (11, [.ref tp, .ref ra1, .ref ra2, .ref ra3, .ref ra4, .ref ra5, .ref ra6, .ref ra7, .ref ra8, .ref ra9, .ref ra10, .ref ra11, .ref ra12, .int rc, .int fo, .int xx]))] ++ wt) := hD
            exact W.iret (v := 0) hx hb hr (gq_endI wt ⟨hT, hW⟩ hP9 hD9 hS) hS.2.2 dX11_hold_109
          · rw [Int32.le_iff_toInt_le] at c_8
            refine lv_aload_n hx hb dX11_hold_96 rfl (lv_at hl 3 rfl) ?_
            refine gq_get hx hb ht hown hK hP i_X11 0 rfl rfl 4 (by decide) wd_501 rfl rfl dX11_hold_97 ?_
            refine tr_get (ci := 7) hx hb ht hown hK hT hP kr4 (by decide) i_X7 rfl 5 (by decide) wd_251 rfl dX11_hold_100 (fun v hv hf_9 => ?_)
            obtain ⟨q_10, rfl, hq_10⟩ := hv
            refine lv_iload_n hx hb dX11_hold_103 rfl (lv_at hl 2 rfl) ?_
            refine tr_iald hx hb hK hT hP 21 hq_10 (by decide) (by decide) (show vp_in _ (tk_len 21) from ia_in (n := 3) (by omega) (by omega)) dX11_hold_104 (fun n_11 hn_11 => ?_)
            clear hn_11
            refine lv_goto (tgt := 109) hx hb dX11_hold_105 (by decide) ?_
            have hP9 : va_P (gg_D G) classes ([(h0, .inr (11, [.ref tp, .ref ra1, .ref ra2, .ref ra3, .ref ra4, .ref ra5, .ref ra6, .ref ra7, .ref ra8, .ref ra9, .ref ra10, .ref ra11, .ref ra12, .int rc, .int fo, .int xx]))] ++ wt) _ := hP
            have hD9 : va_D A ([(h0, .inr (11, [.ref tp, .ref ra1, .ref ra2, .ref ra3, .ref ra4, .ref ra5, .ref ra6, .ref ra7, .ref ra8, .ref ra9, .ref ra10, .ref ra11, .ref ra12, .int rc, .int fo, .int xx]))] ++ wt) := hD
            exact W.iret (v := n_11) hx hb hr (gq_endI wt ⟨hT, hW⟩ hP9 hD9 hS) hS.2.2 dX11_hold_109
        · rw [← Int32.toInt_inj] at c_7
          refine lv_iload hx hb dX11_hold_81 (lv_at hl 0 rfl) ?_
          refine lv_iload hx hb dX11_hold_83 (lv_at hl 1 rfl) ?_
          refine va_mmax hx hb (by rw [hml]; exact hl.1.symm) hown (ht _ wd_1023) (ht _ wd_909) (ht _ wd_140) (ht _ wd_910) (Nat.le_of_ble_eq_true rfl) (Nat.le_of_ble_eq_true rfl) (Nat.zero_le _) (Nat.zero_le _) dX11_hold_85 ?_
          refine lv_topi (fun t_12 et_12 => ?_)
          have ft_12 := ia_max et_12.symm
          have hP9 : va_P (gg_D G) classes ([(h0, .inr (11, [.ref tp, .ref ra1, .ref ra2, .ref ra3, .ref ra4, .ref ra5, .ref ra6, .ref ra7, .ref ra8, .ref ra9, .ref ra10, .ref ra11, .ref ra12, .int rc, .int fo, .int xx]))] ++ wt) _ := hP
          have hD9 : va_D A ([(h0, .inr (11, [.ref tp, .ref ra1, .ref ra2, .ref ra3, .ref ra4, .ref ra5, .ref ra6, .ref ra7, .ref ra8, .ref ra9, .ref ra10, .ref ra11, .ref ra12, .int rc, .int fo, .int xx]))] ++ wt) := hD
          exact W.iret (v := t_12) hx hb hr (gq_endI wt ⟨hT, hW⟩ hP9 hD9 hS) hS.2.2 dX11_hold_88
      · rw [Int32.le_iff_toInt_le] at c_4
        refine lv_sipush (v := (-1000)) hx hb dX11_hold_20 (by decide +kernel) ?_
        have hP9 : va_P (gg_D G) classes ([(h0, .inr (11, [.ref tp, .ref ra1, .ref ra2, .ref ra3, .ref ra4, .ref ra5, .ref ra6, .ref ra7, .ref ra8, .ref ra9, .ref ra10, .ref ra11, .ref ra12, .int rc, .int fo, .int xx]))] ++ wt) _ := hP
        have hD9 : va_D A ([(h0, .inr (11, [.ref tp, .ref ra1, .ref ra2, .ref ra3, .ref ra4, .ref ra5, .ref ra6, .ref ra7, .ref ra8, .ref ra9, .ref ra10, .ref ra11, .ref ra12, .int rc, .int fo, .int xx]))] ++ wt) := hD
        exact W.iret (v := (-1000)) hx hb hr (gq_endI wt ⟨hT, hW⟩ hP9 hD9 hS) hS.2.2 dX11_hold_23
set_option maxHeartbeats 4000000 in
set_option maxRecDepth 100000 in
theorem d_rests (l : Launch) (G : gg_T) (Γ : Nat → Nat) (sz : Nat) (wt : va_W) (hT : tk_ty G Γ wt) (b : Int32) (w : Int32) (z : Int32) (y : Int32) (tp : Nat) (h0 : Nat) (ra1 : Nat) (ra2 : Nat) (ra3 : Nat) (ra4 : Nat) (ra5 : Nat) (ra6 : Nat) (ra7 : Nat) (ra8 : Nat) (ra9 : Nat) (ra10 : Nat) (ra11 : Nat) (ra12 : Nat) (rc : Int32) (fo : Int32) (xx : Int32) (kr1 : Γ ra1 = 10) (kr2 : Γ ra2 = 10) (kr3 : Γ ra3 = 8) (kr4 : Γ ra4 = 8) (kr5 : Γ ra5 = 4) (kr6 : Γ ra6 = 3) (kr7 : Γ ra7 = 41) (kr9 : Γ ra9 = 1) (kr10 : Γ ra10 = 6) (kr11 : Γ ra11 = 11) (kr12 : Γ ra12 = 7) (xr1 : 0 ≤ rc.toInt) (xr2 : rc.toInt ≤ 6) : Met l yX11_rests (ts_L yX11_rests cX11_rests 10 (some .int)) ({ frames := 2, cells := 0, slots := 0, locals := 46 }) (gc_P G ([(h0, .inr (11, [.ref tp, .ref ra1, .ref ra2, .ref ra3, .ref ra4, .ref ra5, .ref ra6, .ref ra7, .ref ra8, .ref ra9, .ref ra10, .ref ra11, .ref ra12, .int rc, .int fo, .int xx]))] ++ wt) sz [.ref h0, .int b, .int w, .int z, .int y]) (gc_I G (va_A ([(h0, .inr (11, [.ref tp, .ref ra1, .ref ra2, .ref ra3, .ref ra4, .ref ra5, .ref ra6, .ref ra7, .ref ra8, .ref ra9, .ref ra10, .ref ra11, .ref ra12, .int rc, .int fo, .int xx]))] ++ wt) sz) (fun r (u : va_W) => match u with | wt1 => tk_ty G Γ wt1 ∧ tk_kp [] wt wt1) (fun (u : va_W) => match u with | wt1 => [(h0, .inr (11, [.ref tp, .ref ra1, .ref ra2, .ref ra3, .ref ra4, .ref ra5, .ref ra6, .ref ra7, .ref ra8, .ref ra9, .ref ra10, .ref ra11, .ref ra12, .int rc, .int fo, .int xx]))] ++ wt1)) 0 0 (va_A ([(h0, .inr (11, [.ref tp, .ref ra1, .ref ra2, .ref ra3, .ref ra4, .ref ra5, .ref ra6, .ref ra7, .ref ra8, .ref ra9, .ref ra10, .ref ra11, .ref ra12, .int rc, .int fo, .int xx]))] ++ wt) sz) := by
  refine Met.ofW (cc := cX11_rests) (maxL := 10) (ret := (some .int)) (by decide) rfl ?_
  intro p e s m args below meth c s₁ B hml hv
  obtain ⟨rfl, hsz, hP, hK, hD0⟩ := hv
  have hx := B.exec
  have hb := B.bytes
  have hr := B.returns
  have ht := ts_ht (atoms_spec (ws := ts_L yX11_rests cX11_rests 10 (some .int)) B.pre)
  have hown : s.vm.findClass RX11 = some m.cls := findClass_of_methodNamed B.named
  have hlocks := B.notSynchronized
  subst hsz
  have hD := hD0.self (sz := s.heap.size)
  generalize hAe : va_A ([(h0, .inr (11, [.ref tp, .ref ra1, .ref ra2, .ref ra3, .ref ra4, .ref ra5, .ref ra6, .ref ra7, .ref ra8, .ref ra9, .ref ra10, .ref ra11, .ref ra12, .int rc, .int fo, .int xx]))] ++ wt) s.heap.size = A at hD ⊢
  have hA : ∀ q : Nat, s.heap.size ≤ q → A q := fun q h => by rw [← hAe]; exact Or.inr h
  clear hAe hD0
  have hS : va_S A s.heap s.heap [] := va_S.rf
  obtain ⟨w0, hw0⟩ : ∃ z, z = wt := ⟨_, rfl⟩
  have hW : tk_kp [] w0 wt := by rw [hw0]; exact tk_kp.rf
  rw [← hw0]
  clear hw0
  have hP : va_P (gg_D G) classes ([(h0, .inr (11, [.ref tp, .ref ra1, .ref ra2, .ref ra3, .ref ra4, .ref ra5, .ref ra6, .ref ra7, .ref ra8, .ref ra9, .ref ra10, .ref ra11, .ref ra12, .int rc, .int fo, .int xx]))] ++ wt) s.heap := hP
  have hD : va_D A ([(h0, .inr (11, [.ref tp, .ref ra1, .ref ra2, .ref ra3, .ref ra4, .ref ra5, .ref ra6, .ref ra7, .ref ra8, .ref ra9, .ref ra10, .ref ra11, .ref ra12, .int rc, .int fo, .int xx]))] ++ wt) := hD
  have hl := lv_entry ([.ref h0, .int b, .int w, .int z, .int y]) (n := 10) (Nat.le_of_ble_eq_true rfl)
  rw [lg_entry_eq]
  generalize (lg_sl ([.ref h0, .int b, .int w, .int z, .int y]) ++ List.replicate (10 - (lg_sl ([.ref h0, .int b, .int w, .int z, .int y])).length) Slot.unset).toArray = ls at hl ⊢
  have hl : lv_has ls 10 [(0, .ref h0), (1, .int b), (2, .int w), (3, .int z), (4, .int y)] := hl
  have lm2 : ((-2) : Int32).toInt = -2 := by decide +kernel
  have lm1 : ((-1) : Int32).toInt = -1 := by decide +kernel
  have l0 : (0 : Int32).toInt = 0 := by decide +kernel
  have l1 : (1 : Int32).toInt = 1 := by decide +kernel
  have l2 : (2 : Int32).toInt = 2 := by decide +kernel
  have l10 : (10 : Int32).toInt = 10 := by decide +kernel
  have l100 : (100 : Int32).toInt = 100 := by decide +kernel
  refine lv_aload_n hx hb dX11_rests_0 rfl (lv_at hl 0 rfl) ?_
  refine lv_iload_n hx hb dX11_rests_1 rfl (lv_at hl 1 rfl) ?_
  have hP : va_P (gg_D G) classes ([] ++ ([(h0, .inr (11, [.ref tp, .ref ra1, .ref ra2, .ref ra3, .ref ra4, .ref ra5, .ref ra6, .ref ra7, .ref ra8, .ref ra9, .ref ra10, .ref ra11, .ref ra12, .int rc, .int fo, .int xx]))] ++ wt)) s.heap := hP
  have hD : va_D A ([] ++ ([(h0, .inr (11, [.ref tp, .ref ra1, .ref ra2, .ref ra3, .ref ra4, .ref ra5, .ref ra6, .ref ra7, .ref ra8, .ref ra9, .ref ra10, .ref ra11, .ref ra12, .int rc, .int fo, .int xx]))] ++ wt)) := hD
  refine gt_callI (wr := []) (va_runV (As := [.int b]) (rest := []) ⟨hx, hb, hml, hown, ht⟩ (d_isBidder l G Γ s.heap.size wt hT b tp h0 ra1 ra2 ra3 ra4 ra5 ra6 ra7 ra8 ra9 ra10 ra11 ra12 rc fo xx (by first | assumption | omega) (by first | assumption | omega) (by first | assumption | omega) (by first | assumption | omega) (by first | assumption | omega) (by first | assumption | omega) (by first | assumption | omega) (by first | assumption | omega) (by first | assumption | omega) (by first | assumption | omega) (by first | assumption | omega) (by first | assumption | omega) (by first | assumption | omega)) (cwV 1 ht (ts_gV wd_789 wd_791 wd_14 wd_122 wd_792) rfl rfl rfl (by decide +kernel) ⟨Nat.le_of_ble_eq_true rfl, Nat.le_of_ble_eq_true rfl⟩) (gc_preV (ci := 11) (q0 := 0) hK (tw_right hP) (tw_rightD hD) rfl rfl) rfl rfl hl.1 rfl (lv_room (Nat.le_of_ble_eq_true rfl)) dX11_rests_2 ⟨Nat.le_of_ble_eq_true rfl, Nat.le_of_ble_eq_true rfl⟩) hP hD hS hA (fun r_1 wt H locs hw hP hD hS => ?_)
  obtain ⟨hT, hkp, lo_r_1, hi_r_1, im_r_1⟩ := hw
  have hW := hW.call (show ∀ x ∈ [], x ∈ [] by decide) hkp
  have hP : va_P (gg_D G) classes ([(h0, .inr (11, [.ref tp, .ref ra1, .ref ra2, .ref ra3, .ref ra4, .ref ra5, .ref ra6, .ref ra7, .ref ra8, .ref ra9, .ref ra10, .ref ra11, .ref ra12, .int rc, .int fo, .int xx]))] ++ wt) H := hP
  have hD : va_D A ([(h0, .inr (11, [.ref tp, .ref ra1, .ref ra2, .ref ra3, .ref ra4, .ref ra5, .ref ra6, .ref ra7, .ref ra8, .ref ra9, .ref ra10, .ref ra11, .ref ra12, .int rc, .int fo, .int xx]))] ++ wt) := hD
  refine lv_if_eq (tgt := 40) hx hb dX11_rests_5 (by decide) (fun c_2 => ?_) (fun c_2 => ?_)
  · rw [← Int32.toInt_inj] at c_2
    refine lv_iconst (v := (-1)) hx hb dX11_rests_40 (by decide +kernel) ?_
    have hP9 : va_P (gg_D G) classes ([(h0, .inr (11, [.ref tp, .ref ra1, .ref ra2, .ref ra3, .ref ra4, .ref ra5, .ref ra6, .ref ra7, .ref ra8, .ref ra9, .ref ra10, .ref ra11, .ref ra12, .int rc, .int fo, .int xx]))] ++ wt) _ := hP
    have hD9 : va_D A ([(h0, .inr (11, [.ref tp, .ref ra1, .ref ra2, .ref ra3, .ref ra4, .ref ra5, .ref ra6, .ref ra7, .ref ra8, .ref ra9, .ref ra10, .ref ra11, .ref ra12, .int rc, .int fo, .int xx]))] ++ wt) := hD
    exact W.iret (v := (-1)) hx hb hr (gq_endI wt ⟨hT, hW⟩ hP9 hD9 hS) hS.2.2 dX11_rests_41
  · have ic_2 := im_r_1 c_2
    rw [← Int32.toInt_inj] at c_2
    refine lv_aload_n hx hb dX11_rests_8 rfl (lv_at hl 0 rfl) ?_
    refine lv_iload_n hx hb dX11_rests_9 rfl (lv_at hl 2 rfl) ?_
    have hP : va_P (gg_D G) classes ([] ++ ([(h0, .inr (11, [.ref tp, .ref ra1, .ref ra2, .ref ra3, .ref ra4, .ref ra5, .ref ra6, .ref ra7, .ref ra8, .ref ra9, .ref ra10, .ref ra11, .ref ra12, .int rc, .int fo, .int xx]))] ++ wt)) H := hP
    have hD : va_D A ([] ++ ([(h0, .inr (11, [.ref tp, .ref ra1, .ref ra2, .ref ra3, .ref ra4, .ref ra5, .ref ra6, .ref ra7, .ref ra8, .ref ra9, .ref ra10, .ref ra11, .ref ra12, .int rc, .int fo, .int xx]))] ++ wt)) := hD
    refine gt_callI (wr := []) (va_runV (As := [.int w]) (rest := []) ⟨hx, hb, hml, hown, ht⟩ (d_isBidder l G Γ H.size wt hT w tp h0 ra1 ra2 ra3 ra4 ra5 ra6 ra7 ra8 ra9 ra10 ra11 ra12 rc fo xx (by first | assumption | omega) (by first | assumption | omega) (by first | assumption | omega) (by first | assumption | omega) (by first | assumption | omega) (by first | assumption | omega) (by first | assumption | omega) (by first | assumption | omega) (by first | assumption | omega) (by first | assumption | omega) (by first | assumption | omega) (by first | assumption | omega) (by first | assumption | omega)) (cwV 1 ht (ts_gV wd_789 wd_791 wd_14 wd_122 wd_792) rfl rfl rfl (by decide +kernel) ⟨Nat.le_of_ble_eq_true rfl, Nat.le_of_ble_eq_true rfl⟩) (gc_preV (ci := 11) (q0 := 0) hK (tw_right hP) (tw_rightD hD) rfl rfl) rfl rfl hl.1 rfl (lv_room (Nat.le_of_ble_eq_true rfl)) dX11_rests_10 ⟨Nat.le_of_ble_eq_true rfl, Nat.le_of_ble_eq_true rfl⟩) hP hD hS hA (fun r_3 wt H locs hw hP hD hS => ?_)
    obtain ⟨hT, hkp, lo_r_3, hi_r_3, im_r_3⟩ := hw
    have hW := hW.call (show ∀ x ∈ [], x ∈ [] by decide) hkp
    have hP : va_P (gg_D G) classes ([(h0, .inr (11, [.ref tp, .ref ra1, .ref ra2, .ref ra3, .ref ra4, .ref ra5, .ref ra6, .ref ra7, .ref ra8, .ref ra9, .ref ra10, .ref ra11, .ref ra12, .int rc, .int fo, .int xx]))] ++ wt) H := hP
    have hD : va_D A ([(h0, .inr (11, [.ref tp, .ref ra1, .ref ra2, .ref ra3, .ref ra4, .ref ra5, .ref ra6, .ref ra7, .ref ra8, .ref ra9, .ref ra10, .ref ra11, .ref ra12, .int rc, .int fo, .int xx]))] ++ wt) := hD
    refine lv_if_eq (tgt := 40) hx hb dX11_rests_13 (by decide) (fun c_4 => ?_) (fun c_4 => ?_)
    · rw [← Int32.toInt_inj] at c_4
      refine lv_iconst (v := (-1)) hx hb dX11_rests_40 (by decide +kernel) ?_
      have hP9 : va_P (gg_D G) classes ([(h0, .inr (11, [.ref tp, .ref ra1, .ref ra2, .ref ra3, .ref ra4, .ref ra5, .ref ra6, .ref ra7, .ref ra8, .ref ra9, .ref ra10, .ref ra11, .ref ra12, .int rc, .int fo, .int xx]))] ++ wt) _ := hP
      have hD9 : va_D A ([(h0, .inr (11, [.ref tp, .ref ra1, .ref ra2, .ref ra3, .ref ra4, .ref ra5, .ref ra6, .ref ra7, .ref ra8, .ref ra9, .ref ra10, .ref ra11, .ref ra12, .int rc, .int fo, .int xx]))] ++ wt) := hD
      exact W.iret (v := (-1)) hx hb hr (gq_endI wt ⟨hT, hW⟩ hP9 hD9 hS) hS.2.2 dX11_rests_41
    · have ic_4 := im_r_3 c_4
      rw [← Int32.toInt_inj] at c_4
      refine lv_iload_n hx hb dX11_rests_16 rfl (lv_at hl 1 rfl) ?_
      refine lv_iload_n hx hb dX11_rests_17 rfl (lv_at hl 2 rfl) ?_
      refine lv_icmp_eq (tgt := 40) hx hb dX11_rests_18 (by decide) (fun c_5 => ?_) (fun c_5 => ?_)
      · rw [← Int32.toInt_inj] at c_5
        refine lv_iconst (v := (-1)) hx hb dX11_rests_40 (by decide +kernel) ?_
        have hP9 : va_P (gg_D G) classes ([(h0, .inr (11, [.ref tp, .ref ra1, .ref ra2, .ref ra3, .ref ra4, .ref ra5, .ref ra6, .ref ra7, .ref ra8, .ref ra9, .ref ra10, .ref ra11, .ref ra12, .int rc, .int fo, .int xx]))] ++ wt) _ := hP
        have hD9 : va_D A ([(h0, .inr (11, [.ref tp, .ref ra1, .ref ra2, .ref ra3, .ref ra4, .ref ra5, .ref ra6, .ref ra7, .ref ra8, .ref ra9, .ref ra10, .ref ra11, .ref ra12, .int rc, .int fo, .int xx]))] ++ wt) := hD
        exact W.iret (v := (-1)) hx hb hr (gq_endI wt ⟨hT, hW⟩ hP9 hD9 hS) hS.2.2 dX11_rests_41
      · rw [← Int32.toInt_inj] at c_5
        refine lv_aload_n hx hb dX11_rests_21 rfl (lv_at hl 0 rfl) ?_
        refine lv_iload_n hx hb dX11_rests_22 rfl (lv_at hl 3 rfl) ?_
        have hP : va_P (gg_D G) classes ([] ++ ([(h0, .inr (11, [.ref tp, .ref ra1, .ref ra2, .ref ra3, .ref ra4, .ref ra5, .ref ra6, .ref ra7, .ref ra8, .ref ra9, .ref ra10, .ref ra11, .ref ra12, .int rc, .int fo, .int xx]))] ++ wt)) H := hP
        have hD : va_D A ([] ++ ([(h0, .inr (11, [.ref tp, .ref ra1, .ref ra2, .ref ra3, .ref ra4, .ref ra5, .ref ra6, .ref ra7, .ref ra8, .ref ra9, .ref ra10, .ref ra11, .ref ra12, .int rc, .int fo, .int xx]))] ++ wt)) := hD
        refine gt_callI (wr := []) (va_runV (As := [.int z]) (rest := []) ⟨hx, hb, hml, hown, ht⟩ (d_isLot l G Γ H.size wt hT z tp h0 ra1 ra2 ra3 ra4 ra5 ra6 ra7 ra8 ra9 ra10 ra11 ra12 rc fo xx (by first | assumption | omega) (by first | assumption | omega) (by first | assumption | omega) (by first | assumption | omega) (by first | assumption | omega) (by first | assumption | omega) (by first | assumption | omega) (by first | assumption | omega) (by first | assumption | omega) (by first | assumption | omega) (by first | assumption | omega) (by first | assumption | omega) (by first | assumption | omega)) (cwV 1 ht (ts_gV wd_820 wd_822 wd_15 wd_122 wd_823) rfl rfl rfl (by decide +kernel) ⟨Nat.le_of_ble_eq_true rfl, Nat.le_of_ble_eq_true rfl⟩) (gc_preV (ci := 11) (q0 := 0) hK (tw_right hP) (tw_rightD hD) rfl rfl) rfl rfl hl.1 rfl (lv_room (Nat.le_of_ble_eq_true rfl)) dX11_rests_23 ⟨Nat.le_of_ble_eq_true rfl, Nat.le_of_ble_eq_true rfl⟩) hP hD hS hA (fun r_6 wt H locs hw hP hD hS => ?_)
        obtain ⟨hT, hkp, lo_r_6, hi_r_6, im_r_6⟩ := hw
        have hW := hW.call (show ∀ x ∈ [], x ∈ [] by decide) hkp
        have hP : va_P (gg_D G) classes ([(h0, .inr (11, [.ref tp, .ref ra1, .ref ra2, .ref ra3, .ref ra4, .ref ra5, .ref ra6, .ref ra7, .ref ra8, .ref ra9, .ref ra10, .ref ra11, .ref ra12, .int rc, .int fo, .int xx]))] ++ wt) H := hP
        have hD : va_D A ([(h0, .inr (11, [.ref tp, .ref ra1, .ref ra2, .ref ra3, .ref ra4, .ref ra5, .ref ra6, .ref ra7, .ref ra8, .ref ra9, .ref ra10, .ref ra11, .ref ra12, .int rc, .int fo, .int xx]))] ++ wt) := hD
        refine lv_if_eq (tgt := 40) hx hb dX11_rests_26 (by decide) (fun c_7 => ?_) (fun c_7 => ?_)
        · rw [← Int32.toInt_inj] at c_7
          refine lv_iconst (v := (-1)) hx hb dX11_rests_40 (by decide +kernel) ?_
          have hP9 : va_P (gg_D G) classes ([(h0, .inr (11, [.ref tp, .ref ra1, .ref ra2, .ref ra3, .ref ra4, .ref ra5, .ref ra6, .ref ra7, .ref ra8, .ref ra9, .ref ra10, .ref ra11, .ref ra12, .int rc, .int fo, .int xx]))] ++ wt) _ := hP
          have hD9 : va_D A ([(h0, .inr (11, [.ref tp, .ref ra1, .ref ra2, .ref ra3, .ref ra4, .ref ra5, .ref ra6, .ref ra7, .ref ra8, .ref ra9, .ref ra10, .ref ra11, .ref ra12, .int rc, .int fo, .int xx]))] ++ wt) := hD
          exact W.iret (v := (-1)) hx hb hr (gq_endI wt ⟨hT, hW⟩ hP9 hD9 hS) hS.2.2 dX11_rests_41
        · have ic_7 := im_r_6 c_7
          rw [← Int32.toInt_inj] at c_7
          refine lv_iload hx hb dX11_rests_29 (lv_at hl 4 rfl) ?_
          refine lv_if_lt (tgt := 40) hx hb dX11_rests_31 (by decide) (fun c_8 => ?_) (fun c_8 => ?_)
          · rw [Int32.lt_iff_toInt_lt] at c_8
            refine lv_iconst (v := (-1)) hx hb dX11_rests_40 (by decide +kernel) ?_
            have hP9 : va_P (gg_D G) classes ([(h0, .inr (11, [.ref tp, .ref ra1, .ref ra2, .ref ra3, .ref ra4, .ref ra5, .ref ra6, .ref ra7, .ref ra8, .ref ra9, .ref ra10, .ref ra11, .ref ra12, .int rc, .int fo, .int xx]))] ++ wt) _ := hP
            have hD9 : va_D A ([(h0, .inr (11, [.ref tp, .ref ra1, .ref ra2, .ref ra3, .ref ra4, .ref ra5, .ref ra6, .ref ra7, .ref ra8, .ref ra9, .ref ra10, .ref ra11, .ref ra12, .int rc, .int fo, .int xx]))] ++ wt) := hD
            exact W.iret (v := (-1)) hx hb hr (gq_endI wt ⟨hT, hW⟩ hP9 hD9 hS) hS.2.2 dX11_rests_41
          · rw [Int32.lt_iff_toInt_lt] at c_8
            refine lv_iload hx hb dX11_rests_34 (lv_at hl 4 rfl) ?_
            refine lv_iconst (v := 2) hx hb dX11_rests_36 (by decide +kernel) ?_
            refine lv_icmp_le (tgt := 42) hx hb dX11_rests_37 (by decide) (fun c_9 => ?_) (fun c_9 => ?_)
            · rw [Int32.le_iff_toInt_le] at c_9
              refine lv_iconst (v := 0) hx hb dX11_rests_42 (by decide +kernel) ?_
              refine lv_istore (lv' := [(5, .int 0), (0, .ref h0), (1, .int b), (2, .int w), (3, .int z), (4, .int y)]) hx hb dX11_rests_43 hl (by decide) rfl (fun ls hl => ?_)
              refine lv_bipush (v := (-2)) hx hb dX11_rests_45 (by decide +kernel) ?_
              refine lv_istore (lv' := [(6, .int (-2)), (5, .int 0), (0, .ref h0), (1, .int b), (2, .int w), (3, .int z), (4, .int y)]) hx hb dX11_rests_47 hl (by decide) rfl (fun ls hl => ?_)
              refine lv_iconst (v := 0) hx hb dX11_rests_49 (by decide +kernel) ?_
              refine lv_istore (lv' := [(7, .int 0), (6, .int (-2)), (5, .int 0), (0, .ref h0), (1, .int b), (2, .int w), (3, .int z), (4, .int y)]) hx hb dX11_rests_50 hl (by decide) rfl (fun ls hl => ?_)
              refine tl_loopE (Γ := Γ) (nL := 10) (fun (zz_ : Int32 × Int32 × Int32) => match zz_ with | (x52_0, x52_1, x52_2) => 0 ≤ x52_0.toInt ∧ x52_0.toInt ≤ 100 ∧ -2 ≤ x52_2.toInt ∧ x52_2.toInt ≤ 99) (fun (zz_ : Int32 × Int32 × Int32) => match zz_ with | (x52_0, x52_1, x52_2) => (100 - x52_0.toInt).toNat) (fun (zz_ : Int32 × Int32 × Int32) => match zz_ with | (x52_0, x52_1, x52_2) => [(7, .int x52_0), (6, .int x52_2), (5, .int x52_1), (0, .ref h0), (1, .int b), (2, .int w), (3, .int z), (4, .int y)]) (fun (zz_ : Int32 × Int32 × Int32) => match zz_ with | (x52_0, x52_1, x52_2) => [(h0, .inr (11, [.ref tp, .ref ra1, .ref ra2, .ref ra3, .ref ra4, .ref ra5, .ref ra6, .ref ra7, .ref ra8, .ref ra9, .ref ra10, .ref ra11, .ref ra12, .int rc, .int fo, .int xx]))]) (fun (zz_ : Int32 × Int32 × Int32) (w : va_W) => match zz_ with | (x52_0, x52_1, x52_2) => tk_kp [] w0 w) (fun zz_ hI H locs wt ls hT hW hP hD hS hl ih52 => ?_) (0, 0, (-2)) (show 0 ≤ (0 : Int32).toInt ∧ (0 : Int32).toInt ≤ 100 ∧ -2 ≤ ((-2) : Int32).toInt ∧ ((-2) : Int32).toInt ≤ 99 from ⟨by omega, by omega, by omega, by omega⟩) _ _ wt ls hT hW hP hD hS hl
              obtain ⟨x52_0, x52_1, x52_2⟩ := zz_
              have hW : tk_kp [] w0 wt := hW
              have hI : 0 ≤ x52_0.toInt ∧ x52_0.toInt ≤ 100 ∧ -2 ≤ x52_2.toInt ∧ x52_2.toInt ≤ 99 := hI
              obtain ⟨j52_0, j52_1, j52_2, j52_3⟩ := hI
              have hl : lv_has ls 10 [(7, .int x52_0), (6, .int x52_2), (5, .int x52_1), (0, .ref h0), (1, .int b), (2, .int w), (3, .int z), (4, .int y)] := hl
              have hP : va_P (gg_D G) classes ([(h0, .inr (11, [.ref tp, .ref ra1, .ref ra2, .ref ra3, .ref ra4, .ref ra5, .ref ra6, .ref ra7, .ref ra8, .ref ra9, .ref ra10, .ref ra11, .ref ra12, .int rc, .int fo, .int xx]))] ++ wt) H := hP
              have hD : va_D A ([(h0, .inr (11, [.ref tp, .ref ra1, .ref ra2, .ref ra3, .ref ra4, .ref ra5, .ref ra6, .ref ra7, .ref ra8, .ref ra9, .ref ra10, .ref ra11, .ref ra12, .int rc, .int fo, .int xx]))] ++ wt) := hD
              refine lv_iload hx hb dX11_rests_52 (lv_at hl 0 rfl) ?_
              refine lv_bipush (v := 100) hx hb dX11_rests_54 (by decide +kernel) ?_
              refine lv_icmp_ge (tgt := 140) hx hb dX11_rests_56 (by decide) (fun c_10 => ?_) (fun c_10 => ?_)
              · rw [Int32.le_iff_toInt_le] at c_10
                refine lv_iload hx hb dX11_rests_140 (lv_at hl 7 rfl) ?_
                refine lv_if_ne (tgt := 148) hx hb dX11_rests_142 (by decide) (fun c_11 => ?_) (fun c_11 => ?_)
                · rw [← Int32.toInt_inj] at c_11
                  refine lv_iload hx hb dX11_rests_148 (lv_at hl 1 rfl) ?_
                  refine lv_if_ge (tgt := 156) hx hb dX11_rests_150 (by decide) (fun c_12 => ?_) (fun c_12 => ?_)
                  · rw [Int32.le_iff_toInt_le] at c_12
                    refine lv_iload hx hb dX11_rests_156 (lv_at hl 7 rfl) ?_
                    refine lv_iconst (v := 1) hx hb dX11_rests_158 (by decide +kernel) ?_
                    refine lv_icmp_ne (tgt := 170) hx hb dX11_rests_159 (by decide) (fun c_13 => ?_) (fun c_13 => ?_)
                    · rw [← Int32.toInt_inj] at c_13
                      refine lv_iload hx hb dX11_rests_170 (lv_at hl 1 rfl) ?_
                      refine lv_bipush (v := 10) hx hb dX11_rests_172 (by decide +kernel) ?_
                      refine lv_irem hx hb dX11_rests_174 (fun h0 => absurd h0 (by rw [← Int32.toInt_inj]; omega)) ?_
                      refine lv_topi (fun t_14 et_14 => ?_)
                      have ft_14 := ia_rem et_14.symm (by omega) (by omega)
                      refine lv_bipush (v := 10) hx hb dX11_rests_175 (by decide +kernel) ?_
                      obtain ⟨t_15, et_15⟩ : ∃ zz_ : Int32, t_14 * 10 = zz_ := ⟨_, rfl⟩
                      refine gq_imul hx hb t_15 et_15 dX11_rests_177 ?_
                      have ft_15 := ia_mul et_15 (by rw [l10]; omega) (by rw [l10]; omega)
                      rw [l10] at ft_15
                      have hP9 : va_P (gg_D G) classes ([(h0, .inr (11, [.ref tp, .ref ra1, .ref ra2, .ref ra3, .ref ra4, .ref ra5, .ref ra6, .ref ra7, .ref ra8, .ref ra9, .ref ra10, .ref ra11, .ref ra12, .int rc, .int fo, .int xx]))] ++ wt) _ := hP
                      have hD9 : va_D A ([(h0, .inr (11, [.ref tp, .ref ra1, .ref ra2, .ref ra3, .ref ra4, .ref ra5, .ref ra6, .ref ra7, .ref ra8, .ref ra9, .ref ra10, .ref ra11, .ref ra12, .int rc, .int fo, .int xx]))] ++ wt) := hD
                      exact W.iret (v := t_15) hx hb hr (gq_endI wt ⟨hT, hW⟩ hP9 hD9 hS) hS.2.2 dX11_rests_178
                    · rw [← Int32.toInt_inj] at c_13
                      refine lv_iload hx hb dX11_rests_162 (lv_at hl 1 rfl) ?_
                      refine lv_bipush (v := 10) hx hb dX11_rests_164 (by decide +kernel) ?_
                      refine lv_idiv hx hb dX11_rests_166 (fun h0 => absurd h0 (by rw [← Int32.toInt_inj]; omega)) ?_
                      refine lv_topi (fun t_16 et_16 => ?_)
                      have ft_16 := ia_div et_16.symm (by omega) (by omega)
                      rw [l10] at ft_16
                      refine lv_goto (tgt := 175) hx hb dX11_rests_167 (by decide) ?_
                      refine lv_bipush (v := 10) hx hb dX11_rests_175 (by decide +kernel) ?_
                      obtain ⟨t_17, et_17⟩ : ∃ zz_ : Int32, t_16 * 10 = zz_ := ⟨_, rfl⟩
                      refine gq_imul hx hb t_17 et_17 dX11_rests_177 ?_
                      have ft_17 := ia_mul et_17 (by rw [l10]; omega) (by rw [l10]; omega)
                      rw [l10] at ft_17
                      have hP9 : va_P (gg_D G) classes ([(h0, .inr (11, [.ref tp, .ref ra1, .ref ra2, .ref ra3, .ref ra4, .ref ra5, .ref ra6, .ref ra7, .ref ra8, .ref ra9, .ref ra10, .ref ra11, .ref ra12, .int rc, .int fo, .int xx]))] ++ wt) _ := hP
                      have hD9 : va_D A ([(h0, .inr (11, [.ref tp, .ref ra1, .ref ra2, .ref ra3, .ref ra4, .ref ra5, .ref ra6, .ref ra7, .ref ra8, .ref ra9, .ref ra10, .ref ra11, .ref ra12, .int rc, .int fo, .int xx]))] ++ wt) := hD
                      exact W.iret (v := t_17) hx hb hr (gq_endI wt ⟨hT, hW⟩ hP9 hD9 hS) hS.2.2 dX11_rests_178
                  · rw [Int32.le_iff_toInt_le] at c_12
                    refine lv_bipush (v := (-2)) hx hb dX11_rests_153 (by decide +kernel) ?_
                    have hP9 : va_P (gg_D G) classes ([(h0, .inr (11, [.ref tp, .ref ra1, .ref ra2, .ref ra3, .ref ra4, .ref ra5, .ref ra6, .ref ra7, .ref ra8, .ref ra9, .ref ra10, .ref ra11, .ref ra12, .int rc, .int fo, .int xx]))] ++ wt) _ := hP
                    have hD9 : va_D A ([(h0, .inr (11, [.ref tp, .ref ra1, .ref ra2, .ref ra3, .ref ra4, .ref ra5, .ref ra6, .ref ra7, .ref ra8, .ref ra9, .ref ra10, .ref ra11, .ref ra12, .int rc, .int fo, .int xx]))] ++ wt) := hD
                    exact W.iret (v := (-2)) hx hb hr (gq_endI wt ⟨hT, hW⟩ hP9 hD9 hS) hS.2.2 dX11_rests_155
                · rw [← Int32.toInt_inj] at c_11
                  refine lv_iload hx hb dX11_rests_145 (lv_at hl 2 rfl) ?_
                  have hP9 : va_P (gg_D G) classes ([(h0, .inr (11, [.ref tp, .ref ra1, .ref ra2, .ref ra3, .ref ra4, .ref ra5, .ref ra6, .ref ra7, .ref ra8, .ref ra9, .ref ra10, .ref ra11, .ref ra12, .int rc, .int fo, .int xx]))] ++ wt) _ := hP
                  have hD9 : va_D A ([(h0, .inr (11, [.ref tp, .ref ra1, .ref ra2, .ref ra3, .ref ra4, .ref ra5, .ref ra6, .ref ra7, .ref ra8, .ref ra9, .ref ra10, .ref ra11, .ref ra12, .int rc, .int fo, .int xx]))] ++ wt) := hD
                  exact W.iret (v := x52_1) hx hb hr (gq_endI wt ⟨hT, hW⟩ hP9 hD9 hS) hS.2.2 dX11_rests_147
              · rw [Int32.le_iff_toInt_le] at c_10
                refine lv_iload hx hb dX11_rests_59 (lv_at hl 0 rfl) ?_
                refine lv_bipush (v := 10) hx hb dX11_rests_61 (by decide +kernel) ?_
                refine lv_idiv hx hb dX11_rests_63 (fun h0 => absurd h0 (by rw [← Int32.toInt_inj]; omega)) ?_
                refine lv_topi (fun t_18 et_18 => ?_)
                have ft_18 := ia_div et_18.symm (by omega) (by omega)
                rw [l10] at ft_18
                refine lv_bipush (v := 10) hx hb dX11_rests_64 (by decide +kernel) ?_
                obtain ⟨t_19, et_19⟩ : ∃ zz_ : Int32, t_18 * 10 = zz_ := ⟨_, rfl⟩
                refine gq_imul hx hb t_19 et_19 dX11_rests_66 ?_
                have ft_19 := ia_mul et_19 (by rw [l10]; omega) (by rw [l10]; omega)
                rw [l10] at ft_19
                refine lv_istore (lv' := [(8, .int t_19), (7, .int x52_0), (6, .int x52_2), (5, .int x52_1), (0, .ref h0), (1, .int b), (2, .int w), (3, .int z), (4, .int y)]) hx hb dX11_rests_67 hl (by decide) rfl (fun ls hl => ?_)
                refine lv_iload hx hb dX11_rests_69 (lv_at hl 1 rfl) ?_
                refine lv_bipush (v := 10) hx hb dX11_rests_71 (by decide +kernel) ?_
                refine lv_irem hx hb dX11_rests_73 (fun h0 => absurd h0 (by rw [← Int32.toInt_inj]; omega)) ?_
                refine lv_topi (fun t_20 et_20 => ?_)
                have ft_20 := ia_rem et_20.symm (by omega) (by omega)
                refine lv_bipush (v := 10) hx hb dX11_rests_74 (by decide +kernel) ?_
                obtain ⟨t_21, et_21⟩ : ∃ zz_ : Int32, t_20 * 10 = zz_ := ⟨_, rfl⟩
                refine gq_imul hx hb t_21 et_21 dX11_rests_76 ?_
                have ft_21 := ia_mul et_21 (by rw [l10]; omega) (by rw [l10]; omega)
                rw [l10] at ft_21
                refine lv_istore (lv' := [(9, .int t_21), (8, .int t_19), (7, .int x52_0), (6, .int x52_2), (5, .int x52_1), (0, .ref h0), (1, .int b), (2, .int w), (3, .int z), (4, .int y)]) hx hb dX11_rests_77 hl (by decide) rfl (fun ls hl => ?_)
                refine lv_aload_n hx hb dX11_rests_79 rfl (lv_at hl 5 rfl) ?_
                refine gq_get hx hb ht hown hK hP i_X11 0 rfl rfl 1 (by decide) wd_498 rfl rfl dX11_rests_80 ?_
                refine lv_iload_n hx hb dX11_rests_83 rfl (lv_at hl 6 rfl) ?_
                refine lv_iload_n hx hb dX11_rests_84 rfl (lv_at hl 8 rfl) ?_
                refine gt_callI (wr := [(h0, .inr (11, [.ref tp, .ref ra1, .ref ra2, .ref ra3, .ref ra4, .ref ra5, .ref ra6, .ref ra7, .ref ra8, .ref ra9, .ref ra10, .ref ra11, .ref ra12, .int rc, .int fo, .int xx]))]) (va_runV (As := [.int b, .int z]) (rest := []) ⟨hx, hb, hml, hown, ht⟩ (d_worthTo l G Γ H.size wt hT ra1 b z kr1 (by omega) (by omega) (by omega) (by omega)) (cwV 2 ht (ts_gV wd_832 wd_813 wd_814 wd_124 wd_815) rfl rfl rfl (by decide +kernel) ⟨Nat.le_of_ble_eq_true rfl, Nat.le_of_ble_eq_true rfl⟩) (gt_preW (ci := 9) hK hT (tw_right hP) (tw_rightD hD) kr1 (by decide) rfl) rfl rfl hl.1 rfl (lv_room (Nat.le_of_ble_eq_true rfl)) dX11_rests_85 ⟨Nat.le_of_ble_eq_true rfl, Nat.le_of_ble_eq_true rfl⟩) hP hD hS hA (fun r_22 wt H locs hw hP hD hS => ?_)
                obtain ⟨hT, hkp⟩ := hw
                have hW := hW.call (show ∀ x ∈ [], x ∈ [] by decide) hkp
                have hP : va_P (gg_D G) classes ([(h0, .inr (11, [.ref tp, .ref ra1, .ref ra2, .ref ra3, .ref ra4, .ref ra5, .ref ra6, .ref ra7, .ref ra8, .ref ra9, .ref ra10, .ref ra11, .ref ra12, .int rc, .int fo, .int xx]))] ++ wt) H := hP
                have hD : va_D A ([(h0, .inr (11, [.ref tp, .ref ra1, .ref ra2, .ref ra3, .ref ra4, .ref ra5, .ref ra6, .ref ra7, .ref ra8, .ref ra9, .ref ra10, .ref ra11, .ref ra12, .int rc, .int fo, .int xx]))] ++ wt) := hD
                refine lv_iload hx hb dX11_rests_88 (lv_at hl 1 rfl) ?_
                refine lv_iload hx hb dX11_rests_90 (lv_at hl 0 rfl) ?_
                refine gt_callI (wr := [(h0, .inr (11, [.ref tp, .ref ra1, .ref ra2, .ref ra3, .ref ra4, .ref ra5, .ref ra6, .ref ra7, .ref ra8, .ref ra9, .ref ra10, .ref ra11, .ref ra12, .int rc, .int fo, .int xx]))]) (va_runS (As := [.int r_22, .int t_19, .int t_21]) (rest := []) ⟨hx, hb, hml, hown, ht⟩ (d_isBest l G Γ H.size wt hT r_22 t_19 t_21) (va_cwS 3 ht (ts_gS wd_1028 wd_1029 wd_122 wd_1030) rfl rfl rfl (by decide +kernel) ⟨Nat.le_of_ble_eq_true rfl, Nat.le_of_ble_eq_true rfl⟩) (gc_preS hK (tw_right hP) (tw_rightD hD)) rfl rfl hl.1 rfl (lv_room (Nat.le_of_ble_eq_true rfl)) dX11_rests_92 ⟨Nat.le_of_ble_eq_true rfl, Nat.le_of_ble_eq_true rfl⟩) hP hD hS hA (fun r_23 wt H locs hw hP hD hS => ?_)
                obtain ⟨hT, hkp, lo_r_23, hi_r_23⟩ := hw
                have hW := hW.call (show ∀ x ∈ [], x ∈ [] by decide) hkp
                have hP : va_P (gg_D G) classes ([(h0, .inr (11, [.ref tp, .ref ra1, .ref ra2, .ref ra3, .ref ra4, .ref ra5, .ref ra6, .ref ra7, .ref ra8, .ref ra9, .ref ra10, .ref ra11, .ref ra12, .int rc, .int fo, .int xx]))] ++ wt) H := hP
                have hD : va_D A ([(h0, .inr (11, [.ref tp, .ref ra1, .ref ra2, .ref ra3, .ref ra4, .ref ra5, .ref ra6, .ref ra7, .ref ra8, .ref ra9, .ref ra10, .ref ra11, .ref ra12, .int rc, .int fo, .int xx]))] ++ wt) := hD
                refine lv_if_eq (tgt := 134) hx hb dX11_rests_95 (by decide) (fun c_24 => ?_) (fun c_24 => ?_)
                · rw [← Int32.toInt_inj] at c_24
                  obtain ⟨t_25, et_25⟩ : ∃ zz_ : Int32, x52_0 + Int32.ofInt (1) = zz_ := ⟨_, rfl⟩
                  have ft_25 : t_25.toInt = x52_0.toInt + (1 : Int32).toInt := ia_add (y := 1) et_25 (by omega) (by omega)
                  refine lv_iinc (v := t_25) (lv' := [(7, .int t_25), (9, .int t_21), (8, .int t_19), (6, .int x52_2), (5, .int x52_1), (0, .ref h0), (1, .int b), (2, .int w), (3, .int z), (4, .int y)]) hx hb dX11_rests_134 hl (k := 2) rfl et_25 (by decide) rfl (fun ls hl => ?_)
                  refine lv_goto (tgt := 52) hx hb dX11_rests_137 (by decide) ?_
                  exact ih52 (t_25, x52_1, x52_2) (show 0 ≤ t_25.toInt ∧ t_25.toInt ≤ 100 ∧ -2 ≤ x52_2.toInt ∧ x52_2.toInt ≤ 99 from ⟨by omega, by omega, by omega, by omega⟩) (show (100 - t_25.toInt).toNat < (100 - x52_0.toInt).toNat by omega) H locs wt ls hT hW hP hD hS (lv_sub hl [0, 3, 4, 5, 6, 7, 8, 9] rfl)
                · rw [← Int32.toInt_inj] at c_24
                  refine lv_aload_n hx hb dX11_rests_98 rfl (lv_at hl 5 rfl) ?_
                  refine gq_get hx hb ht hown hK hP i_X11 0 rfl rfl 1 (by decide) wd_498 rfl rfl dX11_rests_99 ?_
                  refine lv_iload_n hx hb dX11_rests_102 rfl (lv_at hl 7 rfl) ?_
                  refine lv_iload_n hx hb dX11_rests_103 rfl (lv_at hl 8 rfl) ?_
                  refine gt_callI (wr := [(h0, .inr (11, [.ref tp, .ref ra1, .ref ra2, .ref ra3, .ref ra4, .ref ra5, .ref ra6, .ref ra7, .ref ra8, .ref ra9, .ref ra10, .ref ra11, .ref ra12, .int rc, .int fo, .int xx]))]) (va_runV (As := [.int w, .int z]) (rest := []) ⟨hx, hb, hml, hown, ht⟩ (d_worthTo l G Γ H.size wt hT ra1 w z kr1 (by omega) (by omega) (by omega) (by omega)) (cwV 2 ht (ts_gV wd_832 wd_813 wd_814 wd_124 wd_815) rfl rfl rfl (by decide +kernel) ⟨Nat.le_of_ble_eq_true rfl, Nat.le_of_ble_eq_true rfl⟩) (gt_preW (ci := 9) hK hT (tw_right hP) (tw_rightD hD) kr1 (by decide) rfl) rfl rfl hl.1 rfl (lv_room (Nat.le_of_ble_eq_true rfl)) dX11_rests_104 ⟨Nat.le_of_ble_eq_true rfl, Nat.le_of_ble_eq_true rfl⟩) hP hD hS hA (fun r_26 wt H locs hw hP hD hS => ?_)
                  obtain ⟨hT, hkp⟩ := hw
                  have hW := hW.call (show ∀ x ∈ [], x ∈ [] by decide) hkp
                  have hP : va_P (gg_D G) classes ([(h0, .inr (11, [.ref tp, .ref ra1, .ref ra2, .ref ra3, .ref ra4, .ref ra5, .ref ra6, .ref ra7, .ref ra8, .ref ra9, .ref ra10, .ref ra11, .ref ra12, .int rc, .int fo, .int xx]))] ++ wt) H := hP
                  have hD : va_D A ([(h0, .inr (11, [.ref tp, .ref ra1, .ref ra2, .ref ra3, .ref ra4, .ref ra5, .ref ra6, .ref ra7, .ref ra8, .ref ra9, .ref ra10, .ref ra11, .ref ra12, .int rc, .int fo, .int xx]))] ++ wt) := hD
                  refine lv_iload hx hb dX11_rests_107 (lv_at hl 0 rfl) ?_
                  refine lv_iload hx hb dX11_rests_109 (lv_at hl 1 rfl) ?_
                  refine gt_callI (wr := [(h0, .inr (11, [.ref tp, .ref ra1, .ref ra2, .ref ra3, .ref ra4, .ref ra5, .ref ra6, .ref ra7, .ref ra8, .ref ra9, .ref ra10, .ref ra11, .ref ra12, .int rc, .int fo, .int xx]))]) (va_runS (As := [.int r_26, .int t_21, .int t_19]) (rest := []) ⟨hx, hb, hml, hown, ht⟩ (d_isBest l G Γ H.size wt hT r_26 t_21 t_19) (va_cwS 3 ht (ts_gS wd_1028 wd_1029 wd_122 wd_1030) rfl rfl rfl (by decide +kernel) ⟨Nat.le_of_ble_eq_true rfl, Nat.le_of_ble_eq_true rfl⟩) (gc_preS hK (tw_right hP) (tw_rightD hD)) rfl rfl hl.1 rfl (lv_room (Nat.le_of_ble_eq_true rfl)) dX11_rests_111 ⟨Nat.le_of_ble_eq_true rfl, Nat.le_of_ble_eq_true rfl⟩) hP hD hS hA (fun r_27 wt H locs hw hP hD hS => ?_)
                  obtain ⟨hT, hkp, lo_r_27, hi_r_27⟩ := hw
                  have hW := hW.call (show ∀ x ∈ [], x ∈ [] by decide) hkp
                  have hP : va_P (gg_D G) classes ([(h0, .inr (11, [.ref tp, .ref ra1, .ref ra2, .ref ra3, .ref ra4, .ref ra5, .ref ra6, .ref ra7, .ref ra8, .ref ra9, .ref ra10, .ref ra11, .ref ra12, .int rc, .int fo, .int xx]))] ++ wt) H := hP
                  have hD : va_D A ([(h0, .inr (11, [.ref tp, .ref ra1, .ref ra2, .ref ra3, .ref ra4, .ref ra5, .ref ra6, .ref ra7, .ref ra8, .ref ra9, .ref ra10, .ref ra11, .ref ra12, .int rc, .int fo, .int xx]))] ++ wt) := hD
                  refine lv_if_eq (tgt := 134) hx hb dX11_rests_114 (by decide) (fun c_28 => ?_) (fun c_28 => ?_)
                  · rw [← Int32.toInt_inj] at c_28
                    obtain ⟨t_29, et_29⟩ : ∃ zz_ : Int32, x52_0 + Int32.ofInt (1) = zz_ := ⟨_, rfl⟩
                    have ft_29 : t_29.toInt = x52_0.toInt + (1 : Int32).toInt := ia_add (y := 1) et_29 (by omega) (by omega)
                    refine lv_iinc (v := t_29) (lv' := [(7, .int t_29), (9, .int t_21), (8, .int t_19), (6, .int x52_2), (5, .int x52_1), (0, .ref h0), (1, .int b), (2, .int w), (3, .int z), (4, .int y)]) hx hb dX11_rests_134 hl (k := 2) rfl et_29 (by decide) rfl (fun ls hl => ?_)
                    refine lv_goto (tgt := 52) hx hb dX11_rests_137 (by decide) ?_
                    exact ih52 (t_29, x52_1, x52_2) (show 0 ≤ t_29.toInt ∧ t_29.toInt ≤ 100 ∧ -2 ≤ x52_2.toInt ∧ x52_2.toInt ≤ 99 from ⟨by omega, by omega, by omega, by omega⟩) (show (100 - t_29.toInt).toNat < (100 - x52_0.toInt).toNat by omega) H locs wt ls hT hW hP hD hS (lv_sub hl [0, 3, 4, 5, 6, 7, 8, 9] rfl)
                  · rw [← Int32.toInt_inj] at c_28
                    refine lv_iload hx hb dX11_rests_117 (lv_at hl 4 rfl) ?_
                    refine lv_if_ne (tgt := 127) hx hb dX11_rests_119 (by decide) (fun c_30 => ?_) (fun c_30 => ?_)
                    · rw [← Int32.toInt_inj] at c_30
                      refine lv_iload hx hb dX11_rests_127 (lv_at hl 3 rfl) ?_
                      refine lv_istore (lv' := [(6, .int x52_2), (9, .int t_21), (8, .int t_19), (7, .int x52_0), (5, .int x52_1), (0, .ref h0), (1, .int b), (2, .int w), (3, .int z), (4, .int y)]) hx hb dX11_rests_129 hl (by decide) rfl (fun ls hl => ?_)
                      obtain ⟨t_31, et_31⟩ : ∃ zz_ : Int32, x52_1 + Int32.ofInt (1) = zz_ := ⟨_, rfl⟩
                      refine lv_iinc (v := t_31) (lv' := [(5, .int t_31), (6, .int x52_2), (9, .int t_21), (8, .int t_19), (7, .int x52_0), (0, .ref h0), (1, .int b), (2, .int w), (3, .int z), (4, .int y)]) hx hb dX11_rests_131 hl (k := 4) rfl et_31 (by decide) rfl (fun ls hl => ?_)
                      obtain ⟨t_32, et_32⟩ : ∃ zz_ : Int32, x52_0 + Int32.ofInt (1) = zz_ := ⟨_, rfl⟩
                      have ft_32 : t_32.toInt = x52_0.toInt + (1 : Int32).toInt := ia_add (y := 1) et_32 (by omega) (by omega)
                      refine lv_iinc (v := t_32) (lv' := [(7, .int t_32), (5, .int t_31), (6, .int x52_2), (9, .int t_21), (8, .int t_19), (0, .ref h0), (1, .int b), (2, .int w), (3, .int z), (4, .int y)]) hx hb dX11_rests_134 hl (k := 4) rfl et_32 (by decide) rfl (fun ls hl => ?_)
                      refine lv_goto (tgt := 52) hx hb dX11_rests_137 (by decide) ?_
                      exact ih52 (t_32, t_31, x52_2) (show 0 ≤ t_32.toInt ∧ t_32.toInt ≤ 100 ∧ -2 ≤ x52_2.toInt ∧ x52_2.toInt ≤ 99 from ⟨by omega, by omega, by omega, by omega⟩) (show (100 - t_32.toInt).toNat < (100 - x52_0.toInt).toNat by omega) H locs wt ls hT hW hP hD hS (lv_sub hl [0, 2, 1, 5, 6, 7, 8, 9] rfl)
                    · rw [← Int32.toInt_inj] at c_30
                      refine lv_iload hx hb dX11_rests_122 (lv_at hl 2 rfl) ?_
                      refine lv_goto (tgt := 129) hx hb dX11_rests_124 (by decide) ?_
                      refine lv_istore (lv' := [(6, .int x52_0), (9, .int t_21), (8, .int t_19), (7, .int x52_0), (5, .int x52_1), (0, .ref h0), (1, .int b), (2, .int w), (3, .int z), (4, .int y)]) hx hb dX11_rests_129 hl (by decide) rfl (fun ls hl => ?_)
                      obtain ⟨t_33, et_33⟩ : ∃ zz_ : Int32, x52_1 + Int32.ofInt (1) = zz_ := ⟨_, rfl⟩
                      have ft_33 : t_33.toInt = x52_1.toInt + (1 : Int32).toInt := ia_add (y := 1) et_33 (by omega) (by omega)
                      refine lv_iinc (v := t_33) (lv' := [(5, .int t_33), (6, .int x52_0), (9, .int t_21), (8, .int t_19), (7, .int x52_0), (0, .ref h0), (1, .int b), (2, .int w), (3, .int z), (4, .int y)]) hx hb dX11_rests_131 hl (k := 4) rfl et_33 (by decide) rfl (fun ls hl => ?_)
                      obtain ⟨t_34, et_34⟩ : ∃ zz_ : Int32, x52_0 + Int32.ofInt (1) = zz_ := ⟨_, rfl⟩
                      have ft_34 : t_34.toInt = x52_0.toInt + (1 : Int32).toInt := ia_add (y := 1) et_34 (by omega) (by omega)
                      refine lv_iinc (v := t_34) (lv' := [(7, .int t_34), (5, .int t_33), (6, .int x52_0), (9, .int t_21), (8, .int t_19), (0, .ref h0), (1, .int b), (2, .int w), (3, .int z), (4, .int y)]) hx hb dX11_rests_134 hl (k := 4) rfl et_34 (by decide) rfl (fun ls hl => ?_)
                      refine lv_goto (tgt := 52) hx hb dX11_rests_137 (by decide) ?_
                      exact ih52 (t_34, t_33, x52_0) (show 0 ≤ t_34.toInt ∧ t_34.toInt ≤ 100 ∧ -2 ≤ x52_0.toInt ∧ x52_0.toInt ≤ 99 from ⟨by omega, by omega, by omega, by omega⟩) (show (100 - t_34.toInt).toNat < (100 - x52_0.toInt).toNat by omega) H locs wt ls hT hW hP hD hS (lv_sub hl [0, 2, 1, 5, 6, 7, 8, 9] rfl)
            · rw [Int32.le_iff_toInt_le] at c_9
              refine lv_iconst (v := (-1)) hx hb dX11_rests_40 (by decide +kernel) ?_
              have hP9 : va_P (gg_D G) classes ([(h0, .inr (11, [.ref tp, .ref ra1, .ref ra2, .ref ra3, .ref ra4, .ref ra5, .ref ra6, .ref ra7, .ref ra8, .ref ra9, .ref ra10, .ref ra11, .ref ra12, .int rc, .int fo, .int xx]))] ++ wt) _ := hP
              have hD9 : va_D A ([(h0, .inr (11, [.ref tp, .ref ra1, .ref ra2, .ref ra3, .ref ra4, .ref ra5, .ref ra6, .ref ra7, .ref ra8, .ref ra9, .ref ra10, .ref ra11, .ref ra12, .int rc, .int fo, .int xx]))] ++ wt) := hD
              exact W.iret (v := (-1)) hx hb hr (gq_endI wt ⟨hT, hW⟩ hP9 hD9 hS) hS.2.2 dX11_rests_41
set_option maxHeartbeats 4000000 in
set_option maxRecDepth 100000 in
theorem d_tricks (l : Launch) (G : gg_T) (Γ : Nat → Nat) (sz : Nat) (wt : va_W) (hT : tk_ty G Γ wt) (b : Int32) (w : Int32) (tp : Nat) (h0 : Nat) (ra1 : Nat) (ra2 : Nat) (ra3 : Nat) (ra4 : Nat) (ra5 : Nat) (ra6 : Nat) (ra7 : Nat) (ra8 : Nat) (ra9 : Nat) (ra10 : Nat) (ra11 : Nat) (ra12 : Nat) (rc : Int32) (fo : Int32) (xx : Int32) (kr1 : Γ ra1 = 10) (kr2 : Γ ra2 = 10) (kr3 : Γ ra3 = 8) (kr4 : Γ ra4 = 8) (kr5 : Γ ra5 = 4) (kr6 : Γ ra6 = 3) (kr7 : Γ ra7 = 41) (kr9 : Γ ra9 = 1) (kr10 : Γ ra10 = 6) (kr11 : Γ ra11 = 11) (kr12 : Γ ra12 = 7) (xr1 : 0 ≤ rc.toInt) (xr2 : rc.toInt ≤ 6) : Met l yX11_tricks (ts_L yX11_tricks cX11_tricks 4 (some .int)) ({ frames := 7, cells := 0, slots := 0, locals := 177 }) (gc_P G ([(h0, .inr (11, [.ref tp, .ref ra1, .ref ra2, .ref ra3, .ref ra4, .ref ra5, .ref ra6, .ref ra7, .ref ra8, .ref ra9, .ref ra10, .ref ra11, .ref ra12, .int rc, .int fo, .int xx]))] ++ wt) sz [.ref h0, .int b, .int w]) (gc_I G (va_A ([(h0, .inr (11, [.ref tp, .ref ra1, .ref ra2, .ref ra3, .ref ra4, .ref ra5, .ref ra6, .ref ra7, .ref ra8, .ref ra9, .ref ra10, .ref ra11, .ref ra12, .int rc, .int fo, .int xx]))] ++ wt) sz) (fun r (u : va_W) => match u with | wt1 => tk_ty G Γ wt1 ∧ tk_kp [0, 1, 2, 709, 1003] wt wt1) (fun (u : va_W) => match u with | wt1 => [(h0, .inr (11, [.ref tp, .ref ra1, .ref ra2, .ref ra3, .ref ra4, .ref ra5, .ref ra6, .ref ra7, .ref ra8, .ref ra9, .ref ra10, .ref ra11, .ref ra12, .int rc, .int fo, .int xx]))] ++ wt1)) 0 0 (va_A ([(h0, .inr (11, [.ref tp, .ref ra1, .ref ra2, .ref ra3, .ref ra4, .ref ra5, .ref ra6, .ref ra7, .ref ra8, .ref ra9, .ref ra10, .ref ra11, .ref ra12, .int rc, .int fo, .int xx]))] ++ wt) sz) := by
  refine Met.ofW (cc := cX11_tricks) (maxL := 4) (ret := (some .int)) (by decide) rfl ?_
  intro p e s m args below meth c s₁ B hml hv
  obtain ⟨rfl, hsz, hP, hK, hD0⟩ := hv
  have hx := B.exec
  have hb := B.bytes
  have hr := B.returns
  have ht := ts_ht (atoms_spec (ws := ts_L yX11_tricks cX11_tricks 4 (some .int)) B.pre)
  have hown : s.vm.findClass RX11 = some m.cls := findClass_of_methodNamed B.named
  have hlocks := B.notSynchronized
  subst hsz
  have hD := hD0.self (sz := s.heap.size)
  generalize hAe : va_A ([(h0, .inr (11, [.ref tp, .ref ra1, .ref ra2, .ref ra3, .ref ra4, .ref ra5, .ref ra6, .ref ra7, .ref ra8, .ref ra9, .ref ra10, .ref ra11, .ref ra12, .int rc, .int fo, .int xx]))] ++ wt) s.heap.size = A at hD ⊢
  have hA : ∀ q : Nat, s.heap.size ≤ q → A q := fun q h => by rw [← hAe]; exact Or.inr h
  clear hAe hD0
  have hS : va_S A s.heap s.heap [] := va_S.rf
  obtain ⟨w0, hw0⟩ : ∃ z, z = wt := ⟨_, rfl⟩
  have hW : tk_kp [0, 1, 2, 709, 1003] w0 wt := by rw [hw0]; exact tk_kp.rf
  rw [← hw0]
  clear hw0
  have hP : va_P (gg_D G) classes ([(h0, .inr (11, [.ref tp, .ref ra1, .ref ra2, .ref ra3, .ref ra4, .ref ra5, .ref ra6, .ref ra7, .ref ra8, .ref ra9, .ref ra10, .ref ra11, .ref ra12, .int rc, .int fo, .int xx]))] ++ wt) s.heap := hP
  have hD : va_D A ([(h0, .inr (11, [.ref tp, .ref ra1, .ref ra2, .ref ra3, .ref ra4, .ref ra5, .ref ra6, .ref ra7, .ref ra8, .ref ra9, .ref ra10, .ref ra11, .ref ra12, .int rc, .int fo, .int xx]))] ++ wt) := hD
  have hl := lv_entry ([.ref h0, .int b, .int w]) (n := 4) (Nat.le_of_ble_eq_true rfl)
  rw [lg_entry_eq]
  generalize (lg_sl ([.ref h0, .int b, .int w]) ++ List.replicate (4 - (lg_sl ([.ref h0, .int b, .int w])).length) Slot.unset).toArray = ls at hl ⊢
  have hl : lv_has ls 4 [(0, .ref h0), (1, .int b), (2, .int w)] := hl
  have lm4 : ((-4) : Int32).toInt = -4 := by decide +kernel
  have lm3 : ((-3) : Int32).toInt = -3 := by decide +kernel
  have lm1 : ((-1) : Int32).toInt = -1 := by decide +kernel
  have l0 : (0 : Int32).toInt = 0 := by decide +kernel
  have l1 : (1 : Int32).toInt = 1 := by decide +kernel
  have l5 : (5 : Int32).toInt = 5 := by decide +kernel
  refine lv_aload_n hx hb dX11_tricks_0 rfl (lv_at hl 0 rfl) ?_
  refine lv_iload_n hx hb dX11_tricks_1 rfl (lv_at hl 1 rfl) ?_
  have hP : va_P (gg_D G) classes ([] ++ ([(h0, .inr (11, [.ref tp, .ref ra1, .ref ra2, .ref ra3, .ref ra4, .ref ra5, .ref ra6, .ref ra7, .ref ra8, .ref ra9, .ref ra10, .ref ra11, .ref ra12, .int rc, .int fo, .int xx]))] ++ wt)) s.heap := hP
  have hD : va_D A ([] ++ ([(h0, .inr (11, [.ref tp, .ref ra1, .ref ra2, .ref ra3, .ref ra4, .ref ra5, .ref ra6, .ref ra7, .ref ra8, .ref ra9, .ref ra10, .ref ra11, .ref ra12, .int rc, .int fo, .int xx]))] ++ wt)) := hD
  refine gt_callI (wr := []) (va_runV (As := [.int b]) (rest := []) ⟨hx, hb, hml, hown, ht⟩ (d_roomOf l G Γ s.heap.size wt hT b tp h0 ra1 ra2 ra3 ra4 ra5 ra6 ra7 ra8 ra9 ra10 ra11 ra12 rc fo xx (by first | assumption | omega) (by first | assumption | omega) (by first | assumption | omega) (by first | assumption | omega) (by first | assumption | omega) (by first | assumption | omega) (by first | assumption | omega) (by first | assumption | omega) (by first | assumption | omega) (by first | assumption | omega) (by first | assumption | omega) (by first | assumption | omega) (by first | assumption | omega)) (cwV 1 ht (ts_gV wd_1011 wd_1013 wd_23 wd_122 wd_1014) rfl rfl rfl (by decide +kernel) ⟨Nat.le_of_ble_eq_true rfl, Nat.le_of_ble_eq_true rfl⟩) (gc_preV (ci := 11) (q0 := 0) hK (tw_right hP) (tw_rightD hD) rfl rfl) rfl rfl hl.1 rfl (lv_room (Nat.le_of_ble_eq_true rfl)) dX11_tricks_2 ⟨Nat.le_of_ble_eq_true rfl, Nat.le_of_ble_eq_true rfl⟩) hP hD hS hA (fun r_1 wt H locs hw hP hD hS => ?_)
  obtain ⟨hT, hkp, lo_r_1, hi_r_1, rp_r_1⟩ := hw
  have hW := hW.call (show ∀ x ∈ [], x ∈ [0, 1, 2, 709, 1003] by decide) hkp
  have hP : va_P (gg_D G) classes ([(h0, .inr (11, [.ref tp, .ref ra1, .ref ra2, .ref ra3, .ref ra4, .ref ra5, .ref ra6, .ref ra7, .ref ra8, .ref ra9, .ref ra10, .ref ra11, .ref ra12, .int rc, .int fo, .int xx]))] ++ wt) H := hP
  have hD : va_D A ([(h0, .inr (11, [.ref tp, .ref ra1, .ref ra2, .ref ra3, .ref ra4, .ref ra5, .ref ra6, .ref ra7, .ref ra8, .ref ra9, .ref ra10, .ref ra11, .ref ra12, .int rc, .int fo, .int xx]))] ++ wt) := hD
  refine lv_istore_n (lv' := [(3, .int r_1), (0, .ref h0), (1, .int b), (2, .int w)]) hx hb dX11_tricks_5 rfl hl (by decide) rfl (fun ls hl => ?_)
  refine lv_iload_n hx hb dX11_tricks_6 rfl (lv_at hl 0 rfl) ?_
  refine lv_iconst (v := (-1)) hx hb dX11_tricks_7 (by decide +kernel) ?_
  refine lv_icmp_eq (tgt := 20) hx hb dX11_tricks_8 (by decide) (fun c_2 => ?_) (fun c_2 => ?_)
  · rw [← Int32.toInt_inj] at c_2
    refine lv_bipush (v := (-4)) hx hb dX11_tricks_20 (by decide +kernel) ?_
    have hP9 : va_P (gg_D G) classes ([(h0, .inr (11, [.ref tp, .ref ra1, .ref ra2, .ref ra3, .ref ra4, .ref ra5, .ref ra6, .ref ra7, .ref ra8, .ref ra9, .ref ra10, .ref ra11, .ref ra12, .int rc, .int fo, .int xx]))] ++ wt) _ := hP
    have hD9 : va_D A ([(h0, .inr (11, [.ref tp, .ref ra1, .ref ra2, .ref ra3, .ref ra4, .ref ra5, .ref ra6, .ref ra7, .ref ra8, .ref ra9, .ref ra10, .ref ra11, .ref ra12, .int rc, .int fo, .int xx]))] ++ wt) := hD
    exact W.iret (v := (-4)) hx hb hr (gq_endI wt ⟨hT, hW⟩ hP9 hD9 hS) hS.2.2 dX11_tricks_22
  · rw [← Int32.toInt_inj] at c_2
    refine lv_iload_n hx hb dX11_tricks_11 rfl (lv_at hl 3 rfl) ?_
    refine lv_if_lt (tgt := 20) hx hb dX11_tricks_12 (by decide) (fun c_3 => ?_) (fun c_3 => ?_)
    · rw [Int32.lt_iff_toInt_lt] at c_3
      refine lv_bipush (v := (-4)) hx hb dX11_tricks_20 (by decide +kernel) ?_
      have hP9 : va_P (gg_D G) classes ([(h0, .inr (11, [.ref tp, .ref ra1, .ref ra2, .ref ra3, .ref ra4, .ref ra5, .ref ra6, .ref ra7, .ref ra8, .ref ra9, .ref ra10, .ref ra11, .ref ra12, .int rc, .int fo, .int xx]))] ++ wt) _ := hP
      have hD9 : va_D A ([(h0, .inr (11, [.ref tp, .ref ra1, .ref ra2, .ref ra3, .ref ra4, .ref ra5, .ref ra6, .ref ra7, .ref ra8, .ref ra9, .ref ra10, .ref ra11, .ref ra12, .int rc, .int fo, .int xx]))] ++ wt) := hD
      exact W.iret (v := (-4)) hx hb hr (gq_endI wt ⟨hT, hW⟩ hP9 hD9 hS) hS.2.2 dX11_tricks_22
    · rw [Int32.lt_iff_toInt_lt] at c_3
      refine lv_iload_n hx hb dX11_tricks_15 rfl (lv_at hl 3 rfl) ?_
      refine lv_iconst (v := 5) hx hb dX11_tricks_16 (by decide +kernel) ?_
      refine lv_icmp_le (tgt := 23) hx hb dX11_tricks_17 (by decide) (fun c_4 => ?_) (fun c_4 => ?_)
      · rw [Int32.le_iff_toInt_le] at c_4
        refine lv_aload_n hx hb dX11_tricks_23 rfl (lv_at hl 1 rfl) ?_
        have hP : va_P (gg_D G) classes ([] ++ ([(h0, .inr (11, [.ref tp, .ref ra1, .ref ra2, .ref ra3, .ref ra4, .ref ra5, .ref ra6, .ref ra7, .ref ra8, .ref ra9, .ref ra10, .ref ra11, .ref ra12, .int rc, .int fo, .int xx]))] ++ wt)) H := hP
        have hD : va_D A ([] ++ ([(h0, .inr (11, [.ref tp, .ref ra1, .ref ra2, .ref ra3, .ref ra4, .ref ra5, .ref ra6, .ref ra7, .ref ra8, .ref ra9, .ref ra10, .ref ra11, .ref ra12, .int rc, .int fo, .int xx]))] ++ wt)) := hD
        refine gt_callV (wr := []) (va_runV (As := []) (rest := []) ⟨hx, hb, hml, hown, ht⟩ (d_callClerk l G Γ H.size wt hT tp h0 ra1 ra2 ra3 ra4 ra5 ra6 ra7 ra8 ra9 ra10 ra11 ra12 rc fo xx (by first | assumption | omega) (by first | assumption | omega) (by first | assumption | omega) (by first | assumption | omega) (by first | assumption | omega) (by first | assumption | omega) (by first | assumption | omega) (by first | assumption | omega) (by first | assumption | omega) (by first | assumption | omega) (by first | assumption | omega) (by first | assumption | omega) (by first | assumption | omega)) (cwV 0 ht (ts_gV wd_868 wd_870 wd_17 wd_122 wd_871) rfl rfl rfl (by decide +kernel) ⟨Nat.le_of_ble_eq_true rfl, Nat.le_of_ble_eq_true rfl⟩) (gc_preV (ci := 11) (q0 := 0) hK (tw_right hP) (tw_rightD hD) rfl rfl) rfl rfl hl.1 rfl (lv_room (Nat.le_of_ble_eq_true rfl)) dX11_tricks_24 ⟨Nat.le_of_ble_eq_true rfl, Nat.le_of_ble_eq_true rfl⟩) hP hD hS hA (fun wt H locs hw hP hD hS => ?_)
        obtain ⟨hT, hkp⟩ := hw
        have hW := hW.call (show ∀ x ∈ [0, 1, 2], x ∈ [0, 1, 2, 709, 1003] by decide) hkp
        have hP : va_P (gg_D G) classes ([(h0, .inr (11, [.ref tp, .ref ra1, .ref ra2, .ref ra3, .ref ra4, .ref ra5, .ref ra6, .ref ra7, .ref ra8, .ref ra9, .ref ra10, .ref ra11, .ref ra12, .int rc, .int fo, .int xx]))] ++ wt) H := hP
        have hD : va_D A ([(h0, .inr (11, [.ref tp, .ref ra1, .ref ra2, .ref ra3, .ref ra4, .ref ra5, .ref ra6, .ref ra7, .ref ra8, .ref ra9, .ref ra10, .ref ra11, .ref ra12, .int rc, .int fo, .int xx]))] ++ wt) := hD
        refine lv_aload_n hx hb dX11_tricks_27 rfl (lv_at hl 1 rfl) ?_
        refine gq_get hx hb ht hown hK hP i_X11 0 rfl rfl 11 (by decide) wd_508 rfl rfl dX11_tricks_28 ?_
        refine lv_aload_n hx hb dX11_tricks_31 rfl (lv_at hl 1 rfl) ?_
        refine gq_get hx hb ht hown hK hP i_X11 0 rfl rfl 9 (by decide) wd_506 rfl rfl dX11_tricks_32 ?_
        refine lv_aload_n hx hb dX11_tricks_35 rfl (lv_at hl 1 rfl) ?_
        refine gq_get hx hb ht hown hK hP i_X11 0 rfl rfl 1 (by decide) wd_498 rfl rfl dX11_tricks_36 ?_
        refine lv_aload_n hx hb dX11_tricks_39 rfl (lv_at hl 1 rfl) ?_
        refine gq_get hx hb ht hown hK hP i_X11 0 rfl rfl 3 (by decide) wd_500 rfl rfl dX11_tricks_40 ?_
        refine lv_iload_n hx hb dX11_tricks_43 rfl (lv_at hl 2 rfl) ?_
        refine lv_iload_n hx hb dX11_tricks_44 rfl (lv_at hl 0 rfl) ?_
        refine gt_callV (wr := [(h0, .inr (11, [.ref tp, .ref ra1, .ref ra2, .ref ra3, .ref ra4, .ref ra5, .ref ra6, .ref ra7, .ref ra8, .ref ra9, .ref ra10, .ref ra11, .ref ra12, .int rc, .int fo, .int xx]))]) (va_runV (As := [.ref ra9, .ref ra1, .ref ra3, .int b, .int r_1]) (rest := []) ⟨hx, hb, hml, hown, ht⟩ (d_findTricks l G Γ H.size wt hT ra11 ra9 ra1 ra3 b r_1 kr11 kr9 kr1 kr3 (by omega) (by omega) (by omega) (by omega)) (cwV 5 ht (ts_gV wd_1101 wd_1102 wd_1103 wd_132 wd_1104) rfl rfl rfl (by decide +kernel) ⟨Nat.le_of_ble_eq_true rfl, Nat.le_of_ble_eq_true rfl⟩) (gt_preW (ci := 10) hK hT (tw_right hP) (tw_rightD hD) kr11 (by decide) rfl) rfl rfl hl.1 rfl (lv_room (Nat.le_of_ble_eq_true rfl)) dX11_tricks_45 ⟨Nat.le_of_ble_eq_true rfl, Nat.le_of_ble_eq_true rfl⟩) hP hD hS hA (fun wt H locs hw hP hD hS => ?_)
        obtain ⟨hT, hkp⟩ := hw
        have hW := hW.call (show ∀ x ∈ [709, 1003], x ∈ [0, 1, 2, 709, 1003] by decide) hkp
        have hP : va_P (gg_D G) classes ([(h0, .inr (11, [.ref tp, .ref ra1, .ref ra2, .ref ra3, .ref ra4, .ref ra5, .ref ra6, .ref ra7, .ref ra8, .ref ra9, .ref ra10, .ref ra11, .ref ra12, .int rc, .int fo, .int xx]))] ++ wt) H := hP
        have hD : va_D A ([(h0, .inr (11, [.ref tp, .ref ra1, .ref ra2, .ref ra3, .ref ra4, .ref ra5, .ref ra6, .ref ra7, .ref ra8, .ref ra9, .ref ra10, .ref ra11, .ref ra12, .int rc, .int fo, .int xx]))] ++ wt) := hD
        refine lv_aload_n hx hb dX11_tricks_48 rfl (lv_at hl 1 rfl) ?_
        refine gq_get hx hb ht hown hK hP i_X11 0 rfl rfl 11 (by decide) wd_508 rfl rfl dX11_tricks_49 ?_
        refine tr_get (ci := 10) hx hb ht hown hK hT hP kr11 (by decide) i_X10 rfl 3 (by decide) wd_461 rfl dX11_tricks_52 (fun v hv hf_5 => ?_)
        obtain ⟨n_6, rfl⟩ := hv
        refine lv_if_ge (tgt := 61) hx hb dX11_tricks_55 (by decide) (fun c_7 => ?_) (fun c_7 => ?_)
        · rw [Int32.le_iff_toInt_le] at c_7
          refine lv_iload_n hx hb dX11_tricks_61 rfl (lv_at hl 3 rfl) ?_
          refine lv_if_ne (tgt := 75) hx hb dX11_tricks_62 (by decide) (fun c_8 => ?_) (fun c_8 => ?_)
          · rw [← Int32.toInt_inj] at c_8
            refine lv_aload_n hx hb dX11_tricks_75 rfl (lv_at hl 1 rfl) ?_
            refine gq_get hx hb ht hown hK hP i_X11 0 rfl rfl 11 (by decide) wd_508 rfl rfl dX11_tricks_76 ?_
            refine tr_get (ci := 10) hx hb ht hown hK hT hP kr11 (by decide) i_X10 rfl 2 (by decide) wd_459 rfl dX11_tricks_79 (fun v hv hf_9 => ?_)
            obtain ⟨q_10, rfl, hq_10⟩ := hv
            refine lv_iload_n hx hb dX11_tricks_82 rfl (lv_at hl 3 rfl) ?_
            refine lv_iconst (v := 1) hx hb dX11_tricks_83 (by decide +kernel) ?_
            obtain ⟨t_11, et_11⟩ : ∃ zz_ : Int32, w - 1 = zz_ := ⟨_, rfl⟩
            refine gq_isub hx hb t_11 et_11 dX11_tricks_84 ?_
            have ft_11 := ia_sub et_11 (by omega) (by omega)
            refine tr_iald hx hb hK hT hP 20 hq_10 (by decide) (by decide) (show vp_in _ (tk_len 20) from ia_in (n := 5) (by omega) (by omega)) dX11_tricks_85 (fun n_12 hn_12 => ?_)
            clear hn_12
            have hP9 : va_P (gg_D G) classes ([(h0, .inr (11, [.ref tp, .ref ra1, .ref ra2, .ref ra3, .ref ra4, .ref ra5, .ref ra6, .ref ra7, .ref ra8, .ref ra9, .ref ra10, .ref ra11, .ref ra12, .int rc, .int fo, .int xx]))] ++ wt) _ := hP
            have hD9 : va_D A ([(h0, .inr (11, [.ref tp, .ref ra1, .ref ra2, .ref ra3, .ref ra4, .ref ra5, .ref ra6, .ref ra7, .ref ra8, .ref ra9, .ref ra10, .ref ra11, .ref ra12, .int rc, .int fo, .int xx]))] ++ wt) := hD
            exact W.iret (v := n_12) hx hb hr (gq_endI wt ⟨hT, hW⟩ hP9 hD9 hS) hS.2.2 dX11_tricks_86
          · rw [← Int32.toInt_inj] at c_8
            refine lv_aload_n hx hb dX11_tricks_65 rfl (lv_at hl 1 rfl) ?_
            refine gq_get hx hb ht hown hK hP i_X11 0 rfl rfl 11 (by decide) wd_508 rfl rfl dX11_tricks_66 ?_
            refine tr_getK (ci := 10) hx hb ht hown hK hP i_X10 rfl 3 (by decide) wd_461 rfl hf_5 dX11_tricks_69 ?_
            refine lv_goto (tgt := 86) hx hb dX11_tricks_72 (by decide) ?_
            have hP9 : va_P (gg_D G) classes ([(h0, .inr (11, [.ref tp, .ref ra1, .ref ra2, .ref ra3, .ref ra4, .ref ra5, .ref ra6, .ref ra7, .ref ra8, .ref ra9, .ref ra10, .ref ra11, .ref ra12, .int rc, .int fo, .int xx]))] ++ wt) _ := hP
            have hD9 : va_D A ([(h0, .inr (11, [.ref tp, .ref ra1, .ref ra2, .ref ra3, .ref ra4, .ref ra5, .ref ra6, .ref ra7, .ref ra8, .ref ra9, .ref ra10, .ref ra11, .ref ra12, .int rc, .int fo, .int xx]))] ++ wt) := hD
            exact W.iret (v := n_6) hx hb hr (gq_endI wt ⟨hT, hW⟩ hP9 hD9 hS) hS.2.2 dX11_tricks_86
        · rw [Int32.le_iff_toInt_le] at c_7
          refine lv_bipush (v := (-3)) hx hb dX11_tricks_58 (by decide +kernel) ?_
          have hP9 : va_P (gg_D G) classes ([(h0, .inr (11, [.ref tp, .ref ra1, .ref ra2, .ref ra3, .ref ra4, .ref ra5, .ref ra6, .ref ra7, .ref ra8, .ref ra9, .ref ra10, .ref ra11, .ref ra12, .int rc, .int fo, .int xx]))] ++ wt) _ := hP
          have hD9 : va_D A ([(h0, .inr (11, [.ref tp, .ref ra1, .ref ra2, .ref ra3, .ref ra4, .ref ra5, .ref ra6, .ref ra7, .ref ra8, .ref ra9, .ref ra10, .ref ra11, .ref ra12, .int rc, .int fo, .int xx]))] ++ wt) := hD
          exact W.iret (v := (-3)) hx hb hr (gq_endI wt ⟨hT, hW⟩ hP9 hD9 hS) hS.2.2 dX11_tricks_60
      · rw [Int32.le_iff_toInt_le] at c_4
        refine lv_bipush (v := (-4)) hx hb dX11_tricks_20 (by decide +kernel) ?_
        have hP9 : va_P (gg_D G) classes ([(h0, .inr (11, [.ref tp, .ref ra1, .ref ra2, .ref ra3, .ref ra4, .ref ra5, .ref ra6, .ref ra7, .ref ra8, .ref ra9, .ref ra10, .ref ra11, .ref ra12, .int rc, .int fo, .int xx]))] ++ wt) _ := hP
        have hD9 : va_D A ([(h0, .inr (11, [.ref tp, .ref ra1, .ref ra2, .ref ra3, .ref ra4, .ref ra5, .ref ra6, .ref ra7, .ref ra8, .ref ra9, .ref ra10, .ref ra11, .ref ra12, .int rc, .int fo, .int xx]))] ++ wt) := hD
        exact W.iret (v := (-4)) hx hb hr (gq_endI wt ⟨hT, hW⟩ hP9 hD9 hS) hS.2.2 dX11_tricks_22
set_option maxHeartbeats 4000000 in
set_option maxRecDepth 100000 in
theorem d_ring (l : Launch) (G : gg_T) (Γ : Nat → Nat) (sz : Nat) (wt : va_W) (hT : tk_ty G Γ wt) (b : Int32) (w : Int32) (tp : Nat) (h0 : Nat) (ra1 : Nat) (ra2 : Nat) (ra3 : Nat) (ra4 : Nat) (ra5 : Nat) (ra6 : Nat) (ra7 : Nat) (ra8 : Nat) (ra9 : Nat) (ra10 : Nat) (ra11 : Nat) (ra12 : Nat) (rc : Int32) (fo : Int32) (xx : Int32) (kr1 : Γ ra1 = 10) (kr2 : Γ ra2 = 10) (kr3 : Γ ra3 = 8) (kr4 : Γ ra4 = 8) (kr5 : Γ ra5 = 4) (kr6 : Γ ra6 = 3) (kr7 : Γ ra7 = 41) (kr9 : Γ ra9 = 1) (kr10 : Γ ra10 = 6) (kr11 : Γ ra11 = 11) (kr12 : Γ ra12 = 7) (xr1 : 0 ≤ rc.toInt) (xr2 : rc.toInt ≤ 6) : Met l yX11_ring (ts_L yX11_ring cX11_ring 5 (some .int)) ({ frames := 6, cells := 0, slots := 0, locals := 146 }) (gc_P G ([(h0, .inr (11, [.ref tp, .ref ra1, .ref ra2, .ref ra3, .ref ra4, .ref ra5, .ref ra6, .ref ra7, .ref ra8, .ref ra9, .ref ra10, .ref ra11, .ref ra12, .int rc, .int fo, .int xx]))] ++ wt) sz [.ref h0, .int b, .int w]) (gc_I G (va_A ([(h0, .inr (11, [.ref tp, .ref ra1, .ref ra2, .ref ra3, .ref ra4, .ref ra5, .ref ra6, .ref ra7, .ref ra8, .ref ra9, .ref ra10, .ref ra11, .ref ra12, .int rc, .int fo, .int xx]))] ++ wt) sz) (fun r (u : va_W) => match u with | wt1 => tk_ty G Γ wt1 ∧ tk_kp [0, 1, 2, 709] wt wt1) (fun (u : va_W) => match u with | wt1 => [(h0, .inr (11, [.ref tp, .ref ra1, .ref ra2, .ref ra3, .ref ra4, .ref ra5, .ref ra6, .ref ra7, .ref ra8, .ref ra9, .ref ra10, .ref ra11, .ref ra12, .int rc, .int fo, .int xx]))] ++ wt1)) 0 0 (va_A ([(h0, .inr (11, [.ref tp, .ref ra1, .ref ra2, .ref ra3, .ref ra4, .ref ra5, .ref ra6, .ref ra7, .ref ra8, .ref ra9, .ref ra10, .ref ra11, .ref ra12, .int rc, .int fo, .int xx]))] ++ wt) sz) := by
  refine Met.ofW (cc := cX11_ring) (maxL := 5) (ret := (some .int)) (by decide) rfl ?_
  intro p e s m args below meth c s₁ B hml hv
  obtain ⟨rfl, hsz, hP, hK, hD0⟩ := hv
  have hx := B.exec
  have hb := B.bytes
  have hr := B.returns
  have ht := ts_ht (atoms_spec (ws := ts_L yX11_ring cX11_ring 5 (some .int)) B.pre)
  have hown : s.vm.findClass RX11 = some m.cls := findClass_of_methodNamed B.named
  have hlocks := B.notSynchronized
  subst hsz
  have hD := hD0.self (sz := s.heap.size)
  generalize hAe : va_A ([(h0, .inr (11, [.ref tp, .ref ra1, .ref ra2, .ref ra3, .ref ra4, .ref ra5, .ref ra6, .ref ra7, .ref ra8, .ref ra9, .ref ra10, .ref ra11, .ref ra12, .int rc, .int fo, .int xx]))] ++ wt) s.heap.size = A at hD ⊢
  have hA : ∀ q : Nat, s.heap.size ≤ q → A q := fun q h => by rw [← hAe]; exact Or.inr h
  clear hAe hD0
  have hS : va_S A s.heap s.heap [] := va_S.rf
  obtain ⟨w0, hw0⟩ : ∃ z, z = wt := ⟨_, rfl⟩
  have hW : tk_kp [0, 1, 2, 709] w0 wt := by rw [hw0]; exact tk_kp.rf
  rw [← hw0]
  clear hw0
  have hP : va_P (gg_D G) classes ([(h0, .inr (11, [.ref tp, .ref ra1, .ref ra2, .ref ra3, .ref ra4, .ref ra5, .ref ra6, .ref ra7, .ref ra8, .ref ra9, .ref ra10, .ref ra11, .ref ra12, .int rc, .int fo, .int xx]))] ++ wt) s.heap := hP
  have hD : va_D A ([(h0, .inr (11, [.ref tp, .ref ra1, .ref ra2, .ref ra3, .ref ra4, .ref ra5, .ref ra6, .ref ra7, .ref ra8, .ref ra9, .ref ra10, .ref ra11, .ref ra12, .int rc, .int fo, .int xx]))] ++ wt) := hD
  have hl := lv_entry ([.ref h0, .int b, .int w]) (n := 5) (Nat.le_of_ble_eq_true rfl)
  rw [lg_entry_eq]
  generalize (lg_sl ([.ref h0, .int b, .int w]) ++ List.replicate (5 - (lg_sl ([.ref h0, .int b, .int w])).length) Slot.unset).toArray = ls at hl ⊢
  have hl : lv_has ls 5 [(0, .ref h0), (1, .int b), (2, .int w)] := hl
  have lm1000 : ((-1000) : Int32).toInt = -1000 := by decide +kernel
  have lm1 : ((-1) : Int32).toInt = -1 := by decide +kernel
  have l0 : (0 : Int32).toInt = 0 := by decide +kernel
  have l1 : (1 : Int32).toInt = 1 := by decide +kernel
  have l2 : (2 : Int32).toInt = 2 := by decide +kernel
  refine lv_iload_n hx hb dX11_ring_0 rfl (lv_at hl 1 rfl) ?_
  refine gt_callI (wr := [(h0, .inr (11, [.ref tp, .ref ra1, .ref ra2, .ref ra3, .ref ra4, .ref ra5, .ref ra6, .ref ra7, .ref ra8, .ref ra9, .ref ra10, .ref ra11, .ref ra12, .int rc, .int fo, .int xx]))]) (va_runS (As := [.int b]) (rest := []) ⟨hx, hb, hml, hown, ht⟩ (d_bitCount l G Γ s.heap.size wt hT b) (va_cwS 1 ht (ts_gS wd_1128 wd_895 wd_141 wd_896) rfl rfl rfl (by decide +kernel) ⟨Nat.le_of_ble_eq_true rfl, Nat.le_of_ble_eq_true rfl⟩) (gc_preS hK (tw_right hP) (tw_rightD hD)) rfl rfl hl.1 rfl (lv_room (Nat.le_of_ble_eq_true rfl)) dX11_ring_1 ⟨Nat.le_of_ble_eq_true rfl, Nat.le_of_ble_eq_true rfl⟩) hP hD hS hA (fun r_1 wt H locs hw hP hD hS => ?_)
  obtain ⟨hT, hkp⟩ := hw
  have hW := hW.call (show ∀ x ∈ [], x ∈ [0, 1, 2, 709] by decide) hkp
  have hP : va_P (gg_D G) classes ([(h0, .inr (11, [.ref tp, .ref ra1, .ref ra2, .ref ra3, .ref ra4, .ref ra5, .ref ra6, .ref ra7, .ref ra8, .ref ra9, .ref ra10, .ref ra11, .ref ra12, .int rc, .int fo, .int xx]))] ++ wt) H := hP
  have hD : va_D A ([(h0, .inr (11, [.ref tp, .ref ra1, .ref ra2, .ref ra3, .ref ra4, .ref ra5, .ref ra6, .ref ra7, .ref ra8, .ref ra9, .ref ra10, .ref ra11, .ref ra12, .int rc, .int fo, .int xx]))] ++ wt) := hD
  refine lv_iconst (v := 2) hx hb dX11_ring_4 (by decide +kernel) ?_
  refine lv_icmp_ge (tgt := 12) hx hb dX11_ring_5 (by decide) (fun c_2 => ?_) (fun c_2 => ?_)
  · rw [Int32.le_iff_toInt_le] at c_2
    refine lv_aload_n hx hb dX11_ring_12 rfl (lv_at hl 0 rfl) ?_
    refine lv_iload_n hx hb dX11_ring_13 rfl (lv_at hl 1 rfl) ?_
    have hP : va_P (gg_D G) classes ([] ++ ([(h0, .inr (11, [.ref tp, .ref ra1, .ref ra2, .ref ra3, .ref ra4, .ref ra5, .ref ra6, .ref ra7, .ref ra8, .ref ra9, .ref ra10, .ref ra11, .ref ra12, .int rc, .int fo, .int xx]))] ++ wt)) H := hP
    have hD : va_D A ([] ++ ([(h0, .inr (11, [.ref tp, .ref ra1, .ref ra2, .ref ra3, .ref ra4, .ref ra5, .ref ra6, .ref ra7, .ref ra8, .ref ra9, .ref ra10, .ref ra11, .ref ra12, .int rc, .int fo, .int xx]))] ++ wt)) := hD
    refine gt_callI (wr := []) (va_runV (As := [.int b]) (rest := []) ⟨hx, hb, hml, hown, ht⟩ (d_roomOfAll l G Γ H.size wt hT b tp h0 ra1 ra2 ra3 ra4 ra5 ra6 ra7 ra8 ra9 ra10 ra11 ra12 rc fo xx (by first | assumption | omega) (by first | assumption | omega) (by first | assumption | omega) (by first | assumption | omega) (by first | assumption | omega) (by first | assumption | omega) (by first | assumption | omega) (by first | assumption | omega) (by first | assumption | omega) (by first | assumption | omega) (by first | assumption | omega) (by first | assumption | omega) (by first | assumption | omega)) (cwV 1 ht (ts_gV wd_1015 wd_1017 wd_24 wd_122 wd_1018) rfl rfl rfl (by decide +kernel) ⟨Nat.le_of_ble_eq_true rfl, Nat.le_of_ble_eq_true rfl⟩) (gc_preV (ci := 11) (q0 := 0) hK (tw_right hP) (tw_rightD hD) rfl rfl) rfl rfl hl.1 rfl (lv_room (Nat.le_of_ble_eq_true rfl)) dX11_ring_14 ⟨Nat.le_of_ble_eq_true rfl, Nat.le_of_ble_eq_true rfl⟩) hP hD hS hA (fun r_3 wt H locs hw hP hD hS => ?_)
    obtain ⟨hT, hkp, lo_r_3, hi_r_3, rp_r_3⟩ := hw
    have hW := hW.call (show ∀ x ∈ [], x ∈ [0, 1, 2, 709] by decide) hkp
    have hP : va_P (gg_D G) classes ([(h0, .inr (11, [.ref tp, .ref ra1, .ref ra2, .ref ra3, .ref ra4, .ref ra5, .ref ra6, .ref ra7, .ref ra8, .ref ra9, .ref ra10, .ref ra11, .ref ra12, .int rc, .int fo, .int xx]))] ++ wt) H := hP
    have hD : va_D A ([(h0, .inr (11, [.ref tp, .ref ra1, .ref ra2, .ref ra3, .ref ra4, .ref ra5, .ref ra6, .ref ra7, .ref ra8, .ref ra9, .ref ra10, .ref ra11, .ref ra12, .int rc, .int fo, .int xx]))] ++ wt) := hD
    refine lv_istore_n (lv' := [(3, .int r_3), (0, .ref h0), (1, .int b), (2, .int w)]) hx hb dX11_ring_17 rfl hl (by decide) rfl (fun ls hl => ?_)
    refine lv_iload_n hx hb dX11_ring_18 rfl (lv_at hl 0 rfl) ?_
    refine lv_iconst (v := (-1)) hx hb dX11_ring_19 (by decide +kernel) ?_
    refine lv_icmp_eq (tgt := 32) hx hb dX11_ring_20 (by decide) (fun c_4 => ?_) (fun c_4 => ?_)
    · rw [← Int32.toInt_inj] at c_4
      refine lv_sipush (v := (-1000)) hx hb dX11_ring_32 (by decide +kernel) ?_
      have hP9 : va_P (gg_D G) classes ([(h0, .inr (11, [.ref tp, .ref ra1, .ref ra2, .ref ra3, .ref ra4, .ref ra5, .ref ra6, .ref ra7, .ref ra8, .ref ra9, .ref ra10, .ref ra11, .ref ra12, .int rc, .int fo, .int xx]))] ++ wt) _ := hP
      have hD9 : va_D A ([(h0, .inr (11, [.ref tp, .ref ra1, .ref ra2, .ref ra3, .ref ra4, .ref ra5, .ref ra6, .ref ra7, .ref ra8, .ref ra9, .ref ra10, .ref ra11, .ref ra12, .int rc, .int fo, .int xx]))] ++ wt) := hD
      exact W.iret (v := (-1000)) hx hb hr (gq_endI wt ⟨hT, hW⟩ hP9 hD9 hS) hS.2.2 dX11_ring_35
    · rw [← Int32.toInt_inj] at c_4
      refine lv_iload_n hx hb dX11_ring_23 rfl (lv_at hl 3 rfl) ?_
      refine lv_if_lt (tgt := 32) hx hb dX11_ring_24 (by decide) (fun c_5 => ?_) (fun c_5 => ?_)
      · rw [Int32.lt_iff_toInt_lt] at c_5
        refine lv_sipush (v := (-1000)) hx hb dX11_ring_32 (by decide +kernel) ?_
        have hP9 : va_P (gg_D G) classes ([(h0, .inr (11, [.ref tp, .ref ra1, .ref ra2, .ref ra3, .ref ra4, .ref ra5, .ref ra6, .ref ra7, .ref ra8, .ref ra9, .ref ra10, .ref ra11, .ref ra12, .int rc, .int fo, .int xx]))] ++ wt) _ := hP
        have hD9 : va_D A ([(h0, .inr (11, [.ref tp, .ref ra1, .ref ra2, .ref ra3, .ref ra4, .ref ra5, .ref ra6, .ref ra7, .ref ra8, .ref ra9, .ref ra10, .ref ra11, .ref ra12, .int rc, .int fo, .int xx]))] ++ wt) := hD
        exact W.iret (v := (-1000)) hx hb hr (gq_endI wt ⟨hT, hW⟩ hP9 hD9 hS) hS.2.2 dX11_ring_35
      · rw [Int32.lt_iff_toInt_lt] at c_5
        refine lv_iload_n hx hb dX11_ring_27 rfl (lv_at hl 3 rfl) ?_
        refine lv_iconst (v := 1) hx hb dX11_ring_28 (by decide +kernel) ?_
        refine lv_icmp_le (tgt := 36) hx hb dX11_ring_29 (by decide) (fun c_6 => ?_) (fun c_6 => ?_)
        · rw [Int32.le_iff_toInt_le] at c_6
          refine lv_aload_n hx hb dX11_ring_36 rfl (lv_at hl 1 rfl) ?_
          have hP : va_P (gg_D G) classes ([] ++ ([(h0, .inr (11, [.ref tp, .ref ra1, .ref ra2, .ref ra3, .ref ra4, .ref ra5, .ref ra6, .ref ra7, .ref ra8, .ref ra9, .ref ra10, .ref ra11, .ref ra12, .int rc, .int fo, .int xx]))] ++ wt)) H := hP
          have hD : va_D A ([] ++ ([(h0, .inr (11, [.ref tp, .ref ra1, .ref ra2, .ref ra3, .ref ra4, .ref ra5, .ref ra6, .ref ra7, .ref ra8, .ref ra9, .ref ra10, .ref ra11, .ref ra12, .int rc, .int fo, .int xx]))] ++ wt)) := hD
          refine gt_callV (wr := []) (va_runV (As := []) (rest := []) ⟨hx, hb, hml, hown, ht⟩ (d_beginAsking l G Γ H.size wt hT tp h0 ra1 ra2 ra3 ra4 ra5 ra6 ra7 ra8 ra9 ra10 ra11 ra12 rc fo xx (by first | assumption | omega) (by first | assumption | omega) (by first | assumption | omega) (by first | assumption | omega) (by first | assumption | omega) (by first | assumption | omega) (by first | assumption | omega) (by first | assumption | omega) (by first | assumption | omega) (by first | assumption | omega) (by first | assumption | omega) (by first | assumption | omega) (by first | assumption | omega)) (cwV 0 ht (ts_gV wd_988 wd_990 wd_22 wd_122 wd_991) rfl rfl rfl (by decide +kernel) ⟨Nat.le_of_ble_eq_true rfl, Nat.le_of_ble_eq_true rfl⟩) (gc_preV (ci := 11) (q0 := 0) hK (tw_right hP) (tw_rightD hD) rfl rfl) rfl rfl hl.1 rfl (lv_room (Nat.le_of_ble_eq_true rfl)) dX11_ring_37 ⟨Nat.le_of_ble_eq_true rfl, Nat.le_of_ble_eq_true rfl⟩) hP hD hS hA (fun wt H locs hw hP hD hS => ?_)
          obtain ⟨hT, hkp⟩ := hw
          have hW := hW.call (show ∀ x ∈ [0, 1, 2, 709], x ∈ [0, 1, 2, 709] by decide) hkp
          have hP : va_P (gg_D G) classes ([(h0, .inr (11, [.ref tp, .ref ra1, .ref ra2, .ref ra3, .ref ra4, .ref ra5, .ref ra6, .ref ra7, .ref ra8, .ref ra9, .ref ra10, .ref ra11, .ref ra12, .int rc, .int fo, .int xx]))] ++ wt) H := hP
          have hD : va_D A ([(h0, .inr (11, [.ref tp, .ref ra1, .ref ra2, .ref ra3, .ref ra4, .ref ra5, .ref ra6, .ref ra7, .ref ra8, .ref ra9, .ref ra10, .ref ra11, .ref ra12, .int rc, .int fo, .int xx]))] ++ wt) := hD
          refine lv_aload_n hx hb dX11_ring_40 rfl (lv_at hl 1 rfl) ?_
          refine gq_get hx hb ht hown hK hP i_X11 0 rfl rfl 9 (by decide) wd_506 rfl rfl dX11_ring_41 ?_
          refine lv_aload_n hx hb dX11_ring_44 rfl (lv_at hl 1 rfl) ?_
          refine gq_get hx hb ht hown hK hP i_X11 0 rfl rfl 4 (by decide) wd_501 rfl rfl dX11_ring_45 ?_
          refine lv_iload_n hx hb dX11_ring_48 rfl (lv_at hl 2 rfl) ?_
          refine lv_iconst (v := 1) hx hb dX11_ring_49 (by decide +kernel) ?_
          refine lv_aload_n hx hb dX11_ring_50 rfl (lv_at hl 1 rfl) ?_
          refine lv_iload_n hx hb dX11_ring_51 rfl (lv_at hl 2 rfl) ?_
          refine lv_iload_n hx hb dX11_ring_52 rfl (lv_at hl 0 rfl) ?_
          have hP : va_P (gg_D G) classes ([] ++ ([(h0, .inr (11, [.ref tp, .ref ra1, .ref ra2, .ref ra3, .ref ra4, .ref ra5, .ref ra6, .ref ra7, .ref ra8, .ref ra9, .ref ra10, .ref ra11, .ref ra12, .int rc, .int fo, .int xx]))] ++ wt)) H := hP
          have hD : va_D A ([] ++ ([(h0, .inr (11, [.ref tp, .ref ra1, .ref ra2, .ref ra3, .ref ra4, .ref ra5, .ref ra6, .ref ra7, .ref ra8, .ref ra9, .ref ra10, .ref ra11, .ref ra12, .int rc, .int fo, .int xx]))] ++ wt)) := hD
          refine gt_callI (wr := []) (va_runV (As := [.int b, .int r_3]) (rest := [.int 1, .int b, .ref ra4, .ref ra9]) ⟨hx, hb, hml, hown, ht⟩ (d_keeperOf l G Γ H.size wt hT b r_3 tp h0 ra1 ra2 ra3 ra4 ra5 ra6 ra7 ra8 ra9 ra10 ra11 ra12 rc fo xx (by omega) (by omega) (by omega) (by omega) (by first | assumption | omega) (by first | assumption | omega) (by first | assumption | omega) (by first | assumption | omega) (by first | assumption | omega) (by first | assumption | omega) (by first | assumption | omega) (by first | assumption | omega) (by first | assumption | omega) (by first | assumption | omega) (by first | assumption | omega) (by first | assumption | omega) (by first | assumption | omega)) (cwV 2 ht (ts_gV wd_1129 wd_1131 wd_33 wd_122 wd_1132) rfl rfl rfl (by decide +kernel) ⟨Nat.le_of_ble_eq_true rfl, Nat.le_of_ble_eq_true rfl⟩) (gc_preV (ci := 11) (q0 := 0) hK (tw_right hP) (tw_rightD hD) rfl rfl) rfl rfl hl.1 rfl (lv_room (Nat.le_of_ble_eq_true rfl)) dX11_ring_53 ⟨Nat.le_of_ble_eq_true rfl, Nat.le_of_ble_eq_true rfl⟩) hP hD hS hA (fun r_7 wt H locs hw hP hD hS => ?_)
          obtain ⟨hT, hkp, lo_r_7, hi_r_7⟩ := hw
          have hW := hW.call (show ∀ x ∈ [], x ∈ [0, 1, 2, 709] by decide) hkp
          have hP : va_P (gg_D G) classes ([(h0, .inr (11, [.ref tp, .ref ra1, .ref ra2, .ref ra3, .ref ra4, .ref ra5, .ref ra6, .ref ra7, .ref ra8, .ref ra9, .ref ra10, .ref ra11, .ref ra12, .int rc, .int fo, .int xx]))] ++ wt) H := hP
          have hD : va_D A ([(h0, .inr (11, [.ref tp, .ref ra1, .ref ra2, .ref ra3, .ref ra4, .ref ra5, .ref ra6, .ref ra7, .ref ra8, .ref ra9, .ref ra10, .ref ra11, .ref ra12, .int rc, .int fo, .int xx]))] ++ wt) := hD
          obtain ⟨t_8, et_8⟩ : ∃ zz_ : Int32, 1 <<< (r_7 &&& 31) = zz_ := ⟨_, rfl⟩
          refine gq_ishl hx hb t_8 et_8 dX11_ring_56 ?_
          have ft_8 := ia_bit et_8 (by omega) (by omega)
          refine lv_iconst (v := (-1)) hx hb dX11_ring_57 (by decide +kernel) ?_
          refine lv_ixor hx hb dX11_ring_58 ?_
          refine lv_topi (fun t_9 et_9 => ?_)
          obtain ⟨t_10, et_10⟩ : ∃ zz_ : Int32, b &&& t_9 = zz_ := ⟨_, rfl⟩
          refine gq_iand hx hb t_10 et_10 dX11_ring_59 ?_
          have mt_10 := ia_sub31 et_9 et_10 (by omega) (by omega)
          refine gt_callI (wr := [(h0, .inr (11, [.ref tp, .ref ra1, .ref ra2, .ref ra3, .ref ra4, .ref ra5, .ref ra6, .ref ra7, .ref ra8, .ref ra9, .ref ra10, .ref ra11, .ref ra12, .int rc, .int fo, .int xx]))]) (va_runV (As := [.ref ra4, .int t_10]) (rest := []) ⟨hx, hb, hml, hown, ht⟩ (d_pass l G Γ H.size wt hT ra9 ra4 t_10 kr9 kr4) (cwV 2 ht (ts_gV wd_876 wd_877 wd_878 wd_130 wd_879) rfl rfl rfl (by decide +kernel) ⟨Nat.le_of_ble_eq_true rfl, Nat.le_of_ble_eq_true rfl⟩) (gt_preW (ci := 0) hK hT (tw_right hP) (tw_rightD hD) kr9 (by decide) rfl) rfl rfl hl.1 rfl (lv_room (Nat.le_of_ble_eq_true rfl)) dX11_ring_60 ⟨Nat.le_of_ble_eq_true rfl, Nat.le_of_ble_eq_true rfl⟩) hP hD hS hA (fun r_11 wt H locs hw hP hD hS => ?_)
          obtain ⟨hT, hkp⟩ := hw
          have hW := hW.call (show ∀ x ∈ [709], x ∈ [0, 1, 2, 709] by decide) hkp
          have hP : va_P (gg_D G) classes ([(h0, .inr (11, [.ref tp, .ref ra1, .ref ra2, .ref ra3, .ref ra4, .ref ra5, .ref ra6, .ref ra7, .ref ra8, .ref ra9, .ref ra10, .ref ra11, .ref ra12, .int rc, .int fo, .int xx]))] ++ wt) H := hP
          have hD : va_D A ([(h0, .inr (11, [.ref tp, .ref ra1, .ref ra2, .ref ra3, .ref ra4, .ref ra5, .ref ra6, .ref ra7, .ref ra8, .ref ra9, .ref ra10, .ref ra11, .ref ra12, .int rc, .int fo, .int xx]))] ++ wt) := hD
          refine lv_pop hx hb dX11_ring_63 rfl ?_
          refine lv_aload_n hx hb dX11_ring_64 rfl (lv_at hl 1 rfl) ?_
          refine gq_get hx hb ht hown hK hP i_X11 0 rfl rfl 9 (by decide) wd_506 rfl rfl dX11_ring_65 ?_
          refine lv_aload_n hx hb dX11_ring_68 rfl (lv_at hl 1 rfl) ?_
          refine gq_get hx hb ht hown hK hP i_X11 0 rfl rfl 4 (by decide) wd_501 rfl rfl dX11_ring_69 ?_
          refine lv_iload_n hx hb dX11_ring_72 rfl (lv_at hl 0 rfl) ?_
          refine gt_callV (wr := [(h0, .inr (11, [.ref tp, .ref ra1, .ref ra2, .ref ra3, .ref ra4, .ref ra5, .ref ra6, .ref ra7, .ref ra8, .ref ra9, .ref ra10, .ref ra11, .ref ra12, .int rc, .int fo, .int xx]))]) (va_runV (As := [.ref ra4, .int r_3]) (rest := []) ⟨hx, hb, hml, hown, ht⟩ (d_passTillOver l G Γ H.size wt hT ra9 ra4 r_3 kr9 kr4 (by omega) (by omega)) (cwV 2 ht (ts_gV wd_1003 wd_1004 wd_1005 wd_130 wd_1006) rfl rfl rfl (by decide +kernel) ⟨Nat.le_of_ble_eq_true rfl, Nat.le_of_ble_eq_true rfl⟩) (gt_preW (ci := 0) hK hT (tw_right hP) (tw_rightD hD) kr9 (by decide) rfl) rfl rfl hl.1 rfl (lv_room (Nat.le_of_ble_eq_true rfl)) dX11_ring_73 ⟨Nat.le_of_ble_eq_true rfl, Nat.le_of_ble_eq_true rfl⟩) hP hD hS hA (fun wt H locs hw hP hD hS => ?_)
          obtain ⟨hT, hkp⟩ := hw
          have hW := hW.call (show ∀ x ∈ [709], x ∈ [0, 1, 2, 709] by decide) hkp
          have hP : va_P (gg_D G) classes ([(h0, .inr (11, [.ref tp, .ref ra1, .ref ra2, .ref ra3, .ref ra4, .ref ra5, .ref ra6, .ref ra7, .ref ra8, .ref ra9, .ref ra10, .ref ra11, .ref ra12, .int rc, .int fo, .int xx]))] ++ wt) H := hP
          have hD : va_D A ([(h0, .inr (11, [.ref tp, .ref ra1, .ref ra2, .ref ra3, .ref ra4, .ref ra5, .ref ra6, .ref ra7, .ref ra8, .ref ra9, .ref ra10, .ref ra11, .ref ra12, .int rc, .int fo, .int xx]))] ++ wt) := hD
          refine lv_aload_n hx hb dX11_ring_76 rfl (lv_at hl 1 rfl) ?_
          refine lv_iload_n hx hb dX11_ring_77 rfl (lv_at hl 2 rfl) ?_
          have hP : va_P (gg_D G) classes ([] ++ ([(h0, .inr (11, [.ref tp, .ref ra1, .ref ra2, .ref ra3, .ref ra4, .ref ra5, .ref ra6, .ref ra7, .ref ra8, .ref ra9, .ref ra10, .ref ra11, .ref ra12, .int rc, .int fo, .int xx]))] ++ wt)) H := hP
          have hD : va_D A ([] ++ ([(h0, .inr (11, [.ref tp, .ref ra1, .ref ra2, .ref ra3, .ref ra4, .ref ra5, .ref ra6, .ref ra7, .ref ra8, .ref ra9, .ref ra10, .ref ra11, .ref ra12, .int rc, .int fo, .int xx]))] ++ wt)) := hD
          refine gt_callI (wr := []) (va_runV (As := [.int b]) (rest := []) ⟨hx, hb, hml, hown, ht⟩ (d_gainsOf l G Γ H.size wt hT b tp h0 ra1 ra2 ra3 ra4 ra5 ra6 ra7 ra8 ra9 ra10 ra11 ra12 rc fo xx (by first | assumption | omega) (by first | assumption | omega) (by first | assumption | omega) (by first | assumption | omega) (by first | assumption | omega) (by first | assumption | omega) (by first | assumption | omega) (by first | assumption | omega) (by first | assumption | omega) (by first | assumption | omega) (by first | assumption | omega) (by first | assumption | omega) (by first | assumption | omega)) (cwV 1 ht (ts_gV wd_1134 wd_1136 wd_34 wd_122 wd_1137) rfl rfl rfl (by decide +kernel) ⟨Nat.le_of_ble_eq_true rfl, Nat.le_of_ble_eq_true rfl⟩) (gc_preV (ci := 11) (q0 := 0) hK (tw_right hP) (tw_rightD hD) rfl rfl) rfl rfl hl.1 rfl (lv_room (Nat.le_of_ble_eq_true rfl)) dX11_ring_78 ⟨Nat.le_of_ble_eq_true rfl, Nat.le_of_ble_eq_true rfl⟩) hP hD hS hA (fun r_12 wt H locs hw hP hD hS => ?_)
          obtain ⟨hT, hkp⟩ := hw
          have hW := hW.call (show ∀ x ∈ [], x ∈ [0, 1, 2, 709] by decide) hkp
          have hP : va_P (gg_D G) classes ([(h0, .inr (11, [.ref tp, .ref ra1, .ref ra2, .ref ra3, .ref ra4, .ref ra5, .ref ra6, .ref ra7, .ref ra8, .ref ra9, .ref ra10, .ref ra11, .ref ra12, .int rc, .int fo, .int xx]))] ++ wt) H := hP
          have hD : va_D A ([(h0, .inr (11, [.ref tp, .ref ra1, .ref ra2, .ref ra3, .ref ra4, .ref ra5, .ref ra6, .ref ra7, .ref ra8, .ref ra9, .ref ra10, .ref ra11, .ref ra12, .int rc, .int fo, .int xx]))] ++ wt) := hD
          refine lv_istore (lv' := [(4, .int r_12), (3, .int r_3), (0, .ref h0), (1, .int b), (2, .int w)]) hx hb dX11_ring_81 hl (by decide) rfl (fun ls hl => ?_)
          refine lv_aload_n hx hb dX11_ring_83 rfl (lv_at hl 2 rfl) ?_
          refine gq_get hx hb ht hown hK hP i_X11 0 rfl rfl 4 (by decide) wd_501 rfl rfl dX11_ring_84 ?_
          refine lv_aload_n hx hb dX11_ring_87 rfl (lv_at hl 2 rfl) ?_
          refine gq_get hx hb ht hown hK hP i_X11 0 rfl rfl 3 (by decide) wd_500 rfl rfl dX11_ring_88 ?_
          refine gt_callV (wr := [(h0, .inr (11, [.ref tp, .ref ra1, .ref ra2, .ref ra3, .ref ra4, .ref ra5, .ref ra6, .ref ra7, .ref ra8, .ref ra9, .ref ra10, .ref ra11, .ref ra12, .int rc, .int fo, .int xx]))]) (va_runV (As := [.ref ra3]) (rest := []) ⟨hx, hb, hml, hown, ht⟩ (d_S_copyFrom l G Γ H.size wt hT ra4 ra3 kr4 kr3) (cwV 1 ht (ts_gV wd_992 wd_863 wd_864 wd_125 wd_865) rfl rfl rfl (by decide +kernel) ⟨Nat.le_of_ble_eq_true rfl, Nat.le_of_ble_eq_true rfl⟩) (gt_preW (ci := 7) hK hT (tw_right hP) (tw_rightD hD) kr4 (by decide) rfl) rfl rfl hl.1 rfl (lv_room (Nat.le_of_ble_eq_true rfl)) dX11_ring_91 ⟨Nat.le_of_ble_eq_true rfl, Nat.le_of_ble_eq_true rfl⟩) hP hD hS hA (fun wt H locs hw hP hD hS => ?_)
          obtain ⟨hT, hkp⟩ := hw
          have hW := hW.call (show ∀ x ∈ [709], x ∈ [0, 1, 2, 709] by decide) hkp
          have hP : va_P (gg_D G) classes ([(h0, .inr (11, [.ref tp, .ref ra1, .ref ra2, .ref ra3, .ref ra4, .ref ra5, .ref ra6, .ref ra7, .ref ra8, .ref ra9, .ref ra10, .ref ra11, .ref ra12, .int rc, .int fo, .int xx]))] ++ wt) H := hP
          have hD : va_D A ([(h0, .inr (11, [.ref tp, .ref ra1, .ref ra2, .ref ra3, .ref ra4, .ref ra5, .ref ra6, .ref ra7, .ref ra8, .ref ra9, .ref ra10, .ref ra11, .ref ra12, .int rc, .int fo, .int xx]))] ++ wt) := hD
          refine lv_aload_n hx hb dX11_ring_94 rfl (lv_at hl 2 rfl) ?_
          refine gq_get hx hb ht hown hK hP i_X11 0 rfl rfl 9 (by decide) wd_506 rfl rfl dX11_ring_95 ?_
          refine lv_aload_n hx hb dX11_ring_98 rfl (lv_at hl 2 rfl) ?_
          refine gq_get hx hb ht hown hK hP i_X11 0 rfl rfl 4 (by decide) wd_501 rfl rfl dX11_ring_99 ?_
          refine lv_iload_n hx hb dX11_ring_102 rfl (lv_at hl 1 rfl) ?_
          refine gt_callV (wr := [(h0, .inr (11, [.ref tp, .ref ra1, .ref ra2, .ref ra3, .ref ra4, .ref ra5, .ref ra6, .ref ra7, .ref ra8, .ref ra9, .ref ra10, .ref ra11, .ref ra12, .int rc, .int fo, .int xx]))]) (va_runV (As := [.ref ra4, .int r_3]) (rest := []) ⟨hx, hb, hml, hown, ht⟩ (d_passTillOver l G Γ H.size wt hT ra9 ra4 r_3 kr9 kr4 (by omega) (by omega)) (cwV 2 ht (ts_gV wd_1003 wd_1004 wd_1005 wd_130 wd_1006) rfl rfl rfl (by decide +kernel) ⟨Nat.le_of_ble_eq_true rfl, Nat.le_of_ble_eq_true rfl⟩) (gt_preW (ci := 0) hK hT (tw_right hP) (tw_rightD hD) kr9 (by decide) rfl) rfl rfl hl.1 rfl (lv_room (Nat.le_of_ble_eq_true rfl)) dX11_ring_103 ⟨Nat.le_of_ble_eq_true rfl, Nat.le_of_ble_eq_true rfl⟩) hP hD hS hA (fun wt H locs hw hP hD hS => ?_)
          obtain ⟨hT, hkp⟩ := hw
          have hW := hW.call (show ∀ x ∈ [709], x ∈ [0, 1, 2, 709] by decide) hkp
          have hP : va_P (gg_D G) classes ([(h0, .inr (11, [.ref tp, .ref ra1, .ref ra2, .ref ra3, .ref ra4, .ref ra5, .ref ra6, .ref ra7, .ref ra8, .ref ra9, .ref ra10, .ref ra11, .ref ra12, .int rc, .int fo, .int xx]))] ++ wt) H := hP
          have hD : va_D A ([(h0, .inr (11, [.ref tp, .ref ra1, .ref ra2, .ref ra3, .ref ra4, .ref ra5, .ref ra6, .ref ra7, .ref ra8, .ref ra9, .ref ra10, .ref ra11, .ref ra12, .int rc, .int fo, .int xx]))] ++ wt) := hD
          refine lv_iload_n hx hb dX11_ring_106 rfl (lv_at hl 4 rfl) ?_
          refine lv_if_ne (tgt := 119) hx hb dX11_ring_107 (by decide) (fun c_13 => ?_) (fun c_13 => ?_)
          · rw [← Int32.toInt_inj] at c_13
            refine lv_aload_n hx hb dX11_ring_119 rfl (lv_at hl 2 rfl) ?_
            refine lv_iload_n hx hb dX11_ring_120 rfl (lv_at hl 3 rfl) ?_
            refine lv_iload hx hb dX11_ring_121 (lv_at hl 0 rfl) ?_
            refine lv_iconst (v := 1) hx hb dX11_ring_123 (by decide +kernel) ?_
            refine lv_iload_n hx hb dX11_ring_124 rfl (lv_at hl 3 rfl) ?_
            refine gt_callI (wr := [(h0, .inr (11, [.ref tp, .ref ra1, .ref ra2, .ref ra3, .ref ra4, .ref ra5, .ref ra6, .ref ra7, .ref ra8, .ref ra9, .ref ra10, .ref ra11, .ref ra12, .int rc, .int fo, .int xx]))]) (va_runS (As := [.int b]) (rest := [.int 1, .int r_12, .int b, .ref h0]) ⟨hx, hb, hml, hown, ht⟩ (d_bitCount l G Γ H.size wt hT b) (va_cwS 1 ht (ts_gS wd_1128 wd_895 wd_141 wd_896) rfl rfl rfl (by decide +kernel) ⟨Nat.le_of_ble_eq_true rfl, Nat.le_of_ble_eq_true rfl⟩) (gc_preS hK (tw_right hP) (tw_rightD hD)) rfl rfl hl.1 rfl (lv_room (Nat.le_of_ble_eq_true rfl)) dX11_ring_125 ⟨Nat.le_of_ble_eq_true rfl, Nat.le_of_ble_eq_true rfl⟩) hP hD hS hA (fun r_14 wt H locs hw hP hD hS => ?_)
            obtain ⟨hT, hkp⟩ := hw
            have hW := hW.call (show ∀ x ∈ [], x ∈ [0, 1, 2, 709] by decide) hkp
            have hP : va_P (gg_D G) classes ([(h0, .inr (11, [.ref tp, .ref ra1, .ref ra2, .ref ra3, .ref ra4, .ref ra5, .ref ra6, .ref ra7, .ref ra8, .ref ra9, .ref ra10, .ref ra11, .ref ra12, .int rc, .int fo, .int xx]))] ++ wt) H := hP
            have hD : va_D A ([(h0, .inr (11, [.ref tp, .ref ra1, .ref ra2, .ref ra3, .ref ra4, .ref ra5, .ref ra6, .ref ra7, .ref ra8, .ref ra9, .ref ra10, .ref ra11, .ref ra12, .int rc, .int fo, .int xx]))] ++ wt) := hD
            refine va_mmax hx hb (by rw [hml]; exact hl.1.symm) hown (ht _ wd_1023) (ht _ wd_909) (ht _ wd_140) (ht _ wd_910) (Nat.le_of_ble_eq_true rfl) (Nat.le_of_ble_eq_true rfl) (Nat.zero_le _) (Nat.zero_le _) dX11_ring_128 ?_
            refine lv_topi (fun t_15 et_15 => ?_)
            have ft_15 := ia_max et_15.symm
            have bd_t_15 := ia_bd t_15
            refine gt_callI (wr := [(h0, .inr (11, [.ref tp, .ref ra1, .ref ra2, .ref ra3, .ref ra4, .ref ra5, .ref ra6, .ref ra7, .ref ra8, .ref ra9, .ref ra10, .ref ra11, .ref ra12, .int rc, .int fo, .int xx]))]) (va_runS (As := [.int r_12, .int t_15]) (rest := [.int b, .ref h0]) ⟨hx, hb, hml, hown, ht⟩ (d_floorDiv l G Γ H.size wt hT r_12 t_15 (by omega) (by omega)) (va_cwS 2 ht (ts_gS wd_1138 wd_1139 wd_140 wd_1140) rfl rfl rfl (by decide +kernel) ⟨Nat.le_of_ble_eq_true rfl, Nat.le_of_ble_eq_true rfl⟩) (gc_preS hK (tw_right hP) (tw_rightD hD)) rfl rfl hl.1 rfl (lv_room (Nat.le_of_ble_eq_true rfl)) dX11_ring_131 ⟨Nat.le_of_ble_eq_true rfl, Nat.le_of_ble_eq_true rfl⟩) hP hD hS hA (fun r_16 wt H locs hw hP hD hS => ?_)
            obtain ⟨hT, hkp⟩ := hw
            have hW := hW.call (show ∀ x ∈ [], x ∈ [0, 1, 2, 709] by decide) hkp
            have hP : va_P (gg_D G) classes ([(h0, .inr (11, [.ref tp, .ref ra1, .ref ra2, .ref ra3, .ref ra4, .ref ra5, .ref ra6, .ref ra7, .ref ra8, .ref ra9, .ref ra10, .ref ra11, .ref ra12, .int rc, .int fo, .int xx]))] ++ wt) H := hP
            have hD : va_D A ([(h0, .inr (11, [.ref tp, .ref ra1, .ref ra2, .ref ra3, .ref ra4, .ref ra5, .ref ra6, .ref ra7, .ref ra8, .ref ra9, .ref ra10, .ref ra11, .ref ra12, .int rc, .int fo, .int xx]))] ++ wt) := hD
            have hP : va_P (gg_D G) classes ([] ++ ([(h0, .inr (11, [.ref tp, .ref ra1, .ref ra2, .ref ra3, .ref ra4, .ref ra5, .ref ra6, .ref ra7, .ref ra8, .ref ra9, .ref ra10, .ref ra11, .ref ra12, .int rc, .int fo, .int xx]))] ++ wt)) H := hP
            have hD : va_D A ([] ++ ([(h0, .inr (11, [.ref tp, .ref ra1, .ref ra2, .ref ra3, .ref ra4, .ref ra5, .ref ra6, .ref ra7, .ref ra8, .ref ra9, .ref ra10, .ref ra11, .ref ra12, .int rc, .int fo, .int xx]))] ++ wt)) := hD
            refine gt_callI (wr := []) (va_runV (As := [.int b, .int r_16]) (rest := []) ⟨hx, hb, hml, hown, ht⟩ (d_nobody l G Γ H.size wt hT b r_16 tp h0 ra1 ra2 ra3 ra4 ra5 ra6 ra7 ra8 ra9 ra10 ra11 ra12 rc fo xx (by first | assumption | omega) (by first | assumption | omega) (by first | assumption | omega) (by first | assumption | omega) (by first | assumption | omega) (by first | assumption | omega) (by first | assumption | omega) (by first | assumption | omega) (by first | assumption | omega) (by first | assumption | omega) (by first | assumption | omega) (by first | assumption | omega) (by first | assumption | omega)) (cwV 2 ht (ts_gV wd_1141 wd_1143 wd_35 wd_122 wd_1144) rfl rfl rfl (by decide +kernel) ⟨Nat.le_of_ble_eq_true rfl, Nat.le_of_ble_eq_true rfl⟩) (gc_preV (ci := 11) (q0 := 0) hK (tw_right hP) (tw_rightD hD) rfl rfl) rfl rfl hl.1 rfl (lv_room (Nat.le_of_ble_eq_true rfl)) dX11_ring_134 ⟨Nat.le_of_ble_eq_true rfl, Nat.le_of_ble_eq_true rfl⟩) hP hD hS hA (fun r_17 wt H locs hw hP hD hS => ?_)
            obtain ⟨hT, hkp, lo_r_17, hi_r_17⟩ := hw
            have hW := hW.call (show ∀ x ∈ [], x ∈ [0, 1, 2, 709] by decide) hkp
            have hP : va_P (gg_D G) classes ([(h0, .inr (11, [.ref tp, .ref ra1, .ref ra2, .ref ra3, .ref ra4, .ref ra5, .ref ra6, .ref ra7, .ref ra8, .ref ra9, .ref ra10, .ref ra11, .ref ra12, .int rc, .int fo, .int xx]))] ++ wt) H := hP
            have hD : va_D A ([(h0, .inr (11, [.ref tp, .ref ra1, .ref ra2, .ref ra3, .ref ra4, .ref ra5, .ref ra6, .ref ra7, .ref ra8, .ref ra9, .ref ra10, .ref ra11, .ref ra12, .int rc, .int fo, .int xx]))] ++ wt) := hD
            refine lv_if_eq (tgt := 144) hx hb dX11_ring_137 (by decide) (fun c_18 => ?_) (fun c_18 => ?_)
            · rw [← Int32.toInt_inj] at c_18
              refine lv_iconst (v := 0) hx hb dX11_ring_144 (by decide +kernel) ?_
              have hP9 : va_P (gg_D G) classes ([(h0, .inr (11, [.ref tp, .ref ra1, .ref ra2, .ref ra3, .ref ra4, .ref ra5, .ref ra6, .ref ra7, .ref ra8, .ref ra9, .ref ra10, .ref ra11, .ref ra12, .int rc, .int fo, .int xx]))] ++ wt) _ := hP
              have hD9 : va_D A ([(h0, .inr (11, [.ref tp, .ref ra1, .ref ra2, .ref ra3, .ref ra4, .ref ra5, .ref ra6, .ref ra7, .ref ra8, .ref ra9, .ref ra10, .ref ra11, .ref ra12, .int rc, .int fo, .int xx]))] ++ wt) := hD
              exact W.iret (v := 0) hx hb hr (gq_endI wt ⟨hT, hW⟩ hP9 hD9 hS) hS.2.2 dX11_ring_145
            · rw [← Int32.toInt_inj] at c_18
              refine lv_iconst (v := 1) hx hb dX11_ring_140 (by decide +kernel) ?_
              refine lv_goto (tgt := 145) hx hb dX11_ring_141 (by decide) ?_
              have hP9 : va_P (gg_D G) classes ([(h0, .inr (11, [.ref tp, .ref ra1, .ref ra2, .ref ra3, .ref ra4, .ref ra5, .ref ra6, .ref ra7, .ref ra8, .ref ra9, .ref ra10, .ref ra11, .ref ra12, .int rc, .int fo, .int xx]))] ++ wt) _ := hP
              have hD9 : va_D A ([(h0, .inr (11, [.ref tp, .ref ra1, .ref ra2, .ref ra3, .ref ra4, .ref ra5, .ref ra6, .ref ra7, .ref ra8, .ref ra9, .ref ra10, .ref ra11, .ref ra12, .int rc, .int fo, .int xx]))] ++ wt) := hD
              exact W.iret (v := 1) hx hb hr (gq_endI wt ⟨hT, hW⟩ hP9 hD9 hS) hS.2.2 dX11_ring_145
          · rw [← Int32.toInt_inj] at c_13
            refine lv_iload hx hb dX11_ring_110 (lv_at hl 0 rfl) ?_
            refine lv_aload_n hx hb dX11_ring_112 rfl (lv_at hl 2 rfl) ?_
            refine lv_iload_n hx hb dX11_ring_113 rfl (lv_at hl 3 rfl) ?_
            have hP : va_P (gg_D G) classes ([] ++ ([(h0, .inr (11, [.ref tp, .ref ra1, .ref ra2, .ref ra3, .ref ra4, .ref ra5, .ref ra6, .ref ra7, .ref ra8, .ref ra9, .ref ra10, .ref ra11, .ref ra12, .int rc, .int fo, .int xx]))] ++ wt)) H := hP
            have hD : va_D A ([] ++ ([(h0, .inr (11, [.ref tp, .ref ra1, .ref ra2, .ref ra3, .ref ra4, .ref ra5, .ref ra6, .ref ra7, .ref ra8, .ref ra9, .ref ra10, .ref ra11, .ref ra12, .int rc, .int fo, .int xx]))] ++ wt)) := hD
            refine gt_callI (wr := []) (va_runV (As := [.int b]) (rest := [.int r_12]) ⟨hx, hb, hml, hown, ht⟩ (d_gainsOf l G Γ H.size wt hT b tp h0 ra1 ra2 ra3 ra4 ra5 ra6 ra7 ra8 ra9 ra10 ra11 ra12 rc fo xx (by first | assumption | omega) (by first | assumption | omega) (by first | assumption | omega) (by first | assumption | omega) (by first | assumption | omega) (by first | assumption | omega) (by first | assumption | omega) (by first | assumption | omega) (by first | assumption | omega) (by first | assumption | omega) (by first | assumption | omega) (by first | assumption | omega) (by first | assumption | omega)) (cwV 1 ht (ts_gV wd_1134 wd_1136 wd_34 wd_122 wd_1137) rfl rfl rfl (by decide +kernel) ⟨Nat.le_of_ble_eq_true rfl, Nat.le_of_ble_eq_true rfl⟩) (gc_preV (ci := 11) (q0 := 0) hK (tw_right hP) (tw_rightD hD) rfl rfl) rfl rfl hl.1 rfl (lv_room (Nat.le_of_ble_eq_true rfl)) dX11_ring_114 ⟨Nat.le_of_ble_eq_true rfl, Nat.le_of_ble_eq_true rfl⟩) hP hD hS hA (fun r_19 wt H locs hw hP hD hS => ?_)
            obtain ⟨hT, hkp⟩ := hw
            have hW := hW.call (show ∀ x ∈ [], x ∈ [0, 1, 2, 709] by decide) hkp
            have hP : va_P (gg_D G) classes ([(h0, .inr (11, [.ref tp, .ref ra1, .ref ra2, .ref ra3, .ref ra4, .ref ra5, .ref ra6, .ref ra7, .ref ra8, .ref ra9, .ref ra10, .ref ra11, .ref ra12, .int rc, .int fo, .int xx]))] ++ wt) H := hP
            have hD : va_D A ([(h0, .inr (11, [.ref tp, .ref ra1, .ref ra2, .ref ra3, .ref ra4, .ref ra5, .ref ra6, .ref ra7, .ref ra8, .ref ra9, .ref ra10, .ref ra11, .ref ra12, .int rc, .int fo, .int xx]))] ++ wt) := hD
            obtain ⟨t_20, et_20⟩ : ∃ zz_ : Int32, r_12 - r_19 = zz_ := ⟨_, rfl⟩
            refine gq_isub hx hb t_20 et_20 dX11_ring_117 ?_
            have hP9 : va_P (gg_D G) classes ([(h0, .inr (11, [.ref tp, .ref ra1, .ref ra2, .ref ra3, .ref ra4, .ref ra5, .ref ra6, .ref ra7, .ref ra8, .ref ra9, .ref ra10, .ref ra11, .ref ra12, .int rc, .int fo, .int xx]))] ++ wt) _ := hP
            have hD9 : va_D A ([(h0, .inr (11, [.ref tp, .ref ra1, .ref ra2, .ref ra3, .ref ra4, .ref ra5, .ref ra6, .ref ra7, .ref ra8, .ref ra9, .ref ra10, .ref ra11, .ref ra12, .int rc, .int fo, .int xx]))] ++ wt) := hD
            exact W.iret (v := t_20) hx hb hr (gq_endI wt ⟨hT, hW⟩ hP9 hD9 hS) hS.2.2 dX11_ring_118
        · rw [Int32.le_iff_toInt_le] at c_6
          refine lv_sipush (v := (-1000)) hx hb dX11_ring_32 (by decide +kernel) ?_
          have hP9 : va_P (gg_D G) classes ([(h0, .inr (11, [.ref tp, .ref ra1, .ref ra2, .ref ra3, .ref ra4, .ref ra5, .ref ra6, .ref ra7, .ref ra8, .ref ra9, .ref ra10, .ref ra11, .ref ra12, .int rc, .int fo, .int xx]))] ++ wt) _ := hP
          have hD9 : va_D A ([(h0, .inr (11, [.ref tp, .ref ra1, .ref ra2, .ref ra3, .ref ra4, .ref ra5, .ref ra6, .ref ra7, .ref ra8, .ref ra9, .ref ra10, .ref ra11, .ref ra12, .int rc, .int fo, .int xx]))] ++ wt) := hD
          exact W.iret (v := (-1000)) hx hb hr (gq_endI wt ⟨hT, hW⟩ hP9 hD9 hS) hS.2.2 dX11_ring_35
  · rw [Int32.le_iff_toInt_le] at c_2
    refine lv_iconst (v := (-1)) hx hb dX11_ring_8 (by decide +kernel) ?_
    refine lv_goto (tgt := 17) hx hb dX11_ring_9 (by decide) ?_
    refine lv_istore_n (lv' := [(3, .int (-1)), (0, .ref h0), (1, .int b), (2, .int w)]) hx hb dX11_ring_17 rfl hl (by decide) rfl (fun ls hl => ?_)
    refine lv_iload_n hx hb dX11_ring_18 rfl (lv_at hl 0 rfl) ?_
    refine lv_iconst (v := (-1)) hx hb dX11_ring_19 (by decide +kernel) ?_
    refine lv_icmp_eq (tgt := 32) hx hb dX11_ring_20 (by decide) (fun _ => ?_) (fun c0 => False.elim (by rw [← Int32.toInt_inj] at c0; omega))
    refine lv_sipush (v := (-1000)) hx hb dX11_ring_32 (by decide +kernel) ?_
    have hP9 : va_P (gg_D G) classes ([(h0, .inr (11, [.ref tp, .ref ra1, .ref ra2, .ref ra3, .ref ra4, .ref ra5, .ref ra6, .ref ra7, .ref ra8, .ref ra9, .ref ra10, .ref ra11, .ref ra12, .int rc, .int fo, .int xx]))] ++ wt) _ := hP
    have hD9 : va_D A ([(h0, .inr (11, [.ref tp, .ref ra1, .ref ra2, .ref ra3, .ref ra4, .ref ra5, .ref ra6, .ref ra7, .ref ra8, .ref ra9, .ref ra10, .ref ra11, .ref ra12, .int rc, .int fo, .int xx]))] ++ wt) := hD
    exact W.iret (v := (-1000)) hx hb hr (gq_endI wt ⟨hT, hW⟩ hP9 hD9 hS) hS.2.2 dX11_ring_35
set_option maxHeartbeats 4000000 in
set_option maxRecDepth 100000 in
theorem d_breath (l : Launch) (G : gg_T) (Γ : Nat → Nat) (sz : Nat) (wt : va_W) (hT : tk_ty G Γ wt) (b : Int32) (tp : Nat) (h0 : Nat) (ra1 : Nat) (ra2 : Nat) (ra3 : Nat) (ra4 : Nat) (ra5 : Nat) (ra6 : Nat) (ra7 : Nat) (ra8 : Nat) (ra9 : Nat) (ra10 : Nat) (ra11 : Nat) (ra12 : Nat) (rc : Int32) (fo : Int32) (xx : Int32) (kr1 : Γ ra1 = 10) (kr2 : Γ ra2 = 10) (kr3 : Γ ra3 = 8) (kr4 : Γ ra4 = 8) (kr5 : Γ ra5 = 4) (kr6 : Γ ra6 = 3) (kr7 : Γ ra7 = 41) (kr9 : Γ ra9 = 1) (kr10 : Γ ra10 = 6) (kr11 : Γ ra11 = 11) (kr12 : Γ ra12 = 7) (xr1 : 0 ≤ rc.toInt) (xr2 : rc.toInt ≤ 6) : Met l yX11_breath (ts_L yX11_breath cX11_breath 4 (some .int)) ({ frames := 6, cells := 0, slots := 0, locals := 147 }) (gc_P G ([(h0, .inr (11, [.ref tp, .ref ra1, .ref ra2, .ref ra3, .ref ra4, .ref ra5, .ref ra6, .ref ra7, .ref ra8, .ref ra9, .ref ra10, .ref ra11, .ref ra12, .int rc, .int fo, .int xx]))] ++ wt) sz [.ref h0, .int b]) (gc_I G (va_A ([(h0, .inr (11, [.ref tp, .ref ra1, .ref ra2, .ref ra3, .ref ra4, .ref ra5, .ref ra6, .ref ra7, .ref ra8, .ref ra9, .ref ra10, .ref ra11, .ref ra12, .int rc, .int fo, .int xx]))] ++ wt) sz) (fun r (u : va_W) => match u with | wt1 => tk_ty G Γ wt1 ∧ tk_kp [0, 1, 2, 709] wt wt1) (fun (u : va_W) => match u with | wt1 => [(h0, .inr (11, [.ref tp, .ref ra1, .ref ra2, .ref ra3, .ref ra4, .ref ra5, .ref ra6, .ref ra7, .ref ra8, .ref ra9, .ref ra10, .ref ra11, .ref ra12, .int rc, .int fo, .int xx]))] ++ wt1)) 0 0 (va_A ([(h0, .inr (11, [.ref tp, .ref ra1, .ref ra2, .ref ra3, .ref ra4, .ref ra5, .ref ra6, .ref ra7, .ref ra8, .ref ra9, .ref ra10, .ref ra11, .ref ra12, .int rc, .int fo, .int xx]))] ++ wt) sz) := by
  refine Met.ofW (cc := cX11_breath) (maxL := 4) (ret := (some .int)) (by decide) rfl ?_
  intro p e s m args below meth c s₁ B hml hv
  obtain ⟨rfl, hsz, hP, hK, hD0⟩ := hv
  have hx := B.exec
  have hb := B.bytes
  have hr := B.returns
  have ht := ts_ht (atoms_spec (ws := ts_L yX11_breath cX11_breath 4 (some .int)) B.pre)
  have hown : s.vm.findClass RX11 = some m.cls := findClass_of_methodNamed B.named
  have hlocks := B.notSynchronized
  subst hsz
  have hD := hD0.self (sz := s.heap.size)
  generalize hAe : va_A ([(h0, .inr (11, [.ref tp, .ref ra1, .ref ra2, .ref ra3, .ref ra4, .ref ra5, .ref ra6, .ref ra7, .ref ra8, .ref ra9, .ref ra10, .ref ra11, .ref ra12, .int rc, .int fo, .int xx]))] ++ wt) s.heap.size = A at hD ⊢
  have hA : ∀ q : Nat, s.heap.size ≤ q → A q := fun q h => by rw [← hAe]; exact Or.inr h
  clear hAe hD0
  have hS : va_S A s.heap s.heap [] := va_S.rf
  obtain ⟨w0, hw0⟩ : ∃ z, z = wt := ⟨_, rfl⟩
  have hW : tk_kp [0, 1, 2, 709] w0 wt := by rw [hw0]; exact tk_kp.rf
  rw [← hw0]
  clear hw0
  have hP : va_P (gg_D G) classes ([(h0, .inr (11, [.ref tp, .ref ra1, .ref ra2, .ref ra3, .ref ra4, .ref ra5, .ref ra6, .ref ra7, .ref ra8, .ref ra9, .ref ra10, .ref ra11, .ref ra12, .int rc, .int fo, .int xx]))] ++ wt) s.heap := hP
  have hD : va_D A ([(h0, .inr (11, [.ref tp, .ref ra1, .ref ra2, .ref ra3, .ref ra4, .ref ra5, .ref ra6, .ref ra7, .ref ra8, .ref ra9, .ref ra10, .ref ra11, .ref ra12, .int rc, .int fo, .int xx]))] ++ wt) := hD
  have hl := lv_entry ([.ref h0, .int b]) (n := 4) (Nat.le_of_ble_eq_true rfl)
  rw [lg_entry_eq]
  generalize (lg_sl ([.ref h0, .int b]) ++ List.replicate (4 - (lg_sl ([.ref h0, .int b])).length) Slot.unset).toArray = ls at hl ⊢
  have hl : lv_has ls 4 [(0, .ref h0), (1, .int b)] := hl
  have lm2 : ((-2) : Int32).toInt = -2 := by decide +kernel
  have lm1 : ((-1) : Int32).toInt = -1 := by decide +kernel
  have l0 : (0 : Int32).toInt = 0 := by decide +kernel
  have l1 : (1 : Int32).toInt = 1 := by decide +kernel
  have l300 : (300 : Int32).toInt = 300 := by decide +kernel
  refine lv_aload_n hx hb dX11_breath_0 rfl (lv_at hl 0 rfl) ?_
  refine lv_iload_n hx hb dX11_breath_1 rfl (lv_at hl 1 rfl) ?_
  have hP : va_P (gg_D G) classes ([] ++ ([(h0, .inr (11, [.ref tp, .ref ra1, .ref ra2, .ref ra3, .ref ra4, .ref ra5, .ref ra6, .ref ra7, .ref ra8, .ref ra9, .ref ra10, .ref ra11, .ref ra12, .int rc, .int fo, .int xx]))] ++ wt)) s.heap := hP
  have hD : va_D A ([] ++ ([(h0, .inr (11, [.ref tp, .ref ra1, .ref ra2, .ref ra3, .ref ra4, .ref ra5, .ref ra6, .ref ra7, .ref ra8, .ref ra9, .ref ra10, .ref ra11, .ref ra12, .int rc, .int fo, .int xx]))] ++ wt)) := hD
  refine gt_callI (wr := []) (va_runV (As := [.int b]) (rest := []) ⟨hx, hb, hml, hown, ht⟩ (d_roomOf l G Γ s.heap.size wt hT b tp h0 ra1 ra2 ra3 ra4 ra5 ra6 ra7 ra8 ra9 ra10 ra11 ra12 rc fo xx (by first | assumption | omega) (by first | assumption | omega) (by first | assumption | omega) (by first | assumption | omega) (by first | assumption | omega) (by first | assumption | omega) (by first | assumption | omega) (by first | assumption | omega) (by first | assumption | omega) (by first | assumption | omega) (by first | assumption | omega) (by first | assumption | omega) (by first | assumption | omega)) (cwV 1 ht (ts_gV wd_1011 wd_1013 wd_23 wd_122 wd_1014) rfl rfl rfl (by decide +kernel) ⟨Nat.le_of_ble_eq_true rfl, Nat.le_of_ble_eq_true rfl⟩) (gc_preV (ci := 11) (q0 := 0) hK (tw_right hP) (tw_rightD hD) rfl rfl) rfl rfl hl.1 rfl (lv_room (Nat.le_of_ble_eq_true rfl)) dX11_breath_2 ⟨Nat.le_of_ble_eq_true rfl, Nat.le_of_ble_eq_true rfl⟩) hP hD hS hA (fun r_1 wt H locs hw hP hD hS => ?_)
  obtain ⟨hT, hkp, lo_r_1, hi_r_1, rp_r_1⟩ := hw
  have hW := hW.call (show ∀ x ∈ [], x ∈ [0, 1, 2, 709] by decide) hkp
  have hP : va_P (gg_D G) classes ([(h0, .inr (11, [.ref tp, .ref ra1, .ref ra2, .ref ra3, .ref ra4, .ref ra5, .ref ra6, .ref ra7, .ref ra8, .ref ra9, .ref ra10, .ref ra11, .ref ra12, .int rc, .int fo, .int xx]))] ++ wt) H := hP
  have hD : va_D A ([(h0, .inr (11, [.ref tp, .ref ra1, .ref ra2, .ref ra3, .ref ra4, .ref ra5, .ref ra6, .ref ra7, .ref ra8, .ref ra9, .ref ra10, .ref ra11, .ref ra12, .int rc, .int fo, .int xx]))] ++ wt) := hD
  refine lv_istore_n (lv' := [(2, .int r_1), (0, .ref h0), (1, .int b)]) hx hb dX11_breath_5 rfl hl (by decide) rfl (fun ls hl => ?_)
  refine lv_iload_n hx hb dX11_breath_6 rfl (lv_at hl 0 rfl) ?_
  refine lv_iconst (v := (-1)) hx hb dX11_breath_7 (by decide +kernel) ?_
  refine lv_icmp_ne (tgt := 13) hx hb dX11_breath_8 (by decide) (fun c_2 => ?_) (fun c_2 => ?_)
  · rw [← Int32.toInt_inj] at c_2
    refine lv_aload_n hx hb dX11_breath_13 rfl (lv_at hl 1 rfl) ?_
    have hP : va_P (gg_D G) classes ([] ++ ([(h0, .inr (11, [.ref tp, .ref ra1, .ref ra2, .ref ra3, .ref ra4, .ref ra5, .ref ra6, .ref ra7, .ref ra8, .ref ra9, .ref ra10, .ref ra11, .ref ra12, .int rc, .int fo, .int xx]))] ++ wt)) H := hP
    have hD : va_D A ([] ++ ([(h0, .inr (11, [.ref tp, .ref ra1, .ref ra2, .ref ra3, .ref ra4, .ref ra5, .ref ra6, .ref ra7, .ref ra8, .ref ra9, .ref ra10, .ref ra11, .ref ra12, .int rc, .int fo, .int xx]))] ++ wt)) := hD
    refine gt_callV (wr := []) (va_runV (As := []) (rest := []) ⟨hx, hb, hml, hown, ht⟩ (d_callClerk l G Γ H.size wt hT tp h0 ra1 ra2 ra3 ra4 ra5 ra6 ra7 ra8 ra9 ra10 ra11 ra12 rc fo xx (by first | assumption | omega) (by first | assumption | omega) (by first | assumption | omega) (by first | assumption | omega) (by first | assumption | omega) (by first | assumption | omega) (by first | assumption | omega) (by first | assumption | omega) (by first | assumption | omega) (by first | assumption | omega) (by first | assumption | omega) (by first | assumption | omega) (by first | assumption | omega)) (cwV 0 ht (ts_gV wd_868 wd_870 wd_17 wd_122 wd_871) rfl rfl rfl (by decide +kernel) ⟨Nat.le_of_ble_eq_true rfl, Nat.le_of_ble_eq_true rfl⟩) (gc_preV (ci := 11) (q0 := 0) hK (tw_right hP) (tw_rightD hD) rfl rfl) rfl rfl hl.1 rfl (lv_room (Nat.le_of_ble_eq_true rfl)) dX11_breath_14 ⟨Nat.le_of_ble_eq_true rfl, Nat.le_of_ble_eq_true rfl⟩) hP hD hS hA (fun wt H locs hw hP hD hS => ?_)
    obtain ⟨hT, hkp⟩ := hw
    have hW := hW.call (show ∀ x ∈ [0, 1, 2], x ∈ [0, 1, 2, 709] by decide) hkp
    have hP : va_P (gg_D G) classes ([(h0, .inr (11, [.ref tp, .ref ra1, .ref ra2, .ref ra3, .ref ra4, .ref ra5, .ref ra6, .ref ra7, .ref ra8, .ref ra9, .ref ra10, .ref ra11, .ref ra12, .int rc, .int fo, .int xx]))] ++ wt) H := hP
    have hD : va_D A ([(h0, .inr (11, [.ref tp, .ref ra1, .ref ra2, .ref ra3, .ref ra4, .ref ra5, .ref ra6, .ref ra7, .ref ra8, .ref ra9, .ref ra10, .ref ra11, .ref ra12, .int rc, .int fo, .int xx]))] ++ wt) := hD
    refine lv_iconst (v := 1) hx hb dX11_breath_17 (by decide +kernel) ?_
    refine lv_istore_n (lv' := [(3, .int 1), (2, .int r_1), (0, .ref h0), (1, .int b)]) hx hb dX11_breath_18 rfl hl (by decide) rfl (fun ls hl => ?_)
    refine tl_loopE (Γ := Γ) (nL := 4) (fun (zz_ : Int32) => match zz_ with | x19_0 => 1 ≤ x19_0.toInt ∧ x19_0.toInt ≤ 301) (fun (zz_ : Int32) => match zz_ with | x19_0 => (301 - x19_0.toInt).toNat) (fun (zz_ : Int32) => match zz_ with | x19_0 => [(3, .int x19_0), (2, .int r_1), (0, .ref h0), (1, .int b)]) (fun (zz_ : Int32) => match zz_ with | x19_0 => [(h0, .inr (11, [.ref tp, .ref ra1, .ref ra2, .ref ra3, .ref ra4, .ref ra5, .ref ra6, .ref ra7, .ref ra8, .ref ra9, .ref ra10, .ref ra11, .ref ra12, .int rc, .int fo, .int xx]))]) (fun (zz_ : Int32) (w : va_W) => match zz_ with | x19_0 => tk_kp [0, 1, 2, 709] w0 w) (fun zz_ hI H locs wt ls hT hW hP hD hS hl ih19 => ?_) 1 (show 1 ≤ (1 : Int32).toInt ∧ (1 : Int32).toInt ≤ 301 from ⟨by omega, by omega⟩) _ _ wt ls hT hW hP hD hS hl
    obtain ⟨x19_0, rfl⟩ : ∃ z2, z2 = zz_ := ⟨_, rfl⟩
    have hW : tk_kp [0, 1, 2, 709] w0 wt := hW
    have hI : 1 ≤ x19_0.toInt ∧ x19_0.toInt ≤ 301 := hI
    obtain ⟨j19_0, j19_1⟩ := hI
    have hl : lv_has ls 4 [(3, .int x19_0), (2, .int r_1), (0, .ref h0), (1, .int b)] := hl
    have hP : va_P (gg_D G) classes ([(h0, .inr (11, [.ref tp, .ref ra1, .ref ra2, .ref ra3, .ref ra4, .ref ra5, .ref ra6, .ref ra7, .ref ra8, .ref ra9, .ref ra10, .ref ra11, .ref ra12, .int rc, .int fo, .int xx]))] ++ wt) H := hP
    have hD : va_D A ([(h0, .inr (11, [.ref tp, .ref ra1, .ref ra2, .ref ra3, .ref ra4, .ref ra5, .ref ra6, .ref ra7, .ref ra8, .ref ra9, .ref ra10, .ref ra11, .ref ra12, .int rc, .int fo, .int xx]))] ++ wt) := hD
    refine lv_iload_n hx hb dX11_breath_19 rfl (lv_at hl 0 rfl) ?_
    refine lv_sipush (v := 300) hx hb dX11_breath_20 (by decide +kernel) ?_
    refine lv_icmp_gt (tgt := 71) hx hb dX11_breath_23 (by decide) (fun c_3 => ?_) (fun c_3 => ?_)
    · rw [Int32.lt_iff_toInt_lt] at c_3
      refine lv_bipush (v := (-2)) hx hb dX11_breath_71 (by decide +kernel) ?_
      have hP9 : va_P (gg_D G) classes ([(h0, .inr (11, [.ref tp, .ref ra1, .ref ra2, .ref ra3, .ref ra4, .ref ra5, .ref ra6, .ref ra7, .ref ra8, .ref ra9, .ref ra10, .ref ra11, .ref ra12, .int rc, .int fo, .int xx]))] ++ wt) _ := hP
      have hD9 : va_D A ([(h0, .inr (11, [.ref tp, .ref ra1, .ref ra2, .ref ra3, .ref ra4, .ref ra5, .ref ra6, .ref ra7, .ref ra8, .ref ra9, .ref ra10, .ref ra11, .ref ra12, .int rc, .int fo, .int xx]))] ++ wt) := hD
      exact W.iret (v := (-2)) hx hb hr (gq_endI wt ⟨hT, hW⟩ hP9 hD9 hS) hS.2.2 dX11_breath_73
    · rw [Int32.lt_iff_toInt_lt] at c_3
      refine lv_aload_n hx hb dX11_breath_26 rfl (lv_at hl 2 rfl) ?_
      refine gq_get hx hb ht hown hK hP i_X11 0 rfl rfl 4 (by decide) wd_501 rfl rfl dX11_breath_27 ?_
      refine lv_aload_n hx hb dX11_breath_30 rfl (lv_at hl 2 rfl) ?_
      refine gq_get hx hb ht hown hK hP i_X11 0 rfl rfl 3 (by decide) wd_500 rfl rfl dX11_breath_31 ?_
      refine gt_callV (wr := [(h0, .inr (11, [.ref tp, .ref ra1, .ref ra2, .ref ra3, .ref ra4, .ref ra5, .ref ra6, .ref ra7, .ref ra8, .ref ra9, .ref ra10, .ref ra11, .ref ra12, .int rc, .int fo, .int xx]))]) (va_runV (As := [.ref ra3]) (rest := []) ⟨hx, hb, hml, hown, ht⟩ (d_S_copyFrom l G Γ H.size wt hT ra4 ra3 kr4 kr3) (cwV 1 ht (ts_gV wd_992 wd_863 wd_864 wd_125 wd_865) rfl rfl rfl (by decide +kernel) ⟨Nat.le_of_ble_eq_true rfl, Nat.le_of_ble_eq_true rfl⟩) (gt_preW (ci := 7) hK hT (tw_right hP) (tw_rightD hD) kr4 (by decide) rfl) rfl rfl hl.1 rfl (lv_room (Nat.le_of_ble_eq_true rfl)) dX11_breath_34 ⟨Nat.le_of_ble_eq_true rfl, Nat.le_of_ble_eq_true rfl⟩) hP hD hS hA (fun wt H locs hw hP hD hS => ?_)
      obtain ⟨hT, hkp⟩ := hw
      have hW := hW.call (show ∀ x ∈ [709], x ∈ [0, 1, 2, 709] by decide) hkp
      have hP : va_P (gg_D G) classes ([(h0, .inr (11, [.ref tp, .ref ra1, .ref ra2, .ref ra3, .ref ra4, .ref ra5, .ref ra6, .ref ra7, .ref ra8, .ref ra9, .ref ra10, .ref ra11, .ref ra12, .int rc, .int fo, .int xx]))] ++ wt) H := hP
      have hD : va_D A ([(h0, .inr (11, [.ref tp, .ref ra1, .ref ra2, .ref ra3, .ref ra4, .ref ra5, .ref ra6, .ref ra7, .ref ra8, .ref ra9, .ref ra10, .ref ra11, .ref ra12, .int rc, .int fo, .int xx]))] ++ wt) := hD
      refine lv_aload_n hx hb dX11_breath_37 rfl (lv_at hl 2 rfl) ?_
      refine gq_get hx hb ht hown hK hP i_X11 0 rfl rfl 4 (by decide) wd_501 rfl rfl dX11_breath_38 ?_
      refine tr_get (ci := 7) hx hb ht hown hK hT hP kr4 (by decide) i_X7 rfl 1 (by decide) wd_236 rfl dX11_breath_41 (fun v hv hf_4 => ?_)
      obtain ⟨q_5, rfl, hq_5⟩ := hv
      refine lv_iload_n hx hb dX11_breath_44 rfl (lv_at hl 3 rfl) ?_
      refine lv_iload_n hx hb dX11_breath_45 rfl (lv_at hl 0 rfl) ?_
      refine tr_iast hx hb hK hT hP hD hS 20 hq_5 (by decide) (by decide) (show vp_in _ (tk_len 20) from ia_in (n := 5) (by omega) (by omega)) (show tk_e 20 _ from trivial) dX11_breath_46 (fun H locs wt hT hfl hP hD hS => ?_)
      have hW := hW.arr hfl
      refine lv_aload_n hx hb dX11_breath_47 rfl (lv_at hl 2 rfl) ?_
      refine gq_get hx hb ht hown hK hP i_X11 0 rfl rfl 9 (by decide) wd_506 rfl rfl dX11_breath_48 ?_
      refine lv_aload_n hx hb dX11_breath_51 rfl (lv_at hl 2 rfl) ?_
      refine gq_get hx hb ht hown hK hP i_X11 0 rfl rfl 4 (by decide) wd_501 rfl rfl dX11_breath_52 ?_
      refine lv_iload_n hx hb dX11_breath_55 rfl (lv_at hl 1 rfl) ?_
      refine lv_iload_n hx hb dX11_breath_56 rfl (lv_at hl 3 rfl) ?_
      refine gt_callI (wr := [(h0, .inr (11, [.ref tp, .ref ra1, .ref ra2, .ref ra3, .ref ra4, .ref ra5, .ref ra6, .ref ra7, .ref ra8, .ref ra9, .ref ra10, .ref ra11, .ref ra12, .int rc, .int fo, .int xx]))]) (va_runV (As := [.ref ra4, .int r_1, .int b]) (rest := []) ⟨hx, hb, hml, hown, ht⟩ (d_passTillDecided l G Γ H.size wt hT ra9 ra4 r_1 b kr9 kr4 (by omega) (by omega)) (cwV 3 ht (ts_gV wd_1149 wd_1120 wd_1121 wd_130 wd_1122) rfl rfl rfl (by decide +kernel) ⟨Nat.le_of_ble_eq_true rfl, Nat.le_of_ble_eq_true rfl⟩) (gt_preW (ci := 0) hK hT (tw_right hP) (tw_rightD hD) kr9 (by decide) rfl) rfl rfl hl.1 rfl (lv_room (Nat.le_of_ble_eq_true rfl)) dX11_breath_57 ⟨Nat.le_of_ble_eq_true rfl, Nat.le_of_ble_eq_true rfl⟩) hP hD hS hA (fun r_6 wt H locs hw hP hD hS => ?_)
      obtain ⟨hT, hkp, lo_r_6, hi_r_6⟩ := hw
      have hW := hW.call (show ∀ x ∈ [709], x ∈ [0, 1, 2, 709] by decide) hkp
      have hP : va_P (gg_D G) classes ([(h0, .inr (11, [.ref tp, .ref ra1, .ref ra2, .ref ra3, .ref ra4, .ref ra5, .ref ra6, .ref ra7, .ref ra8, .ref ra9, .ref ra10, .ref ra11, .ref ra12, .int rc, .int fo, .int xx]))] ++ wt) H := hP
      have hD : va_D A ([(h0, .inr (11, [.ref tp, .ref ra1, .ref ra2, .ref ra3, .ref ra4, .ref ra5, .ref ra6, .ref ra7, .ref ra8, .ref ra9, .ref ra10, .ref ra11, .ref ra12, .int rc, .int fo, .int xx]))] ++ wt) := hD
      refine lv_if_eq (tgt := 65) hx hb dX11_breath_60 (by decide) (fun c_7 => ?_) (fun c_7 => ?_)
      · rw [← Int32.toInt_inj] at c_7
        obtain ⟨t_8, et_8⟩ : ∃ zz_ : Int32, x19_0 + Int32.ofInt (1) = zz_ := ⟨_, rfl⟩
        have ft_8 : t_8.toInt = x19_0.toInt + (1 : Int32).toInt := ia_add (y := 1) et_8 (by omega) (by omega)
        refine lv_iinc (v := t_8) (lv' := [(3, .int t_8), (2, .int r_1), (0, .ref h0), (1, .int b)]) hx hb dX11_breath_65 hl (k := 0) rfl et_8 (by decide) rfl (fun ls hl => ?_)
        refine lv_goto (tgt := 19) hx hb dX11_breath_68 (by decide) ?_
        exact ih19 t_8 (show 1 ≤ t_8.toInt ∧ t_8.toInt ≤ 301 from ⟨by omega, by omega⟩) (show (301 - t_8.toInt).toNat < (301 - x19_0.toInt).toNat by omega) H locs wt ls hT hW hP hD hS (lv_sub hl [0, 1, 2, 3] rfl)
      · rw [← Int32.toInt_inj] at c_7
        refine lv_iload_n hx hb dX11_breath_63 rfl (lv_at hl 0 rfl) ?_
        have hP9 : va_P (gg_D G) classes ([(h0, .inr (11, [.ref tp, .ref ra1, .ref ra2, .ref ra3, .ref ra4, .ref ra5, .ref ra6, .ref ra7, .ref ra8, .ref ra9, .ref ra10, .ref ra11, .ref ra12, .int rc, .int fo, .int xx]))] ++ wt) _ := hP
        have hD9 : va_D A ([(h0, .inr (11, [.ref tp, .ref ra1, .ref ra2, .ref ra3, .ref ra4, .ref ra5, .ref ra6, .ref ra7, .ref ra8, .ref ra9, .ref ra10, .ref ra11, .ref ra12, .int rc, .int fo, .int xx]))] ++ wt) := hD
        exact W.iret (v := x19_0) hx hb hr (gq_endI wt ⟨hT, hW⟩ hP9 hD9 hS) hS.2.2 dX11_breath_64
  · rw [← Int32.toInt_inj] at c_2
    refine lv_iconst (v := (-1)) hx hb dX11_breath_11 (by decide +kernel) ?_
    have hP9 : va_P (gg_D G) classes ([(h0, .inr (11, [.ref tp, .ref ra1, .ref ra2, .ref ra3, .ref ra4, .ref ra5, .ref ra6, .ref ra7, .ref ra8, .ref ra9, .ref ra10, .ref ra11, .ref ra12, .int rc, .int fo, .int xx]))] ++ wt) _ := hP
    have hD9 : va_D A ([(h0, .inr (11, [.ref tp, .ref ra1, .ref ra2, .ref ra3, .ref ra4, .ref ra5, .ref ra6, .ref ra7, .ref ra8, .ref ra9, .ref ra10, .ref ra11, .ref ra12, .int rc, .int fo, .int xx]))] ++ wt) := hD
    exact W.iret (v := (-1)) hx hb hr (gq_endI wt ⟨hT, hW⟩ hP9 hD9 hS) hS.2.2 dX11_breath_12
set_option maxHeartbeats 4000000 in
set_option maxRecDepth 100000 in
theorem d_coughs (l : Launch) (G : gg_T) (Γ : Nat → Nat) (sz : Nat) (wt : va_W) (hT : tk_ty G Γ wt) (b : Int32) (w : Int32) (z : Int32) (y : Int32) (tp : Nat) (h0 : Nat) (ra1 : Nat) (ra2 : Nat) (ra3 : Nat) (ra4 : Nat) (ra5 : Nat) (ra6 : Nat) (ra7 : Nat) (ra8 : Nat) (ra9 : Nat) (ra10 : Nat) (ra11 : Nat) (ra12 : Nat) (rc : Int32) (fo : Int32) (xx : Int32) (kr1 : Γ ra1 = 10) (kr2 : Γ ra2 = 10) (kr3 : Γ ra3 = 8) (kr4 : Γ ra4 = 8) (kr5 : Γ ra5 = 4) (kr6 : Γ ra6 = 3) (kr7 : Γ ra7 = 41) (kr9 : Γ ra9 = 1) (kr10 : Γ ra10 = 6) (kr11 : Γ ra11 = 11) (kr12 : Γ ra12 = 7) (xr1 : 0 ≤ rc.toInt) (xr2 : rc.toInt ≤ 6) : Met l yX11_coughs (ts_L yX11_coughs cX11_coughs 8 (some .int)) ({ frames := 5, cells := 0, slots := 0, locals := 123 }) (gc_P G ([(h0, .inr (11, [.ref tp, .ref ra1, .ref ra2, .ref ra3, .ref ra4, .ref ra5, .ref ra6, .ref ra7, .ref ra8, .ref ra9, .ref ra10, .ref ra11, .ref ra12, .int rc, .int fo, .int xx]))] ++ wt) sz [.ref h0, .int b, .int w, .int z, .int y]) (gc_I G (va_A ([(h0, .inr (11, [.ref tp, .ref ra1, .ref ra2, .ref ra3, .ref ra4, .ref ra5, .ref ra6, .ref ra7, .ref ra8, .ref ra9, .ref ra10, .ref ra11, .ref ra12, .int rc, .int fo, .int xx]))] ++ wt) sz) (fun r (u : va_W) => match u with | wt1 => tk_ty G Γ wt1 ∧ tk_kp [0, 1, 2, 3, 709] wt wt1) (fun (u : va_W) => match u with | wt1 => [(h0, .inr (11, [.ref tp, .ref ra1, .ref ra2, .ref ra3, .ref ra4, .ref ra5, .ref ra6, .ref ra7, .ref ra8, .ref ra9, .ref ra10, .ref ra11, .ref ra12, .int rc, .int fo, .int xx]))] ++ wt1)) 0 0 (va_A ([(h0, .inr (11, [.ref tp, .ref ra1, .ref ra2, .ref ra3, .ref ra4, .ref ra5, .ref ra6, .ref ra7, .ref ra8, .ref ra9, .ref ra10, .ref ra11, .ref ra12, .int rc, .int fo, .int xx]))] ++ wt) sz) := by
  refine Met.ofW (cc := cX11_coughs) (maxL := 8) (ret := (some .int)) (by decide) rfl ?_
  intro p e s m args below meth c s₁ B hml hv
  obtain ⟨rfl, hsz, hP, hK, hD0⟩ := hv
  have hx := B.exec
  have hb := B.bytes
  have hr := B.returns
  have ht := ts_ht (atoms_spec (ws := ts_L yX11_coughs cX11_coughs 8 (some .int)) B.pre)
  have hown : s.vm.findClass RX11 = some m.cls := findClass_of_methodNamed B.named
  have hlocks := B.notSynchronized
  subst hsz
  have hD := hD0.self (sz := s.heap.size)
  generalize hAe : va_A ([(h0, .inr (11, [.ref tp, .ref ra1, .ref ra2, .ref ra3, .ref ra4, .ref ra5, .ref ra6, .ref ra7, .ref ra8, .ref ra9, .ref ra10, .ref ra11, .ref ra12, .int rc, .int fo, .int xx]))] ++ wt) s.heap.size = A at hD ⊢
  have hA : ∀ q : Nat, s.heap.size ≤ q → A q := fun q h => by rw [← hAe]; exact Or.inr h
  clear hAe hD0
  have hS : va_S A s.heap s.heap [] := va_S.rf
  obtain ⟨w0, hw0⟩ : ∃ z, z = wt := ⟨_, rfl⟩
  have hW : tk_kp [0, 1, 2, 3, 709] w0 wt := by rw [hw0]; exact tk_kp.rf
  rw [← hw0]
  clear hw0
  have hP : va_P (gg_D G) classes ([(h0, .inr (11, [.ref tp, .ref ra1, .ref ra2, .ref ra3, .ref ra4, .ref ra5, .ref ra6, .ref ra7, .ref ra8, .ref ra9, .ref ra10, .ref ra11, .ref ra12, .int rc, .int fo, .int xx]))] ++ wt) s.heap := hP
  have hD : va_D A ([(h0, .inr (11, [.ref tp, .ref ra1, .ref ra2, .ref ra3, .ref ra4, .ref ra5, .ref ra6, .ref ra7, .ref ra8, .ref ra9, .ref ra10, .ref ra11, .ref ra12, .int rc, .int fo, .int xx]))] ++ wt) := hD
  have hl := lv_entry ([.ref h0, .int b, .int w, .int z, .int y]) (n := 8) (Nat.le_of_ble_eq_true rfl)
  rw [lg_entry_eq]
  generalize (lg_sl ([.ref h0, .int b, .int w, .int z, .int y]) ++ List.replicate (8 - (lg_sl ([.ref h0, .int b, .int w, .int z, .int y])).length) Slot.unset).toArray = ls at hl ⊢
  have hl : lv_has ls 8 [(0, .ref h0), (1, .int b), (2, .int w), (3, .int z), (4, .int y)] := hl
  have lm1 : ((-1) : Int32).toInt = -1 := by decide +kernel
  have l0 : (0 : Int32).toInt = 0 := by decide +kernel
  have l1 : (1 : Int32).toInt = 1 := by decide +kernel
  have l10 : (10 : Int32).toInt = 10 := by decide +kernel
  have l60 : (60 : Int32).toInt = 60 := by decide +kernel
  have l100 : (100 : Int32).toInt = 100 := by decide +kernel
  refine lv_aload_n hx hb dX11_coughs_0 rfl (lv_at hl 0 rfl) ?_
  have hP : va_P (gg_D G) classes ([] ++ ([(h0, .inr (11, [.ref tp, .ref ra1, .ref ra2, .ref ra3, .ref ra4, .ref ra5, .ref ra6, .ref ra7, .ref ra8, .ref ra9, .ref ra10, .ref ra11, .ref ra12, .int rc, .int fo, .int xx]))] ++ wt)) s.heap := hP
  have hD : va_D A ([] ++ ([(h0, .inr (11, [.ref tp, .ref ra1, .ref ra2, .ref ra3, .ref ra4, .ref ra5, .ref ra6, .ref ra7, .ref ra8, .ref ra9, .ref ra10, .ref ra11, .ref ra12, .int rc, .int fo, .int xx]))] ++ wt)) := hD
  refine gt_callI (wr := []) (va_runV (As := []) (rest := []) ⟨hx, hb, hml, hown, ht⟩ (d_isTold l G Γ s.heap.size wt hT tp h0 ra1 ra2 ra3 ra4 ra5 ra6 ra7 ra8 ra9 ra10 ra11 ra12 rc fo xx (by first | assumption | omega) (by first | assumption | omega) (by first | assumption | omega) (by first | assumption | omega) (by first | assumption | omega) (by first | assumption | omega) (by first | assumption | omega) (by first | assumption | omega) (by first | assumption | omega) (by first | assumption | omega) (by first | assumption | omega) (by first | assumption | omega) (by first | assumption | omega)) (cwV 0 ht (ts_gV wd_984 wd_986 wd_21 wd_122 wd_987) rfl rfl rfl (by decide +kernel) ⟨Nat.le_of_ble_eq_true rfl, Nat.le_of_ble_eq_true rfl⟩) (gc_preV (ci := 11) (q0 := 0) hK (tw_right hP) (tw_rightD hD) rfl rfl) rfl rfl hl.1 rfl (lv_room (Nat.le_of_ble_eq_true rfl)) dX11_coughs_1 ⟨Nat.le_of_ble_eq_true rfl, Nat.le_of_ble_eq_true rfl⟩) hP hD hS hA (fun r_1 wt H locs hw hP hD hS => ?_)
  obtain ⟨hT, hkp, lo_r_1, hi_r_1⟩ := hw
  have hW := hW.call (show ∀ x ∈ [], x ∈ [0, 1, 2, 3, 709] by decide) hkp
  have hP : va_P (gg_D G) classes ([(h0, .inr (11, [.ref tp, .ref ra1, .ref ra2, .ref ra3, .ref ra4, .ref ra5, .ref ra6, .ref ra7, .ref ra8, .ref ra9, .ref ra10, .ref ra11, .ref ra12, .int rc, .int fo, .int xx]))] ++ wt) H := hP
  have hD : va_D A ([(h0, .inr (11, [.ref tp, .ref ra1, .ref ra2, .ref ra3, .ref ra4, .ref ra5, .ref ra6, .ref ra7, .ref ra8, .ref ra9, .ref ra10, .ref ra11, .ref ra12, .int rc, .int fo, .int xx]))] ++ wt) := hD
  refine lv_if_eq (tgt := 29) hx hb dX11_coughs_4 (by decide) (fun c_2 => ?_) (fun c_2 => ?_)
  · rw [← Int32.toInt_inj] at c_2
    refine lv_iconst (v := (-1)) hx hb dX11_coughs_29 (by decide +kernel) ?_
    have hP9 : va_P (gg_D G) classes ([(h0, .inr (11, [.ref tp, .ref ra1, .ref ra2, .ref ra3, .ref ra4, .ref ra5, .ref ra6, .ref ra7, .ref ra8, .ref ra9, .ref ra10, .ref ra11, .ref ra12, .int rc, .int fo, .int xx]))] ++ wt) _ := hP
    have hD9 : va_D A ([(h0, .inr (11, [.ref tp, .ref ra1, .ref ra2, .ref ra3, .ref ra4, .ref ra5, .ref ra6, .ref ra7, .ref ra8, .ref ra9, .ref ra10, .ref ra11, .ref ra12, .int rc, .int fo, .int xx]))] ++ wt) := hD
    exact W.iret (v := (-1)) hx hb hr (gq_endI wt ⟨hT, hW⟩ hP9 hD9 hS) hS.2.2 dX11_coughs_30
  · rw [← Int32.toInt_inj] at c_2
    refine lv_iload_n hx hb dX11_coughs_7 rfl (lv_at hl 1 rfl) ?_
    refine lv_iconst (v := 1) hx hb dX11_coughs_8 (by decide +kernel) ?_
    refine lv_icmp_lt (tgt := 29) hx hb dX11_coughs_9 (by decide) (fun c_3 => ?_) (fun c_3 => ?_)
    · rw [Int32.lt_iff_toInt_lt] at c_3
      refine lv_iconst (v := (-1)) hx hb dX11_coughs_29 (by decide +kernel) ?_
      have hP9 : va_P (gg_D G) classes ([(h0, .inr (11, [.ref tp, .ref ra1, .ref ra2, .ref ra3, .ref ra4, .ref ra5, .ref ra6, .ref ra7, .ref ra8, .ref ra9, .ref ra10, .ref ra11, .ref ra12, .int rc, .int fo, .int xx]))] ++ wt) _ := hP
      have hD9 : va_D A ([(h0, .inr (11, [.ref tp, .ref ra1, .ref ra2, .ref ra3, .ref ra4, .ref ra5, .ref ra6, .ref ra7, .ref ra8, .ref ra9, .ref ra10, .ref ra11, .ref ra12, .int rc, .int fo, .int xx]))] ++ wt) := hD
      exact W.iret (v := (-1)) hx hb hr (gq_endI wt ⟨hT, hW⟩ hP9 hD9 hS) hS.2.2 dX11_coughs_30
    · rw [Int32.lt_iff_toInt_lt] at c_3
      refine lv_iload_n hx hb dX11_coughs_12 rfl (lv_at hl 1 rfl) ?_
      refine lv_bipush (v := 10) hx hb dX11_coughs_13 (by decide +kernel) ?_
      refine lv_icmp_gt (tgt := 29) hx hb dX11_coughs_15 (by decide) (fun c_4 => ?_) (fun c_4 => ?_)
      · rw [Int32.lt_iff_toInt_lt] at c_4
        refine lv_iconst (v := (-1)) hx hb dX11_coughs_29 (by decide +kernel) ?_
        have hP9 : va_P (gg_D G) classes ([(h0, .inr (11, [.ref tp, .ref ra1, .ref ra2, .ref ra3, .ref ra4, .ref ra5, .ref ra6, .ref ra7, .ref ra8, .ref ra9, .ref ra10, .ref ra11, .ref ra12, .int rc, .int fo, .int xx]))] ++ wt) _ := hP
        have hD9 : va_D A ([(h0, .inr (11, [.ref tp, .ref ra1, .ref ra2, .ref ra3, .ref ra4, .ref ra5, .ref ra6, .ref ra7, .ref ra8, .ref ra9, .ref ra10, .ref ra11, .ref ra12, .int rc, .int fo, .int xx]))] ++ wt) := hD
        exact W.iret (v := (-1)) hx hb hr (gq_endI wt ⟨hT, hW⟩ hP9 hD9 hS) hS.2.2 dX11_coughs_30
      · rw [Int32.lt_iff_toInt_lt] at c_4
        refine lv_iload_n hx hb dX11_coughs_18 rfl (lv_at hl 2 rfl) ?_
        refine lv_iconst (v := 1) hx hb dX11_coughs_19 (by decide +kernel) ?_
        refine lv_icmp_lt (tgt := 29) hx hb dX11_coughs_20 (by decide) (fun c_5 => ?_) (fun c_5 => ?_)
        · rw [Int32.lt_iff_toInt_lt] at c_5
          refine lv_iconst (v := (-1)) hx hb dX11_coughs_29 (by decide +kernel) ?_
          have hP9 : va_P (gg_D G) classes ([(h0, .inr (11, [.ref tp, .ref ra1, .ref ra2, .ref ra3, .ref ra4, .ref ra5, .ref ra6, .ref ra7, .ref ra8, .ref ra9, .ref ra10, .ref ra11, .ref ra12, .int rc, .int fo, .int xx]))] ++ wt) _ := hP
          have hD9 : va_D A ([(h0, .inr (11, [.ref tp, .ref ra1, .ref ra2, .ref ra3, .ref ra4, .ref ra5, .ref ra6, .ref ra7, .ref ra8, .ref ra9, .ref ra10, .ref ra11, .ref ra12, .int rc, .int fo, .int xx]))] ++ wt) := hD
          exact W.iret (v := (-1)) hx hb hr (gq_endI wt ⟨hT, hW⟩ hP9 hD9 hS) hS.2.2 dX11_coughs_30
        · rw [Int32.lt_iff_toInt_lt] at c_5
          refine lv_iload_n hx hb dX11_coughs_23 rfl (lv_at hl 2 rfl) ?_
          refine lv_bipush (v := 60) hx hb dX11_coughs_24 (by decide +kernel) ?_
          refine lv_icmp_le (tgt := 31) hx hb dX11_coughs_26 (by decide) (fun c_6 => ?_) (fun c_6 => ?_)
          · rw [Int32.le_iff_toInt_le] at c_6
            refine lv_iload_n hx hb dX11_coughs_31 rfl (lv_at hl 3 rfl) ?_
            refine lv_if_lt (tgt := 52) hx hb dX11_coughs_32 (by decide) (fun c_7 => ?_) (fun c_7 => ?_)
            · rw [Int32.lt_iff_toInt_lt] at c_7
              refine lv_iconst (v := (-1)) hx hb dX11_coughs_52 (by decide +kernel) ?_
              have hP9 : va_P (gg_D G) classes ([(h0, .inr (11, [.ref tp, .ref ra1, .ref ra2, .ref ra3, .ref ra4, .ref ra5, .ref ra6, .ref ra7, .ref ra8, .ref ra9, .ref ra10, .ref ra11, .ref ra12, .int rc, .int fo, .int xx]))] ++ wt) _ := hP
              have hD9 : va_D A ([(h0, .inr (11, [.ref tp, .ref ra1, .ref ra2, .ref ra3, .ref ra4, .ref ra5, .ref ra6, .ref ra7, .ref ra8, .ref ra9, .ref ra10, .ref ra11, .ref ra12, .int rc, .int fo, .int xx]))] ++ wt) := hD
              exact W.iret (v := (-1)) hx hb hr (gq_endI wt ⟨hT, hW⟩ hP9 hD9 hS) hS.2.2 dX11_coughs_53
            · rw [Int32.lt_iff_toInt_lt] at c_7
              refine lv_iload_n hx hb dX11_coughs_35 rfl (lv_at hl 3 rfl) ?_
              refine lv_bipush (v := 100) hx hb dX11_coughs_36 (by decide +kernel) ?_
              refine lv_icmp_gt (tgt := 52) hx hb dX11_coughs_38 (by decide) (fun c_8 => ?_) (fun c_8 => ?_)
              · rw [Int32.lt_iff_toInt_lt] at c_8
                refine lv_iconst (v := (-1)) hx hb dX11_coughs_52 (by decide +kernel) ?_
                have hP9 : va_P (gg_D G) classes ([(h0, .inr (11, [.ref tp, .ref ra1, .ref ra2, .ref ra3, .ref ra4, .ref ra5, .ref ra6, .ref ra7, .ref ra8, .ref ra9, .ref ra10, .ref ra11, .ref ra12, .int rc, .int fo, .int xx]))] ++ wt) _ := hP
                have hD9 : va_D A ([(h0, .inr (11, [.ref tp, .ref ra1, .ref ra2, .ref ra3, .ref ra4, .ref ra5, .ref ra6, .ref ra7, .ref ra8, .ref ra9, .ref ra10, .ref ra11, .ref ra12, .int rc, .int fo, .int xx]))] ++ wt) := hD
                exact W.iret (v := (-1)) hx hb hr (gq_endI wt ⟨hT, hW⟩ hP9 hD9 hS) hS.2.2 dX11_coughs_53
              · rw [Int32.lt_iff_toInt_lt] at c_8
                refine lv_iload hx hb dX11_coughs_41 (lv_at hl 4 rfl) ?_
                refine lv_if_lt (tgt := 52) hx hb dX11_coughs_43 (by decide) (fun c_9 => ?_) (fun c_9 => ?_)
                · rw [Int32.lt_iff_toInt_lt] at c_9
                  refine lv_iconst (v := (-1)) hx hb dX11_coughs_52 (by decide +kernel) ?_
                  have hP9 : va_P (gg_D G) classes ([(h0, .inr (11, [.ref tp, .ref ra1, .ref ra2, .ref ra3, .ref ra4, .ref ra5, .ref ra6, .ref ra7, .ref ra8, .ref ra9, .ref ra10, .ref ra11, .ref ra12, .int rc, .int fo, .int xx]))] ++ wt) _ := hP
                  have hD9 : va_D A ([(h0, .inr (11, [.ref tp, .ref ra1, .ref ra2, .ref ra3, .ref ra4, .ref ra5, .ref ra6, .ref ra7, .ref ra8, .ref ra9, .ref ra10, .ref ra11, .ref ra12, .int rc, .int fo, .int xx]))] ++ wt) := hD
                  exact W.iret (v := (-1)) hx hb hr (gq_endI wt ⟨hT, hW⟩ hP9 hD9 hS) hS.2.2 dX11_coughs_53
                · rw [Int32.lt_iff_toInt_lt] at c_9
                  refine lv_iload hx hb dX11_coughs_46 (lv_at hl 4 rfl) ?_
                  refine lv_iconst (v := 1) hx hb dX11_coughs_48 (by decide +kernel) ?_
                  refine lv_icmp_le (tgt := 54) hx hb dX11_coughs_49 (by decide) (fun c_10 => ?_) (fun c_10 => ?_)
                  · rw [Int32.le_iff_toInt_le] at c_10
                    refine lv_aload_n hx hb dX11_coughs_54 rfl (lv_at hl 0 rfl) ?_
                    have hP : va_P (gg_D G) classes ([] ++ ([(h0, .inr (11, [.ref tp, .ref ra1, .ref ra2, .ref ra3, .ref ra4, .ref ra5, .ref ra6, .ref ra7, .ref ra8, .ref ra9, .ref ra10, .ref ra11, .ref ra12, .int rc, .int fo, .int xx]))] ++ wt)) H := hP
                    have hD : va_D A ([] ++ ([(h0, .inr (11, [.ref tp, .ref ra1, .ref ra2, .ref ra3, .ref ra4, .ref ra5, .ref ra6, .ref ra7, .ref ra8, .ref ra9, .ref ra10, .ref ra11, .ref ra12, .int rc, .int fo, .int xx]))] ++ wt)) := hD
                    refine gt_callV (wr := []) (va_runV (As := []) (rest := []) ⟨hx, hb, hml, hown, ht⟩ (d_callClerk l G Γ H.size wt hT tp h0 ra1 ra2 ra3 ra4 ra5 ra6 ra7 ra8 ra9 ra10 ra11 ra12 rc fo xx (by first | assumption | omega) (by first | assumption | omega) (by first | assumption | omega) (by first | assumption | omega) (by first | assumption | omega) (by first | assumption | omega) (by first | assumption | omega) (by first | assumption | omega) (by first | assumption | omega) (by first | assumption | omega) (by first | assumption | omega) (by first | assumption | omega) (by first | assumption | omega)) (cwV 0 ht (ts_gV wd_868 wd_870 wd_17 wd_122 wd_871) rfl rfl rfl (by decide +kernel) ⟨Nat.le_of_ble_eq_true rfl, Nat.le_of_ble_eq_true rfl⟩) (gc_preV (ci := 11) (q0 := 0) hK (tw_right hP) (tw_rightD hD) rfl rfl) rfl rfl hl.1 rfl (lv_room (Nat.le_of_ble_eq_true rfl)) dX11_coughs_55 ⟨Nat.le_of_ble_eq_true rfl, Nat.le_of_ble_eq_true rfl⟩) hP hD hS hA (fun wt H locs hw hP hD hS => ?_)
                    obtain ⟨hT, hkp⟩ := hw
                    have hW := hW.call (show ∀ x ∈ [0, 1, 2], x ∈ [0, 1, 2, 3, 709] by decide) hkp
                    have hP : va_P (gg_D G) classes ([(h0, .inr (11, [.ref tp, .ref ra1, .ref ra2, .ref ra3, .ref ra4, .ref ra5, .ref ra6, .ref ra7, .ref ra8, .ref ra9, .ref ra10, .ref ra11, .ref ra12, .int rc, .int fo, .int xx]))] ++ wt) H := hP
                    have hD : va_D A ([(h0, .inr (11, [.ref tp, .ref ra1, .ref ra2, .ref ra3, .ref ra4, .ref ra5, .ref ra6, .ref ra7, .ref ra8, .ref ra9, .ref ra10, .ref ra11, .ref ra12, .int rc, .int fo, .int xx]))] ++ wt) := hD
                    refine lv_aload_n hx hb dX11_coughs_58 rfl (lv_at hl 0 rfl) ?_
                    refine gq_get hx hb ht hown hK hP i_X11 0 rfl rfl 9 (by decide) wd_506 rfl rfl dX11_coughs_59 ?_
                    refine lv_aload_n hx hb dX11_coughs_62 rfl (lv_at hl 0 rfl) ?_
                    refine gq_get hx hb ht hown hK hP i_X11 0 rfl rfl 15 (by decide) wd_512 rfl rfl dX11_coughs_63 ?_
                    refine gt_callV (wr := [(h0, .inr (11, [.ref tp, .ref ra1, .ref ra2, .ref ra3, .ref ra4, .ref ra5, .ref ra6, .ref ra7, .ref ra8, .ref ra9, .ref ra10, .ref ra11, .ref ra12, .int rc, .int fo, .int xx]))]) (va_runV (As := [.int xx]) (rest := []) ⟨hx, hb, hml, hown, ht⟩ (d_drawFrom l G Γ H.size wt hT ra9 xx kr9) (cwV 1 ht (ts_gV wd_1205 wd_1206 wd_1207 wd_130 wd_1208) rfl rfl rfl (by decide +kernel) ⟨Nat.le_of_ble_eq_true rfl, Nat.le_of_ble_eq_true rfl⟩) (gt_preW (ci := 0) hK hT (tw_right hP) (tw_rightD hD) kr9 (by decide) rfl) rfl rfl hl.1 rfl (lv_room (Nat.le_of_ble_eq_true rfl)) dX11_coughs_66 ⟨Nat.le_of_ble_eq_true rfl, Nat.le_of_ble_eq_true rfl⟩) hP hD hS hA (fun wt H locs hw hP hD hS => ?_)
                    obtain ⟨hT, hkp⟩ := hw
                    have hW := hW.call (show ∀ x ∈ [3], x ∈ [0, 1, 2, 3, 709] by decide) hkp
                    have hP : va_P (gg_D G) classes ([(h0, .inr (11, [.ref tp, .ref ra1, .ref ra2, .ref ra3, .ref ra4, .ref ra5, .ref ra6, .ref ra7, .ref ra8, .ref ra9, .ref ra10, .ref ra11, .ref ra12, .int rc, .int fo, .int xx]))] ++ wt) H := hP
                    have hD : va_D A ([(h0, .inr (11, [.ref tp, .ref ra1, .ref ra2, .ref ra3, .ref ra4, .ref ra5, .ref ra6, .ref ra7, .ref ra8, .ref ra9, .ref ra10, .ref ra11, .ref ra12, .int rc, .int fo, .int xx]))] ++ wt) := hD
                    refine lv_iconst (v := 0) hx hb dX11_coughs_69 (by decide +kernel) ?_
                    refine lv_istore (lv' := [(5, .int 0), (0, .ref h0), (1, .int b), (2, .int w), (3, .int z), (4, .int y)]) hx hb dX11_coughs_70 hl (by decide) rfl (fun ls hl => ?_)
                    refine lv_iconst (v := 0) hx hb dX11_coughs_72 (by decide +kernel) ?_
                    refine lv_istore (lv' := [(6, .int 0), (5, .int 0), (0, .ref h0), (1, .int b), (2, .int w), (3, .int z), (4, .int y)]) hx hb dX11_coughs_73 hl (by decide) rfl (fun ls hl => ?_)
                    refine tl_loopE (Γ := Γ) (nL := 8) (fun (zz_ : Int32 × Int32) => match zz_ with | (x75_0, x75_1) => 0 ≤ x75_0.toInt ∧ x75_0.toInt ≤ 10) (fun (zz_ : Int32 × Int32) => match zz_ with | (x75_0, x75_1) => (10 - x75_0.toInt).toNat) (fun (zz_ : Int32 × Int32) => match zz_ with | (x75_0, x75_1) => [(6, .int x75_0), (5, .int x75_1), (0, .ref h0), (1, .int b), (2, .int w), (3, .int z), (4, .int y)]) (fun (zz_ : Int32 × Int32) => match zz_ with | (x75_0, x75_1) => [(h0, .inr (11, [.ref tp, .ref ra1, .ref ra2, .ref ra3, .ref ra4, .ref ra5, .ref ra6, .ref ra7, .ref ra8, .ref ra9, .ref ra10, .ref ra11, .ref ra12, .int rc, .int fo, .int xx]))]) (fun (zz_ : Int32 × Int32) (w : va_W) => match zz_ with | (x75_0, x75_1) => tk_kp [0, 1, 2, 3, 709] w0 w) (fun zz_ hI H locs wt ls hT hW hP hD hS hl ih75 => ?_) (0, 0) (show 0 ≤ (0 : Int32).toInt ∧ (0 : Int32).toInt ≤ 10 from ⟨by omega, by omega⟩) _ _ wt ls hT hW hP hD hS hl
                    obtain ⟨x75_0, x75_1⟩ := zz_
                    have hW : tk_kp [0, 1, 2, 3, 709] w0 wt := hW
                    have hI : 0 ≤ x75_0.toInt ∧ x75_0.toInt ≤ 10 := hI
                    obtain ⟨j75_0, j75_1⟩ := hI
                    have hl : lv_has ls 8 [(6, .int x75_0), (5, .int x75_1), (0, .ref h0), (1, .int b), (2, .int w), (3, .int z), (4, .int y)] := hl
                    have hP : va_P (gg_D G) classes ([(h0, .inr (11, [.ref tp, .ref ra1, .ref ra2, .ref ra3, .ref ra4, .ref ra5, .ref ra6, .ref ra7, .ref ra8, .ref ra9, .ref ra10, .ref ra11, .ref ra12, .int rc, .int fo, .int xx]))] ++ wt) H := hP
                    have hD : va_D A ([(h0, .inr (11, [.ref tp, .ref ra1, .ref ra2, .ref ra3, .ref ra4, .ref ra5, .ref ra6, .ref ra7, .ref ra8, .ref ra9, .ref ra10, .ref ra11, .ref ra12, .int rc, .int fo, .int xx]))] ++ wt) := hD
                    refine lv_iload hx hb dX11_coughs_75 (lv_at hl 0 rfl) ?_
                    refine lv_iload_n hx hb dX11_coughs_77 rfl (lv_at hl 3 rfl) ?_
                    refine lv_icmp_ge (tgt := 191) hx hb dX11_coughs_78 (by decide) (fun c_11 => ?_) (fun c_11 => ?_)
                    · rw [Int32.le_iff_toInt_le] at c_11
                      refine lv_iload hx hb dX11_coughs_191 (lv_at hl 1 rfl) ?_
                      have hP9 : va_P (gg_D G) classes ([(h0, .inr (11, [.ref tp, .ref ra1, .ref ra2, .ref ra3, .ref ra4, .ref ra5, .ref ra6, .ref ra7, .ref ra8, .ref ra9, .ref ra10, .ref ra11, .ref ra12, .int rc, .int fo, .int xx]))] ++ wt) _ := hP
                      have hD9 : va_D A ([(h0, .inr (11, [.ref tp, .ref ra1, .ref ra2, .ref ra3, .ref ra4, .ref ra5, .ref ra6, .ref ra7, .ref ra8, .ref ra9, .ref ra10, .ref ra11, .ref ra12, .int rc, .int fo, .int xx]))] ++ wt) := hD
                      exact W.iret (v := x75_1) hx hb hr (gq_endI wt ⟨hT, hW⟩ hP9 hD9 hS) hS.2.2 dX11_coughs_193
                    · rw [Int32.le_iff_toInt_le] at c_11
                      refine lv_aload_n hx hb dX11_coughs_81 rfl (lv_at hl 2 rfl) ?_
                      refine gq_get hx hb ht hown hK hP i_X11 0 rfl rfl 4 (by decide) wd_501 rfl rfl dX11_coughs_82 ?_
                      refine lv_aload_n hx hb dX11_coughs_85 rfl (lv_at hl 2 rfl) ?_
                      refine gq_get hx hb ht hown hK hP i_X11 0 rfl rfl 3 (by decide) wd_500 rfl rfl dX11_coughs_86 ?_
                      refine gt_callV (wr := [(h0, .inr (11, [.ref tp, .ref ra1, .ref ra2, .ref ra3, .ref ra4, .ref ra5, .ref ra6, .ref ra7, .ref ra8, .ref ra9, .ref ra10, .ref ra11, .ref ra12, .int rc, .int fo, .int xx]))]) (va_runV (As := [.ref ra3]) (rest := []) ⟨hx, hb, hml, hown, ht⟩ (d_S_copyFrom l G Γ H.size wt hT ra4 ra3 kr4 kr3) (cwV 1 ht (ts_gV wd_992 wd_863 wd_864 wd_125 wd_865) rfl rfl rfl (by decide +kernel) ⟨Nat.le_of_ble_eq_true rfl, Nat.le_of_ble_eq_true rfl⟩) (gt_preW (ci := 7) hK hT (tw_right hP) (tw_rightD hD) kr4 (by decide) rfl) rfl rfl hl.1 rfl (lv_room (Nat.le_of_ble_eq_true rfl)) dX11_coughs_89 ⟨Nat.le_of_ble_eq_true rfl, Nat.le_of_ble_eq_true rfl⟩) hP hD hS hA (fun wt H locs hw hP hD hS => ?_)
                      obtain ⟨hT, hkp⟩ := hw
                      have hW := hW.call (show ∀ x ∈ [709], x ∈ [0, 1, 2, 3, 709] by decide) hkp
                      have hP : va_P (gg_D G) classes ([(h0, .inr (11, [.ref tp, .ref ra1, .ref ra2, .ref ra3, .ref ra4, .ref ra5, .ref ra6, .ref ra7, .ref ra8, .ref ra9, .ref ra10, .ref ra11, .ref ra12, .int rc, .int fo, .int xx]))] ++ wt) H := hP
                      have hD : va_D A ([(h0, .inr (11, [.ref tp, .ref ra1, .ref ra2, .ref ra3, .ref ra4, .ref ra5, .ref ra6, .ref ra7, .ref ra8, .ref ra9, .ref ra10, .ref ra11, .ref ra12, .int rc, .int fo, .int xx]))] ++ wt) := hD
                      refine lv_iconst (v := 0) hx hb dX11_coughs_92 (by decide +kernel) ?_
                      refine lv_istore (lv' := [(7, .int 0), (6, .int x75_0), (5, .int x75_1), (0, .ref h0), (1, .int b), (2, .int w), (3, .int z), (4, .int y)]) hx hb dX11_coughs_93 hl (by decide) rfl (fun ls hl => ?_)
                      refine tl_loopE (Γ := Γ) (nL := 8) (fun (zz_ : Int32) => match zz_ with | x95_0 => 0 ≤ x95_0.toInt ∧ x95_0.toInt ≤ 60) (fun (zz_ : Int32) => match zz_ with | x95_0 => (60 - x95_0.toInt).toNat) (fun (zz_ : Int32) => match zz_ with | x95_0 => [(7, .int x95_0), (6, .int x75_0), (5, .int x75_1), (0, .ref h0), (1, .int b), (2, .int w), (3, .int z), (4, .int y)]) (fun (zz_ : Int32) => match zz_ with | x95_0 => [(h0, .inr (11, [.ref tp, .ref ra1, .ref ra2, .ref ra3, .ref ra4, .ref ra5, .ref ra6, .ref ra7, .ref ra8, .ref ra9, .ref ra10, .ref ra11, .ref ra12, .int rc, .int fo, .int xx]))]) (fun (zz_ : Int32) (w : va_W) => match zz_ with | x95_0 => tk_kp [0, 1, 2, 3, 709] w0 w) (fun zz_ hI H locs wt ls hT hW hP hD hS hl ih95 => ?_) 0 (show 0 ≤ (0 : Int32).toInt ∧ (0 : Int32).toInt ≤ 60 from ⟨by omega, by omega⟩) _ _ wt ls hT hW hP hD hS hl
                      obtain ⟨x95_0, rfl⟩ : ∃ z2, z2 = zz_ := ⟨_, rfl⟩
                      have hW : tk_kp [0, 1, 2, 3, 709] w0 wt := hW
                      have hI : 0 ≤ x95_0.toInt ∧ x95_0.toInt ≤ 60 := hI
                      obtain ⟨j95_0, j95_1⟩ := hI
                      have hl : lv_has ls 8 [(7, .int x95_0), (6, .int x75_0), (5, .int x75_1), (0, .ref h0), (1, .int b), (2, .int w), (3, .int z), (4, .int y)] := hl
                      have hP : va_P (gg_D G) classes ([(h0, .inr (11, [.ref tp, .ref ra1, .ref ra2, .ref ra3, .ref ra4, .ref ra5, .ref ra6, .ref ra7, .ref ra8, .ref ra9, .ref ra10, .ref ra11, .ref ra12, .int rc, .int fo, .int xx]))] ++ wt) H := hP
                      have hD : va_D A ([(h0, .inr (11, [.ref tp, .ref ra1, .ref ra2, .ref ra3, .ref ra4, .ref ra5, .ref ra6, .ref ra7, .ref ra8, .ref ra9, .ref ra10, .ref ra11, .ref ra12, .int rc, .int fo, .int xx]))] ++ wt) := hD
                      refine lv_iload hx hb dX11_coughs_95 (lv_at hl 0 rfl) ?_
                      refine lv_iload_n hx hb dX11_coughs_97 rfl (lv_at hl 5 rfl) ?_
                      refine lv_icmp_ge (tgt := 142) hx hb dX11_coughs_98 (by decide) (fun c_12 => ?_) (fun c_12 => ?_)
                      · rw [Int32.le_iff_toInt_le] at c_12
                        refine lv_iload hx hb dX11_coughs_142 (lv_at hl 2 rfl) ?_
                        refine lv_iload hx hb dX11_coughs_144 (lv_at hl 7 rfl) ?_
                        refine lv_if_ne (tgt := 167) hx hb dX11_coughs_146 (by decide) (fun c_13 => ?_) (fun c_13 => ?_)
                        · rw [← Int32.toInt_inj] at c_13
                          refine lv_aload_n hx hb dX11_coughs_167 rfl (lv_at hl 3 rfl) ?_
                          refine gq_get hx hb ht hown hK hP i_X11 0 rfl rfl 4 (by decide) wd_501 rfl rfl dX11_coughs_168 ?_
                          refine gt_callI (wr := [(h0, .inr (11, [.ref tp, .ref ra1, .ref ra2, .ref ra3, .ref ra4, .ref ra5, .ref ra6, .ref ra7, .ref ra8, .ref ra9, .ref ra10, .ref ra11, .ref ra12, .int rc, .int fo, .int xx]))]) (va_runV (As := []) (rest := [.int x75_1]) ⟨hx, hb, hml, hown, ht⟩ (d_allPaid l G Γ H.size wt hT ra4 kr4) (cwV 0 ht (ts_gV wd_850 wd_851 wd_852 wd_125 wd_853) rfl rfl rfl (by decide +kernel) ⟨Nat.le_of_ble_eq_true rfl, Nat.le_of_ble_eq_true rfl⟩) (gt_preW (ci := 7) hK hT (tw_right hP) (tw_rightD hD) kr4 (by decide) rfl) rfl rfl hl.1 rfl (lv_room (Nat.le_of_ble_eq_true rfl)) dX11_coughs_171 ⟨Nat.le_of_ble_eq_true rfl, Nat.le_of_ble_eq_true rfl⟩) hP hD hS hA (fun r_14 wt H locs hw hP hD hS => ?_)
                          obtain ⟨hT, hkp⟩ := hw
                          have hW := hW.call (show ∀ x ∈ [], x ∈ [0, 1, 2, 3, 709] by decide) hkp
                          have hP : va_P (gg_D G) classes ([(h0, .inr (11, [.ref tp, .ref ra1, .ref ra2, .ref ra3, .ref ra4, .ref ra5, .ref ra6, .ref ra7, .ref ra8, .ref ra9, .ref ra10, .ref ra11, .ref ra12, .int rc, .int fo, .int xx]))] ++ wt) H := hP
                          have hD : va_D A ([(h0, .inr (11, [.ref tp, .ref ra1, .ref ra2, .ref ra3, .ref ra4, .ref ra5, .ref ra6, .ref ra7, .ref ra8, .ref ra9, .ref ra10, .ref ra11, .ref ra12, .int rc, .int fo, .int xx]))] ++ wt) := hD
                          refine lv_aload_n hx hb dX11_coughs_174 rfl (lv_at hl 3 rfl) ?_
                          refine gq_get hx hb ht hown hK hP i_X11 0 rfl rfl 3 (by decide) wd_500 rfl rfl dX11_coughs_175 ?_
                          refine gt_callI (wr := [(h0, .inr (11, [.ref tp, .ref ra1, .ref ra2, .ref ra3, .ref ra4, .ref ra5, .ref ra6, .ref ra7, .ref ra8, .ref ra9, .ref ra10, .ref ra11, .ref ra12, .int rc, .int fo, .int xx]))]) (va_runV (As := []) (rest := [.int r_14, .int x75_1]) ⟨hx, hb, hml, hown, ht⟩ (d_allPaid l G Γ H.size wt hT ra3 kr3) (cwV 0 ht (ts_gV wd_850 wd_851 wd_852 wd_125 wd_853) rfl rfl rfl (by decide +kernel) ⟨Nat.le_of_ble_eq_true rfl, Nat.le_of_ble_eq_true rfl⟩) (gt_preW (ci := 7) hK hT (tw_right hP) (tw_rightD hD) kr3 (by decide) rfl) rfl rfl hl.1 rfl (lv_room (Nat.le_of_ble_eq_true rfl)) dX11_coughs_178 ⟨Nat.le_of_ble_eq_true rfl, Nat.le_of_ble_eq_true rfl⟩) hP hD hS hA (fun r_15 wt H locs hw hP hD hS => ?_)
                          obtain ⟨hT, hkp⟩ := hw
                          have hW := hW.call (show ∀ x ∈ [], x ∈ [0, 1, 2, 3, 709] by decide) hkp
                          have hP : va_P (gg_D G) classes ([(h0, .inr (11, [.ref tp, .ref ra1, .ref ra2, .ref ra3, .ref ra4, .ref ra5, .ref ra6, .ref ra7, .ref ra8, .ref ra9, .ref ra10, .ref ra11, .ref ra12, .int rc, .int fo, .int xx]))] ++ wt) H := hP
                          have hD : va_D A ([(h0, .inr (11, [.ref tp, .ref ra1, .ref ra2, .ref ra3, .ref ra4, .ref ra5, .ref ra6, .ref ra7, .ref ra8, .ref ra9, .ref ra10, .ref ra11, .ref ra12, .int rc, .int fo, .int xx]))] ++ wt) := hD
                          obtain ⟨t_16, et_16⟩ : ∃ zz_ : Int32, r_14 - r_15 = zz_ := ⟨_, rfl⟩
                          refine gq_isub hx hb t_16 et_16 dX11_coughs_181 ?_
                          obtain ⟨t_17, et_17⟩ : ∃ zz_ : Int32, x75_1 + t_16 = zz_ := ⟨_, rfl⟩
                          refine gq_iadd hx hb t_17 et_17 dX11_coughs_182 ?_
                          refine lv_istore (lv' := [(5, .int t_17), (7, .int x95_0), (6, .int x75_0), (0, .ref h0), (1, .int b), (2, .int w), (3, .int z), (4, .int y)]) hx hb dX11_coughs_183 hl (by decide) rfl (fun ls hl => ?_)
                          obtain ⟨t_18, et_18⟩ : ∃ zz_ : Int32, x75_0 + Int32.ofInt (1) = zz_ := ⟨_, rfl⟩
                          have ft_18 : t_18.toInt = x75_0.toInt + (1 : Int32).toInt := ia_add (y := 1) et_18 (by omega) (by omega)
                          refine lv_iinc (v := t_18) (lv' := [(6, .int t_18), (5, .int t_17), (7, .int x95_0), (0, .ref h0), (1, .int b), (2, .int w), (3, .int z), (4, .int y)]) hx hb dX11_coughs_185 hl (k := 2) rfl et_18 (by decide) rfl (fun ls hl => ?_)
                          refine lv_goto (tgt := 75) hx hb dX11_coughs_188 (by decide) ?_
                          exact ih75 (t_18, t_17) (show 0 ≤ t_18.toInt ∧ t_18.toInt ≤ 10 from ⟨by omega, by omega⟩) (show (10 - t_18.toInt).toNat < (10 - x75_0.toInt).toNat by omega) H locs wt ls hT hW hP hD hS (lv_sub hl [0, 1, 3, 4, 5, 6, 7] rfl)
                        · rw [← Int32.toInt_inj] at c_13
                          refine lv_aload_n hx hb dX11_coughs_149 rfl (lv_at hl 3 rfl) ?_
                          refine gq_get hx hb ht hown hK hP i_X11 0 rfl rfl 4 (by decide) wd_501 rfl rfl dX11_coughs_150 ?_
                          refine gt_callI (wr := [(h0, .inr (11, [.ref tp, .ref ra1, .ref ra2, .ref ra3, .ref ra4, .ref ra5, .ref ra6, .ref ra7, .ref ra8, .ref ra9, .ref ra10, .ref ra11, .ref ra12, .int rc, .int fo, .int xx]))]) (va_runV (As := []) (rest := [.int x75_1]) ⟨hx, hb, hml, hown, ht⟩ (d_lotsHad l G Γ H.size wt hT ra4 kr4) (cwV 0 ht (ts_gV wd_1219 wd_1220 wd_1221 wd_125 wd_1222) rfl rfl rfl (by decide +kernel) ⟨Nat.le_of_ble_eq_true rfl, Nat.le_of_ble_eq_true rfl⟩) (gt_preW (ci := 7) hK hT (tw_right hP) (tw_rightD hD) kr4 (by decide) rfl) rfl rfl hl.1 rfl (lv_room (Nat.le_of_ble_eq_true rfl)) dX11_coughs_153 ⟨Nat.le_of_ble_eq_true rfl, Nat.le_of_ble_eq_true rfl⟩) hP hD hS hA (fun r_19 wt H locs hw hP hD hS => ?_)
                          obtain ⟨hT, hkp⟩ := hw
                          have hW := hW.call (show ∀ x ∈ [], x ∈ [0, 1, 2, 3, 709] by decide) hkp
                          have hP : va_P (gg_D G) classes ([(h0, .inr (11, [.ref tp, .ref ra1, .ref ra2, .ref ra3, .ref ra4, .ref ra5, .ref ra6, .ref ra7, .ref ra8, .ref ra9, .ref ra10, .ref ra11, .ref ra12, .int rc, .int fo, .int xx]))] ++ wt) H := hP
                          have hD : va_D A ([(h0, .inr (11, [.ref tp, .ref ra1, .ref ra2, .ref ra3, .ref ra4, .ref ra5, .ref ra6, .ref ra7, .ref ra8, .ref ra9, .ref ra10, .ref ra11, .ref ra12, .int rc, .int fo, .int xx]))] ++ wt) := hD
                          refine lv_aload_n hx hb dX11_coughs_156 rfl (lv_at hl 3 rfl) ?_
                          refine gq_get hx hb ht hown hK hP i_X11 0 rfl rfl 3 (by decide) wd_500 rfl rfl dX11_coughs_157 ?_
                          refine gt_callI (wr := [(h0, .inr (11, [.ref tp, .ref ra1, .ref ra2, .ref ra3, .ref ra4, .ref ra5, .ref ra6, .ref ra7, .ref ra8, .ref ra9, .ref ra10, .ref ra11, .ref ra12, .int rc, .int fo, .int xx]))]) (va_runV (As := []) (rest := [.int r_19, .int x75_1]) ⟨hx, hb, hml, hown, ht⟩ (d_lotsHad l G Γ H.size wt hT ra3 kr3) (cwV 0 ht (ts_gV wd_1219 wd_1220 wd_1221 wd_125 wd_1222) rfl rfl rfl (by decide +kernel) ⟨Nat.le_of_ble_eq_true rfl, Nat.le_of_ble_eq_true rfl⟩) (gt_preW (ci := 7) hK hT (tw_right hP) (tw_rightD hD) kr3 (by decide) rfl) rfl rfl hl.1 rfl (lv_room (Nat.le_of_ble_eq_true rfl)) dX11_coughs_160 ⟨Nat.le_of_ble_eq_true rfl, Nat.le_of_ble_eq_true rfl⟩) hP hD hS hA (fun r_20 wt H locs hw hP hD hS => ?_)
                          obtain ⟨hT, hkp⟩ := hw
                          have hW := hW.call (show ∀ x ∈ [], x ∈ [0, 1, 2, 3, 709] by decide) hkp
                          have hP : va_P (gg_D G) classes ([(h0, .inr (11, [.ref tp, .ref ra1, .ref ra2, .ref ra3, .ref ra4, .ref ra5, .ref ra6, .ref ra7, .ref ra8, .ref ra9, .ref ra10, .ref ra11, .ref ra12, .int rc, .int fo, .int xx]))] ++ wt) H := hP
                          have hD : va_D A ([(h0, .inr (11, [.ref tp, .ref ra1, .ref ra2, .ref ra3, .ref ra4, .ref ra5, .ref ra6, .ref ra7, .ref ra8, .ref ra9, .ref ra10, .ref ra11, .ref ra12, .int rc, .int fo, .int xx]))] ++ wt) := hD
                          obtain ⟨t_21, et_21⟩ : ∃ zz_ : Int32, r_19 - r_20 = zz_ := ⟨_, rfl⟩
                          refine gq_isub hx hb t_21 et_21 dX11_coughs_163 ?_
                          refine lv_goto (tgt := 182) hx hb dX11_coughs_164 (by decide) ?_
                          obtain ⟨t_22, et_22⟩ : ∃ zz_ : Int32, x75_1 + t_21 = zz_ := ⟨_, rfl⟩
                          refine gq_iadd hx hb t_22 et_22 dX11_coughs_182 ?_
                          refine lv_istore (lv' := [(5, .int t_22), (7, .int x95_0), (6, .int x75_0), (0, .ref h0), (1, .int b), (2, .int w), (3, .int z), (4, .int y)]) hx hb dX11_coughs_183 hl (by decide) rfl (fun ls hl => ?_)
                          obtain ⟨t_23, et_23⟩ : ∃ zz_ : Int32, x75_0 + Int32.ofInt (1) = zz_ := ⟨_, rfl⟩
                          have ft_23 : t_23.toInt = x75_0.toInt + (1 : Int32).toInt := ia_add (y := 1) et_23 (by omega) (by omega)
                          refine lv_iinc (v := t_23) (lv' := [(6, .int t_23), (5, .int t_22), (7, .int x95_0), (0, .ref h0), (1, .int b), (2, .int w), (3, .int z), (4, .int y)]) hx hb dX11_coughs_185 hl (k := 2) rfl et_23 (by decide) rfl (fun ls hl => ?_)
                          refine lv_goto (tgt := 75) hx hb dX11_coughs_188 (by decide) ?_
                          exact ih75 (t_23, t_22) (show 0 ≤ t_23.toInt ∧ t_23.toInt ≤ 10 from ⟨by omega, by omega⟩) (show (10 - t_23.toInt).toNat < (10 - x75_0.toInt).toNat by omega) H locs wt ls hT hW hP hD hS (lv_sub hl [0, 1, 3, 4, 5, 6, 7] rfl)
                      · rw [Int32.le_iff_toInt_le] at c_12
                        refine lv_aload_n hx hb dX11_coughs_101 rfl (lv_at hl 3 rfl) ?_
                        refine gq_get hx hb ht hown hK hP i_X11 0 rfl rfl 4 (by decide) wd_501 rfl rfl dX11_coughs_102 ?_
                        refine lv_iconst (v := 1) hx hb dX11_coughs_105 (by decide +kernel) ?_
                        refine gt_callI (wr := [(h0, .inr (11, [.ref tp, .ref ra1, .ref ra2, .ref ra3, .ref ra4, .ref ra5, .ref ra6, .ref ra7, .ref ra8, .ref ra9, .ref ra10, .ref ra11, .ref ra12, .int rc, .int fo, .int xx]))]) (va_runV (As := [.int 1]) (rest := []) ⟨hx, hb, hml, hown, ht⟩ (d_lotsAt l G Γ H.size wt hT ra4 1 kr4) (cwV 1 ht (ts_gV wd_846 wd_847 wd_848 wd_125 wd_849) rfl rfl rfl (by decide +kernel) ⟨Nat.le_of_ble_eq_true rfl, Nat.le_of_ble_eq_true rfl⟩) (gt_preW (ci := 7) hK hT (tw_right hP) (tw_rightD hD) kr4 (by decide) rfl) rfl rfl hl.1 rfl (lv_room (Nat.le_of_ble_eq_true rfl)) dX11_coughs_106 ⟨Nat.le_of_ble_eq_true rfl, Nat.le_of_ble_eq_true rfl⟩) hP hD hS hA (fun r_24 wt H locs hw hP hD hS => ?_)
                        obtain ⟨hT, hkp, lo_r_24, hi_r_24⟩ := hw
                        have hW := hW.call (show ∀ x ∈ [], x ∈ [0, 1, 2, 3, 709] by decide) hkp
                        have hP : va_P (gg_D G) classes ([(h0, .inr (11, [.ref tp, .ref ra1, .ref ra2, .ref ra3, .ref ra4, .ref ra5, .ref ra6, .ref ra7, .ref ra8, .ref ra9, .ref ra10, .ref ra11, .ref ra12, .int rc, .int fo, .int xx]))] ++ wt) H := hP
                        have hD : va_D A ([(h0, .inr (11, [.ref tp, .ref ra1, .ref ra2, .ref ra3, .ref ra4, .ref ra5, .ref ra6, .ref ra7, .ref ra8, .ref ra9, .ref ra10, .ref ra11, .ref ra12, .int rc, .int fo, .int xx]))] ++ wt) := hD
                        refine lv_if_eq (tgt := 142) hx hb dX11_coughs_109 (by decide) (fun c_25 => ?_) (fun c_25 => ?_)
                        · rw [← Int32.toInt_inj] at c_25
                          refine lv_iload hx hb dX11_coughs_142 (lv_at hl 2 rfl) ?_
                          refine lv_iload hx hb dX11_coughs_144 (lv_at hl 7 rfl) ?_
                          refine lv_if_ne (tgt := 167) hx hb dX11_coughs_146 (by decide) (fun c_26 => ?_) (fun c_26 => ?_)
                          · rw [← Int32.toInt_inj] at c_26
                            refine lv_aload_n hx hb dX11_coughs_167 rfl (lv_at hl 3 rfl) ?_
                            refine gq_get hx hb ht hown hK hP i_X11 0 rfl rfl 4 (by decide) wd_501 rfl rfl dX11_coughs_168 ?_
                            refine gt_callI (wr := [(h0, .inr (11, [.ref tp, .ref ra1, .ref ra2, .ref ra3, .ref ra4, .ref ra5, .ref ra6, .ref ra7, .ref ra8, .ref ra9, .ref ra10, .ref ra11, .ref ra12, .int rc, .int fo, .int xx]))]) (va_runV (As := []) (rest := [.int x75_1]) ⟨hx, hb, hml, hown, ht⟩ (d_allPaid l G Γ H.size wt hT ra4 kr4) (cwV 0 ht (ts_gV wd_850 wd_851 wd_852 wd_125 wd_853) rfl rfl rfl (by decide +kernel) ⟨Nat.le_of_ble_eq_true rfl, Nat.le_of_ble_eq_true rfl⟩) (gt_preW (ci := 7) hK hT (tw_right hP) (tw_rightD hD) kr4 (by decide) rfl) rfl rfl hl.1 rfl (lv_room (Nat.le_of_ble_eq_true rfl)) dX11_coughs_171 ⟨Nat.le_of_ble_eq_true rfl, Nat.le_of_ble_eq_true rfl⟩) hP hD hS hA (fun r_27 wt H locs hw hP hD hS => ?_)
                            obtain ⟨hT, hkp⟩ := hw
                            have hW := hW.call (show ∀ x ∈ [], x ∈ [0, 1, 2, 3, 709] by decide) hkp
                            have hP : va_P (gg_D G) classes ([(h0, .inr (11, [.ref tp, .ref ra1, .ref ra2, .ref ra3, .ref ra4, .ref ra5, .ref ra6, .ref ra7, .ref ra8, .ref ra9, .ref ra10, .ref ra11, .ref ra12, .int rc, .int fo, .int xx]))] ++ wt) H := hP
                            have hD : va_D A ([(h0, .inr (11, [.ref tp, .ref ra1, .ref ra2, .ref ra3, .ref ra4, .ref ra5, .ref ra6, .ref ra7, .ref ra8, .ref ra9, .ref ra10, .ref ra11, .ref ra12, .int rc, .int fo, .int xx]))] ++ wt) := hD
                            refine lv_aload_n hx hb dX11_coughs_174 rfl (lv_at hl 3 rfl) ?_
                            refine gq_get hx hb ht hown hK hP i_X11 0 rfl rfl 3 (by decide) wd_500 rfl rfl dX11_coughs_175 ?_
                            refine gt_callI (wr := [(h0, .inr (11, [.ref tp, .ref ra1, .ref ra2, .ref ra3, .ref ra4, .ref ra5, .ref ra6, .ref ra7, .ref ra8, .ref ra9, .ref ra10, .ref ra11, .ref ra12, .int rc, .int fo, .int xx]))]) (va_runV (As := []) (rest := [.int r_27, .int x75_1]) ⟨hx, hb, hml, hown, ht⟩ (d_allPaid l G Γ H.size wt hT ra3 kr3) (cwV 0 ht (ts_gV wd_850 wd_851 wd_852 wd_125 wd_853) rfl rfl rfl (by decide +kernel) ⟨Nat.le_of_ble_eq_true rfl, Nat.le_of_ble_eq_true rfl⟩) (gt_preW (ci := 7) hK hT (tw_right hP) (tw_rightD hD) kr3 (by decide) rfl) rfl rfl hl.1 rfl (lv_room (Nat.le_of_ble_eq_true rfl)) dX11_coughs_178 ⟨Nat.le_of_ble_eq_true rfl, Nat.le_of_ble_eq_true rfl⟩) hP hD hS hA (fun r_28 wt H locs hw hP hD hS => ?_)
                            obtain ⟨hT, hkp⟩ := hw
                            have hW := hW.call (show ∀ x ∈ [], x ∈ [0, 1, 2, 3, 709] by decide) hkp
                            have hP : va_P (gg_D G) classes ([(h0, .inr (11, [.ref tp, .ref ra1, .ref ra2, .ref ra3, .ref ra4, .ref ra5, .ref ra6, .ref ra7, .ref ra8, .ref ra9, .ref ra10, .ref ra11, .ref ra12, .int rc, .int fo, .int xx]))] ++ wt) H := hP
                            have hD : va_D A ([(h0, .inr (11, [.ref tp, .ref ra1, .ref ra2, .ref ra3, .ref ra4, .ref ra5, .ref ra6, .ref ra7, .ref ra8, .ref ra9, .ref ra10, .ref ra11, .ref ra12, .int rc, .int fo, .int xx]))] ++ wt) := hD
                            obtain ⟨t_29, et_29⟩ : ∃ zz_ : Int32, r_27 - r_28 = zz_ := ⟨_, rfl⟩
                            refine gq_isub hx hb t_29 et_29 dX11_coughs_181 ?_
                            obtain ⟨t_30, et_30⟩ : ∃ zz_ : Int32, x75_1 + t_29 = zz_ := ⟨_, rfl⟩
                            refine gq_iadd hx hb t_30 et_30 dX11_coughs_182 ?_
                            refine lv_istore (lv' := [(5, .int t_30), (7, .int x95_0), (6, .int x75_0), (0, .ref h0), (1, .int b), (2, .int w), (3, .int z), (4, .int y)]) hx hb dX11_coughs_183 hl (by decide) rfl (fun ls hl => ?_)
                            obtain ⟨t_31, et_31⟩ : ∃ zz_ : Int32, x75_0 + Int32.ofInt (1) = zz_ := ⟨_, rfl⟩
                            have ft_31 : t_31.toInt = x75_0.toInt + (1 : Int32).toInt := ia_add (y := 1) et_31 (by omega) (by omega)
                            refine lv_iinc (v := t_31) (lv' := [(6, .int t_31), (5, .int t_30), (7, .int x95_0), (0, .ref h0), (1, .int b), (2, .int w), (3, .int z), (4, .int y)]) hx hb dX11_coughs_185 hl (k := 2) rfl et_31 (by decide) rfl (fun ls hl => ?_)
                            refine lv_goto (tgt := 75) hx hb dX11_coughs_188 (by decide) ?_
                            exact ih75 (t_31, t_30) (show 0 ≤ t_31.toInt ∧ t_31.toInt ≤ 10 from ⟨by omega, by omega⟩) (show (10 - t_31.toInt).toNat < (10 - x75_0.toInt).toNat by omega) H locs wt ls hT hW hP hD hS (lv_sub hl [0, 1, 3, 4, 5, 6, 7] rfl)
                          · rw [← Int32.toInt_inj] at c_26
                            refine lv_aload_n hx hb dX11_coughs_149 rfl (lv_at hl 3 rfl) ?_
                            refine gq_get hx hb ht hown hK hP i_X11 0 rfl rfl 4 (by decide) wd_501 rfl rfl dX11_coughs_150 ?_
                            refine gt_callI (wr := [(h0, .inr (11, [.ref tp, .ref ra1, .ref ra2, .ref ra3, .ref ra4, .ref ra5, .ref ra6, .ref ra7, .ref ra8, .ref ra9, .ref ra10, .ref ra11, .ref ra12, .int rc, .int fo, .int xx]))]) (va_runV (As := []) (rest := [.int x75_1]) ⟨hx, hb, hml, hown, ht⟩ (d_lotsHad l G Γ H.size wt hT ra4 kr4) (cwV 0 ht (ts_gV wd_1219 wd_1220 wd_1221 wd_125 wd_1222) rfl rfl rfl (by decide +kernel) ⟨Nat.le_of_ble_eq_true rfl, Nat.le_of_ble_eq_true rfl⟩) (gt_preW (ci := 7) hK hT (tw_right hP) (tw_rightD hD) kr4 (by decide) rfl) rfl rfl hl.1 rfl (lv_room (Nat.le_of_ble_eq_true rfl)) dX11_coughs_153 ⟨Nat.le_of_ble_eq_true rfl, Nat.le_of_ble_eq_true rfl⟩) hP hD hS hA (fun r_32 wt H locs hw hP hD hS => ?_)
                            obtain ⟨hT, hkp⟩ := hw
                            have hW := hW.call (show ∀ x ∈ [], x ∈ [0, 1, 2, 3, 709] by decide) hkp
                            have hP : va_P (gg_D G) classes ([(h0, .inr (11, [.ref tp, .ref ra1, .ref ra2, .ref ra3, .ref ra4, .ref ra5, .ref ra6, .ref ra7, .ref ra8, .ref ra9, .ref ra10, .ref ra11, .ref ra12, .int rc, .int fo, .int xx]))] ++ wt) H := hP
                            have hD : va_D A ([(h0, .inr (11, [.ref tp, .ref ra1, .ref ra2, .ref ra3, .ref ra4, .ref ra5, .ref ra6, .ref ra7, .ref ra8, .ref ra9, .ref ra10, .ref ra11, .ref ra12, .int rc, .int fo, .int xx]))] ++ wt) := hD
                            refine lv_aload_n hx hb dX11_coughs_156 rfl (lv_at hl 3 rfl) ?_
                            refine gq_get hx hb ht hown hK hP i_X11 0 rfl rfl 3 (by decide) wd_500 rfl rfl dX11_coughs_157 ?_
                            refine gt_callI (wr := [(h0, .inr (11, [.ref tp, .ref ra1, .ref ra2, .ref ra3, .ref ra4, .ref ra5, .ref ra6, .ref ra7, .ref ra8, .ref ra9, .ref ra10, .ref ra11, .ref ra12, .int rc, .int fo, .int xx]))]) (va_runV (As := []) (rest := [.int r_32, .int x75_1]) ⟨hx, hb, hml, hown, ht⟩ (d_lotsHad l G Γ H.size wt hT ra3 kr3) (cwV 0 ht (ts_gV wd_1219 wd_1220 wd_1221 wd_125 wd_1222) rfl rfl rfl (by decide +kernel) ⟨Nat.le_of_ble_eq_true rfl, Nat.le_of_ble_eq_true rfl⟩) (gt_preW (ci := 7) hK hT (tw_right hP) (tw_rightD hD) kr3 (by decide) rfl) rfl rfl hl.1 rfl (lv_room (Nat.le_of_ble_eq_true rfl)) dX11_coughs_160 ⟨Nat.le_of_ble_eq_true rfl, Nat.le_of_ble_eq_true rfl⟩) hP hD hS hA (fun r_33 wt H locs hw hP hD hS => ?_)
                            obtain ⟨hT, hkp⟩ := hw
                            have hW := hW.call (show ∀ x ∈ [], x ∈ [0, 1, 2, 3, 709] by decide) hkp
                            have hP : va_P (gg_D G) classes ([(h0, .inr (11, [.ref tp, .ref ra1, .ref ra2, .ref ra3, .ref ra4, .ref ra5, .ref ra6, .ref ra7, .ref ra8, .ref ra9, .ref ra10, .ref ra11, .ref ra12, .int rc, .int fo, .int xx]))] ++ wt) H := hP
                            have hD : va_D A ([(h0, .inr (11, [.ref tp, .ref ra1, .ref ra2, .ref ra3, .ref ra4, .ref ra5, .ref ra6, .ref ra7, .ref ra8, .ref ra9, .ref ra10, .ref ra11, .ref ra12, .int rc, .int fo, .int xx]))] ++ wt) := hD
                            obtain ⟨t_34, et_34⟩ : ∃ zz_ : Int32, r_32 - r_33 = zz_ := ⟨_, rfl⟩
                            refine gq_isub hx hb t_34 et_34 dX11_coughs_163 ?_
                            refine lv_goto (tgt := 182) hx hb dX11_coughs_164 (by decide) ?_
                            obtain ⟨t_35, et_35⟩ : ∃ zz_ : Int32, x75_1 + t_34 = zz_ := ⟨_, rfl⟩
                            refine gq_iadd hx hb t_35 et_35 dX11_coughs_182 ?_
                            refine lv_istore (lv' := [(5, .int t_35), (7, .int x95_0), (6, .int x75_0), (0, .ref h0), (1, .int b), (2, .int w), (3, .int z), (4, .int y)]) hx hb dX11_coughs_183 hl (by decide) rfl (fun ls hl => ?_)
                            obtain ⟨t_36, et_36⟩ : ∃ zz_ : Int32, x75_0 + Int32.ofInt (1) = zz_ := ⟨_, rfl⟩
                            have ft_36 : t_36.toInt = x75_0.toInt + (1 : Int32).toInt := ia_add (y := 1) et_36 (by omega) (by omega)
                            refine lv_iinc (v := t_36) (lv' := [(6, .int t_36), (5, .int t_35), (7, .int x95_0), (0, .ref h0), (1, .int b), (2, .int w), (3, .int z), (4, .int y)]) hx hb dX11_coughs_185 hl (k := 2) rfl et_36 (by decide) rfl (fun ls hl => ?_)
                            refine lv_goto (tgt := 75) hx hb dX11_coughs_188 (by decide) ?_
                            exact ih75 (t_36, t_35) (show 0 ≤ t_36.toInt ∧ t_36.toInt ≤ 10 from ⟨by omega, by omega⟩) (show (10 - t_36.toInt).toNat < (10 - x75_0.toInt).toNat by omega) H locs wt ls hT hW hP hD hS (lv_sub hl [0, 1, 3, 4, 5, 6, 7] rfl)
                        · rw [← Int32.toInt_inj] at c_25
                          refine lv_aload_n hx hb dX11_coughs_112 rfl (lv_at hl 3 rfl) ?_
                          refine gq_get hx hb ht hown hK hP i_X11 0 rfl rfl 9 (by decide) wd_506 rfl rfl dX11_coughs_113 ?_
                          refine lv_aload_n hx hb dX11_coughs_116 rfl (lv_at hl 3 rfl) ?_
                          refine gq_get hx hb ht hown hK hP i_X11 0 rfl rfl 4 (by decide) wd_501 rfl rfl dX11_coughs_117 ?_
                          refine lv_aload_n hx hb dX11_coughs_120 rfl (lv_at hl 3 rfl) ?_
                          refine gq_get hx hb ht hown hK hP i_X11 0 rfl rfl 9 (by decide) wd_506 rfl rfl dX11_coughs_121 ?_
                          refine lv_aload_n hx hb dX11_coughs_124 rfl (lv_at hl 3 rfl) ?_
                          refine gq_get hx hb ht hown hK hP i_X11 0 rfl rfl 4 (by decide) wd_501 rfl rfl dX11_coughs_125 ?_
                          refine lv_iload_n hx hb dX11_coughs_128 rfl (lv_at hl 6 rfl) ?_
                          refine gt_callI (wr := [(h0, .inr (11, [.ref tp, .ref ra1, .ref ra2, .ref ra3, .ref ra4, .ref ra5, .ref ra6, .ref ra7, .ref ra8, .ref ra9, .ref ra10, .ref ra11, .ref ra12, .int rc, .int fo, .int xx]))]) (va_runV (As := [.ref ra4, .int z]) (rest := [.ref ra4, .ref ra9]) ⟨hx, hb, hml, hown, ht⟩ (d_drawCoughs l G Γ H.size wt hT ra9 ra4 z kr9 kr4) (cwV 2 ht (ts_gV wd_1209 wd_1210 wd_1211 wd_130 wd_1212) rfl rfl rfl (by decide +kernel) ⟨Nat.le_of_ble_eq_true rfl, Nat.le_of_ble_eq_true rfl⟩) (gt_preW (ci := 0) hK hT (tw_right hP) (tw_rightD hD) kr9 (by decide) rfl) rfl rfl hl.1 rfl (lv_room (Nat.le_of_ble_eq_true rfl)) dX11_coughs_129 ⟨Nat.le_of_ble_eq_true rfl, Nat.le_of_ble_eq_true rfl⟩) hP hD hS hA (fun r_37 wt H locs hw hP hD hS => ?_)
                          obtain ⟨hT, hkp⟩ := hw
                          have hW := hW.call (show ∀ x ∈ [3], x ∈ [0, 1, 2, 3, 709] by decide) hkp
                          have hP : va_P (gg_D G) classes ([(h0, .inr (11, [.ref tp, .ref ra1, .ref ra2, .ref ra3, .ref ra4, .ref ra5, .ref ra6, .ref ra7, .ref ra8, .ref ra9, .ref ra10, .ref ra11, .ref ra12, .int rc, .int fo, .int xx]))] ++ wt) H := hP
                          have hD : va_D A ([(h0, .inr (11, [.ref tp, .ref ra1, .ref ra2, .ref ra3, .ref ra4, .ref ra5, .ref ra6, .ref ra7, .ref ra8, .ref ra9, .ref ra10, .ref ra11, .ref ra12, .int rc, .int fo, .int xx]))] ++ wt) := hD
                          refine gt_callI (wr := [(h0, .inr (11, [.ref tp, .ref ra1, .ref ra2, .ref ra3, .ref ra4, .ref ra5, .ref ra6, .ref ra7, .ref ra8, .ref ra9, .ref ra10, .ref ra11, .ref ra12, .int rc, .int fo, .int xx]))]) (va_runV (As := [.ref ra4, .int r_37]) (rest := []) ⟨hx, hb, hml, hown, ht⟩ (d_pass l G Γ H.size wt hT ra9 ra4 r_37 kr9 kr4) (cwV 2 ht (ts_gV wd_876 wd_877 wd_878 wd_130 wd_879) rfl rfl rfl (by decide +kernel) ⟨Nat.le_of_ble_eq_true rfl, Nat.le_of_ble_eq_true rfl⟩) (gt_preW (ci := 0) hK hT (tw_right hP) (tw_rightD hD) kr9 (by decide) rfl) rfl rfl hl.1 rfl (lv_room (Nat.le_of_ble_eq_true rfl)) dX11_coughs_132 ⟨Nat.le_of_ble_eq_true rfl, Nat.le_of_ble_eq_true rfl⟩) hP hD hS hA (fun r_38 wt H locs hw hP hD hS => ?_)
                          obtain ⟨hT, hkp⟩ := hw
                          have hW := hW.call (show ∀ x ∈ [709], x ∈ [0, 1, 2, 3, 709] by decide) hkp
                          have hP : va_P (gg_D G) classes ([(h0, .inr (11, [.ref tp, .ref ra1, .ref ra2, .ref ra3, .ref ra4, .ref ra5, .ref ra6, .ref ra7, .ref ra8, .ref ra9, .ref ra10, .ref ra11, .ref ra12, .int rc, .int fo, .int xx]))] ++ wt) H := hP
                          have hD : va_D A ([(h0, .inr (11, [.ref tp, .ref ra1, .ref ra2, .ref ra3, .ref ra4, .ref ra5, .ref ra6, .ref ra7, .ref ra8, .ref ra9, .ref ra10, .ref ra11, .ref ra12, .int rc, .int fo, .int xx]))] ++ wt) := hD
                          refine lv_pop hx hb dX11_coughs_135 rfl ?_
                          obtain ⟨t_39, et_39⟩ : ∃ zz_ : Int32, x95_0 + Int32.ofInt (1) = zz_ := ⟨_, rfl⟩
                          have ft_39 : t_39.toInt = x95_0.toInt + (1 : Int32).toInt := ia_add (y := 1) et_39 (by omega) (by omega)
                          refine lv_iinc (v := t_39) (lv' := [(7, .int t_39), (6, .int x75_0), (5, .int x75_1), (0, .ref h0), (1, .int b), (2, .int w), (3, .int z), (4, .int y)]) hx hb dX11_coughs_136 hl (k := 0) rfl et_39 (by decide) rfl (fun ls hl => ?_)
                          refine lv_goto (tgt := 95) hx hb dX11_coughs_139 (by decide) ?_
                          exact ih95 t_39 (show 0 ≤ t_39.toInt ∧ t_39.toInt ≤ 60 from ⟨by omega, by omega⟩) (show (60 - t_39.toInt).toNat < (60 - x95_0.toInt).toNat by omega) H locs wt ls hT hW hP hD hS (lv_sub hl [0, 1, 2, 3, 4, 5, 6, 7] rfl)
                  · rw [Int32.le_iff_toInt_le] at c_10
                    refine lv_iconst (v := (-1)) hx hb dX11_coughs_52 (by decide +kernel) ?_
                    have hP9 : va_P (gg_D G) classes ([(h0, .inr (11, [.ref tp, .ref ra1, .ref ra2, .ref ra3, .ref ra4, .ref ra5, .ref ra6, .ref ra7, .ref ra8, .ref ra9, .ref ra10, .ref ra11, .ref ra12, .int rc, .int fo, .int xx]))] ++ wt) _ := hP
                    have hD9 : va_D A ([(h0, .inr (11, [.ref tp, .ref ra1, .ref ra2, .ref ra3, .ref ra4, .ref ra5, .ref ra6, .ref ra7, .ref ra8, .ref ra9, .ref ra10, .ref ra11, .ref ra12, .int rc, .int fo, .int xx]))] ++ wt) := hD
                    exact W.iret (v := (-1)) hx hb hr (gq_endI wt ⟨hT, hW⟩ hP9 hD9 hS) hS.2.2 dX11_coughs_53
          · rw [Int32.le_iff_toInt_le] at c_6
            refine lv_iconst (v := (-1)) hx hb dX11_coughs_29 (by decide +kernel) ?_
            have hP9 : va_P (gg_D G) classes ([(h0, .inr (11, [.ref tp, .ref ra1, .ref ra2, .ref ra3, .ref ra4, .ref ra5, .ref ra6, .ref ra7, .ref ra8, .ref ra9, .ref ra10, .ref ra11, .ref ra12, .int rc, .int fo, .int xx]))] ++ wt) _ := hP
            have hD9 : va_D A ([(h0, .inr (11, [.ref tp, .ref ra1, .ref ra2, .ref ra3, .ref ra4, .ref ra5, .ref ra6, .ref ra7, .ref ra8, .ref ra9, .ref ra10, .ref ra11, .ref ra12, .int rc, .int fo, .int xx]))] ++ wt) := hD
            exact W.iret (v := (-1)) hx hb hr (gq_endI wt ⟨hT, hW⟩ hP9 hD9 hS) hS.2.2 dX11_coughs_30

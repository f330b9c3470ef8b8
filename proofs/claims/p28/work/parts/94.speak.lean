theorem wd_1269 : (Jvm.Cond.fieldLink "SilentSaleModel" (32 : Nat) "SilentSaleModel" "stack" "[J") ∈ tb_L := tb_in (i := 1269) (by decide +kernel) (by decide +kernel)
theorem wd_1270 : (Jvm.Cond.fieldLink "SilentSaleModel" (263 : Nat) "SilentSaleModel" "top" "I") ∈ tb_L := tb_in (i := 1270) (by decide +kernel) (by decide +kernel)
theorem wd_1660 : (Jvm.Cond.code ({ cls := "SilentSaleModel", name := "push", desc := "(J)V" } : Jvm.MethodName) prog_14_method_44_code (3 : Nat) (Option.none : Option Jvm.ClassFile.FieldType)) ∈ tb_L := tb_in (i := 1660) (by decide +kernel) (by decide +kernel)
theorem dX12_push_0 : decode cX12_push 0 = .ok (.aload_n 0, 1) := by decide +kernel
theorem dX12_push_1 : decode cX12_push 1 = .ok (.getfield 32, 3) := by decide +kernel
theorem dX12_push_4 : decode cX12_push 4 = .ok (.aload_n 0, 1) := by decide +kernel
theorem dX12_push_5 : decode cX12_push 5 = .ok (.getfield 263, 3) := by decide +kernel
theorem dX12_push_8 : decode cX12_push 8 = .ok (.lload_n 1, 1) := by decide +kernel
theorem dX12_push_9 : decode cX12_push 9 = .ok (.lastore, 1) := by decide +kernel
theorem dX12_push_10 : decode cX12_push 10 = .ok (.aload_n 0, 1) := by decide +kernel
theorem dX12_push_11 : decode cX12_push 11 = .ok (.dup, 1) := by decide +kernel
theorem dX12_push_12 : decode cX12_push 12 = .ok (.getfield 263, 3) := by decide +kernel
theorem dX12_push_15 : decode cX12_push 15 = .ok (.iconst 1, 1) := by decide +kernel
theorem dX12_push_16 : decode cX12_push 16 = .ok (.iadd, 1) := by decide +kernel
theorem dX12_push_17 : decode cX12_push 17 = .ok (.putfield 263, 3) := by decide +kernel
theorem dX12_push_20 : decode cX12_push 20 = .ok (.return_, 1) := by decide +kernel
theorem wd_1664 : (Jvm.Cond.code ({ cls := "SilentSaleModel", name := "pop", desc := "()J" } : Jvm.MethodName) prog_14_method_45_code (1 : Nat) (Option.some Jvm.ClassFile.FieldType.long)) ∈ tb_L := tb_in (i := 1664) (by decide +kernel) (by decide +kernel)
theorem dX12_pop_0 : decode cX12_pop 0 = .ok (.aload_n 0, 1) := by decide +kernel
theorem dX12_pop_1 : decode cX12_pop 1 = .ok (.dup, 1) := by decide +kernel
theorem dX12_pop_2 : decode cX12_pop 2 = .ok (.getfield 263, 3) := by decide +kernel
theorem dX12_pop_5 : decode cX12_pop 5 = .ok (.iconst 1, 1) := by decide +kernel
theorem dX12_pop_6 : decode cX12_pop 6 = .ok (.isub, 1) := by decide +kernel
theorem dX12_pop_7 : decode cX12_pop 7 = .ok (.putfield 263, 3) := by decide +kernel
theorem dX12_pop_10 : decode cX12_pop 10 = .ok (.aload_n 0, 1) := by decide +kernel
theorem dX12_pop_11 : decode cX12_pop 11 = .ok (.getfield 32, 3) := by decide +kernel
theorem dX12_pop_14 : decode cX12_pop 14 = .ok (.aload_n 0, 1) := by decide +kernel
theorem dX12_pop_15 : decode cX12_pop 15 = .ok (.getfield 263, 3) := by decide +kernel
theorem dX12_pop_18 : decode cX12_pop 18 = .ok (.laload, 1) := by decide +kernel
theorem dX12_pop_19 : decode cX12_pop 19 = .ok (.lreturn, 1) := by decide +kernel
theorem wd_1667 : (Jvm.Cond.code ({ cls := "SilentSaleModel", name := "one", desc := "(IJJ)J" } : Jvm.MethodName) prog_14_method_46_code (5 : Nat) (Option.some Jvm.ClassFile.FieldType.long)) ∈ tb_L := tb_in (i := 1667) (by decide +kernel) (by decide +kernel)
theorem dX12_one_0 : decode cX12_one 0 = .ok (.iload_n 0, 1) := by decide +kernel
theorem dX12_one_1 : decode cX12_one 1 = .ok (.tableswitch 171 2 14 #[67, 71, 75, 79, 107, 119, 131, 143, 155, 171, 167, 171, 93], 67) := by decide +kernel
theorem dX12_one_68 : decode cX12_one 68 = .ok (.lload_n 1, 1) := by decide +kernel
theorem dX12_one_69 : decode cX12_one 69 = .ok (.lload_n 3, 1) := by decide +kernel
theorem dX12_one_70 : decode cX12_one 70 = .ok (.ladd, 1) := by decide +kernel
theorem dX12_one_71 : decode cX12_one 71 = .ok (.lreturn, 1) := by decide +kernel
theorem dX12_one_72 : decode cX12_one 72 = .ok (.lload_n 1, 1) := by decide +kernel
theorem dX12_one_73 : decode cX12_one 73 = .ok (.lload_n 3, 1) := by decide +kernel
theorem dX12_one_74 : decode cX12_one 74 = .ok (.lsub, 1) := by decide +kernel
theorem dX12_one_75 : decode cX12_one 75 = .ok (.lreturn, 1) := by decide +kernel
theorem dX12_one_76 : decode cX12_one 76 = .ok (.lload_n 1, 1) := by decide +kernel
theorem dX12_one_77 : decode cX12_one 77 = .ok (.lload_n 3, 1) := by decide +kernel
theorem dX12_one_78 : decode cX12_one 78 = .ok (.lmul, 1) := by decide +kernel
theorem dX12_one_79 : decode cX12_one 79 = .ok (.lreturn, 1) := by decide +kernel
theorem dX12_one_80 : decode cX12_one 80 = .ok (.lload_n 3, 1) := by decide +kernel
theorem dX12_one_81 : decode cX12_one 81 = .ok (.lconst 0, 1) := by decide +kernel
theorem dX12_one_82 : decode cX12_one 82 = .ok (.lcmp, 1) := by decide +kernel
theorem dX12_one_83 : decode cX12_one 83 = .ok (.ifCond .ne 7, 3) := by decide +kernel
theorem dX12_one_86 : decode cX12_one 86 = .ok (.lconst 0, 1) := by decide +kernel
theorem dX12_one_87 : decode cX12_one 87 = .ok (.goto 6, 3) := by decide +kernel
theorem dX12_one_90 : decode cX12_one 90 = .ok (.lload_n 1, 1) := by decide +kernel
theorem dX12_one_91 : decode cX12_one 91 = .ok (.lload_n 3, 1) := by decide +kernel
theorem dX12_one_92 : decode cX12_one 92 = .ok (.ldiv, 1) := by decide +kernel
theorem dX12_one_93 : decode cX12_one 93 = .ok (.lreturn, 1) := by decide +kernel
theorem dX12_one_94 : decode cX12_one 94 = .ok (.lload_n 3, 1) := by decide +kernel
theorem dX12_one_95 : decode cX12_one 95 = .ok (.lconst 0, 1) := by decide +kernel
theorem dX12_one_96 : decode cX12_one 96 = .ok (.lcmp, 1) := by decide +kernel
theorem dX12_one_97 : decode cX12_one 97 = .ok (.ifCond .ne 7, 3) := by decide +kernel
theorem dX12_one_100 : decode cX12_one 100 = .ok (.lconst 0, 1) := by decide +kernel
theorem dX12_one_101 : decode cX12_one 101 = .ok (.goto 6, 3) := by decide +kernel
theorem dX12_one_104 : decode cX12_one 104 = .ok (.lload_n 1, 1) := by decide +kernel
theorem dX12_one_105 : decode cX12_one 105 = .ok (.lload_n 3, 1) := by decide +kernel
theorem dX12_one_106 : decode cX12_one 106 = .ok (.lrem, 1) := by decide +kernel
theorem dX12_one_107 : decode cX12_one 107 = .ok (.lreturn, 1) := by decide +kernel
theorem dX12_one_108 : decode cX12_one 108 = .ok (.lload_n 1, 1) := by decide +kernel
theorem dX12_one_109 : decode cX12_one 109 = .ok (.lload_n 3, 1) := by decide +kernel
theorem dX12_one_110 : decode cX12_one 110 = .ok (.lcmp, 1) := by decide +kernel
theorem dX12_one_111 : decode cX12_one 111 = .ok (.ifCond .ge 7, 3) := by decide +kernel
theorem dX12_one_114 : decode cX12_one 114 = .ok (.lconst 1, 1) := by decide +kernel
theorem dX12_one_115 : decode cX12_one 115 = .ok (.goto 4, 3) := by decide +kernel
theorem dX12_one_118 : decode cX12_one 118 = .ok (.lconst 0, 1) := by decide +kernel
theorem dX12_one_119 : decode cX12_one 119 = .ok (.lreturn, 1) := by decide +kernel
theorem dX12_one_120 : decode cX12_one 120 = .ok (.lload_n 1, 1) := by decide +kernel
theorem dX12_one_121 : decode cX12_one 121 = .ok (.lload_n 3, 1) := by decide +kernel
theorem dX12_one_122 : decode cX12_one 122 = .ok (.lcmp, 1) := by decide +kernel
theorem dX12_one_123 : decode cX12_one 123 = .ok (.ifCond .gt 7, 3) := by decide +kernel
theorem dX12_one_126 : decode cX12_one 126 = .ok (.lconst 1, 1) := by decide +kernel
theorem dX12_one_127 : decode cX12_one 127 = .ok (.goto 4, 3) := by decide +kernel
theorem dX12_one_130 : decode cX12_one 130 = .ok (.lconst 0, 1) := by decide +kernel
theorem dX12_one_131 : decode cX12_one 131 = .ok (.lreturn, 1) := by decide +kernel
theorem dX12_one_132 : decode cX12_one 132 = .ok (.lload_n 1, 1) := by decide +kernel
theorem dX12_one_133 : decode cX12_one 133 = .ok (.lload_n 3, 1) := by decide +kernel
theorem dX12_one_134 : decode cX12_one 134 = .ok (.lcmp, 1) := by decide +kernel
theorem dX12_one_135 : decode cX12_one 135 = .ok (.ifCond .ne 7, 3) := by decide +kernel
theorem dX12_one_138 : decode cX12_one 138 = .ok (.lconst 1, 1) := by decide +kernel
theorem dX12_one_139 : decode cX12_one 139 = .ok (.goto 4, 3) := by decide +kernel
theorem dX12_one_142 : decode cX12_one 142 = .ok (.lconst 0, 1) := by decide +kernel
theorem dX12_one_143 : decode cX12_one 143 = .ok (.lreturn, 1) := by decide +kernel
theorem dX12_one_144 : decode cX12_one 144 = .ok (.lload_n 1, 1) := by decide +kernel
theorem dX12_one_145 : decode cX12_one 145 = .ok (.lload_n 3, 1) := by decide +kernel
theorem dX12_one_146 : decode cX12_one 146 = .ok (.lcmp, 1) := by decide +kernel
theorem dX12_one_147 : decode cX12_one 147 = .ok (.ifCond .lt 7, 3) := by decide +kernel
theorem dX12_one_150 : decode cX12_one 150 = .ok (.lconst 1, 1) := by decide +kernel
theorem dX12_one_151 : decode cX12_one 151 = .ok (.goto 4, 3) := by decide +kernel
theorem dX12_one_154 : decode cX12_one 154 = .ok (.lconst 0, 1) := by decide +kernel
theorem dX12_one_155 : decode cX12_one 155 = .ok (.lreturn, 1) := by decide +kernel
theorem dX12_one_156 : decode cX12_one 156 = .ok (.lload_n 1, 1) := by decide +kernel
theorem dX12_one_157 : decode cX12_one 157 = .ok (.lload_n 3, 1) := by decide +kernel
theorem dX12_one_158 : decode cX12_one 158 = .ok (.lcmp, 1) := by decide +kernel
theorem dX12_one_159 : decode cX12_one 159 = .ok (.ifCond .le 7, 3) := by decide +kernel
theorem dX12_one_162 : decode cX12_one 162 = .ok (.lconst 1, 1) := by decide +kernel
theorem dX12_one_163 : decode cX12_one 163 = .ok (.goto 4, 3) := by decide +kernel
theorem dX12_one_166 : decode cX12_one 166 = .ok (.lconst 0, 1) := by decide +kernel
theorem dX12_one_167 : decode cX12_one 167 = .ok (.lreturn, 1) := by decide +kernel
theorem dX12_one_168 : decode cX12_one 168 = .ok (.lload_n 1, 1) := by decide +kernel
theorem dX12_one_169 : decode cX12_one 169 = .ok (.lload_n 3, 1) := by decide +kernel
theorem dX12_one_170 : decode cX12_one 170 = .ok (.land, 1) := by decide +kernel
theorem dX12_one_171 : decode cX12_one 171 = .ok (.lreturn, 1) := by decide +kernel
theorem dX12_one_172 : decode cX12_one 172 = .ok (.lload_n 1, 1) := by decide +kernel
theorem dX12_one_173 : decode cX12_one 173 = .ok (.lload_n 3, 1) := by decide +kernel
theorem dX12_one_174 : decode cX12_one 174 = .ok (.lor, 1) := by decide +kernel
theorem dX12_one_175 : decode cX12_one 175 = .ok (.lreturn, 1) := by decide +kernel
theorem wd_92 : (Jvm.Cond.selects "SilentSaleModel" ({ cls := "SilentSaleModel", name := "push", desc := "(J)V" } : Jvm.MethodName) ({ cls := "SilentSaleModel", name := "push", desc := "(J)V" } : Jvm.MethodName)) ∈ tb_L := tb_in (i := 92) (by decide +kernel) (by decide +kernel)
theorem wd_93 : (Jvm.Cond.selects "SilentSaleModel" ({ cls := "SilentSaleModel", name := "pop", desc := "()J" } : Jvm.MethodName) ({ cls := "SilentSaleModel", name := "pop", desc := "()J" } : Jvm.MethodName)) ∈ tb_L := tb_in (i := 93) (by decide +kernel) (by decide +kernel)
theorem wd_1255 : (Jvm.Cond.fieldLink "SilentSaleModel" (13 : Nat) "SilentSaleModel" "sign" "[I") ∈ tb_L := tb_in (i := 1255) (by decide +kernel) (by decide +kernel)
theorem wd_1271 : (Jvm.Cond.fieldLink "SilentSaleModel" (36 : Nat) "SilentSaleModel" "word" "[J") ∈ tb_L := tb_in (i := 1271) (by decide +kernel) (by decide +kernel)
theorem wd_1656 : (Jvm.Cond.code ({ cls := "SilentSaleModel", name := "reckons", desc := "(III)J" } : Jvm.MethodName) prog_14_method_47_code (11 : Nat) (Option.some Jvm.ClassFile.FieldType.long)) ∈ tb_L := tb_in (i := 1656) (by decide +kernel) (by decide +kernel)
theorem wd_1657 : (Jvm.Cond.methodLink "SilentSaleModel" (266 : Nat) ({ cls := "SilentSaleModel", name := "push", desc := "(J)V" } : Jvm.MethodName)) ∈ tb_L := tb_in (i := 1657) (by decide +kernel) (by decide +kernel)
theorem wd_1659 : (Jvm.Cond.instanceMethod ({ cls := "SilentSaleModel", name := "push", desc := "(J)V" } : Jvm.MethodName)) ∈ tb_L := tb_in (i := 1659) (by decide +kernel) (by decide +kernel)
theorem wd_1661 : (Jvm.Cond.methodLink "SilentSaleModel" (270 : Nat) ({ cls := "SilentSaleModel", name := "pop", desc := "()J" } : Jvm.MethodName)) ∈ tb_L := tb_in (i := 1661) (by decide +kernel) (by decide +kernel)
theorem wd_1663 : (Jvm.Cond.instanceMethod ({ cls := "SilentSaleModel", name := "pop", desc := "()J" } : Jvm.MethodName)) ∈ tb_L := tb_in (i := 1663) (by decide +kernel) (by decide +kernel)
theorem wd_1665 : (Jvm.Cond.methodLink "SilentSaleModel" (274 : Nat) ({ cls := "SilentSaleModel", name := "one", desc := "(IJJ)J" } : Jvm.MethodName)) ∈ tb_L := tb_in (i := 1665) (by decide +kernel) (by decide +kernel)
theorem wd_1666 : (Jvm.Cond.static ({ cls := "SilentSaleModel", name := "one", desc := "(IJJ)J" } : Jvm.MethodName)) ∈ tb_L := tb_in (i := 1666) (by decide +kernel) (by decide +kernel)
theorem dX12_reckons_0 : decode cX12_reckons 0 = .ok (.aload_n 0, 1) := by decide +kernel
theorem dX12_reckons_1 : decode cX12_reckons 1 = .ok (.iconst 0, 1) := by decide +kernel
theorem dX12_reckons_2 : decode cX12_reckons 2 = .ok (.putfield 263, 3) := by decide +kernel
theorem dX12_reckons_5 : decode cX12_reckons 5 = .ok (.iload_n 2, 1) := by decide +kernel
theorem dX12_reckons_6 : decode cX12_reckons 6 = .ok (.istore 4, 2) := by decide +kernel
theorem dX12_reckons_8 : decode cX12_reckons 8 = .ok (.iload 4, 2) := by decide +kernel
theorem dX12_reckons_10 : decode cX12_reckons 10 = .ok (.iload_n 3, 1) := by decide +kernel
theorem dX12_reckons_11 : decode cX12_reckons 11 = .ok (.if_icmp .ge 124, 3) := by decide +kernel
theorem dX12_reckons_14 : decode cX12_reckons 14 = .ok (.aload_n 0, 1) := by decide +kernel
theorem dX12_reckons_15 : decode cX12_reckons 15 = .ok (.getfield 13, 3) := by decide +kernel
theorem dX12_reckons_18 : decode cX12_reckons 18 = .ok (.sipush 400, 3) := by decide +kernel
theorem dX12_reckons_21 : decode cX12_reckons 21 = .ok (.iload_n 1, 1) := by decide +kernel
theorem dX12_reckons_22 : decode cX12_reckons 22 = .ok (.imul, 1) := by decide +kernel
theorem dX12_reckons_23 : decode cX12_reckons 23 = .ok (.iload 4, 2) := by decide +kernel
theorem dX12_reckons_25 : decode cX12_reckons 25 = .ok (.iadd, 1) := by decide +kernel
theorem dX12_reckons_26 : decode cX12_reckons 26 = .ok (.iaload, 1) := by decide +kernel
theorem dX12_reckons_27 : decode cX12_reckons 27 = .ok (.bipush 15, 2) := by decide +kernel
theorem dX12_reckons_29 : decode cX12_reckons 29 = .ok (.iand, 1) := by decide +kernel
theorem dX12_reckons_30 : decode cX12_reckons 30 = .ok (.istore 5, 2) := by decide +kernel
theorem dX12_reckons_32 : decode cX12_reckons 32 = .ok (.aload_n 0, 1) := by decide +kernel
theorem dX12_reckons_33 : decode cX12_reckons 33 = .ok (.getfield 13, 3) := by decide +kernel
theorem dX12_reckons_36 : decode cX12_reckons 36 = .ok (.sipush 400, 3) := by decide +kernel
theorem dX12_reckons_39 : decode cX12_reckons 39 = .ok (.iload_n 1, 1) := by decide +kernel
theorem dX12_reckons_40 : decode cX12_reckons 40 = .ok (.imul, 1) := by decide +kernel
theorem dX12_reckons_41 : decode cX12_reckons 41 = .ok (.iload 4, 2) := by decide +kernel
theorem dX12_reckons_43 : decode cX12_reckons 43 = .ok (.iadd, 1) := by decide +kernel
theorem dX12_reckons_44 : decode cX12_reckons 44 = .ok (.iaload, 1) := by decide +kernel
theorem dX12_reckons_45 : decode cX12_reckons 45 = .ok (.iconst 4, 1) := by decide +kernel
theorem dX12_reckons_46 : decode cX12_reckons 46 = .ok (.ishr, 1) := by decide +kernel
theorem dX12_reckons_47 : decode cX12_reckons 47 = .ok (.istore 6, 2) := by decide +kernel
theorem dX12_reckons_49 : decode cX12_reckons 49 = .ok (.iload 5, 2) := by decide +kernel
theorem dX12_reckons_51 : decode cX12_reckons 51 = .ok (.ifCond .ne 13, 3) := by decide +kernel
theorem dX12_reckons_54 : decode cX12_reckons 54 = .ok (.aload_n 0, 1) := by decide +kernel
theorem dX12_reckons_55 : decode cX12_reckons 55 = .ok (.iload 6, 2) := by decide +kernel
theorem dX12_reckons_57 : decode cX12_reckons 57 = .ok (.i2l, 1) := by decide +kernel
theorem dX12_reckons_58 : decode cX12_reckons 58 = .ok (.invokevirtual 266, 3) := by decide +kernel
theorem dX12_reckons_61 : decode cX12_reckons 61 = .ok (.goto 68, 3) := by decide +kernel
theorem dX12_reckons_64 : decode cX12_reckons 64 = .ok (.iload 5, 2) := by decide +kernel
theorem dX12_reckons_66 : decode cX12_reckons 66 = .ok (.iconst 1, 1) := by decide +kernel
theorem dX12_reckons_67 : decode cX12_reckons 67 = .ok (.if_icmp .ne 17, 3) := by decide +kernel
theorem dX12_reckons_70 : decode cX12_reckons 70 = .ok (.aload_n 0, 1) := by decide +kernel
theorem dX12_reckons_71 : decode cX12_reckons 71 = .ok (.aload_n 0, 1) := by decide +kernel
theorem dX12_reckons_72 : decode cX12_reckons 72 = .ok (.getfield 36, 3) := by decide +kernel
theorem dX12_reckons_75 : decode cX12_reckons 75 = .ok (.iload 6, 2) := by decide +kernel
theorem dX12_reckons_77 : decode cX12_reckons 77 = .ok (.laload, 1) := by decide +kernel
theorem dX12_reckons_78 : decode cX12_reckons 78 = .ok (.invokevirtual 266, 3) := by decide +kernel
theorem dX12_reckons_81 : decode cX12_reckons 81 = .ok (.goto 48, 3) := by decide +kernel
theorem dX12_reckons_84 : decode cX12_reckons 84 = .ok (.iload 5, 2) := by decide +kernel
theorem dX12_reckons_86 : decode cX12_reckons 86 = .ok (.bipush 11, 2) := by decide +kernel
theorem dX12_reckons_88 : decode cX12_reckons 88 = .ok (.if_icmp .ne 16, 3) := by decide +kernel
theorem dX12_reckons_91 : decode cX12_reckons 91 = .ok (.aload_n 0, 1) := by decide +kernel
theorem dX12_reckons_92 : decode cX12_reckons 92 = .ok (.lconst 1, 1) := by decide +kernel
theorem dX12_reckons_93 : decode cX12_reckons 93 = .ok (.aload_n 0, 1) := by decide +kernel
theorem dX12_reckons_94 : decode cX12_reckons 94 = .ok (.invokevirtual 270, 3) := by decide +kernel
theorem dX12_reckons_97 : decode cX12_reckons 97 = .ok (.lsub, 1) := by decide +kernel
theorem dX12_reckons_98 : decode cX12_reckons 98 = .ok (.invokevirtual 266, 3) := by decide +kernel
theorem dX12_reckons_101 : decode cX12_reckons 101 = .ok (.goto 28, 3) := by decide +kernel
theorem dX12_reckons_104 : decode cX12_reckons 104 = .ok (.aload_n 0, 1) := by decide +kernel
theorem dX12_reckons_105 : decode cX12_reckons 105 = .ok (.invokevirtual 270, 3) := by decide +kernel
theorem dX12_reckons_108 : decode cX12_reckons 108 = .ok (.lstore 7, 2) := by decide +kernel
theorem dX12_reckons_110 : decode cX12_reckons 110 = .ok (.aload_n 0, 1) := by decide +kernel
theorem dX12_reckons_111 : decode cX12_reckons 111 = .ok (.invokevirtual 270, 3) := by decide +kernel
theorem dX12_reckons_114 : decode cX12_reckons 114 = .ok (.lstore 9, 2) := by decide +kernel
theorem dX12_reckons_116 : decode cX12_reckons 116 = .ok (.aload_n 0, 1) := by decide +kernel
theorem dX12_reckons_117 : decode cX12_reckons 117 = .ok (.iload 5, 2) := by decide +kernel
theorem dX12_reckons_119 : decode cX12_reckons 119 = .ok (.lload 9, 2) := by decide +kernel
theorem dX12_reckons_121 : decode cX12_reckons 121 = .ok (.lload 7, 2) := by decide +kernel
theorem dX12_reckons_123 : decode cX12_reckons 123 = .ok (.invokestatic 274, 3) := by decide +kernel
theorem dX12_reckons_126 : decode cX12_reckons 126 = .ok (.invokevirtual 266, 3) := by decide +kernel
theorem dX12_reckons_129 : decode cX12_reckons 129 = .ok (.iinc 4 1, 3) := by decide +kernel
theorem dX12_reckons_132 : decode cX12_reckons 132 = .ok (.goto (-124), 3) := by decide +kernel
theorem dX12_reckons_135 : decode cX12_reckons 135 = .ok (.aload_n 0, 1) := by decide +kernel
theorem dX12_reckons_136 : decode cX12_reckons 136 = .ok (.invokevirtual 270, 3) := by decide +kernel
theorem dX12_reckons_139 : decode cX12_reckons 139 = .ok (.lreturn, 1) := by decide +kernel
theorem wd_91 : (Jvm.Cond.selects "SilentSaleModel" ({ cls := "SilentSaleModel", name := "reckons", desc := "(III)J" } : Jvm.MethodName) ({ cls := "SilentSaleModel", name := "reckons", desc := "(III)J" } : Jvm.MethodName)) ∈ tb_L := tb_in (i := 91) (by decide +kernel) (by decide +kernel)
theorem wd_1257 : (Jvm.Cond.fieldLink "SilentSaleModel" (20 : Nat) "SilentSaleModel" "clause" "[I") ∈ tb_L := tb_in (i := 1257) (by decide +kernel) (by decide +kernel)
theorem wd_1258 : (Jvm.Cond.fieldLink "SilentSaleModel" (23 : Nat) "SilentSaleModel" "clauses" "[I") ∈ tb_L := tb_in (i := 1258) (by decide +kernel) (by decide +kernel)
theorem wd_1652 : (Jvm.Cond.code ({ cls := "SilentSaleModel", name := "summedBy", desc := "(I)J" } : Jvm.MethodName) prog_14_method_68_code (4 : Nat) (Option.some Jvm.ClassFile.FieldType.long)) ∈ tb_L := tb_in (i := 1652) (by decide +kernel) (by decide +kernel)
theorem wd_1653 : (Jvm.Cond.methodLink "SilentSaleModel" (322 : Nat) ({ cls := "SilentSaleModel", name := "reckons", desc := "(III)J" } : Jvm.MethodName)) ∈ tb_L := tb_in (i := 1653) (by decide +kernel) (by decide +kernel)
theorem wd_1655 : (Jvm.Cond.instanceMethod ({ cls := "SilentSaleModel", name := "reckons", desc := "(III)J" } : Jvm.MethodName)) ∈ tb_L := tb_in (i := 1655) (by decide +kernel) (by decide +kernel)
theorem dX12_summedBy_0 : decode cX12_summedBy 0 = .ok (.iconst 0, 1) := by decide +kernel
theorem dX12_summedBy_1 : decode cX12_summedBy 1 = .ok (.istore_n 2, 1) := by decide +kernel
theorem dX12_summedBy_2 : decode cX12_summedBy 2 = .ok (.iload_n 2, 1) := by decide +kernel
theorem dX12_summedBy_3 : decode cX12_summedBy 3 = .ok (.aload_n 0, 1) := by decide +kernel
theorem dX12_summedBy_4 : decode cX12_summedBy 4 = .ok (.getfield 23, 3) := by decide +kernel
theorem dX12_summedBy_7 : decode cX12_summedBy 7 = .ok (.iload_n 1, 1) := by decide +kernel
theorem dX12_summedBy_8 : decode cX12_summedBy 8 = .ok (.iaload, 1) := by decide +kernel
theorem dX12_summedBy_9 : decode cX12_summedBy 9 = .ok (.if_icmp .ge 75, 3) := by decide +kernel
theorem dX12_summedBy_12 : decode cX12_summedBy 12 = .ok (.bipush 48, 2) := by decide +kernel
theorem dX12_summedBy_14 : decode cX12_summedBy 14 = .ok (.iload_n 1, 1) := by decide +kernel
theorem dX12_summedBy_15 : decode cX12_summedBy 15 = .ok (.imul, 1) := by decide +kernel
theorem dX12_summedBy_16 : decode cX12_summedBy 16 = .ok (.iconst 4, 1) := by decide +kernel
theorem dX12_summedBy_17 : decode cX12_summedBy 17 = .ok (.iload_n 2, 1) := by decide +kernel
theorem dX12_summedBy_18 : decode cX12_summedBy 18 = .ok (.imul, 1) := by decide +kernel
theorem dX12_summedBy_19 : decode cX12_summedBy 19 = .ok (.iadd, 1) := by decide +kernel
theorem dX12_summedBy_20 : decode cX12_summedBy 20 = .ok (.istore_n 3, 1) := by decide +kernel
theorem dX12_summedBy_21 : decode cX12_summedBy 21 = .ok (.aload_n 0, 1) := by decide +kernel
theorem dX12_summedBy_22 : decode cX12_summedBy 22 = .ok (.getfield 20, 3) := by decide +kernel
theorem dX12_summedBy_25 : decode cX12_summedBy 25 = .ok (.iload_n 3, 1) := by decide +kernel
theorem dX12_summedBy_26 : decode cX12_summedBy 26 = .ok (.iconst 2, 1) := by decide +kernel
theorem dX12_summedBy_27 : decode cX12_summedBy 27 = .ok (.iadd, 1) := by decide +kernel
theorem dX12_summedBy_28 : decode cX12_summedBy 28 = .ok (.iaload, 1) := by decide +kernel
theorem dX12_summedBy_29 : decode cX12_summedBy 29 = .ok (.ifCond .lt 29, 3) := by decide +kernel
theorem dX12_summedBy_32 : decode cX12_summedBy 32 = .ok (.aload_n 0, 1) := by decide +kernel
theorem dX12_summedBy_33 : decode cX12_summedBy 33 = .ok (.iload_n 1, 1) := by decide +kernel
theorem dX12_summedBy_34 : decode cX12_summedBy 34 = .ok (.aload_n 0, 1) := by decide +kernel
theorem dX12_summedBy_35 : decode cX12_summedBy 35 = .ok (.getfield 20, 3) := by decide +kernel
theorem dX12_summedBy_38 : decode cX12_summedBy 38 = .ok (.iload_n 3, 1) := by decide +kernel
theorem dX12_summedBy_39 : decode cX12_summedBy 39 = .ok (.iconst 2, 1) := by decide +kernel
theorem dX12_summedBy_40 : decode cX12_summedBy 40 = .ok (.iadd, 1) := by decide +kernel
theorem dX12_summedBy_41 : decode cX12_summedBy 41 = .ok (.iaload, 1) := by decide +kernel
theorem dX12_summedBy_42 : decode cX12_summedBy 42 = .ok (.aload_n 0, 1) := by decide +kernel
theorem dX12_summedBy_43 : decode cX12_summedBy 43 = .ok (.getfield 20, 3) := by decide +kernel
theorem dX12_summedBy_46 : decode cX12_summedBy 46 = .ok (.iload_n 3, 1) := by decide +kernel
theorem dX12_summedBy_47 : decode cX12_summedBy 47 = .ok (.iconst 3, 1) := by decide +kernel
theorem dX12_summedBy_48 : decode cX12_summedBy 48 = .ok (.iadd, 1) := by decide +kernel
theorem dX12_summedBy_49 : decode cX12_summedBy 49 = .ok (.iaload, 1) := by decide +kernel
theorem dX12_summedBy_50 : decode cX12_summedBy 50 = .ok (.invokevirtual 322, 3) := by decide +kernel
theorem dX12_summedBy_53 : decode cX12_summedBy 53 = .ok (.lconst 1, 1) := by decide +kernel
theorem dX12_summedBy_54 : decode cX12_summedBy 54 = .ok (.lcmp, 1) := by decide +kernel
theorem dX12_summedBy_55 : decode cX12_summedBy 55 = .ok (.ifCond .ne 23, 3) := by decide +kernel
theorem dX12_summedBy_58 : decode cX12_summedBy 58 = .ok (.aload_n 0, 1) := by decide +kernel
theorem dX12_summedBy_59 : decode cX12_summedBy 59 = .ok (.iload_n 1, 1) := by decide +kernel
theorem dX12_summedBy_60 : decode cX12_summedBy 60 = .ok (.aload_n 0, 1) := by decide +kernel
theorem dX12_summedBy_61 : decode cX12_summedBy 61 = .ok (.getfield 20, 3) := by decide +kernel
theorem dX12_summedBy_64 : decode cX12_summedBy 64 = .ok (.iload_n 3, 1) := by decide +kernel
theorem dX12_summedBy_65 : decode cX12_summedBy 65 = .ok (.iaload, 1) := by decide +kernel
theorem dX12_summedBy_66 : decode cX12_summedBy 66 = .ok (.aload_n 0, 1) := by decide +kernel
theorem dX12_summedBy_67 : decode cX12_summedBy 67 = .ok (.getfield 20, 3) := by decide +kernel
theorem dX12_summedBy_70 : decode cX12_summedBy 70 = .ok (.iload_n 3, 1) := by decide +kernel
theorem dX12_summedBy_71 : decode cX12_summedBy 71 = .ok (.iconst 1, 1) := by decide +kernel
theorem dX12_summedBy_72 : decode cX12_summedBy 72 = .ok (.iadd, 1) := by decide +kernel
theorem dX12_summedBy_73 : decode cX12_summedBy 73 = .ok (.iaload, 1) := by decide +kernel
theorem dX12_summedBy_74 : decode cX12_summedBy 74 = .ok (.invokevirtual 322, 3) := by decide +kernel
theorem dX12_summedBy_77 : decode cX12_summedBy 77 = .ok (.lreturn, 1) := by decide +kernel
theorem dX12_summedBy_78 : decode cX12_summedBy 78 = .ok (.iinc 2 1, 3) := by decide +kernel
theorem dX12_summedBy_81 : decode cX12_summedBy 81 = .ok (.goto (-79), 3) := by decide +kernel
theorem dX12_summedBy_84 : decode cX12_summedBy 84 = .ok (.lconst 0, 1) := by decide +kernel
theorem dX12_summedBy_85 : decode cX12_summedBy 85 = .ok (.lreturn, 1) := by decide +kernel
theorem wd_81 : (Jvm.Cond.selects "SilentSaleModel" ({ cls := "SilentSaleModel", name := "silentBy", desc := "(I)I" } : Jvm.MethodName) ({ cls := "SilentSaleModel", name := "silentBy", desc := "(I)I" } : Jvm.MethodName)) ∈ tb_L := tb_in (i := 81) (by decide +kernel) (by decide +kernel)
theorem wd_84 : (Jvm.Cond.selects "SilentSaleModel" ({ cls := "SilentSaleModel", name := "lotsIn", desc := "(I)I" } : Jvm.MethodName) ({ cls := "SilentSaleModel", name := "lotsIn", desc := "(I)I" } : Jvm.MethodName)) ∈ tb_L := tb_in (i := 84) (by decide +kernel) (by decide +kernel)
theorem wd_1591 : (Jvm.Cond.methodLink "SilentSaleModel" (316 : Nat) ({ cls := "SilentSaleModel", name := "silentBy", desc := "(I)I" } : Jvm.MethodName)) ∈ tb_L := tb_in (i := 1591) (by decide +kernel) (by decide +kernel)
theorem wd_1593 : (Jvm.Cond.instanceMethod ({ cls := "SilentSaleModel", name := "silentBy", desc := "(I)I" } : Jvm.MethodName)) ∈ tb_L := tb_in (i := 1593) (by decide +kernel) (by decide +kernel)
theorem wd_1619 : (Jvm.Cond.methodLink "SilentSaleModel" (329 : Nat) ({ cls := "SilentSaleModel", name := "lotsIn", desc := "(I)I" } : Jvm.MethodName)) ∈ tb_L := tb_in (i := 1619) (by decide +kernel) (by decide +kernel)
theorem wd_1621 : (Jvm.Cond.instanceMethod ({ cls := "SilentSaleModel", name := "lotsIn", desc := "(I)I" } : Jvm.MethodName)) ∈ tb_L := tb_in (i := 1621) (by decide +kernel) (by decide +kernel)
theorem wd_1645 : (Jvm.Cond.code ({ cls := "SilentSaleModel", name := "words", desc := "(II)V" } : Jvm.MethodName) prog_14_method_69_code (6 : Nat) (Option.none : Option Jvm.ClassFile.FieldType)) ∈ tb_L := tb_in (i := 1645) (by decide +kernel) (by decide +kernel)
theorem dX12_words_0 : decode cX12_words 0 = .ok (.aload_n 0, 1) := by decide +kernel
theorem dX12_words_1 : decode cX12_words 1 = .ok (.iload_n 2, 1) := by decide +kernel
theorem dX12_words_2 : decode cX12_words 2 = .ok (.invokevirtual 316, 3) := by decide +kernel
theorem dX12_words_5 : decode cX12_words 5 = .ok (.iconst 1, 1) := by decide +kernel
theorem dX12_words_6 : decode cX12_words 6 = .ok (.iload_n 1, 1) := by decide +kernel
theorem dX12_words_7 : decode cX12_words 7 = .ok (.ishl, 1) := by decide +kernel
theorem dX12_words_8 : decode cX12_words 8 = .ok (.iconst (-1), 1) := by decide +kernel
theorem dX12_words_9 : decode cX12_words 9 = .ok (.ixor, 1) := by decide +kernel
theorem dX12_words_10 : decode cX12_words 10 = .ok (.iand, 1) := by decide +kernel
theorem dX12_words_11 : decode cX12_words 11 = .ok (.istore_n 3, 1) := by decide +kernel
theorem dX12_words_12 : decode cX12_words 12 = .ok (.iconst 0, 1) := by decide +kernel
theorem dX12_words_13 : decode cX12_words 13 = .ok (.istore 4, 2) := by decide +kernel
theorem dX12_words_15 : decode cX12_words 15 = .ok (.iconst 0, 1) := by decide +kernel
theorem dX12_words_16 : decode cX12_words 16 = .ok (.istore 5, 2) := by decide +kernel
theorem dX12_words_18 : decode cX12_words 18 = .ok (.iload 5, 2) := by decide +kernel
theorem dX12_words_20 : decode cX12_words 20 = .ok (.aload_n 0, 1) := by decide +kernel
theorem dX12_words_21 : decode cX12_words 21 = .ok (.getfield 39, 3) := by decide +kernel
theorem dX12_words_24 : decode cX12_words 24 = .ok (.iconst 1, 1) := by decide +kernel
theorem dX12_words_25 : decode cX12_words 25 = .ok (.iaload, 1) := by decide +kernel
theorem dX12_words_26 : decode cX12_words 26 = .ok (.if_icmp .ge 39, 3) := by decide +kernel
theorem dX12_words_29 : decode cX12_words 29 = .ok (.iload_n 3, 1) := by decide +kernel
theorem dX12_words_30 : decode cX12_words 30 = .ok (.iload 5, 2) := by decide +kernel
theorem dX12_words_32 : decode cX12_words 32 = .ok (.invokestatic 291, 3) := by decide +kernel
theorem dX12_words_35 : decode cX12_words 35 = .ok (.ifCond .eq 24, 3) := by decide +kernel
theorem dX12_words_38 : decode cX12_words 38 = .ok (.aload_n 0, 1) := by decide +kernel
theorem dX12_words_39 : decode cX12_words 39 = .ok (.iload 5, 2) := by decide +kernel
theorem dX12_words_41 : decode cX12_words 41 = .ok (.iload_n 2, 1) := by decide +kernel
theorem dX12_words_42 : decode cX12_words 42 = .ok (.invokevirtual 288, 3) := by decide +kernel
theorem dX12_words_45 : decode cX12_words 45 = .ok (.iload 4, 2) := by decide +kernel
theorem dX12_words_47 : decode cX12_words 47 = .ok (.if_icmp .le 12, 3) := by decide +kernel
theorem dX12_words_50 : decode cX12_words 50 = .ok (.aload_n 0, 1) := by decide +kernel
theorem dX12_words_51 : decode cX12_words 51 = .ok (.iload 5, 2) := by decide +kernel
theorem dX12_words_53 : decode cX12_words 53 = .ok (.iload_n 2, 1) := by decide +kernel
theorem dX12_words_54 : decode cX12_words 54 = .ok (.invokevirtual 288, 3) := by decide +kernel
theorem dX12_words_57 : decode cX12_words 57 = .ok (.istore 4, 2) := by decide +kernel
theorem dX12_words_59 : decode cX12_words 59 = .ok (.iinc 5 1, 3) := by decide +kernel
theorem dX12_words_62 : decode cX12_words 62 = .ok (.goto (-44), 3) := by decide +kernel
theorem dX12_words_65 : decode cX12_words 65 = .ok (.aload_n 0, 1) := by decide +kernel
theorem dX12_words_66 : decode cX12_words 66 = .ok (.getfield 36, 3) := by decide +kernel
theorem dX12_words_69 : decode cX12_words 69 = .ok (.iconst 0, 1) := by decide +kernel
theorem dX12_words_70 : decode cX12_words 70 = .ok (.iload_n 1, 1) := by decide +kernel
theorem dX12_words_71 : decode cX12_words 71 = .ok (.i2l, 1) := by decide +kernel
theorem dX12_words_72 : decode cX12_words 72 = .ok (.lastore, 1) := by decide +kernel
theorem dX12_words_73 : decode cX12_words 73 = .ok (.aload_n 0, 1) := by decide +kernel
theorem dX12_words_74 : decode cX12_words 74 = .ok (.getfield 36, 3) := by decide +kernel
theorem dX12_words_77 : decode cX12_words 77 = .ok (.iconst 1, 1) := by decide +kernel
theorem dX12_words_78 : decode cX12_words 78 = .ok (.iload_n 2, 1) := by decide +kernel
theorem dX12_words_79 : decode cX12_words 79 = .ok (.i2l, 1) := by decide +kernel
theorem dX12_words_80 : decode cX12_words 80 = .ok (.lastore, 1) := by decide +kernel
theorem dX12_words_81 : decode cX12_words 81 = .ok (.aload_n 0, 1) := by decide +kernel
theorem dX12_words_82 : decode cX12_words 82 = .ok (.getfield 36, 3) := by decide +kernel
theorem dX12_words_85 : decode cX12_words 85 = .ok (.iconst 2, 1) := by decide +kernel
theorem dX12_words_86 : decode cX12_words 86 = .ok (.aload_n 0, 1) := by decide +kernel
theorem dX12_words_87 : decode cX12_words 87 = .ok (.iload_n 1, 1) := by decide +kernel
theorem dX12_words_88 : decode cX12_words 88 = .ok (.iload_n 2, 1) := by decide +kernel
theorem dX12_words_89 : decode cX12_words 89 = .ok (.invokevirtual 288, 3) := by decide +kernel
theorem dX12_words_92 : decode cX12_words 92 = .ok (.i2l, 1) := by decide +kernel
theorem dX12_words_93 : decode cX12_words 93 = .ok (.lastore, 1) := by decide +kernel
theorem dX12_words_94 : decode cX12_words 94 = .ok (.aload_n 0, 1) := by decide +kernel
theorem dX12_words_95 : decode cX12_words 95 = .ok (.getfield 36, 3) := by decide +kernel
theorem dX12_words_98 : decode cX12_words 98 = .ok (.iconst 3, 1) := by decide +kernel
theorem dX12_words_99 : decode cX12_words 99 = .ok (.aload_n 0, 1) := by decide +kernel
theorem dX12_words_100 : decode cX12_words 100 = .ok (.iload_n 1, 1) := by decide +kernel
theorem dX12_words_101 : decode cX12_words 101 = .ok (.iconst 0, 1) := by decide +kernel
theorem dX12_words_102 : decode cX12_words 102 = .ok (.invokevirtual 278, 3) := by decide +kernel
theorem dX12_words_105 : decode cX12_words 105 = .ok (.i2l, 1) := by decide +kernel
theorem dX12_words_106 : decode cX12_words 106 = .ok (.lastore, 1) := by decide +kernel
theorem dX12_words_107 : decode cX12_words 107 = .ok (.aload_n 0, 1) := by decide +kernel
theorem dX12_words_108 : decode cX12_words 108 = .ok (.getfield 36, 3) := by decide +kernel
theorem dX12_words_111 : decode cX12_words 111 = .ok (.iconst 4, 1) := by decide +kernel
theorem dX12_words_112 : decode cX12_words 112 = .ok (.aload_n 0, 1) := by decide +kernel
theorem dX12_words_113 : decode cX12_words 113 = .ok (.iload_n 1, 1) := by decide +kernel
theorem dX12_words_114 : decode cX12_words 114 = .ok (.iconst 1, 1) := by decide +kernel
theorem dX12_words_115 : decode cX12_words 115 = .ok (.invokevirtual 278, 3) := by decide +kernel
theorem dX12_words_118 : decode cX12_words 118 = .ok (.i2l, 1) := by decide +kernel
theorem dX12_words_119 : decode cX12_words 119 = .ok (.lastore, 1) := by decide +kernel
theorem dX12_words_120 : decode cX12_words 120 = .ok (.aload_n 0, 1) := by decide +kernel
theorem dX12_words_121 : decode cX12_words 121 = .ok (.getfield 36, 3) := by decide +kernel
theorem dX12_words_124 : decode cX12_words 124 = .ok (.iconst 5, 1) := by decide +kernel
theorem dX12_words_125 : decode cX12_words 125 = .ok (.aload_n 0, 1) := by decide +kernel
theorem dX12_words_126 : decode cX12_words 126 = .ok (.iload_n 2, 1) := by decide +kernel
theorem dX12_words_127 : decode cX12_words 127 = .ok (.iconst 1, 1) := by decide +kernel
theorem dX12_words_128 : decode cX12_words 128 = .ok (.invokevirtual 285, 3) := by decide +kernel
theorem dX12_words_131 : decode cX12_words 131 = .ok (.i2l, 1) := by decide +kernel
theorem dX12_words_132 : decode cX12_words 132 = .ok (.lastore, 1) := by decide +kernel
theorem dX12_words_133 : decode cX12_words 133 = .ok (.aload_n 0, 1) := by decide +kernel
theorem dX12_words_134 : decode cX12_words 134 = .ok (.getfield 36, 3) := by decide +kernel
theorem dX12_words_137 : decode cX12_words 137 = .ok (.bipush 6, 2) := by decide +kernel
theorem dX12_words_139 : decode cX12_words 139 = .ok (.iload_n 3, 1) := by decide +kernel
theorem dX12_words_140 : decode cX12_words 140 = .ok (.invokestatic 326, 3) := by decide +kernel
theorem dX12_words_143 : decode cX12_words 143 = .ok (.i2l, 1) := by decide +kernel
theorem dX12_words_144 : decode cX12_words 144 = .ok (.lastore, 1) := by decide +kernel
theorem dX12_words_145 : decode cX12_words 145 = .ok (.aload_n 0, 1) := by decide +kernel
theorem dX12_words_146 : decode cX12_words 146 = .ok (.getfield 36, 3) := by decide +kernel
theorem dX12_words_149 : decode cX12_words 149 = .ok (.bipush 7, 2) := by decide +kernel
theorem dX12_words_151 : decode cX12_words 151 = .ok (.aload_n 0, 1) := by decide +kernel
theorem dX12_words_152 : decode cX12_words 152 = .ok (.iload_n 1, 1) := by decide +kernel
theorem dX12_words_153 : decode cX12_words 153 = .ok (.iconst 4, 1) := by decide +kernel
theorem dX12_words_154 : decode cX12_words 154 = .ok (.invokevirtual 278, 3) := by decide +kernel
theorem dX12_words_157 : decode cX12_words 157 = .ok (.i2l, 1) := by decide +kernel
theorem dX12_words_158 : decode cX12_words 158 = .ok (.lastore, 1) := by decide +kernel
theorem dX12_words_159 : decode cX12_words 159 = .ok (.aload_n 0, 1) := by decide +kernel
theorem dX12_words_160 : decode cX12_words 160 = .ok (.getfield 36, 3) := by decide +kernel
theorem dX12_words_163 : decode cX12_words 163 = .ok (.bipush 8, 2) := by decide +kernel
theorem dX12_words_165 : decode cX12_words 165 = .ok (.iload 4, 2) := by decide +kernel
theorem dX12_words_167 : decode cX12_words 167 = .ok (.i2l, 1) := by decide +kernel
theorem dX12_words_168 : decode cX12_words 168 = .ok (.lastore, 1) := by decide +kernel
theorem dX12_words_169 : decode cX12_words 169 = .ok (.aload_n 0, 1) := by decide +kernel
theorem dX12_words_170 : decode cX12_words 170 = .ok (.getfield 36, 3) := by decide +kernel
theorem dX12_words_173 : decode cX12_words 173 = .ok (.bipush 9, 2) := by decide +kernel
theorem dX12_words_175 : decode cX12_words 175 = .ok (.aload_n 0, 1) := by decide +kernel
theorem dX12_words_176 : decode cX12_words 176 = .ok (.iconst 1, 1) := by decide +kernel
theorem dX12_words_177 : decode cX12_words 177 = .ok (.invokevirtual 329, 3) := by decide +kernel
theorem dX12_words_180 : decode cX12_words 180 = .ok (.invokestatic 326, 3) := by decide +kernel
theorem dX12_words_183 : decode cX12_words 183 = .ok (.i2l, 1) := by decide +kernel
theorem dX12_words_184 : decode cX12_words 184 = .ok (.lastore, 1) := by decide +kernel
theorem dX12_words_185 : decode cX12_words 185 = .ok (.return_, 1) := by decide +kernel
theorem wd_89 : (Jvm.Cond.selects "SilentSaleModel" ({ cls := "SilentSaleModel", name := "words", desc := "(II)V" } : Jvm.MethodName) ({ cls := "SilentSaleModel", name := "words", desc := "(II)V" } : Jvm.MethodName)) ∈ tb_L := tb_in (i := 89) (by decide +kernel) (by decide +kernel)
theorem wd_90 : (Jvm.Cond.selects "SilentSaleModel" ({ cls := "SilentSaleModel", name := "summedBy", desc := "(I)J" } : Jvm.MethodName) ({ cls := "SilentSaleModel", name := "summedBy", desc := "(I)J" } : Jvm.MethodName)) ∈ tb_L := tb_in (i := 90) (by decide +kernel) (by decide +kernel)
theorem wd_1273 : (Jvm.Cond.fieldLink "SilentSaleModel" (42 : Nat) "SilentSaleModel" "force" "I") ∈ tb_L := tb_in (i := 1273) (by decide +kernel) (by decide +kernel)
theorem wd_1275 : (Jvm.Cond.fieldLink "SilentSaleModel" (332 : Nat) "SilentSaleModel" "forced" "I") ∈ tb_L := tb_in (i := 1275) (by decide +kernel) (by decide +kernel)
theorem wd_1276 : (Jvm.Cond.fieldLink "SilentSaleModel" (46 : Nat) "SilentSaleModel" "holder" "I") ∈ tb_L := tb_in (i := 1276) (by decide +kernel) (by decide +kernel)
theorem wd_1277 : (Jvm.Cond.fieldLink "SilentSaleModel" (335 : Nat) "SilentSaleModel" "holdFor" "I") ∈ tb_L := tb_in (i := 1277) (by decide +kernel) (by decide +kernel)
theorem wd_1641 : (Jvm.Cond.code ({ cls := "SilentSaleModel", name := "speaks", desc := "(II)Z" } : Jvm.MethodName) prog_14_method_70_code (4 : Nat) (Option.some Jvm.ClassFile.FieldType.boolean)) ∈ tb_L := tb_in (i := 1641) (by decide +kernel) (by decide +kernel)
theorem wd_1642 : (Jvm.Cond.methodLink "SilentSaleModel" (338 : Nat) ({ cls := "SilentSaleModel", name := "words", desc := "(II)V" } : Jvm.MethodName)) ∈ tb_L := tb_in (i := 1642) (by decide +kernel) (by decide +kernel)
theorem wd_1644 : (Jvm.Cond.instanceMethod ({ cls := "SilentSaleModel", name := "words", desc := "(II)V" } : Jvm.MethodName)) ∈ tb_L := tb_in (i := 1644) (by decide +kernel) (by decide +kernel)
theorem wd_1649 : (Jvm.Cond.methodLink "SilentSaleModel" (341 : Nat) ({ cls := "SilentSaleModel", name := "summedBy", desc := "(I)J" } : Jvm.MethodName)) ∈ tb_L := tb_in (i := 1649) (by decide +kernel) (by decide +kernel)
theorem wd_1651 : (Jvm.Cond.instanceMethod ({ cls := "SilentSaleModel", name := "summedBy", desc := "(I)J" } : Jvm.MethodName)) ∈ tb_L := tb_in (i := 1651) (by decide +kernel) (by decide +kernel)
theorem dX12_speaks_0 : decode cX12_speaks 0 = .ok (.aload_n 0, 1) := by decide +kernel
theorem dX12_speaks_1 : decode cX12_speaks 1 = .ok (.iload_n 2, 1) := by decide +kernel
theorem dX12_speaks_2 : decode cX12_speaks 2 = .ok (.iconst 1, 1) := by decide +kernel
theorem dX12_speaks_3 : decode cX12_speaks 3 = .ok (.invokevirtual 285, 3) := by decide +kernel
theorem dX12_speaks_6 : decode cX12_speaks 6 = .ok (.istore_n 3, 1) := by decide +kernel
theorem dX12_speaks_7 : decode cX12_speaks 7 = .ok (.aload_n 0, 1) := by decide +kernel
theorem dX12_speaks_8 : decode cX12_speaks 8 = .ok (.getfield 332, 3) := by decide +kernel
theorem dX12_speaks_11 : decode cX12_speaks 11 = .ok (.iload_n 1, 1) := by decide +kernel
theorem dX12_speaks_12 : decode cX12_speaks 12 = .ok (.invokestatic 291, 3) := by decide +kernel
theorem dX12_speaks_15 : decode cX12_speaks 15 = .ok (.ifCond .eq 5, 3) := by decide +kernel
theorem dX12_speaks_18 : decode cX12_speaks 18 = .ok (.iconst 1, 1) := by decide +kernel
theorem dX12_speaks_19 : decode cX12_speaks 19 = .ok (.ireturn, 1) := by decide +kernel
theorem dX12_speaks_20 : decode cX12_speaks 20 = .ok (.iload_n 1, 1) := by decide +kernel
theorem dX12_speaks_21 : decode cX12_speaks 21 = .ok (.aload_n 0, 1) := by decide +kernel
theorem dX12_speaks_22 : decode cX12_speaks 22 = .ok (.getfield 46, 3) := by decide +kernel
theorem dX12_speaks_25 : decode cX12_speaks 25 = .ok (.if_icmp .ne 17, 3) := by decide +kernel
theorem dX12_speaks_28 : decode cX12_speaks 28 = .ok (.iload_n 3, 1) := by decide +kernel
theorem dX12_speaks_29 : decode cX12_speaks 29 = .ok (.aload_n 0, 1) := by decide +kernel
theorem dX12_speaks_30 : decode cX12_speaks 30 = .ok (.getfield 335, 3) := by decide +kernel
theorem dX12_speaks_33 : decode cX12_speaks 33 = .ok (.if_icmp .lt 7, 3) := by decide +kernel
theorem dX12_speaks_36 : decode cX12_speaks 36 = .ok (.iconst 1, 1) := by decide +kernel
theorem dX12_speaks_37 : decode cX12_speaks 37 = .ok (.goto 4, 3) := by decide +kernel
theorem dX12_speaks_40 : decode cX12_speaks 40 = .ok (.iconst 0, 1) := by decide +kernel
theorem dX12_speaks_41 : decode cX12_speaks 41 = .ok (.ireturn, 1) := by decide +kernel
theorem dX12_speaks_42 : decode cX12_speaks 42 = .ok (.aload_n 0, 1) := by decide +kernel
theorem dX12_speaks_43 : decode cX12_speaks 43 = .ok (.getfield 42, 3) := by decide +kernel
theorem dX12_speaks_46 : decode cX12_speaks 46 = .ok (.ifCond .ge 29, 3) := by decide +kernel
theorem dX12_speaks_49 : decode cX12_speaks 49 = .ok (.iload_n 3, 1) := by decide +kernel
theorem dX12_speaks_50 : decode cX12_speaks 50 = .ok (.aload_n 0, 1) := by decide +kernel
theorem dX12_speaks_51 : decode cX12_speaks 51 = .ok (.iload_n 1, 1) := by decide +kernel
theorem dX12_speaks_52 : decode cX12_speaks 52 = .ok (.iload_n 2, 1) := by decide +kernel
theorem dX12_speaks_53 : decode cX12_speaks 53 = .ok (.invokevirtual 288, 3) := by decide +kernel
theorem dX12_speaks_56 : decode cX12_speaks 56 = .ok (.if_icmp .ge 13, 3) := by decide +kernel
theorem dX12_speaks_59 : decode cX12_speaks 59 = .ok (.iload_n 3, 1) := by decide +kernel
theorem dX12_speaks_60 : decode cX12_speaks 60 = .ok (.aload_n 0, 1) := by decide +kernel
theorem dX12_speaks_61 : decode cX12_speaks 61 = .ok (.iload_n 1, 1) := by decide +kernel
theorem dX12_speaks_62 : decode cX12_speaks 62 = .ok (.iconst 0, 1) := by decide +kernel
theorem dX12_speaks_63 : decode cX12_speaks 63 = .ok (.invokevirtual 278, 3) := by decide +kernel
theorem dX12_speaks_66 : decode cX12_speaks 66 = .ok (.if_icmp .lt 7, 3) := by decide +kernel
theorem dX12_speaks_69 : decode cX12_speaks 69 = .ok (.iconst 1, 1) := by decide +kernel
theorem dX12_speaks_70 : decode cX12_speaks 70 = .ok (.goto 4, 3) := by decide +kernel
theorem dX12_speaks_73 : decode cX12_speaks 73 = .ok (.iconst 0, 1) := by decide +kernel
theorem dX12_speaks_74 : decode cX12_speaks 74 = .ok (.ireturn, 1) := by decide +kernel
theorem dX12_speaks_75 : decode cX12_speaks 75 = .ok (.aload_n 0, 1) := by decide +kernel
theorem dX12_speaks_76 : decode cX12_speaks 76 = .ok (.iload_n 1, 1) := by decide +kernel
theorem dX12_speaks_77 : decode cX12_speaks 77 = .ok (.iload_n 2, 1) := by decide +kernel
theorem dX12_speaks_78 : decode cX12_speaks 78 = .ok (.invokevirtual 338, 3) := by decide +kernel
theorem dX12_speaks_81 : decode cX12_speaks 81 = .ok (.aload_n 0, 1) := by decide +kernel
theorem dX12_speaks_82 : decode cX12_speaks 82 = .ok (.aload_n 0, 1) := by decide +kernel
theorem dX12_speaks_83 : decode cX12_speaks 83 = .ok (.getfield 42, 3) := by decide +kernel
theorem dX12_speaks_86 : decode cX12_speaks 86 = .ok (.invokevirtual 341, 3) := by decide +kernel
theorem dX12_speaks_89 : decode cX12_speaks 89 = .ok (.lconst 0, 1) := by decide +kernel
theorem dX12_speaks_90 : decode cX12_speaks 90 = .ok (.lcmp, 1) := by decide +kernel
theorem dX12_speaks_91 : decode cX12_speaks 91 = .ok (.ifCond .le 7, 3) := by decide +kernel
theorem dX12_speaks_94 : decode cX12_speaks 94 = .ok (.iconst 1, 1) := by decide +kernel
theorem dX12_speaks_95 : decode cX12_speaks 95 = .ok (.goto 4, 3) := by decide +kernel
theorem dX12_speaks_98 : decode cX12_speaks 98 = .ok (.iconst 0, 1) := by decide +kernel
theorem dX12_speaks_99 : decode cX12_speaks 99 = .ok (.ireturn, 1) := by decide +kernel
set_option maxHeartbeats 4000000 in
set_option maxRecDepth 100000 in
theorem d_m_push (l : Launch) (G : gg_T) (Γ : Nat → Nat) (sz : Nat) (wt : va_W) (hT : tk_ty G Γ wt) (a : Int64) (m0 : Nat) (am : Nat → Nat) (v1 : Int32) (v2 : Int32) (v8 : Int32) (v9 : Int32) (v10 : Int32) (v11 : Int32) (v12 : Int32) (v13 : Int32) (v14 : Int32) (v16 : Int32) (v18 : Int32) (v21 : Int32) (v22 : Int32) (v23 : Int32) (v24 : Int32) (v25 : Int32) (v27 : Int32) (v32 : Int64) (k17 : Γ (am 17) = 32) (k19 : Γ (am 19) = 30) (k30 : Γ (am 30) = 28) (k31 : Γ (am 31) = 28) (lo_v1 : 0 ≤ v1.toInt) (hi_v1 : v1.toInt ≤ 400) (lo_v2 : 0 ≤ v2.toInt) (hi_v2 : v2.toInt ≤ 6) (lo_v8 : 0 ≤ v8.toInt) (hi_v8 : v8.toInt ≤ 400) (lo_v11 : 0 ≤ v11.toInt) (hi_v11 : v11.toInt ≤ 6) (lo_v12 : 0 ≤ v12.toInt) (hi_v12 : v12.toInt ≤ 60) (lo_v16 : 0 ≤ v16.toInt) (hi_v16 : v16.toInt ≤ 400) (lo_v21 : -1 ≤ v21.toInt) (hi_v21 : v21.toInt ≤ 5) (lo_v23 : 0 ≤ v23.toInt) (hi_v23 : v23.toInt ≤ 31) (lo_v27 : 0 ≤ v27.toInt) (hi_v27 : v27.toInt ≤ 20) (xfr : v21.toInt < v2.toInt) (lo18 : 0 ≤ v18.toInt) (hi18 : v18.toInt ≤ 63) : Met l yX12_push (ts_L yX12_push cX12_push 3 none) ({ frames := 0, cells := 0, slots := 0, locals := 0 }) (gc_P G ([(m0, .inr (12, [.ref (am 0), .int v1, .int v2, .ref (am 3), .ref (am 4), .ref (am 5), .ref (am 6), .ref (am 7), .int v8, .int v9, .int v10, .int v11, .int v12, .int v13, .int v14, .ref (am 15), .int v16, .ref (am 17), .int v18, .ref (am 19), .ref (am 20), .int v21, .int v22, .int v23, .int v24, .int v25, .ref (am 26), .int v27, .ref (am 28), .ref (am 29), .ref (am 30), .ref (am 31), .long v32, .ref (am 33), .ref (am 34), .ref (am 35), .ref (am 36)]))] ++ wt) sz [.ref m0, .long a]) (gc_V G (va_A ([(m0, .inr (12, [.ref (am 0), .int v1, .int v2, .ref (am 3), .ref (am 4), .ref (am 5), .ref (am 6), .ref (am 7), .int v8, .int v9, .int v10, .int v11, .int v12, .int v13, .int v14, .ref (am 15), .int v16, .ref (am 17), .int v18, .ref (am 19), .ref (am 20), .int v21, .int v22, .int v23, .int v24, .int v25, .ref (am 26), .int v27, .ref (am 28), .ref (am 29), .ref (am 30), .ref (am 31), .long v32, .ref (am 33), .ref (am 34), .ref (am 35), .ref (am 36)]))] ++ wt) sz) (fun (u : (Int32) × va_W) => match u with | (w18, wt1) => tk_ty G Γ wt1 ∧ tk_kp [] wt wt1 ∧ (0 ≤ w18.toInt) ∧ (w18.toInt ≤ 64) ∧ (w18.toInt = v18.toInt + 1)) (fun (u : (Int32) × va_W) => match u with | (w18, wt1) => [(m0, .inr (12, [.ref (am 0), .int v1, .int v2, .ref (am 3), .ref (am 4), .ref (am 5), .ref (am 6), .ref (am 7), .int v8, .int v9, .int v10, .int v11, .int v12, .int v13, .int v14, .ref (am 15), .int v16, .ref (am 17), .int w18, .ref (am 19), .ref (am 20), .int v21, .int v22, .int v23, .int v24, .int v25, .ref (am 26), .int v27, .ref (am 28), .ref (am 29), .ref (am 30), .ref (am 31), .long v32, .ref (am 33), .ref (am 34), .ref (am 35), .ref (am 36)]))] ++ wt1)) 0 0 (va_A ([(m0, .inr (12, [.ref (am 0), .int v1, .int v2, .ref (am 3), .ref (am 4), .ref (am 5), .ref (am 6), .ref (am 7), .int v8, .int v9, .int v10, .int v11, .int v12, .int v13, .int v14, .ref (am 15), .int v16, .ref (am 17), .int v18, .ref (am 19), .ref (am 20), .int v21, .int v22, .int v23, .int v24, .int v25, .ref (am 26), .int v27, .ref (am 28), .ref (am 29), .ref (am 30), .ref (am 31), .long v32, .ref (am 33), .ref (am 34), .ref (am 35), .ref (am 36)]))] ++ wt) sz) := by
  refine Met.ofW (cc := cX12_push) (maxL := 3) (ret := none) (by decide) rfl ?_
  intro p e s m args below meth c s₁ B hml hv
  obtain ⟨rfl, hsz, hP, hK, hD0⟩ := hv
  have hx := B.exec
  have hb := B.bytes
  have hr := B.returns
  have ht := ts_ht (atoms_spec (ws := ts_L yX12_push cX12_push 3 none) B.pre)
  have hown : s.vm.findClass RX12 = some m.cls := findClass_of_methodNamed B.named
  have hlocks := B.notSynchronized
  subst hsz
  have hD := hD0.self (sz := s.heap.size)
  generalize hAe : va_A ([(m0, .inr (12, [.ref (am 0), .int v1, .int v2, .ref (am 3), .ref (am 4), .ref (am 5), .ref (am 6), .ref (am 7), .int v8, .int v9, .int v10, .int v11, .int v12, .int v13, .int v14, .ref (am 15), .int v16, .ref (am 17), .int v18, .ref (am 19), .ref (am 20), .int v21, .int v22, .int v23, .int v24, .int v25, .ref (am 26), .int v27, .ref (am 28), .ref (am 29), .ref (am 30), .ref (am 31), .long v32, .ref (am 33), .ref (am 34), .ref (am 35), .ref (am 36)]))] ++ wt) s.heap.size = A at hD ⊢
  have hA : ∀ q : Nat, s.heap.size ≤ q → A q := fun q h => by rw [← hAe]; exact Or.inr h
  clear hAe hD0
  have hS : va_S A s.heap s.heap [] := va_S.rf
  obtain ⟨w0, hw0⟩ : ∃ z, z = wt := ⟨_, rfl⟩
  have hW : tk_kp [] w0 wt := by rw [hw0]; exact tk_kp.rf
  rw [← hw0]
  clear hw0
  have hP : va_P (gg_D G) classes ([(m0, .inr (12, [.ref (am 0), .int v1, .int v2, .ref (am 3), .ref (am 4), .ref (am 5), .ref (am 6), .ref (am 7), .int v8, .int v9, .int v10, .int v11, .int v12, .int v13, .int v14, .ref (am 15), .int v16, .ref (am 17), .int v18, .ref (am 19), .ref (am 20), .int v21, .int v22, .int v23, .int v24, .int v25, .ref (am 26), .int v27, .ref (am 28), .ref (am 29), .ref (am 30), .ref (am 31), .long v32, .ref (am 33), .ref (am 34), .ref (am 35), .ref (am 36)]))] ++ wt) s.heap := hP
  have hD : va_D A ([(m0, .inr (12, [.ref (am 0), .int v1, .int v2, .ref (am 3), .ref (am 4), .ref (am 5), .ref (am 6), .ref (am 7), .int v8, .int v9, .int v10, .int v11, .int v12, .int v13, .int v14, .ref (am 15), .int v16, .ref (am 17), .int v18, .ref (am 19), .ref (am 20), .int v21, .int v22, .int v23, .int v24, .int v25, .ref (am 26), .int v27, .ref (am 28), .ref (am 29), .ref (am 30), .ref (am 31), .long v32, .ref (am 33), .ref (am 34), .ref (am 35), .ref (am 36)]))] ++ wt) := hD
  have hl := lv_entry ([.ref m0, .long a]) (n := 3) (Nat.le_of_ble_eq_true rfl)
  rw [lg_entry_eq]
  generalize (lg_sl ([.ref m0, .long a]) ++ List.replicate (3 - (lg_sl ([.ref m0, .long a])).length) Slot.unset).toArray = ls at hl ⊢
  have hl : lv_has ls 3 [(0, .ref m0), (1, .long a)] := hl
  have l1 : (1 : Int32).toInt = 1 := by decide +kernel
  refine lv_aload_n hx hb dX12_push_0 rfl (lv_at hl 0 rfl) ?_
  refine gq_get hx hb ht hown hK hP i_X12 0 rfl rfl 17 (by decide) wd_1269 rfl rfl dX12_push_1 ?_
  refine lv_aload_n hx hb dX12_push_4 rfl (lv_at hl 0 rfl) ?_
  refine gq_get hx hb ht hown hK hP i_X12 0 rfl rfl 18 (by decide) wd_1270 rfl rfl dX12_push_5 ?_
  refine lv_lload_n hx hb dX12_push_8 rfl (lv_at hl 1 rfl) ?_
  refine tr_last hx hb hK hT hP hD hS 32 k17 (by decide) (by decide) (show vp_in _ (tk_len 32) from ia_in (n := 64) (by omega) (by omega)) dX12_push_9 (fun H locs wt hT hfl hP hD hS => ?_)
  have hW := hW.arr hfl
  refine lv_aload_n hx hb dX12_push_10 rfl (lv_at hl 0 rfl) ?_
  refine lv_dup hx hb dX12_push_11 rfl ?_
  refine gq_get hx hb ht hown hK hP i_X12 0 rfl rfl 18 (by decide) wd_1270 rfl rfl dX12_push_12 ?_
  refine lv_iconst (v := 1) hx hb dX12_push_15 (by decide +kernel) ?_
  obtain ⟨t_1, et_1⟩ : ∃ zz_ : Int32, v18 + 1 = zz_ := ⟨_, rfl⟩
  refine gq_iadd hx hb t_1 et_1 dX12_push_16 ?_
  have ft_1 := ia_add et_1 (by omega) (by omega)
  refine gq_put (ws' := [(m0, .inr (12, [.ref (am 0), .int v1, .int v2, .ref (am 3), .ref (am 4), .ref (am 5), .ref (am 6), .ref (am 7), .int v8, .int v9, .int v10, .int v11, .int v12, .int v13, .int v14, .ref (am 15), .int v16, .ref (am 17), .int t_1, .ref (am 19), .ref (am 20), .int v21, .int v22, .int v23, .int v24, .int v25, .ref (am 26), .int v27, .ref (am 28), .ref (am 29), .ref (am 30), .ref (am 31), .long v32, .ref (am 33), .ref (am 34), .ref (am 35), .ref (am 36)]))] ++ wt) hx hb ht hown hK hP hD hS i_X12 tyX12 tyX12_ok nmX12 0 rfl rfl 18 (by decide) wd_1270 rfl rfl rfl rfl (Nat.le_of_ble_eq_true rfl) rfl dX12_push_17 (fun H locs hP hD hS => ?_)
  have hP9 : va_P (gg_D G) classes ([(m0, .inr (12, [.ref (am 0), .int v1, .int v2, .ref (am 3), .ref (am 4), .ref (am 5), .ref (am 6), .ref (am 7), .int v8, .int v9, .int v10, .int v11, .int v12, .int v13, .int v14, .ref (am 15), .int v16, .ref (am 17), .int t_1, .ref (am 19), .ref (am 20), .int v21, .int v22, .int v23, .int v24, .int v25, .ref (am 26), .int v27, .ref (am 28), .ref (am 29), .ref (am 30), .ref (am 31), .long v32, .ref (am 33), .ref (am 34), .ref (am 35), .ref (am 36)]))] ++ wt) _ := hP
  have hD9 : va_D A ([(m0, .inr (12, [.ref (am 0), .int v1, .int v2, .ref (am 3), .ref (am 4), .ref (am 5), .ref (am 6), .ref (am 7), .int v8, .int v9, .int v10, .int v11, .int v12, .int v13, .int v14, .ref (am 15), .int v16, .ref (am 17), .int t_1, .ref (am 19), .ref (am 20), .int v21, .int v22, .int v23, .int v24, .int v25, .ref (am 26), .int v27, .ref (am 28), .ref (am 29), .ref (am 30), .ref (am 31), .long v32, .ref (am 33), .ref (am 34), .ref (am 35), .ref (am 36)]))] ++ wt) := hD
  exact W.vret hx hb hr (gq_endV (t_1, wt) ⟨hT, hW, (by omega), (by omega), (by omega)⟩ hP9 hD9 hS) hS.2.2 dX12_push_20
set_option maxHeartbeats 4000000 in
set_option maxRecDepth 100000 in
theorem d_m_pop (l : Launch) (G : gg_T) (Γ : Nat → Nat) (sz : Nat) (wt : va_W) (hT : tk_ty G Γ wt) (m0 : Nat) (am : Nat → Nat) (v1 : Int32) (v2 : Int32) (v8 : Int32) (v9 : Int32) (v10 : Int32) (v11 : Int32) (v12 : Int32) (v13 : Int32) (v14 : Int32) (v16 : Int32) (v18 : Int32) (v21 : Int32) (v22 : Int32) (v23 : Int32) (v24 : Int32) (v25 : Int32) (v27 : Int32) (v32 : Int64) (k17 : Γ (am 17) = 32) (k19 : Γ (am 19) = 30) (k30 : Γ (am 30) = 28) (k31 : Γ (am 31) = 28) (lo_v1 : 0 ≤ v1.toInt) (hi_v1 : v1.toInt ≤ 400) (lo_v2 : 0 ≤ v2.toInt) (hi_v2 : v2.toInt ≤ 6) (lo_v8 : 0 ≤ v8.toInt) (hi_v8 : v8.toInt ≤ 400) (lo_v11 : 0 ≤ v11.toInt) (hi_v11 : v11.toInt ≤ 6) (lo_v12 : 0 ≤ v12.toInt) (hi_v12 : v12.toInt ≤ 60) (lo_v16 : 0 ≤ v16.toInt) (hi_v16 : v16.toInt ≤ 400) (lo_v21 : -1 ≤ v21.toInt) (hi_v21 : v21.toInt ≤ 5) (lo_v23 : 0 ≤ v23.toInt) (hi_v23 : v23.toInt ≤ 31) (lo_v27 : 0 ≤ v27.toInt) (hi_v27 : v27.toInt ≤ 20) (xfr : v21.toInt < v2.toInt) (lo18 : 1 ≤ v18.toInt) (hi18 : v18.toInt ≤ 64) : Met l yX12_pop (ts_L yX12_pop cX12_pop 1 (some .long)) ({ frames := 0, cells := 0, slots := 0, locals := 0 }) (gc_P G ([(m0, .inr (12, [.ref (am 0), .int v1, .int v2, .ref (am 3), .ref (am 4), .ref (am 5), .ref (am 6), .ref (am 7), .int v8, .int v9, .int v10, .int v11, .int v12, .int v13, .int v14, .ref (am 15), .int v16, .ref (am 17), .int v18, .ref (am 19), .ref (am 20), .int v21, .int v22, .int v23, .int v24, .int v25, .ref (am 26), .int v27, .ref (am 28), .ref (am 29), .ref (am 30), .ref (am 31), .long v32, .ref (am 33), .ref (am 34), .ref (am 35), .ref (am 36)]))] ++ wt) sz [.ref m0]) (gc_J G (va_A ([(m0, .inr (12, [.ref (am 0), .int v1, .int v2, .ref (am 3), .ref (am 4), .ref (am 5), .ref (am 6), .ref (am 7), .int v8, .int v9, .int v10, .int v11, .int v12, .int v13, .int v14, .ref (am 15), .int v16, .ref (am 17), .int v18, .ref (am 19), .ref (am 20), .int v21, .int v22, .int v23, .int v24, .int v25, .ref (am 26), .int v27, .ref (am 28), .ref (am 29), .ref (am 30), .ref (am 31), .long v32, .ref (am 33), .ref (am 34), .ref (am 35), .ref (am 36)]))] ++ wt) sz) (fun r (u : (Int32) × va_W) => match u with | (w18, wt1) => tk_ty G Γ wt1 ∧ tk_kp [] wt wt1 ∧ (0 ≤ w18.toInt) ∧ (w18.toInt ≤ 64) ∧ (w18.toInt = v18.toInt - 1)) (fun (u : (Int32) × va_W) => match u with | (w18, wt1) => [(m0, .inr (12, [.ref (am 0), .int v1, .int v2, .ref (am 3), .ref (am 4), .ref (am 5), .ref (am 6), .ref (am 7), .int v8, .int v9, .int v10, .int v11, .int v12, .int v13, .int v14, .ref (am 15), .int v16, .ref (am 17), .int w18, .ref (am 19), .ref (am 20), .int v21, .int v22, .int v23, .int v24, .int v25, .ref (am 26), .int v27, .ref (am 28), .ref (am 29), .ref (am 30), .ref (am 31), .long v32, .ref (am 33), .ref (am 34), .ref (am 35), .ref (am 36)]))] ++ wt1)) 0 0 (va_A ([(m0, .inr (12, [.ref (am 0), .int v1, .int v2, .ref (am 3), .ref (am 4), .ref (am 5), .ref (am 6), .ref (am 7), .int v8, .int v9, .int v10, .int v11, .int v12, .int v13, .int v14, .ref (am 15), .int v16, .ref (am 17), .int v18, .ref (am 19), .ref (am 20), .int v21, .int v22, .int v23, .int v24, .int v25, .ref (am 26), .int v27, .ref (am 28), .ref (am 29), .ref (am 30), .ref (am 31), .long v32, .ref (am 33), .ref (am 34), .ref (am 35), .ref (am 36)]))] ++ wt) sz) := by
  refine Met.ofW (cc := cX12_pop) (maxL := 1) (ret := (some .long)) (by decide) rfl ?_
  intro p e s m args below meth c s₁ B hml hv
  obtain ⟨rfl, hsz, hP, hK, hD0⟩ := hv
  have hx := B.exec
  have hb := B.bytes
  have hr := B.returns
  have ht := ts_ht (atoms_spec (ws := ts_L yX12_pop cX12_pop 1 (some .long)) B.pre)
  have hown : s.vm.findClass RX12 = some m.cls := findClass_of_methodNamed B.named
  have hlocks := B.notSynchronized
  subst hsz
  have hD := hD0.self (sz := s.heap.size)
  generalize hAe : va_A ([(m0, .inr (12, [.ref (am 0), .int v1, .int v2, .ref (am 3), .ref (am 4), .ref (am 5), .ref (am 6), .ref (am 7), .int v8, .int v9, .int v10, .int v11, .int v12, .int v13, .int v14, .ref (am 15), .int v16, .ref (am 17), .int v18, .ref (am 19), .ref (am 20), .int v21, .int v22, .int v23, .int v24, .int v25, .ref (am 26), .int v27, .ref (am 28), .ref (am 29), .ref (am 30), .ref (am 31), .long v32, .ref (am 33), .ref (am 34), .ref (am 35), .ref (am 36)]))] ++ wt) s.heap.size = A at hD ⊢
  have hA : ∀ q : Nat, s.heap.size ≤ q → A q := fun q h => by rw [← hAe]; exact Or.inr h
  clear hAe hD0
  have hS : va_S A s.heap s.heap [] := va_S.rf
  obtain ⟨w0, hw0⟩ : ∃ z, z = wt := ⟨_, rfl⟩
  have hW : tk_kp [] w0 wt := by rw [hw0]; exact tk_kp.rf
  rw [← hw0]
  clear hw0
  have hP : va_P (gg_D G) classes ([(m0, .inr (12, [.ref (am 0), .int v1, .int v2, .ref (am 3), .ref (am 4), .ref (am 5), .ref (am 6), .ref (am 7), .int v8, .int v9, .int v10, .int v11, .int v12, .int v13, .int v14, .ref (am 15), .int v16, .ref (am 17), .int v18, .ref (am 19), .ref (am 20), .int v21, .int v22, .int v23, .int v24, .int v25, .ref (am 26), .int v27, .ref (am 28), .ref (am 29), .ref (am 30), .ref (am 31), .long v32, .ref (am 33), .ref (am 34), .ref (am 35), .ref (am 36)]))] ++ wt) s.heap := hP
  have hD : va_D A ([(m0, .inr (12, [.ref (am 0), .int v1, .int v2, .ref (am 3), .ref (am 4), .ref (am 5), .ref (am 6), .ref (am 7), .int v8, .int v9, .int v10, .int v11, .int v12, .int v13, .int v14, .ref (am 15), .int v16, .ref (am 17), .int v18, .ref (am 19), .ref (am 20), .int v21, .int v22, .int v23, .int v24, .int v25, .ref (am 26), .int v27, .ref (am 28), .ref (am 29), .ref (am 30), .ref (am 31), .long v32, .ref (am 33), .ref (am 34), .ref (am 35), .ref (am 36)]))] ++ wt) := hD
  have hl := lv_entry ([.ref m0]) (n := 1) (Nat.le_of_ble_eq_true rfl)
  rw [lg_entry_eq]
  generalize (lg_sl ([.ref m0]) ++ List.replicate (1 - (lg_sl ([.ref m0])).length) Slot.unset).toArray = ls at hl ⊢
  have hl : lv_has ls 1 [(0, .ref m0)] := hl
  have l1 : (1 : Int32).toInt = 1 := by decide +kernel
  refine lv_aload_n hx hb dX12_pop_0 rfl (lv_at hl 0 rfl) ?_
  refine lv_dup hx hb dX12_pop_1 rfl ?_
  refine gq_get hx hb ht hown hK hP i_X12 0 rfl rfl 18 (by decide) wd_1270 rfl rfl dX12_pop_2 ?_
  refine lv_iconst (v := 1) hx hb dX12_pop_5 (by decide +kernel) ?_
  obtain ⟨t_1, et_1⟩ : ∃ zz_ : Int32, v18 - 1 = zz_ := ⟨_, rfl⟩
  refine gq_isub hx hb t_1 et_1 dX12_pop_6 ?_
  have ft_1 := ia_sub et_1 (by omega) (by omega)
  refine gq_put (ws' := [(m0, .inr (12, [.ref (am 0), .int v1, .int v2, .ref (am 3), .ref (am 4), .ref (am 5), .ref (am 6), .ref (am 7), .int v8, .int v9, .int v10, .int v11, .int v12, .int v13, .int v14, .ref (am 15), .int v16, .ref (am 17), .int t_1, .ref (am 19), .ref (am 20), .int v21, .int v22, .int v23, .int v24, .int v25, .ref (am 26), .int v27, .ref (am 28), .ref (am 29), .ref (am 30), .ref (am 31), .long v32, .ref (am 33), .ref (am 34), .ref (am 35), .ref (am 36)]))] ++ wt) hx hb ht hown hK hP hD hS i_X12 tyX12 tyX12_ok nmX12 0 rfl rfl 18 (by decide) wd_1270 rfl rfl rfl rfl (Nat.le_of_ble_eq_true rfl) rfl dX12_pop_7 (fun H locs hP hD hS => ?_)
  refine lv_aload_n hx hb dX12_pop_10 rfl (lv_at hl 0 rfl) ?_
  refine gq_get hx hb ht hown hK hP i_X12 0 rfl rfl 17 (by decide) wd_1269 rfl rfl dX12_pop_11 ?_
  refine lv_aload_n hx hb dX12_pop_14 rfl (lv_at hl 0 rfl) ?_
  refine gq_get hx hb ht hown hK hP i_X12 0 rfl rfl 18 (by decide) wd_1270 rfl rfl dX12_pop_15 ?_
  refine tr_lald hx hb hK hT hP 32 k17 (by decide) (by decide) (show vp_in _ (tk_len 32) from ia_in (n := 64) (by omega) (by omega)) dX12_pop_18 (fun m_2 => ?_)
  have hP9 : va_P (gg_D G) classes ([(m0, .inr (12, [.ref (am 0), .int v1, .int v2, .ref (am 3), .ref (am 4), .ref (am 5), .ref (am 6), .ref (am 7), .int v8, .int v9, .int v10, .int v11, .int v12, .int v13, .int v14, .ref (am 15), .int v16, .ref (am 17), .int t_1, .ref (am 19), .ref (am 20), .int v21, .int v22, .int v23, .int v24, .int v25, .ref (am 26), .int v27, .ref (am 28), .ref (am 29), .ref (am 30), .ref (am 31), .long v32, .ref (am 33), .ref (am 34), .ref (am 35), .ref (am 36)]))] ++ wt) _ := hP
  have hD9 : va_D A ([(m0, .inr (12, [.ref (am 0), .int v1, .int v2, .ref (am 3), .ref (am 4), .ref (am 5), .ref (am 6), .ref (am 7), .int v8, .int v9, .int v10, .int v11, .int v12, .int v13, .int v14, .ref (am 15), .int v16, .ref (am 17), .int t_1, .ref (am 19), .ref (am 20), .int v21, .int v22, .int v23, .int v24, .int v25, .ref (am 26), .int v27, .ref (am 28), .ref (am 29), .ref (am 30), .ref (am 31), .long v32, .ref (am 33), .ref (am 34), .ref (am 35), .ref (am 36)]))] ++ wt) := hD
  exact W.lret (v := m_2) hx hb hr (gq_endJ (t_1, wt) ⟨hT, hW, (by omega), (by omega), (by omega)⟩ hP9 hD9 hS) hS.2.2 dX12_pop_19
set_option maxHeartbeats 4000000 in
set_option maxRecDepth 100000 in
theorem d_m_one (l : Launch) (G : gg_T) (Γ : Nat → Nat) (sz : Nat) (wt : va_W) (hT : tk_ty G Γ wt) (b : Int32) (a : Int64) (w : Int64) : Met l yX12_one (ts_L yX12_one cX12_one 5 (some .long)) ({ frames := 0, cells := 0, slots := 0, locals := 0 }) (gc_P G wt sz [.int b, .long a, .long w]) (gc_J G (va_A wt sz) (fun r (u : va_W) => tk_ty G Γ u ∧ tk_kp [] wt u) (fun u => u)) 0 0 (va_A wt sz) := by
  refine Met.ofW (cc := cX12_one) (maxL := 5) (ret := (some .long)) (by decide) rfl ?_
  intro p e s m args below meth c s₁ B hml hv
  obtain ⟨rfl, hsz, hP, hK, hD0⟩ := hv
  have hx := B.exec
  have hb := B.bytes
  have hr := B.returns
  have ht := ts_ht (atoms_spec (ws := ts_L yX12_one cX12_one 5 (some .long)) B.pre)
  have hown : s.vm.findClass RX12 = some m.cls := findClass_of_methodNamed B.named
  have hlocks := B.notSynchronized
  subst hsz
  have hD := hD0.self (sz := s.heap.size)
  generalize hAe : va_A wt s.heap.size = A at hD ⊢
  have hA : ∀ q : Nat, s.heap.size ≤ q → A q := fun q h => by rw [← hAe]; exact Or.inr h
  clear hAe hD0
  have hS : va_S A s.heap s.heap [] := va_S.rf
  obtain ⟨w0, hw0⟩ : ∃ z, z = wt := ⟨_, rfl⟩
  have hW : tk_kp [] w0 wt := by rw [hw0]; exact tk_kp.rf
  rw [← hw0]
  clear hw0
  have hP : va_P (gg_D G) classes ([] ++ wt) s.heap := hP
  have hD : va_D A ([] ++ wt) := hD
  have hl := lv_entry ([.int b, .long a, .long w]) (n := 5) (Nat.le_of_ble_eq_true rfl)
  rw [lg_entry_eq]
  generalize (lg_sl ([.int b, .long a, .long w]) ++ List.replicate (5 - (lg_sl ([.int b, .long a, .long w])).length) Slot.unset).toArray = ls at hl ⊢
  have hl : lv_has ls 5 [(0, .int b), (1, .long a), (3, .long w)] := hl
  have L0 : (0 : Int64).toInt = 0 := by decide +kernel
  have l0 : (0 : Int32).toInt = 0 := by decide +kernel
  have l2 : (2 : Int32).toInt = 2 := by decide +kernel
  have l3 : (3 : Int32).toInt = 3 := by decide +kernel
  have l4 : (4 : Int32).toInt = 4 := by decide +kernel
  have l5 : (5 : Int32).toInt = 5 := by decide +kernel
  have l6 : (6 : Int32).toInt = 6 := by decide +kernel
  have l7 : (7 : Int32).toInt = 7 := by decide +kernel
  have l8 : (8 : Int32).toInt = 8 := by decide +kernel
  have l9 : (9 : Int32).toInt = 9 := by decide +kernel
  have l10 : (10 : Int32).toInt = 10 := by decide +kernel
  have l11 : (11 : Int32).toInt = 11 := by decide +kernel
  have l12 : (12 : Int32).toInt = 12 := by decide +kernel
  have l13 : (13 : Int32).toInt = 13 := by decide +kernel
  have l14 : (14 : Int32).toInt = 14 := by decide +kernel
  refine lv_iload_n hx hb dX12_one_0 rfl (lv_at hl 0 rfl) ?_
  by_cases c_1 : b = 2
  · refine lv_tableIn (x := b) (off := 67) (tgt := 68) hx hb dX12_one_1 (by rw [c_1]; decide +kernel) (by rw [c_1]; decide +kernel) (by rw [c_1]; decide +kernel) (by decide) ?_
    rw [← Int32.toInt_inj] at c_1
    refine lv_lload_n hx hb dX12_one_68 rfl (lv_at hl 1 rfl) ?_
    refine lv_lload_n hx hb dX12_one_69 rfl (lv_at hl 2 rfl) ?_
    refine lv_ladd hx hb dX12_one_70 ?_
    refine lv_topl (fun m_2 em_2 => ?_)
    clear em_2
    exact W.lret (v := m_2) hx hb hr (gq_endJ wt ⟨hT, hW⟩ (tw_right hP) (tw_rightD hD) hS) hS.2.2 dX12_one_71
  by_cases c_3 : b = 3
  · refine lv_tableIn (x := b) (off := 71) (tgt := 72) hx hb dX12_one_1 (by rw [c_3]; decide +kernel) (by rw [c_3]; decide +kernel) (by rw [c_3]; decide +kernel) (by decide) ?_
    rw [← Int32.toInt_inj] at c_3
    refine lv_lload_n hx hb dX12_one_72 rfl (lv_at hl 1 rfl) ?_
    refine lv_lload_n hx hb dX12_one_73 rfl (lv_at hl 2 rfl) ?_
    refine lv_lsub hx hb dX12_one_74 ?_
    refine lv_topl (fun m_4 em_4 => ?_)
    clear em_4
    exact W.lret (v := m_4) hx hb hr (gq_endJ wt ⟨hT, hW⟩ (tw_right hP) (tw_rightD hD) hS) hS.2.2 dX12_one_75
  by_cases c_5 : b = 4
  · refine lv_tableIn (x := b) (off := 75) (tgt := 76) hx hb dX12_one_1 (by rw [c_5]; decide +kernel) (by rw [c_5]; decide +kernel) (by rw [c_5]; decide +kernel) (by decide) ?_
    rw [← Int32.toInt_inj] at c_5
    refine lv_lload_n hx hb dX12_one_76 rfl (lv_at hl 1 rfl) ?_
    refine lv_lload_n hx hb dX12_one_77 rfl (lv_at hl 2 rfl) ?_
    refine lv_lmul hx hb dX12_one_78 ?_
    refine lv_topl (fun m_6 em_6 => ?_)
    clear em_6
    exact W.lret (v := m_6) hx hb hr (gq_endJ wt ⟨hT, hW⟩ (tw_right hP) (tw_rightD hD) hS) hS.2.2 dX12_one_79
  by_cases c_7 : b = 5
  · refine lv_tableIn (x := b) (off := 79) (tgt := 80) hx hb dX12_one_1 (by rw [c_7]; decide +kernel) (by rw [c_7]; decide +kernel) (by rw [c_7]; decide +kernel) (by decide) ?_
    rw [← Int32.toInt_inj] at c_7
    refine lv_lload_n hx hb dX12_one_80 rfl (lv_at hl 2 rfl) ?_
    refine lv_lconst (v := 0) hx hb dX12_one_81 (by decide +kernel) ?_
    obtain ⟨t_8, et_8⟩ : ∃ zz_ : Int32, lg_cmp w 0 = zz_ := ⟨_, rfl⟩
    refine gq_lcmp hx hb t_8 et_8 dX12_one_82 ?_
    have ft_8 := il_cmp et_8
    refine lv_if_ne (tgt := 90) hx hb dX12_one_83 (by decide) (fun c_9 => ?_) (fun c_9 => ?_)
    · rw [← Int32.toInt_inj] at c_9
      have zc_9 := il_ne et_8 c_9
      refine lv_lload_n hx hb dX12_one_90 rfl (lv_at hl 1 rfl) ?_
      refine lv_lload_n hx hb dX12_one_91 rfl (lv_at hl 2 rfl) ?_
      refine lv_ldiv hx hb dX12_one_92 zc_9 ?_
      refine lv_topl (fun m_10 em_10 => ?_)
      clear em_10
      exact W.lret (v := m_10) hx hb hr (gq_endJ wt ⟨hT, hW⟩ (tw_right hP) (tw_rightD hD) hS) hS.2.2 dX12_one_93
    · rw [← Int32.toInt_inj] at c_9
      refine lv_lconst (v := 0) hx hb dX12_one_86 (by decide +kernel) ?_
      refine lv_goto (tgt := 93) hx hb dX12_one_87 (by decide) ?_
      exact W.lret (v := 0) hx hb hr (gq_endJ wt ⟨hT, hW⟩ (tw_right hP) (tw_rightD hD) hS) hS.2.2 dX12_one_93
  by_cases c_11 : b = 6
  · refine lv_tableIn (x := b) (off := 107) (tgt := 108) hx hb dX12_one_1 (by rw [c_11]; decide +kernel) (by rw [c_11]; decide +kernel) (by rw [c_11]; decide +kernel) (by decide) ?_
    rw [← Int32.toInt_inj] at c_11
    refine lv_lload_n hx hb dX12_one_108 rfl (lv_at hl 1 rfl) ?_
    refine lv_lload_n hx hb dX12_one_109 rfl (lv_at hl 2 rfl) ?_
    obtain ⟨t_12, et_12⟩ : ∃ zz_ : Int32, lg_cmp a w = zz_ := ⟨_, rfl⟩
    refine gq_lcmp hx hb t_12 et_12 dX12_one_110 ?_
    have ft_12 := il_cmp et_12
    refine lv_if_ge (tgt := 118) hx hb dX12_one_111 (by decide) (fun c_13 => ?_) (fun c_13 => ?_)
    · rw [Int32.le_iff_toInt_le] at c_13
      refine lv_lconst (v := 0) hx hb dX12_one_118 (by decide +kernel) ?_
      exact W.lret (v := 0) hx hb hr (gq_endJ wt ⟨hT, hW⟩ (tw_right hP) (tw_rightD hD) hS) hS.2.2 dX12_one_119
    · rw [Int32.le_iff_toInt_le] at c_13
      refine lv_lconst (v := 1) hx hb dX12_one_114 (by decide +kernel) ?_
      refine lv_goto (tgt := 119) hx hb dX12_one_115 (by decide) ?_
      exact W.lret (v := 1) hx hb hr (gq_endJ wt ⟨hT, hW⟩ (tw_right hP) (tw_rightD hD) hS) hS.2.2 dX12_one_119
  by_cases c_14 : b = 7
  · refine lv_tableIn (x := b) (off := 119) (tgt := 120) hx hb dX12_one_1 (by rw [c_14]; decide +kernel) (by rw [c_14]; decide +kernel) (by rw [c_14]; decide +kernel) (by decide) ?_
    rw [← Int32.toInt_inj] at c_14
    refine lv_lload_n hx hb dX12_one_120 rfl (lv_at hl 1 rfl) ?_
    refine lv_lload_n hx hb dX12_one_121 rfl (lv_at hl 2 rfl) ?_
    obtain ⟨t_15, et_15⟩ : ∃ zz_ : Int32, lg_cmp a w = zz_ := ⟨_, rfl⟩
    refine gq_lcmp hx hb t_15 et_15 dX12_one_122 ?_
    have ft_15 := il_cmp et_15
    refine lv_if_gt (tgt := 130) hx hb dX12_one_123 (by decide) (fun c_16 => ?_) (fun c_16 => ?_)
    · rw [Int32.lt_iff_toInt_lt] at c_16
      refine lv_lconst (v := 0) hx hb dX12_one_130 (by decide +kernel) ?_
      exact W.lret (v := 0) hx hb hr (gq_endJ wt ⟨hT, hW⟩ (tw_right hP) (tw_rightD hD) hS) hS.2.2 dX12_one_131
    · rw [Int32.lt_iff_toInt_lt] at c_16
      refine lv_lconst (v := 1) hx hb dX12_one_126 (by decide +kernel) ?_
      refine lv_goto (tgt := 131) hx hb dX12_one_127 (by decide) ?_
      exact W.lret (v := 1) hx hb hr (gq_endJ wt ⟨hT, hW⟩ (tw_right hP) (tw_rightD hD) hS) hS.2.2 dX12_one_131
  by_cases c_17 : b = 8
  · refine lv_tableIn (x := b) (off := 131) (tgt := 132) hx hb dX12_one_1 (by rw [c_17]; decide +kernel) (by rw [c_17]; decide +kernel) (by rw [c_17]; decide +kernel) (by decide) ?_
    rw [← Int32.toInt_inj] at c_17
    refine lv_lload_n hx hb dX12_one_132 rfl (lv_at hl 1 rfl) ?_
    refine lv_lload_n hx hb dX12_one_133 rfl (lv_at hl 2 rfl) ?_
    obtain ⟨t_18, et_18⟩ : ∃ zz_ : Int32, lg_cmp a w = zz_ := ⟨_, rfl⟩
    refine gq_lcmp hx hb t_18 et_18 dX12_one_134 ?_
    have ft_18 := il_cmp et_18
    refine lv_if_ne (tgt := 142) hx hb dX12_one_135 (by decide) (fun c_19 => ?_) (fun c_19 => ?_)
    · rw [← Int32.toInt_inj] at c_19
      refine lv_lconst (v := 0) hx hb dX12_one_142 (by decide +kernel) ?_
      exact W.lret (v := 0) hx hb hr (gq_endJ wt ⟨hT, hW⟩ (tw_right hP) (tw_rightD hD) hS) hS.2.2 dX12_one_143
    · rw [← Int32.toInt_inj] at c_19
      refine lv_lconst (v := 1) hx hb dX12_one_138 (by decide +kernel) ?_
      refine lv_goto (tgt := 143) hx hb dX12_one_139 (by decide) ?_
      exact W.lret (v := 1) hx hb hr (gq_endJ wt ⟨hT, hW⟩ (tw_right hP) (tw_rightD hD) hS) hS.2.2 dX12_one_143
  by_cases c_20 : b = 9
  · refine lv_tableIn (x := b) (off := 143) (tgt := 144) hx hb dX12_one_1 (by rw [c_20]; decide +kernel) (by rw [c_20]; decide +kernel) (by rw [c_20]; decide +kernel) (by decide) ?_
    rw [← Int32.toInt_inj] at c_20
    refine lv_lload_n hx hb dX12_one_144 rfl (lv_at hl 1 rfl) ?_
    refine lv_lload_n hx hb dX12_one_145 rfl (lv_at hl 2 rfl) ?_
    obtain ⟨t_21, et_21⟩ : ∃ zz_ : Int32, lg_cmp a w = zz_ := ⟨_, rfl⟩
    refine gq_lcmp hx hb t_21 et_21 dX12_one_146 ?_
    have ft_21 := il_cmp et_21
    refine lv_if_lt (tgt := 154) hx hb dX12_one_147 (by decide) (fun c_22 => ?_) (fun c_22 => ?_)
    · rw [Int32.lt_iff_toInt_lt] at c_22
      refine lv_lconst (v := 0) hx hb dX12_one_154 (by decide +kernel) ?_
      exact W.lret (v := 0) hx hb hr (gq_endJ wt ⟨hT, hW⟩ (tw_right hP) (tw_rightD hD) hS) hS.2.2 dX12_one_155
    · rw [Int32.lt_iff_toInt_lt] at c_22
      refine lv_lconst (v := 1) hx hb dX12_one_150 (by decide +kernel) ?_
      refine lv_goto (tgt := 155) hx hb dX12_one_151 (by decide) ?_
      exact W.lret (v := 1) hx hb hr (gq_endJ wt ⟨hT, hW⟩ (tw_right hP) (tw_rightD hD) hS) hS.2.2 dX12_one_155
  by_cases c_23 : b = 10
  · refine lv_tableIn (x := b) (off := 155) (tgt := 156) hx hb dX12_one_1 (by rw [c_23]; decide +kernel) (by rw [c_23]; decide +kernel) (by rw [c_23]; decide +kernel) (by decide) ?_
    rw [← Int32.toInt_inj] at c_23
    refine lv_lload_n hx hb dX12_one_156 rfl (lv_at hl 1 rfl) ?_
    refine lv_lload_n hx hb dX12_one_157 rfl (lv_at hl 2 rfl) ?_
    obtain ⟨t_24, et_24⟩ : ∃ zz_ : Int32, lg_cmp a w = zz_ := ⟨_, rfl⟩
    refine gq_lcmp hx hb t_24 et_24 dX12_one_158 ?_
    have ft_24 := il_cmp et_24
    refine lv_if_le (tgt := 166) hx hb dX12_one_159 (by decide) (fun c_25 => ?_) (fun c_25 => ?_)
    · rw [Int32.le_iff_toInt_le] at c_25
      refine lv_lconst (v := 0) hx hb dX12_one_166 (by decide +kernel) ?_
      exact W.lret (v := 0) hx hb hr (gq_endJ wt ⟨hT, hW⟩ (tw_right hP) (tw_rightD hD) hS) hS.2.2 dX12_one_167
    · rw [Int32.le_iff_toInt_le] at c_25
      refine lv_lconst (v := 1) hx hb dX12_one_162 (by decide +kernel) ?_
      refine lv_goto (tgt := 167) hx hb dX12_one_163 (by decide) ?_
      exact W.lret (v := 1) hx hb hr (gq_endJ wt ⟨hT, hW⟩ (tw_right hP) (tw_rightD hD) hS) hS.2.2 dX12_one_167
  by_cases c_26 : b = 11
  · refine lv_tableIn (x := b) (off := 171) (tgt := 172) hx hb dX12_one_1 (by rw [c_26]; decide +kernel) (by rw [c_26]; decide +kernel) (by rw [c_26]; decide +kernel) (by decide) ?_
    rw [← Int32.toInt_inj] at c_26
    refine lv_lload_n hx hb dX12_one_172 rfl (lv_at hl 1 rfl) ?_
    refine lv_lload_n hx hb dX12_one_173 rfl (lv_at hl 2 rfl) ?_
    refine lv_lor hx hb dX12_one_174 ?_
    refine lv_topl (fun m_27 em_27 => ?_)
    clear em_27
    exact W.lret (v := m_27) hx hb hr (gq_endJ wt ⟨hT, hW⟩ (tw_right hP) (tw_rightD hD) hS) hS.2.2 dX12_one_175
  by_cases c_28 : b = 12
  · refine lv_tableIn (x := b) (off := 167) (tgt := 168) hx hb dX12_one_1 (by rw [c_28]; decide +kernel) (by rw [c_28]; decide +kernel) (by rw [c_28]; decide +kernel) (by decide) ?_
    rw [← Int32.toInt_inj] at c_28
    refine lv_lload_n hx hb dX12_one_168 rfl (lv_at hl 1 rfl) ?_
    refine lv_lload_n hx hb dX12_one_169 rfl (lv_at hl 2 rfl) ?_
    refine lv_land hx hb dX12_one_170 ?_
    refine lv_topl (fun m_29 em_29 => ?_)
    clear em_29
    exact W.lret (v := m_29) hx hb hr (gq_endJ wt ⟨hT, hW⟩ (tw_right hP) (tw_rightD hD) hS) hS.2.2 dX12_one_171
  by_cases c_30 : b = 13
  · refine lv_tableIn (x := b) (off := 171) (tgt := 172) hx hb dX12_one_1 (by rw [c_30]; decide +kernel) (by rw [c_30]; decide +kernel) (by rw [c_30]; decide +kernel) (by decide) ?_
    rw [← Int32.toInt_inj] at c_30
    refine lv_lload_n hx hb dX12_one_172 rfl (lv_at hl 1 rfl) ?_
    refine lv_lload_n hx hb dX12_one_173 rfl (lv_at hl 2 rfl) ?_
    refine lv_lor hx hb dX12_one_174 ?_
    refine lv_topl (fun m_31 em_31 => ?_)
    clear em_31
    exact W.lret (v := m_31) hx hb hr (gq_endJ wt ⟨hT, hW⟩ (tw_right hP) (tw_rightD hD) hS) hS.2.2 dX12_one_175
  by_cases c_32 : b = 14
  · refine lv_tableIn (x := b) (off := 93) (tgt := 94) hx hb dX12_one_1 (by rw [c_32]; decide +kernel) (by rw [c_32]; decide +kernel) (by rw [c_32]; decide +kernel) (by decide) ?_
    rw [← Int32.toInt_inj] at c_32
    refine lv_lload_n hx hb dX12_one_94 rfl (lv_at hl 2 rfl) ?_
    refine lv_lconst (v := 0) hx hb dX12_one_95 (by decide +kernel) ?_
    obtain ⟨t_33, et_33⟩ : ∃ zz_ : Int32, lg_cmp w 0 = zz_ := ⟨_, rfl⟩
    refine gq_lcmp hx hb t_33 et_33 dX12_one_96 ?_
    have ft_33 := il_cmp et_33
    refine lv_if_ne (tgt := 104) hx hb dX12_one_97 (by decide) (fun c_34 => ?_) (fun c_34 => ?_)
    · rw [← Int32.toInt_inj] at c_34
      have zc_34 := il_ne et_33 c_34
      refine lv_lload_n hx hb dX12_one_104 rfl (lv_at hl 1 rfl) ?_
      refine lv_lload_n hx hb dX12_one_105 rfl (lv_at hl 2 rfl) ?_
      refine lv_lrem hx hb dX12_one_106 zc_34 ?_
      refine lv_topl (fun m_35 em_35 => ?_)
      clear em_35
      exact W.lret (v := m_35) hx hb hr (gq_endJ wt ⟨hT, hW⟩ (tw_right hP) (tw_rightD hD) hS) hS.2.2 dX12_one_107
    · rw [← Int32.toInt_inj] at c_34
      refine lv_lconst (v := 0) hx hb dX12_one_100 (by decide +kernel) ?_
      refine lv_goto (tgt := 107) hx hb dX12_one_101 (by decide) ?_
      exact W.lret (v := 0) hx hb hr (gq_endJ wt ⟨hT, hW⟩ (tw_right hP) (tw_rightD hD) hS) hS.2.2 dX12_one_107
  rw [← Int32.toInt_inj] at c_1 c_3 c_5 c_7 c_11 c_14 c_17 c_20 c_23 c_26 c_28 c_30 c_32
  refine lv_tableOut (x := b) (tgt := 172) hx hb dX12_one_1 (by omega) (by decide) ?_
  refine lv_lload_n hx hb dX12_one_172 rfl (lv_at hl 1 rfl) ?_
  refine lv_lload_n hx hb dX12_one_173 rfl (lv_at hl 2 rfl) ?_
  refine lv_lor hx hb dX12_one_174 ?_
  refine lv_topl (fun m_36 em_36 => ?_)
  clear em_36
  exact W.lret (v := m_36) hx hb hr (gq_endJ wt ⟨hT, hW⟩ (tw_right hP) (tw_rightD hD) hS) hS.2.2 dX12_one_175
set_option maxHeartbeats 4000000 in
set_option maxRecDepth 100000 in
theorem d_m_reckons (l : Launch) (G : gg_T) (Γ : Nat → Nat) (sz : Nat) (wt : va_W) (hT : tk_ty G Γ wt) (b : Int32) (w : Int32) (z : Int32) (m0 : Nat) (am : Nat → Nat) (v1 : Int32) (v2 : Int32) (v8 : Int32) (v9 : Int32) (v10 : Int32) (v11 : Int32) (v12 : Int32) (v13 : Int32) (v14 : Int32) (v16 : Int32) (v18 : Int32) (v21 : Int32) (v22 : Int32) (v23 : Int32) (v24 : Int32) (v25 : Int32) (v27 : Int32) (v32 : Int64) (sg : Nat → Int32) (lo_b : 0 ≤ b.toInt) (hi_b : b.toInt ≤ 5) (k17 : Γ (am 17) = 32) (k19 : Γ (am 19) = 30) (k30 : Γ (am 30) = 28) (k31 : Γ (am 31) = 28) (lo_v1 : 0 ≤ v1.toInt) (hi_v1 : v1.toInt ≤ 400) (lo_v2 : 0 ≤ v2.toInt) (hi_v2 : v2.toInt ≤ 6) (lo_v8 : 0 ≤ v8.toInt) (hi_v8 : v8.toInt ≤ 400) (lo_v11 : 0 ≤ v11.toInt) (hi_v11 : v11.toInt ≤ 6) (lo_v12 : 0 ≤ v12.toInt) (hi_v12 : v12.toInt ≤ 60) (lo_v16 : 0 ≤ v16.toInt) (hi_v16 : v16.toInt ≤ 400) (lo_v21 : -1 ≤ v21.toInt) (hi_v21 : v21.toInt ≤ 5) (lo_v23 : 0 ≤ v23.toInt) (hi_v23 : v23.toInt ≤ 31) (lo_v27 : 0 ≤ v27.toInt) (hi_v27 : v27.toInt ≤ 20) (xfr : v21.toInt < v2.toInt) (hWF : rWF sg b.toInt.toNat w z 400) : Met l yX12_reckons (ts_L yX12_reckons cX12_reckons 11 (some .long)) ({ frames := 1, cells := 0, slots := 0, locals := 24 }) (gc_P G ([((am 3), .inl (G.2.2 0, 2400, .inl sg)), (m0, .inr (12, [.ref (am 0), .int v1, .int v2, .ref (am 3), .ref (am 4), .ref (am 5), .ref (am 6), .ref (am 7), .int v8, .int v9, .int v10, .int v11, .int v12, .int v13, .int v14, .ref (am 15), .int v16, .ref (am 17), .int v18, .ref (am 19), .ref (am 20), .int v21, .int v22, .int v23, .int v24, .int v25, .ref (am 26), .int v27, .ref (am 28), .ref (am 29), .ref (am 30), .ref (am 31), .long v32, .ref (am 33), .ref (am 34), .ref (am 35), .ref (am 36)]))] ++ wt) sz [.ref m0, .int b, .int w, .int z]) (gc_J G (va_A ([((am 3), .inl (G.2.2 0, 2400, .inl sg)), (m0, .inr (12, [.ref (am 0), .int v1, .int v2, .ref (am 3), .ref (am 4), .ref (am 5), .ref (am 6), .ref (am 7), .int v8, .int v9, .int v10, .int v11, .int v12, .int v13, .int v14, .ref (am 15), .int v16, .ref (am 17), .int v18, .ref (am 19), .ref (am 20), .int v21, .int v22, .int v23, .int v24, .int v25, .ref (am 26), .int v27, .ref (am 28), .ref (am 29), .ref (am 30), .ref (am 31), .long v32, .ref (am 33), .ref (am 34), .ref (am 35), .ref (am 36)]))] ++ wt) sz) (fun r (u : (Int32) × va_W) => match u with | (w18, wt1) => tk_ty G Γ wt1 ∧ tk_kp [] wt wt1) (fun (u : (Int32) × va_W) => match u with | (w18, wt1) => [((am 3), .inl (G.2.2 0, 2400, .inl sg)), (m0, .inr (12, [.ref (am 0), .int v1, .int v2, .ref (am 3), .ref (am 4), .ref (am 5), .ref (am 6), .ref (am 7), .int v8, .int v9, .int v10, .int v11, .int v12, .int v13, .int v14, .ref (am 15), .int v16, .ref (am 17), .int w18, .ref (am 19), .ref (am 20), .int v21, .int v22, .int v23, .int v24, .int v25, .ref (am 26), .int v27, .ref (am 28), .ref (am 29), .ref (am 30), .ref (am 31), .long v32, .ref (am 33), .ref (am 34), .ref (am 35), .ref (am 36)]))] ++ wt1)) 0 0 (va_A ([((am 3), .inl (G.2.2 0, 2400, .inl sg)), (m0, .inr (12, [.ref (am 0), .int v1, .int v2, .ref (am 3), .ref (am 4), .ref (am 5), .ref (am 6), .ref (am 7), .int v8, .int v9, .int v10, .int v11, .int v12, .int v13, .int v14, .ref (am 15), .int v16, .ref (am 17), .int v18, .ref (am 19), .ref (am 20), .int v21, .int v22, .int v23, .int v24, .int v25, .ref (am 26), .int v27, .ref (am 28), .ref (am 29), .ref (am 30), .ref (am 31), .long v32, .ref (am 33), .ref (am 34), .ref (am 35), .ref (am 36)]))] ++ wt) sz) := by
  refine Met.ofW (cc := cX12_reckons) (maxL := 11) (ret := (some .long)) (by decide) rfl ?_
  intro p e s m args below meth c s₁ B hml hv
  obtain ⟨rfl, hsz, hP, hK, hD0⟩ := hv
  have hx := B.exec
  have hb := B.bytes
  have hr := B.returns
  have ht := ts_ht (atoms_spec (ws := ts_L yX12_reckons cX12_reckons 11 (some .long)) B.pre)
  have hown : s.vm.findClass RX12 = some m.cls := findClass_of_methodNamed B.named
  have hlocks := B.notSynchronized
  subst hsz
  have hD := hD0.self (sz := s.heap.size)
  generalize hAe : va_A ([((am 3), .inl (G.2.2 0, 2400, .inl sg)), (m0, .inr (12, [.ref (am 0), .int v1, .int v2, .ref (am 3), .ref (am 4), .ref (am 5), .ref (am 6), .ref (am 7), .int v8, .int v9, .int v10, .int v11, .int v12, .int v13, .int v14, .ref (am 15), .int v16, .ref (am 17), .int v18, .ref (am 19), .ref (am 20), .int v21, .int v22, .int v23, .int v24, .int v25, .ref (am 26), .int v27, .ref (am 28), .ref (am 29), .ref (am 30), .ref (am 31), .long v32, .ref (am 33), .ref (am 34), .ref (am 35), .ref (am 36)]))] ++ wt) s.heap.size = A at hD ⊢
  have hA : ∀ q : Nat, s.heap.size ≤ q → A q := fun q h => by rw [← hAe]; exact Or.inr h
  clear hAe hD0
  have hS : va_S A s.heap s.heap [] := va_S.rf
  obtain ⟨w0, hw0⟩ : ∃ z, z = wt := ⟨_, rfl⟩
  have hW : tk_kp [] w0 wt := by rw [hw0]; exact tk_kp.rf
  rw [← hw0]
  clear hw0
  have hP : va_P (gg_D G) classes ([((am 3), .inl (G.2.2 0, 2400, .inl sg)), (m0, .inr (12, [.ref (am 0), .int v1, .int v2, .ref (am 3), .ref (am 4), .ref (am 5), .ref (am 6), .ref (am 7), .int v8, .int v9, .int v10, .int v11, .int v12, .int v13, .int v14, .ref (am 15), .int v16, .ref (am 17), .int v18, .ref (am 19), .ref (am 20), .int v21, .int v22, .int v23, .int v24, .int v25, .ref (am 26), .int v27, .ref (am 28), .ref (am 29), .ref (am 30), .ref (am 31), .long v32, .ref (am 33), .ref (am 34), .ref (am 35), .ref (am 36)]))] ++ wt) s.heap := hP
  have hD : va_D A ([((am 3), .inl (G.2.2 0, 2400, .inl sg)), (m0, .inr (12, [.ref (am 0), .int v1, .int v2, .ref (am 3), .ref (am 4), .ref (am 5), .ref (am 6), .ref (am 7), .int v8, .int v9, .int v10, .int v11, .int v12, .int v13, .int v14, .ref (am 15), .int v16, .ref (am 17), .int v18, .ref (am 19), .ref (am 20), .int v21, .int v22, .int v23, .int v24, .int v25, .ref (am 26), .int v27, .ref (am 28), .ref (am 29), .ref (am 30), .ref (am 31), .long v32, .ref (am 33), .ref (am 34), .ref (am 35), .ref (am 36)]))] ++ wt) := hD
  have hl := lv_entry ([.ref m0, .int b, .int w, .int z]) (n := 11) (Nat.le_of_ble_eq_true rfl)
  rw [lg_entry_eq]
  generalize (lg_sl ([.ref m0, .int b, .int w, .int z]) ++ List.replicate (11 - (lg_sl ([.ref m0, .int b, .int w, .int z])).length) Slot.unset).toArray = ls at hl ⊢
  have hl : lv_has ls 11 [(0, .ref m0), (1, .int b), (2, .int w), (3, .int z)] := hl
  obtain ⟨hw0, hw1, hw2, hw3, hw4, g, hg0, hg1, hgs⟩ := hWF
  have bd_w := ia_bd w
  have bd_z := ia_bd z
  have l0 : (0 : Int32).toInt = 0 := by decide +kernel
  have l1 : (1 : Int32).toInt = 1 := by decide +kernel
  have l11 : (11 : Int32).toInt = 11 := by decide +kernel
  have l15 : (15 : Int32).toInt = 15 := by decide +kernel
  have l400 : (400 : Int32).toInt = 400 := by decide +kernel
  refine lv_aload_n hx hb dX12_reckons_0 rfl (lv_at hl 0 rfl) ?_
  refine lv_iconst (v := 0) hx hb dX12_reckons_1 (by decide +kernel) ?_
  refine gq_put (ws' := [((am 3), .inl (G.2.2 0, 2400, .inl sg)), (m0, .inr (12, [.ref (am 0), .int v1, .int v2, .ref (am 3), .ref (am 4), .ref (am 5), .ref (am 6), .ref (am 7), .int v8, .int v9, .int v10, .int v11, .int v12, .int v13, .int v14, .ref (am 15), .int v16, .ref (am 17), .int 0, .ref (am 19), .ref (am 20), .int v21, .int v22, .int v23, .int v24, .int v25, .ref (am 26), .int v27, .ref (am 28), .ref (am 29), .ref (am 30), .ref (am 31), .long v32, .ref (am 33), .ref (am 34), .ref (am 35), .ref (am 36)]))] ++ wt) hx hb ht hown hK hP hD hS i_X12 tyX12 tyX12_ok nmX12 1 rfl rfl 18 (by decide) wd_1270 rfl rfl rfl rfl (Nat.le_of_ble_eq_true rfl) rfl dX12_reckons_2 (fun H locs hP hD hS => ?_)
  refine lv_iload_n hx hb dX12_reckons_5 rfl (lv_at hl 2 rfl) ?_
  refine lv_istore (lv' := [(4, .int w), (0, .ref m0), (1, .int b), (2, .int w), (3, .int z)]) hx hb dX12_reckons_6 hl (by decide) rfl (fun ls hl => ?_)
  have hg : (0 : Int32).toInt = g w.toInt.toNat := by rw [hg0]; exact l0
  refine tl_loopE (Γ := Γ) (nL := 11) (fun (zz_ : Int32 × Int32) => match zz_ with | (x8_0, x8_1) => (0 ≤ x8_0.toInt) ∧ (x8_0.toInt ≤ 400) ∧ (0 ≤ x8_1.toInt) ∧ (x8_1.toInt ≤ 60) ∧ (w.toInt ≤ x8_0.toInt) ∧ (x8_0.toInt ≤ z.toInt) ∧ (x8_1.toInt = g (x8_0.toInt).toNat)) (fun (zz_ : Int32 × Int32) => match zz_ with | (x8_0, x8_1) => (z.toInt - x8_0.toInt).toNat) (fun (zz_ : Int32 × Int32) => match zz_ with | (x8_0, x8_1) => [(4, .int x8_0), (0, .ref m0), (1, .int b), (2, .int w), (3, .int z)]) (fun (zz_ : Int32 × Int32) => match zz_ with | (x8_0, x8_1) => [((am 3), .inl (G.2.2 0, 2400, .inl sg)), (m0, .inr (12, [.ref (am 0), .int v1, .int v2, .ref (am 3), .ref (am 4), .ref (am 5), .ref (am 6), .ref (am 7), .int v8, .int v9, .int v10, .int v11, .int v12, .int v13, .int v14, .ref (am 15), .int v16, .ref (am 17), .int x8_1, .ref (am 19), .ref (am 20), .int v21, .int v22, .int v23, .int v24, .int v25, .ref (am 26), .int v27, .ref (am 28), .ref (am 29), .ref (am 30), .ref (am 31), .long v32, .ref (am 33), .ref (am 34), .ref (am 35), .ref (am 36)]))]) (fun (zz_ : Int32 × Int32) (w : va_W) => match zz_ with | (x8_0, x8_1) => tk_kp [] w0 w) (fun zz_ hI H locs wt ls hT hW hP hD hS hl ih8 => ?_) (w, 0) (show (0 ≤ w.toInt) ∧ (w.toInt ≤ 400) ∧ (0 ≤ (0 : Int32).toInt) ∧ ((0 : Int32).toInt ≤ 60) ∧ (w.toInt ≤ w.toInt) ∧ (w.toInt ≤ z.toInt) ∧ ((0 : Int32).toInt = g (w.toInt).toNat) from ⟨by omega, by omega, by omega, by omega, by omega, by omega, hg⟩) _ _ wt ls hT hW hP hD hS hl
  obtain ⟨x8_0, x8_1⟩ := zz_
  have hW : tk_kp [] w0 wt := hW
  have hI : (0 ≤ x8_0.toInt) ∧ (x8_0.toInt ≤ 400) ∧ (0 ≤ x8_1.toInt) ∧ (x8_1.toInt ≤ 60) ∧ (w.toInt ≤ x8_0.toInt) ∧ (x8_0.toInt ≤ z.toInt) ∧ (x8_1.toInt = g (x8_0.toInt).toNat) := hI
  obtain ⟨j8_0, j8_1, j8_2, j8_3, j8_4, j8_5, hg⟩ := hI
  have hl : lv_has ls 11 [(4, .int x8_0), (0, .ref m0), (1, .int b), (2, .int w), (3, .int z)] := hl
  have hP : va_P (gg_D G) classes ([((am 3), .inl (G.2.2 0, 2400, .inl sg)), (m0, .inr (12, [.ref (am 0), .int v1, .int v2, .ref (am 3), .ref (am 4), .ref (am 5), .ref (am 6), .ref (am 7), .int v8, .int v9, .int v10, .int v11, .int v12, .int v13, .int v14, .ref (am 15), .int v16, .ref (am 17), .int x8_1, .ref (am 19), .ref (am 20), .int v21, .int v22, .int v23, .int v24, .int v25, .ref (am 26), .int v27, .ref (am 28), .ref (am 29), .ref (am 30), .ref (am 31), .long v32, .ref (am 33), .ref (am 34), .ref (am 35), .ref (am 36)]))] ++ wt) H := hP
  have hD : va_D A ([((am 3), .inl (G.2.2 0, 2400, .inl sg)), (m0, .inr (12, [.ref (am 0), .int v1, .int v2, .ref (am 3), .ref (am 4), .ref (am 5), .ref (am 6), .ref (am 7), .int v8, .int v9, .int v10, .int v11, .int v12, .int v13, .int v14, .ref (am 15), .int v16, .ref (am 17), .int x8_1, .ref (am 19), .ref (am 20), .int v21, .int v22, .int v23, .int v24, .int v25, .ref (am 26), .int v27, .ref (am 28), .ref (am 29), .ref (am 30), .ref (am 31), .long v32, .ref (am 33), .ref (am 34), .ref (am 35), .ref (am 36)]))] ++ wt) := hD
  refine lv_iload hx hb dX12_reckons_8 (lv_at hl 0 rfl) ?_
  refine lv_iload_n hx hb dX12_reckons_10 rfl (lv_at hl 4 rfl) ?_
  refine lv_icmp_ge (tgt := 135) hx hb dX12_reckons_11 (by decide) (fun c_1 => ?_) (fun c_1 => ?_)
  · rw [Int32.le_iff_toInt_le] at c_1
    have hend : x8_1.toInt = 1 := by rw [hg, show x8_0.toInt.toNat = z.toInt.toNat by omega]; exact hg1
    refine lv_aload_n hx hb dX12_reckons_135 rfl (lv_at hl 1 rfl) ?_
    have hP : va_P (gg_D G) classes ([((am 3), .inl (G.2.2 0, 2400, .inl sg))] ++ ([(m0, .inr (12, [.ref (am 0), .int v1, .int v2, .ref (am 3), .ref (am 4), .ref (am 5), .ref (am 6), .ref (am 7), .int v8, .int v9, .int v10, .int v11, .int v12, .int v13, .int v14, .ref (am 15), .int v16, .ref (am 17), .int x8_1, .ref (am 19), .ref (am 20), .int v21, .int v22, .int v23, .int v24, .int v25, .ref (am 26), .int v27, .ref (am 28), .ref (am 29), .ref (am 30), .ref (am 31), .long v32, .ref (am 33), .ref (am 34), .ref (am 35), .ref (am 36)]))] ++ wt)) H := hP
    have hD : va_D A ([((am 3), .inl (G.2.2 0, 2400, .inl sg))] ++ ([(m0, .inr (12, [.ref (am 0), .int v1, .int v2, .ref (am 3), .ref (am 4), .ref (am 5), .ref (am 6), .ref (am 7), .int v8, .int v9, .int v10, .int v11, .int v12, .int v13, .int v14, .ref (am 15), .int v16, .ref (am 17), .int x8_1, .ref (am 19), .ref (am 20), .int v21, .int v22, .int v23, .int v24, .int v25, .ref (am 26), .int v27, .ref (am 28), .ref (am 29), .ref (am 30), .ref (am 31), .long v32, .ref (am 33), .ref (am 34), .ref (am 35), .ref (am 36)]))] ++ wt)) := hD
    refine gt_callJ (wr := [((am 3), .inl (G.2.2 0, 2400, .inl sg))]) (va_runV (As := []) (rest := []) ⟨hx, hb, hml, hown, ht⟩ (d_m_pop l G Γ H.size wt hT m0 am v1 v2 v8 v9 v10 v11 v12 v13 v14 v16 x8_1 v21 v22 v23 v24 v25 v27 v32 (by first | assumption | exact hSD.1 | exact hSD.w _ | (rw [hKH 2 (by omega)]; exact hKP) | omega) (by first | assumption | exact hSD.1 | exact hSD.w _ | (rw [hKH 2 (by omega)]; exact hKP) | omega) (by first | assumption | exact hSD.1 | exact hSD.w _ | (rw [hKH 2 (by omega)]; exact hKP) | omega) (by first | assumption | exact hSD.1 | exact hSD.w _ | (rw [hKH 2 (by omega)]; exact hKP) | omega) (by first | assumption | exact hSD.1 | exact hSD.w _ | (rw [hKH 2 (by omega)]; exact hKP) | omega) (by first | assumption | exact hSD.1 | exact hSD.w _ | (rw [hKH 2 (by omega)]; exact hKP) | omega) (by first | assumption | exact hSD.1 | exact hSD.w _ | (rw [hKH 2 (by omega)]; exact hKP) | omega) (by first | assumption | exact hSD.1 | exact hSD.w _ | (rw [hKH 2 (by omega)]; exact hKP) | omega) (by first | assumption | exact hSD.1 | exact hSD.w _ | (rw [hKH 2 (by omega)]; exact hKP) | omega) (by first | assumption | exact hSD.1 | exact hSD.w _ | (rw [hKH 2 (by omega)]; exact hKP) | omega) (by first | assumption | exact hSD.1 | exact hSD.w _ | (rw [hKH 2 (by omega)]; exact hKP) | omega) (by first | assumption | exact hSD.1 | exact hSD.w _ | (rw [hKH 2 (by omega)]; exact hKP) | omega) (by first | assumption | exact hSD.1 | exact hSD.w _ | (rw [hKH 2 (by omega)]; exact hKP) | omega) (by first | assumption | exact hSD.1 | exact hSD.w _ | (rw [hKH 2 (by omega)]; exact hKP) | omega) (by first | assumption | exact hSD.1 | exact hSD.w _ | (rw [hKH 2 (by omega)]; exact hKP) | omega) (by first | assumption | exact hSD.1 | exact hSD.w _ | (rw [hKH 2 (by omega)]; exact hKP) | omega) (by first | assumption | exact hSD.1 | exact hSD.w _ | (rw [hKH 2 (by omega)]; exact hKP) | omega) (by first | assumption | exact hSD.1 | exact hSD.w _ | (rw [hKH 2 (by omega)]; exact hKP) | omega) (by first | assumption | exact hSD.1 | exact hSD.w _ | (rw [hKH 2 (by omega)]; exact hKP) | omega) (by first | assumption | exact hSD.1 | exact hSD.w _ | (rw [hKH 2 (by omega)]; exact hKP) | omega) (by first | assumption | exact hSD.1 | exact hSD.w _ | (rw [hKH 2 (by omega)]; exact hKP) | omega) (by first | assumption | exact hSD.1 | exact hSD.w _ | (rw [hKH 2 (by omega)]; exact hKP) | omega) (by first | assumption | exact hSD.1 | exact hSD.w _ | (rw [hKH 2 (by omega)]; exact hKP) | omega) (by first | assumption | exact hSD.1 | exact hSD.w _ | (rw [hKH 2 (by omega)]; exact hKP) | omega) (by first | assumption | exact hSD.1 | exact hSD.w _ | (rw [hKH 2 (by omega)]; exact hKP) | omega)) (cwV 0 ht (ts_gV wd_1661 wd_1663 wd_93 wd_134 wd_1664) rfl rfl rfl (by decide +kernel) ⟨Nat.le_of_ble_eq_true rfl, Nat.le_of_ble_eq_true rfl⟩) (gc_preV (ci := 12) (q0 := 0) hK (tw_right hP) (tw_rightD hD) rfl rfl) rfl rfl hl.1 rfl (lv_room (Nat.le_of_ble_eq_true rfl)) dX12_reckons_136 ⟨Nat.le_of_ble_eq_true rfl, Nat.le_of_ble_eq_true rfl⟩) hP hD hS hA (fun m_2 u H locs hw hP hD hS => ?_)
    obtain ⟨y_3, wt⟩ := u
    obtain ⟨hT, hkp, w_4, w_5, w_6⟩ := hw
    have hW := hW.call (show ∀ x ∈ [], x ∈ [] by decide) hkp
    have hP : va_P (gg_D G) classes ([((am 3), .inl (G.2.2 0, 2400, .inl sg)), (m0, .inr (12, [.ref (am 0), .int v1, .int v2, .ref (am 3), .ref (am 4), .ref (am 5), .ref (am 6), .ref (am 7), .int v8, .int v9, .int v10, .int v11, .int v12, .int v13, .int v14, .ref (am 15), .int v16, .ref (am 17), .int y_3, .ref (am 19), .ref (am 20), .int v21, .int v22, .int v23, .int v24, .int v25, .ref (am 26), .int v27, .ref (am 28), .ref (am 29), .ref (am 30), .ref (am 31), .long v32, .ref (am 33), .ref (am 34), .ref (am 35), .ref (am 36)]))] ++ wt) H := hP
    have hD : va_D A ([((am 3), .inl (G.2.2 0, 2400, .inl sg)), (m0, .inr (12, [.ref (am 0), .int v1, .int v2, .ref (am 3), .ref (am 4), .ref (am 5), .ref (am 6), .ref (am 7), .int v8, .int v9, .int v10, .int v11, .int v12, .int v13, .int v14, .ref (am 15), .int v16, .ref (am 17), .int y_3, .ref (am 19), .ref (am 20), .int v21, .int v22, .int v23, .int v24, .int v25, .ref (am 26), .int v27, .ref (am 28), .ref (am 29), .ref (am 30), .ref (am 31), .long v32, .ref (am 33), .ref (am 34), .ref (am 35), .ref (am 36)]))] ++ wt) := hD
    have hP9 : va_P (gg_D G) classes ([((am 3), .inl (G.2.2 0, 2400, .inl sg)), (m0, .inr (12, [.ref (am 0), .int v1, .int v2, .ref (am 3), .ref (am 4), .ref (am 5), .ref (am 6), .ref (am 7), .int v8, .int v9, .int v10, .int v11, .int v12, .int v13, .int v14, .ref (am 15), .int v16, .ref (am 17), .int y_3, .ref (am 19), .ref (am 20), .int v21, .int v22, .int v23, .int v24, .int v25, .ref (am 26), .int v27, .ref (am 28), .ref (am 29), .ref (am 30), .ref (am 31), .long v32, .ref (am 33), .ref (am 34), .ref (am 35), .ref (am 36)]))] ++ wt) _ := hP
    have hD9 : va_D A ([((am 3), .inl (G.2.2 0, 2400, .inl sg)), (m0, .inr (12, [.ref (am 0), .int v1, .int v2, .ref (am 3), .ref (am 4), .ref (am 5), .ref (am 6), .ref (am 7), .int v8, .int v9, .int v10, .int v11, .int v12, .int v13, .int v14, .ref (am 15), .int v16, .ref (am 17), .int y_3, .ref (am 19), .ref (am 20), .int v21, .int v22, .int v23, .int v24, .int v25, .ref (am 26), .int v27, .ref (am 28), .ref (am 29), .ref (am 30), .ref (am 31), .long v32, .ref (am 33), .ref (am 34), .ref (am 35), .ref (am 36)]))] ++ wt) := hD
    exact W.lret (v := m_2) hx hb hr (gq_endJ (y_3, wt) ⟨hT, hW⟩ hP9 hD9 hS) hS.2.2 dX12_reckons_139
  · rw [Int32.le_iff_toInt_le] at c_1
    refine lv_aload_n hx hb dX12_reckons_14 rfl (lv_at hl 1 rfl) ?_
    refine gq_get hx hb ht hown hK hP i_X12 1 rfl rfl 3 (by decide) wd_1255 rfl rfl dX12_reckons_15 ?_
    refine lv_sipush (v := 400) hx hb dX12_reckons_18 (by decide +kernel) ?_
    refine lv_iload_n hx hb dX12_reckons_21 rfl (lv_at hl 2 rfl) ?_
    obtain ⟨t_7, et_7⟩ : ∃ zz_ : Int32, 400 * b = zz_ := ⟨_, rfl⟩
    refine gq_imul hx hb t_7 et_7 dX12_reckons_22 ?_
    have ft_7 := ia_mul et_7 (by rw [l400]; omega) (by rw [l400]; omega)
    rw [l400] at ft_7
    refine lv_iload hx hb dX12_reckons_23 (lv_at hl 0 rfl) ?_
    obtain ⟨t_8, et_8⟩ : ∃ zz_ : Int32, t_7 + x8_0 = zz_ := ⟨_, rfl⟩
    refine gq_iadd hx hb t_8 et_8 dX12_reckons_25 ?_
    have ft_8 := ia_add et_8 (by omega) (by omega)
    obtain ⟨n_9, en_9⟩ : ∃ zz_ : Int32, sg (Int32.toNatClampNeg t_8) = zz_ := ⟨_, rfl⟩
    refine gq_iald hx hb hK hP 0 rfl n_9 (ia_in (n := 2400) (by omega) (by omega)) en_9 dX12_reckons_26 ?_
    have En_9 : sg (400 * b.toInt.toNat + x8_0.toInt.toNat) = n_9 := by rw [← show Int32.toNatClampNeg t_8 = 400 * b.toInt.toNat + x8_0.toInt.toNat from ix_n (by omega)]; exact en_9
    have hn_9 : (sg (400 * b.toInt.toNat + x8_0.toInt.toNat)).toInt = n_9.toInt := by rw [En_9]
    refine lv_bipush (v := 15) hx hb dX12_reckons_27 (by decide +kernel) ?_
    obtain ⟨t_10, et_10⟩ : ∃ zz_ : Int32, n_9 &&& 15 = zz_ := ⟨_, rfl⟩
    refine gq_iand hx hb t_10 et_10 dX12_reckons_29 ?_
    have ft_10 := ia_and2 et_10 (by omega)
    obtain ⟨sa, sc, s6, ss, sv, s1, s2, s3, s4, s5, sq⟩ := hgs x8_0.toInt.toNat (by omega) (by omega)
    rw [En_9] at s1
    have fst_10 : t_10.toInt = ss := st_and et_10 s1 s2 s3 s4 s5
    refine lv_istore (lv' := [(5, .int t_10), (4, .int x8_0), (0, .ref m0), (1, .int b), (2, .int w), (3, .int z)]) hx hb dX12_reckons_30 hl (by decide) rfl (fun ls hl => ?_)
    refine lv_aload_n hx hb dX12_reckons_32 rfl (lv_at hl 2 rfl) ?_
    refine gq_get hx hb ht hown hK hP i_X12 1 rfl rfl 3 (by decide) wd_1255 rfl rfl dX12_reckons_33 ?_
    refine lv_sipush (v := 400) hx hb dX12_reckons_36 (by decide +kernel) ?_
    refine lv_iload_n hx hb dX12_reckons_39 rfl (lv_at hl 3 rfl) ?_
    refine gq_imul hx hb t_7 et_7 dX12_reckons_40 ?_
    refine lv_iload hx hb dX12_reckons_41 (lv_at hl 1 rfl) ?_
    refine gq_iadd hx hb t_8 et_8 dX12_reckons_43 ?_
    refine gq_iald hx hb hK hP 0 rfl n_9 (ia_in (n := 2400) (by omega) (by omega)) en_9 dX12_reckons_44 ?_
    refine lv_iconst (v := 4) hx hb dX12_reckons_45 (by decide +kernel) ?_
    obtain ⟨t_11, et_11⟩ : ∃ zz_ : Int32, n_9 >>> (4 &&& 31) = zz_ := ⟨_, rfl⟩
    refine gq_ishr hx hb t_11 et_11 dX12_reckons_46 ?_
    have fst_11 : t_11.toInt = sv := st_shr et_11 s1 s2 s3 s4 s5
    refine lv_istore (lv' := [(6, .int t_11), (5, .int t_10), (4, .int x8_0), (0, .ref m0), (1, .int b), (2, .int w), (3, .int z)]) hx hb dX12_reckons_47 hl (by decide) rfl (fun ls hl => ?_)
    refine lv_iload hx hb dX12_reckons_49 (lv_at hl 1 rfl) ?_
    refine lv_if_ne (tgt := 64) hx hb dX12_reckons_51 (by decide) (fun c_12 => ?_) (fun c_12 => ?_)
    · rw [← Int32.toInt_inj] at c_12
      refine lv_iload hx hb dX12_reckons_64 (lv_at hl 1 rfl) ?_
      refine lv_iconst (v := 1) hx hb dX12_reckons_66 (by decide +kernel) ?_
      refine lv_icmp_ne (tgt := 84) hx hb dX12_reckons_67 (by decide) (fun c_13 => ?_) (fun c_13 => ?_)
      · rw [← Int32.toInt_inj] at c_13
        refine lv_iload hx hb dX12_reckons_84 (lv_at hl 1 rfl) ?_
        refine lv_bipush (v := 11) hx hb dX12_reckons_86 (by decide +kernel) ?_
        refine lv_icmp_ne (tgt := 104) hx hb dX12_reckons_88 (by decide) (fun c_14 => ?_) (fun c_14 => ?_)
        · rw [← Int32.toInt_inj] at c_14
          refine lv_aload_n hx hb dX12_reckons_104 rfl (lv_at hl 3 rfl) ?_
          have hP : va_P (gg_D G) classes ([((am 3), .inl (G.2.2 0, 2400, .inl sg))] ++ ([(m0, .inr (12, [.ref (am 0), .int v1, .int v2, .ref (am 3), .ref (am 4), .ref (am 5), .ref (am 6), .ref (am 7), .int v8, .int v9, .int v10, .int v11, .int v12, .int v13, .int v14, .ref (am 15), .int v16, .ref (am 17), .int x8_1, .ref (am 19), .ref (am 20), .int v21, .int v22, .int v23, .int v24, .int v25, .ref (am 26), .int v27, .ref (am 28), .ref (am 29), .ref (am 30), .ref (am 31), .long v32, .ref (am 33), .ref (am 34), .ref (am 35), .ref (am 36)]))] ++ wt)) H := hP
          have hD : va_D A ([((am 3), .inl (G.2.2 0, 2400, .inl sg))] ++ ([(m0, .inr (12, [.ref (am 0), .int v1, .int v2, .ref (am 3), .ref (am 4), .ref (am 5), .ref (am 6), .ref (am 7), .int v8, .int v9, .int v10, .int v11, .int v12, .int v13, .int v14, .ref (am 15), .int v16, .ref (am 17), .int x8_1, .ref (am 19), .ref (am 20), .int v21, .int v22, .int v23, .int v24, .int v25, .ref (am 26), .int v27, .ref (am 28), .ref (am 29), .ref (am 30), .ref (am 31), .long v32, .ref (am 33), .ref (am 34), .ref (am 35), .ref (am 36)]))] ++ wt)) := hD
          refine gt_callJ (wr := [((am 3), .inl (G.2.2 0, 2400, .inl sg))]) (va_runV (As := []) (rest := []) ⟨hx, hb, hml, hown, ht⟩ (d_m_pop l G Γ H.size wt hT m0 am v1 v2 v8 v9 v10 v11 v12 v13 v14 v16 x8_1 v21 v22 v23 v24 v25 v27 v32 (by first | assumption | exact hSD.1 | exact hSD.w _ | (rw [hKH 2 (by omega)]; exact hKP) | omega) (by first | assumption | exact hSD.1 | exact hSD.w _ | (rw [hKH 2 (by omega)]; exact hKP) | omega) (by first | assumption | exact hSD.1 | exact hSD.w _ | (rw [hKH 2 (by omega)]; exact hKP) | omega) (by first | assumption | exact hSD.1 | exact hSD.w _ | (rw [hKH 2 (by omega)]; exact hKP) | omega) (by first | assumption | exact hSD.1 | exact hSD.w _ | (rw [hKH 2 (by omega)]; exact hKP) | omega) (by first | assumption | exact hSD.1 | exact hSD.w _ | (rw [hKH 2 (by omega)]; exact hKP) | omega) (by first | assumption | exact hSD.1 | exact hSD.w _ | (rw [hKH 2 (by omega)]; exact hKP) | omega) (by first | assumption | exact hSD.1 | exact hSD.w _ | (rw [hKH 2 (by omega)]; exact hKP) | omega) (by first | assumption | exact hSD.1 | exact hSD.w _ | (rw [hKH 2 (by omega)]; exact hKP) | omega) (by first | assumption | exact hSD.1 | exact hSD.w _ | (rw [hKH 2 (by omega)]; exact hKP) | omega) (by first | assumption | exact hSD.1 | exact hSD.w _ | (rw [hKH 2 (by omega)]; exact hKP) | omega) (by first | assumption | exact hSD.1 | exact hSD.w _ | (rw [hKH 2 (by omega)]; exact hKP) | omega) (by first | assumption | exact hSD.1 | exact hSD.w _ | (rw [hKH 2 (by omega)]; exact hKP) | omega) (by first | assumption | exact hSD.1 | exact hSD.w _ | (rw [hKH 2 (by omega)]; exact hKP) | omega) (by first | assumption | exact hSD.1 | exact hSD.w _ | (rw [hKH 2 (by omega)]; exact hKP) | omega) (by first | assumption | exact hSD.1 | exact hSD.w _ | (rw [hKH 2 (by omega)]; exact hKP) | omega) (by first | assumption | exact hSD.1 | exact hSD.w _ | (rw [hKH 2 (by omega)]; exact hKP) | omega) (by first | assumption | exact hSD.1 | exact hSD.w _ | (rw [hKH 2 (by omega)]; exact hKP) | omega) (by first | assumption | exact hSD.1 | exact hSD.w _ | (rw [hKH 2 (by omega)]; exact hKP) | omega) (by first | assumption | exact hSD.1 | exact hSD.w _ | (rw [hKH 2 (by omega)]; exact hKP) | omega) (by first | assumption | exact hSD.1 | exact hSD.w _ | (rw [hKH 2 (by omega)]; exact hKP) | omega) (by first | assumption | exact hSD.1 | exact hSD.w _ | (rw [hKH 2 (by omega)]; exact hKP) | omega) (by first | assumption | exact hSD.1 | exact hSD.w _ | (rw [hKH 2 (by omega)]; exact hKP) | omega) (by first | assumption | exact hSD.1 | exact hSD.w _ | (rw [hKH 2 (by omega)]; exact hKP) | omega) (by first | assumption | exact hSD.1 | exact hSD.w _ | (rw [hKH 2 (by omega)]; exact hKP) | omega)) (cwV 0 ht (ts_gV wd_1661 wd_1663 wd_93 wd_134 wd_1664) rfl rfl rfl (by decide +kernel) ⟨Nat.le_of_ble_eq_true rfl, Nat.le_of_ble_eq_true rfl⟩) (gc_preV (ci := 12) (q0 := 0) hK (tw_right hP) (tw_rightD hD) rfl rfl) rfl rfl hl.1 rfl (lv_room (Nat.le_of_ble_eq_true rfl)) dX12_reckons_105 ⟨Nat.le_of_ble_eq_true rfl, Nat.le_of_ble_eq_true rfl⟩) hP hD hS hA (fun m_15 u H locs hw hP hD hS => ?_)
          obtain ⟨y_16, wt⟩ := u
          obtain ⟨hT, hkp, w_17, w_18, w_19⟩ := hw
          have hW := hW.call (show ∀ x ∈ [], x ∈ [] by decide) hkp
          have hP : va_P (gg_D G) classes ([((am 3), .inl (G.2.2 0, 2400, .inl sg)), (m0, .inr (12, [.ref (am 0), .int v1, .int v2, .ref (am 3), .ref (am 4), .ref (am 5), .ref (am 6), .ref (am 7), .int v8, .int v9, .int v10, .int v11, .int v12, .int v13, .int v14, .ref (am 15), .int v16, .ref (am 17), .int y_16, .ref (am 19), .ref (am 20), .int v21, .int v22, .int v23, .int v24, .int v25, .ref (am 26), .int v27, .ref (am 28), .ref (am 29), .ref (am 30), .ref (am 31), .long v32, .ref (am 33), .ref (am 34), .ref (am 35), .ref (am 36)]))] ++ wt) H := hP
          have hD : va_D A ([((am 3), .inl (G.2.2 0, 2400, .inl sg)), (m0, .inr (12, [.ref (am 0), .int v1, .int v2, .ref (am 3), .ref (am 4), .ref (am 5), .ref (am 6), .ref (am 7), .int v8, .int v9, .int v10, .int v11, .int v12, .int v13, .int v14, .ref (am 15), .int v16, .ref (am 17), .int y_16, .ref (am 19), .ref (am 20), .int v21, .int v22, .int v23, .int v24, .int v25, .ref (am 26), .int v27, .ref (am 28), .ref (am 29), .ref (am 30), .ref (am 31), .long v32, .ref (am 33), .ref (am 34), .ref (am 35), .ref (am 36)]))] ++ wt) := hD
          refine lv_lstore (lv' := [(7, .long m_15), (6, .int t_11), (5, .int t_10), (4, .int x8_0), (0, .ref m0), (1, .int b), (2, .int w), (3, .int z)]) hx hb dX12_reckons_108 hl (by decide) rfl (fun ls hl => ?_)
          refine lv_aload_n hx hb dX12_reckons_110 rfl (lv_at hl 4 rfl) ?_
          have hP : va_P (gg_D G) classes ([((am 3), .inl (G.2.2 0, 2400, .inl sg))] ++ ([(m0, .inr (12, [.ref (am 0), .int v1, .int v2, .ref (am 3), .ref (am 4), .ref (am 5), .ref (am 6), .ref (am 7), .int v8, .int v9, .int v10, .int v11, .int v12, .int v13, .int v14, .ref (am 15), .int v16, .ref (am 17), .int y_16, .ref (am 19), .ref (am 20), .int v21, .int v22, .int v23, .int v24, .int v25, .ref (am 26), .int v27, .ref (am 28), .ref (am 29), .ref (am 30), .ref (am 31), .long v32, .ref (am 33), .ref (am 34), .ref (am 35), .ref (am 36)]))] ++ wt)) H := hP
          have hD : va_D A ([((am 3), .inl (G.2.2 0, 2400, .inl sg))] ++ ([(m0, .inr (12, [.ref (am 0), .int v1, .int v2, .ref (am 3), .ref (am 4), .ref (am 5), .ref (am 6), .ref (am 7), .int v8, .int v9, .int v10, .int v11, .int v12, .int v13, .int v14, .ref (am 15), .int v16, .ref (am 17), .int y_16, .ref (am 19), .ref (am 20), .int v21, .int v22, .int v23, .int v24, .int v25, .ref (am 26), .int v27, .ref (am 28), .ref (am 29), .ref (am 30), .ref (am 31), .long v32, .ref (am 33), .ref (am 34), .ref (am 35), .ref (am 36)]))] ++ wt)) := hD
          refine gt_callJ (wr := [((am 3), .inl (G.2.2 0, 2400, .inl sg))]) (va_runV (As := []) (rest := []) ⟨hx, hb, hml, hown, ht⟩ (d_m_pop l G Γ H.size wt hT m0 am v1 v2 v8 v9 v10 v11 v12 v13 v14 v16 y_16 v21 v22 v23 v24 v25 v27 v32 (by first | assumption | exact hSD.1 | exact hSD.w _ | (rw [hKH 2 (by omega)]; exact hKP) | omega) (by first | assumption | exact hSD.1 | exact hSD.w _ | (rw [hKH 2 (by omega)]; exact hKP) | omega) (by first | assumption | exact hSD.1 | exact hSD.w _ | (rw [hKH 2 (by omega)]; exact hKP) | omega) (by first | assumption | exact hSD.1 | exact hSD.w _ | (rw [hKH 2 (by omega)]; exact hKP) | omega) (by first | assumption | exact hSD.1 | exact hSD.w _ | (rw [hKH 2 (by omega)]; exact hKP) | omega) (by first | assumption | exact hSD.1 | exact hSD.w _ | (rw [hKH 2 (by omega)]; exact hKP) | omega) (by first | assumption | exact hSD.1 | exact hSD.w _ | (rw [hKH 2 (by omega)]; exact hKP) | omega) (by first | assumption | exact hSD.1 | exact hSD.w _ | (rw [hKH 2 (by omega)]; exact hKP) | omega) (by first | assumption | exact hSD.1 | exact hSD.w _ | (rw [hKH 2 (by omega)]; exact hKP) | omega) (by first | assumption | exact hSD.1 | exact hSD.w _ | (rw [hKH 2 (by omega)]; exact hKP) | omega) (by first | assumption | exact hSD.1 | exact hSD.w _ | (rw [hKH 2 (by omega)]; exact hKP) | omega) (by first | assumption | exact hSD.1 | exact hSD.w _ | (rw [hKH 2 (by omega)]; exact hKP) | omega) (by first | assumption | exact hSD.1 | exact hSD.w _ | (rw [hKH 2 (by omega)]; exact hKP) | omega) (by first | assumption | exact hSD.1 | exact hSD.w _ | (rw [hKH 2 (by omega)]; exact hKP) | omega) (by first | assumption | exact hSD.1 | exact hSD.w _ | (rw [hKH 2 (by omega)]; exact hKP) | omega) (by first | assumption | exact hSD.1 | exact hSD.w _ | (rw [hKH 2 (by omega)]; exact hKP) | omega) (by first | assumption | exact hSD.1 | exact hSD.w _ | (rw [hKH 2 (by omega)]; exact hKP) | omega) (by first | assumption | exact hSD.1 | exact hSD.w _ | (rw [hKH 2 (by omega)]; exact hKP) | omega) (by first | assumption | exact hSD.1 | exact hSD.w _ | (rw [hKH 2 (by omega)]; exact hKP) | omega) (by first | assumption | exact hSD.1 | exact hSD.w _ | (rw [hKH 2 (by omega)]; exact hKP) | omega) (by first | assumption | exact hSD.1 | exact hSD.w _ | (rw [hKH 2 (by omega)]; exact hKP) | omega) (by first | assumption | exact hSD.1 | exact hSD.w _ | (rw [hKH 2 (by omega)]; exact hKP) | omega) (by first | assumption | exact hSD.1 | exact hSD.w _ | (rw [hKH 2 (by omega)]; exact hKP) | omega) (by first | assumption | exact hSD.1 | exact hSD.w _ | (rw [hKH 2 (by omega)]; exact hKP) | omega) (by first | assumption | exact hSD.1 | exact hSD.w _ | (rw [hKH 2 (by omega)]; exact hKP) | omega)) (cwV 0 ht (ts_gV wd_1661 wd_1663 wd_93 wd_134 wd_1664) rfl rfl rfl (by decide +kernel) ⟨Nat.le_of_ble_eq_true rfl, Nat.le_of_ble_eq_true rfl⟩) (gc_preV (ci := 12) (q0 := 0) hK (tw_right hP) (tw_rightD hD) rfl rfl) rfl rfl hl.1 rfl (lv_room (Nat.le_of_ble_eq_true rfl)) dX12_reckons_111 ⟨Nat.le_of_ble_eq_true rfl, Nat.le_of_ble_eq_true rfl⟩) hP hD hS hA (fun m_20 u H locs hw hP hD hS => ?_)
          obtain ⟨y_21, wt⟩ := u
          obtain ⟨hT, hkp, w_22, w_23, w_24⟩ := hw
          have hW := hW.call (show ∀ x ∈ [], x ∈ [] by decide) hkp
          have hP : va_P (gg_D G) classes ([((am 3), .inl (G.2.2 0, 2400, .inl sg)), (m0, .inr (12, [.ref (am 0), .int v1, .int v2, .ref (am 3), .ref (am 4), .ref (am 5), .ref (am 6), .ref (am 7), .int v8, .int v9, .int v10, .int v11, .int v12, .int v13, .int v14, .ref (am 15), .int v16, .ref (am 17), .int y_21, .ref (am 19), .ref (am 20), .int v21, .int v22, .int v23, .int v24, .int v25, .ref (am 26), .int v27, .ref (am 28), .ref (am 29), .ref (am 30), .ref (am 31), .long v32, .ref (am 33), .ref (am 34), .ref (am 35), .ref (am 36)]))] ++ wt) H := hP
          have hD : va_D A ([((am 3), .inl (G.2.2 0, 2400, .inl sg)), (m0, .inr (12, [.ref (am 0), .int v1, .int v2, .ref (am 3), .ref (am 4), .ref (am 5), .ref (am 6), .ref (am 7), .int v8, .int v9, .int v10, .int v11, .int v12, .int v13, .int v14, .ref (am 15), .int v16, .ref (am 17), .int y_21, .ref (am 19), .ref (am 20), .int v21, .int v22, .int v23, .int v24, .int v25, .ref (am 26), .int v27, .ref (am 28), .ref (am 29), .ref (am 30), .ref (am 31), .long v32, .ref (am 33), .ref (am 34), .ref (am 35), .ref (am 36)]))] ++ wt) := hD
          refine lv_lstore (lv' := [(9, .long m_20), (7, .long m_15), (6, .int t_11), (5, .int t_10), (4, .int x8_0), (0, .ref m0), (1, .int b), (2, .int w), (3, .int z)]) hx hb dX12_reckons_114 hl (by decide) rfl (fun ls hl => ?_)
          refine lv_aload_n hx hb dX12_reckons_116 rfl (lv_at hl 5 rfl) ?_
          refine lv_iload hx hb dX12_reckons_117 (lv_at hl 3 rfl) ?_
          refine lv_lload hx hb dX12_reckons_119 (lv_at hl 0 rfl) ?_
          refine lv_lload hx hb dX12_reckons_121 (lv_at hl 1 rfl) ?_
          refine gt_callJ (wr := [((am 3), .inl (G.2.2 0, 2400, .inl sg)), (m0, .inr (12, [.ref (am 0), .int v1, .int v2, .ref (am 3), .ref (am 4), .ref (am 5), .ref (am 6), .ref (am 7), .int v8, .int v9, .int v10, .int v11, .int v12, .int v13, .int v14, .ref (am 15), .int v16, .ref (am 17), .int y_21, .ref (am 19), .ref (am 20), .int v21, .int v22, .int v23, .int v24, .int v25, .ref (am 26), .int v27, .ref (am 28), .ref (am 29), .ref (am 30), .ref (am 31), .long v32, .ref (am 33), .ref (am 34), .ref (am 35), .ref (am 36)]))]) (va_runS (As := [.int t_10, .long m_20, .long m_15]) (rest := [.ref m0]) ⟨hx, hb, hml, hown, ht⟩ (d_m_one l G Γ H.size wt hT t_10 m_20 m_15) (va_cwS 3 ht (ts_gS wd_1665 wd_1666 wd_134 wd_1667) rfl rfl rfl (by decide +kernel) ⟨Nat.le_of_ble_eq_true rfl, Nat.le_of_ble_eq_true rfl⟩) (gc_preS hK (tw_right hP) (tw_rightD hD)) rfl rfl hl.1 rfl (lv_room (Nat.le_of_ble_eq_true rfl)) dX12_reckons_123 ⟨Nat.le_of_ble_eq_true rfl, Nat.le_of_ble_eq_true rfl⟩) hP hD hS hA (fun m_25 wt H locs hw hP hD hS => ?_)
          obtain ⟨hT, hkp⟩ := hw
          have hW := hW.call (show ∀ x ∈ [], x ∈ [] by decide) hkp
          have hP : va_P (gg_D G) classes ([((am 3), .inl (G.2.2 0, 2400, .inl sg)), (m0, .inr (12, [.ref (am 0), .int v1, .int v2, .ref (am 3), .ref (am 4), .ref (am 5), .ref (am 6), .ref (am 7), .int v8, .int v9, .int v10, .int v11, .int v12, .int v13, .int v14, .ref (am 15), .int v16, .ref (am 17), .int y_21, .ref (am 19), .ref (am 20), .int v21, .int v22, .int v23, .int v24, .int v25, .ref (am 26), .int v27, .ref (am 28), .ref (am 29), .ref (am 30), .ref (am 31), .long v32, .ref (am 33), .ref (am 34), .ref (am 35), .ref (am 36)]))] ++ wt) H := hP
          have hD : va_D A ([((am 3), .inl (G.2.2 0, 2400, .inl sg)), (m0, .inr (12, [.ref (am 0), .int v1, .int v2, .ref (am 3), .ref (am 4), .ref (am 5), .ref (am 6), .ref (am 7), .int v8, .int v9, .int v10, .int v11, .int v12, .int v13, .int v14, .ref (am 15), .int v16, .ref (am 17), .int y_21, .ref (am 19), .ref (am 20), .int v21, .int v22, .int v23, .int v24, .int v25, .ref (am 26), .int v27, .ref (am 28), .ref (am 29), .ref (am 30), .ref (am 31), .long v32, .ref (am 33), .ref (am 34), .ref (am 35), .ref (am 36)]))] ++ wt) := hD
          have hP : va_P (gg_D G) classes ([((am 3), .inl (G.2.2 0, 2400, .inl sg))] ++ ([(m0, .inr (12, [.ref (am 0), .int v1, .int v2, .ref (am 3), .ref (am 4), .ref (am 5), .ref (am 6), .ref (am 7), .int v8, .int v9, .int v10, .int v11, .int v12, .int v13, .int v14, .ref (am 15), .int v16, .ref (am 17), .int y_21, .ref (am 19), .ref (am 20), .int v21, .int v22, .int v23, .int v24, .int v25, .ref (am 26), .int v27, .ref (am 28), .ref (am 29), .ref (am 30), .ref (am 31), .long v32, .ref (am 33), .ref (am 34), .ref (am 35), .ref (am 36)]))] ++ wt)) H := hP
          have hD : va_D A ([((am 3), .inl (G.2.2 0, 2400, .inl sg))] ++ ([(m0, .inr (12, [.ref (am 0), .int v1, .int v2, .ref (am 3), .ref (am 4), .ref (am 5), .ref (am 6), .ref (am 7), .int v8, .int v9, .int v10, .int v11, .int v12, .int v13, .int v14, .ref (am 15), .int v16, .ref (am 17), .int y_21, .ref (am 19), .ref (am 20), .int v21, .int v22, .int v23, .int v24, .int v25, .ref (am 26), .int v27, .ref (am 28), .ref (am 29), .ref (am 30), .ref (am 31), .long v32, .ref (am 33), .ref (am 34), .ref (am 35), .ref (am 36)]))] ++ wt)) := hD
          refine gt_callV (wr := [((am 3), .inl (G.2.2 0, 2400, .inl sg))]) (va_runV (As := [.long m_25]) (rest := []) ⟨hx, hb, hml, hown, ht⟩ (d_m_push l G Γ H.size wt hT m_25 m0 am v1 v2 v8 v9 v10 v11 v12 v13 v14 v16 y_21 v21 v22 v23 v24 v25 v27 v32 (by first | assumption | exact hSD.1 | exact hSD.w _ | (rw [hKH 2 (by omega)]; exact hKP) | omega) (by first | assumption | exact hSD.1 | exact hSD.w _ | (rw [hKH 2 (by omega)]; exact hKP) | omega) (by first | assumption | exact hSD.1 | exact hSD.w _ | (rw [hKH 2 (by omega)]; exact hKP) | omega) (by first | assumption | exact hSD.1 | exact hSD.w _ | (rw [hKH 2 (by omega)]; exact hKP) | omega) (by first | assumption | exact hSD.1 | exact hSD.w _ | (rw [hKH 2 (by omega)]; exact hKP) | omega) (by first | assumption | exact hSD.1 | exact hSD.w _ | (rw [hKH 2 (by omega)]; exact hKP) | omega) (by first | assumption | exact hSD.1 | exact hSD.w _ | (rw [hKH 2 (by omega)]; exact hKP) | omega) (by first | assumption | exact hSD.1 | exact hSD.w _ | (rw [hKH 2 (by omega)]; exact hKP) | omega) (by first | assumption | exact hSD.1 | exact hSD.w _ | (rw [hKH 2 (by omega)]; exact hKP) | omega) (by first | assumption | exact hSD.1 | exact hSD.w _ | (rw [hKH 2 (by omega)]; exact hKP) | omega) (by first | assumption | exact hSD.1 | exact hSD.w _ | (rw [hKH 2 (by omega)]; exact hKP) | omega) (by first | assumption | exact hSD.1 | exact hSD.w _ | (rw [hKH 2 (by omega)]; exact hKP) | omega) (by first | assumption | exact hSD.1 | exact hSD.w _ | (rw [hKH 2 (by omega)]; exact hKP) | omega) (by first | assumption | exact hSD.1 | exact hSD.w _ | (rw [hKH 2 (by omega)]; exact hKP) | omega) (by first | assumption | exact hSD.1 | exact hSD.w _ | (rw [hKH 2 (by omega)]; exact hKP) | omega) (by first | assumption | exact hSD.1 | exact hSD.w _ | (rw [hKH 2 (by omega)]; exact hKP) | omega) (by first | assumption | exact hSD.1 | exact hSD.w _ | (rw [hKH 2 (by omega)]; exact hKP) | omega) (by first | assumption | exact hSD.1 | exact hSD.w _ | (rw [hKH 2 (by omega)]; exact hKP) | omega) (by first | assumption | exact hSD.1 | exact hSD.w _ | (rw [hKH 2 (by omega)]; exact hKP) | omega) (by first | assumption | exact hSD.1 | exact hSD.w _ | (rw [hKH 2 (by omega)]; exact hKP) | omega) (by first | assumption | exact hSD.1 | exact hSD.w _ | (rw [hKH 2 (by omega)]; exact hKP) | omega) (by first | assumption | exact hSD.1 | exact hSD.w _ | (rw [hKH 2 (by omega)]; exact hKP) | omega) (by first | assumption | exact hSD.1 | exact hSD.w _ | (rw [hKH 2 (by omega)]; exact hKP) | omega) (by first | assumption | exact hSD.1 | exact hSD.w _ | (rw [hKH 2 (by omega)]; exact hKP) | omega) (by first | assumption | exact hSD.1 | exact hSD.w _ | (rw [hKH 2 (by omega)]; exact hKP) | omega)) (cwV 1 ht (ts_gV wd_1657 wd_1659 wd_92 wd_134 wd_1660) rfl rfl rfl (by decide +kernel) ⟨Nat.le_of_ble_eq_true rfl, Nat.le_of_ble_eq_true rfl⟩) (gc_preV (ci := 12) (q0 := 0) hK (tw_right hP) (tw_rightD hD) rfl rfl) rfl rfl hl.1 rfl (lv_room (Nat.le_of_ble_eq_true rfl)) dX12_reckons_126 ⟨Nat.le_of_ble_eq_true rfl, Nat.le_of_ble_eq_true rfl⟩) hP hD hS hA (fun u H locs hw hP hD hS => ?_)
          obtain ⟨y_26, wt⟩ := u
          obtain ⟨hT, hkp, w_27, w_28, w_29⟩ := hw
          have hW := hW.call (show ∀ x ∈ [], x ∈ [] by decide) hkp
          have hP : va_P (gg_D G) classes ([((am 3), .inl (G.2.2 0, 2400, .inl sg)), (m0, .inr (12, [.ref (am 0), .int v1, .int v2, .ref (am 3), .ref (am 4), .ref (am 5), .ref (am 6), .ref (am 7), .int v8, .int v9, .int v10, .int v11, .int v12, .int v13, .int v14, .ref (am 15), .int v16, .ref (am 17), .int y_26, .ref (am 19), .ref (am 20), .int v21, .int v22, .int v23, .int v24, .int v25, .ref (am 26), .int v27, .ref (am 28), .ref (am 29), .ref (am 30), .ref (am 31), .long v32, .ref (am 33), .ref (am 34), .ref (am 35), .ref (am 36)]))] ++ wt) H := hP
          have hD : va_D A ([((am 3), .inl (G.2.2 0, 2400, .inl sg)), (m0, .inr (12, [.ref (am 0), .int v1, .int v2, .ref (am 3), .ref (am 4), .ref (am 5), .ref (am 6), .ref (am 7), .int v8, .int v9, .int v10, .int v11, .int v12, .int v13, .int v14, .ref (am 15), .int v16, .ref (am 17), .int y_26, .ref (am 19), .ref (am 20), .int v21, .int v22, .int v23, .int v24, .int v25, .ref (am 26), .int v27, .ref (am 28), .ref (am 29), .ref (am 30), .ref (am 31), .long v32, .ref (am 33), .ref (am 34), .ref (am 35), .ref (am 36)]))] ++ wt) := hD
          obtain ⟨t_30, et_30⟩ : ∃ zz_ : Int32, x8_0 + Int32.ofInt (1) = zz_ := ⟨_, rfl⟩
          have ft_30 : t_30.toInt = x8_0.toInt + (1 : Int32).toInt := ia_add (y := 1) et_30 (by omega) (by omega)
          refine lv_iinc (v := t_30) (lv' := [(4, .int t_30), (9, .long m_20), (7, .long m_15), (6, .int t_11), (5, .int t_10), (0, .ref m0), (1, .int b), (2, .int w), (3, .int z)]) hx hb dX12_reckons_129 hl (k := 4) rfl et_30 (by decide) rfl (fun ls hl => ?_)
          refine lv_goto (tgt := 8) hx hb dX12_reckons_132 (by decide) ?_
          have hg : y_26.toInt = g t_30.toInt.toNat := by rw [show t_30.toInt.toNat = x8_0.toInt.toNat + 1 by omega]; omega
          exact ih8 (t_30, y_26) (show (0 ≤ t_30.toInt) ∧ (t_30.toInt ≤ 400) ∧ (0 ≤ y_26.toInt) ∧ (y_26.toInt ≤ 60) ∧ (w.toInt ≤ t_30.toInt) ∧ (t_30.toInt ≤ z.toInt) ∧ (y_26.toInt = g (t_30.toInt).toNat) from ⟨by omega, by omega, by omega, by omega, by omega, by omega, hg⟩) (show (z.toInt - t_30.toInt).toNat < (z.toInt - x8_0.toInt).toNat by omega) H locs wt ls hT hW hP hD hS (lv_sub hl [0, 5, 6, 7, 8] rfl)
        · rw [← Int32.toInt_inj] at c_14
          refine lv_aload_n hx hb dX12_reckons_91 rfl (lv_at hl 3 rfl) ?_
          refine lv_lconst (v := 1) hx hb dX12_reckons_92 (by decide +kernel) ?_
          refine lv_aload_n hx hb dX12_reckons_93 rfl (lv_at hl 3 rfl) ?_
          have hP : va_P (gg_D G) classes ([((am 3), .inl (G.2.2 0, 2400, .inl sg))] ++ ([(m0, .inr (12, [.ref (am 0), .int v1, .int v2, .ref (am 3), .ref (am 4), .ref (am 5), .ref (am 6), .ref (am 7), .int v8, .int v9, .int v10, .int v11, .int v12, .int v13, .int v14, .ref (am 15), .int v16, .ref (am 17), .int x8_1, .ref (am 19), .ref (am 20), .int v21, .int v22, .int v23, .int v24, .int v25, .ref (am 26), .int v27, .ref (am 28), .ref (am 29), .ref (am 30), .ref (am 31), .long v32, .ref (am 33), .ref (am 34), .ref (am 35), .ref (am 36)]))] ++ wt)) H := hP
          have hD : va_D A ([((am 3), .inl (G.2.2 0, 2400, .inl sg))] ++ ([(m0, .inr (12, [.ref (am 0), .int v1, .int v2, .ref (am 3), .ref (am 4), .ref (am 5), .ref (am 6), .ref (am 7), .int v8, .int v9, .int v10, .int v11, .int v12, .int v13, .int v14, .ref (am 15), .int v16, .ref (am 17), .int x8_1, .ref (am 19), .ref (am 20), .int v21, .int v22, .int v23, .int v24, .int v25, .ref (am 26), .int v27, .ref (am 28), .ref (am 29), .ref (am 30), .ref (am 31), .long v32, .ref (am 33), .ref (am 34), .ref (am 35), .ref (am 36)]))] ++ wt)) := hD
          refine gt_callJ (wr := [((am 3), .inl (G.2.2 0, 2400, .inl sg))]) (va_runV (As := []) (rest := [.long 1, .ref m0]) ⟨hx, hb, hml, hown, ht⟩ (d_m_pop l G Γ H.size wt hT m0 am v1 v2 v8 v9 v10 v11 v12 v13 v14 v16 x8_1 v21 v22 v23 v24 v25 v27 v32 (by first | assumption | exact hSD.1 | exact hSD.w _ | (rw [hKH 2 (by omega)]; exact hKP) | omega) (by first | assumption | exact hSD.1 | exact hSD.w _ | (rw [hKH 2 (by omega)]; exact hKP) | omega) (by first | assumption | exact hSD.1 | exact hSD.w _ | (rw [hKH 2 (by omega)]; exact hKP) | omega) (by first | assumption | exact hSD.1 | exact hSD.w _ | (rw [hKH 2 (by omega)]; exact hKP) | omega) (by first | assumption | exact hSD.1 | exact hSD.w _ | (rw [hKH 2 (by omega)]; exact hKP) | omega) (by first | assumption | exact hSD.1 | exact hSD.w _ | (rw [hKH 2 (by omega)]; exact hKP) | omega) (by first | assumption | exact hSD.1 | exact hSD.w _ | (rw [hKH 2 (by omega)]; exact hKP) | omega) (by first | assumption | exact hSD.1 | exact hSD.w _ | (rw [hKH 2 (by omega)]; exact hKP) | omega) (by first | assumption | exact hSD.1 | exact hSD.w _ | (rw [hKH 2 (by omega)]; exact hKP) | omega) (by first | assumption | exact hSD.1 | exact hSD.w _ | (rw [hKH 2 (by omega)]; exact hKP) | omega) (by first | assumption | exact hSD.1 | exact hSD.w _ | (rw [hKH 2 (by omega)]; exact hKP) | omega) (by first | assumption | exact hSD.1 | exact hSD.w _ | (rw [hKH 2 (by omega)]; exact hKP) | omega) (by first | assumption | exact hSD.1 | exact hSD.w _ | (rw [hKH 2 (by omega)]; exact hKP) | omega) (by first | assumption | exact hSD.1 | exact hSD.w _ | (rw [hKH 2 (by omega)]; exact hKP) | omega) (by first | assumption | exact hSD.1 | exact hSD.w _ | (rw [hKH 2 (by omega)]; exact hKP) | omega) (by first | assumption | exact hSD.1 | exact hSD.w _ | (rw [hKH 2 (by omega)]; exact hKP) | omega) (by first | assumption | exact hSD.1 | exact hSD.w _ | (rw [hKH 2 (by omega)]; exact hKP) | omega) (by first | assumption | exact hSD.1 | exact hSD.w _ | (rw [hKH 2 (by omega)]; exact hKP) | omega) (by first | assumption | exact hSD.1 | exact hSD.w _ | (rw [hKH 2 (by omega)]; exact hKP) | omega) (by first | assumption | exact hSD.1 | exact hSD.w _ | (rw [hKH 2 (by omega)]; exact hKP) | omega) (by first | assumption | exact hSD.1 | exact hSD.w _ | (rw [hKH 2 (by omega)]; exact hKP) | omega) (by first | assumption | exact hSD.1 | exact hSD.w _ | (rw [hKH 2 (by omega)]; exact hKP) | omega) (by first | assumption | exact hSD.1 | exact hSD.w _ | (rw [hKH 2 (by omega)]; exact hKP) | omega) (by first | assumption | exact hSD.1 | exact hSD.w _ | (rw [hKH 2 (by omega)]; exact hKP) | omega) (by first | assumption | exact hSD.1 | exact hSD.w _ | (rw [hKH 2 (by omega)]; exact hKP) | omega)) (cwV 0 ht (ts_gV wd_1661 wd_1663 wd_93 wd_134 wd_1664) rfl rfl rfl (by decide +kernel) ⟨Nat.le_of_ble_eq_true rfl, Nat.le_of_ble_eq_true rfl⟩) (gc_preV (ci := 12) (q0 := 0) hK (tw_right hP) (tw_rightD hD) rfl rfl) rfl rfl hl.1 rfl (lv_room (Nat.le_of_ble_eq_true rfl)) dX12_reckons_94 ⟨Nat.le_of_ble_eq_true rfl, Nat.le_of_ble_eq_true rfl⟩) hP hD hS hA (fun m_31 u H locs hw hP hD hS => ?_)
          obtain ⟨y_32, wt⟩ := u
          obtain ⟨hT, hkp, w_33, w_34, w_35⟩ := hw
          have hW := hW.call (show ∀ x ∈ [], x ∈ [] by decide) hkp
          have hP : va_P (gg_D G) classes ([((am 3), .inl (G.2.2 0, 2400, .inl sg)), (m0, .inr (12, [.ref (am 0), .int v1, .int v2, .ref (am 3), .ref (am 4), .ref (am 5), .ref (am 6), .ref (am 7), .int v8, .int v9, .int v10, .int v11, .int v12, .int v13, .int v14, .ref (am 15), .int v16, .ref (am 17), .int y_32, .ref (am 19), .ref (am 20), .int v21, .int v22, .int v23, .int v24, .int v25, .ref (am 26), .int v27, .ref (am 28), .ref (am 29), .ref (am 30), .ref (am 31), .long v32, .ref (am 33), .ref (am 34), .ref (am 35), .ref (am 36)]))] ++ wt) H := hP
          have hD : va_D A ([((am 3), .inl (G.2.2 0, 2400, .inl sg)), (m0, .inr (12, [.ref (am 0), .int v1, .int v2, .ref (am 3), .ref (am 4), .ref (am 5), .ref (am 6), .ref (am 7), .int v8, .int v9, .int v10, .int v11, .int v12, .int v13, .int v14, .ref (am 15), .int v16, .ref (am 17), .int y_32, .ref (am 19), .ref (am 20), .int v21, .int v22, .int v23, .int v24, .int v25, .ref (am 26), .int v27, .ref (am 28), .ref (am 29), .ref (am 30), .ref (am 31), .long v32, .ref (am 33), .ref (am 34), .ref (am 35), .ref (am 36)]))] ++ wt) := hD
          refine lv_lsub hx hb dX12_reckons_97 ?_
          refine lv_topl (fun m_36 em_36 => ?_)
          clear em_36
          have hP : va_P (gg_D G) classes ([((am 3), .inl (G.2.2 0, 2400, .inl sg))] ++ ([(m0, .inr (12, [.ref (am 0), .int v1, .int v2, .ref (am 3), .ref (am 4), .ref (am 5), .ref (am 6), .ref (am 7), .int v8, .int v9, .int v10, .int v11, .int v12, .int v13, .int v14, .ref (am 15), .int v16, .ref (am 17), .int y_32, .ref (am 19), .ref (am 20), .int v21, .int v22, .int v23, .int v24, .int v25, .ref (am 26), .int v27, .ref (am 28), .ref (am 29), .ref (am 30), .ref (am 31), .long v32, .ref (am 33), .ref (am 34), .ref (am 35), .ref (am 36)]))] ++ wt)) H := hP
          have hD : va_D A ([((am 3), .inl (G.2.2 0, 2400, .inl sg))] ++ ([(m0, .inr (12, [.ref (am 0), .int v1, .int v2, .ref (am 3), .ref (am 4), .ref (am 5), .ref (am 6), .ref (am 7), .int v8, .int v9, .int v10, .int v11, .int v12, .int v13, .int v14, .ref (am 15), .int v16, .ref (am 17), .int y_32, .ref (am 19), .ref (am 20), .int v21, .int v22, .int v23, .int v24, .int v25, .ref (am 26), .int v27, .ref (am 28), .ref (am 29), .ref (am 30), .ref (am 31), .long v32, .ref (am 33), .ref (am 34), .ref (am 35), .ref (am 36)]))] ++ wt)) := hD
          refine gt_callV (wr := [((am 3), .inl (G.2.2 0, 2400, .inl sg))]) (va_runV (As := [.long m_36]) (rest := []) ⟨hx, hb, hml, hown, ht⟩ (d_m_push l G Γ H.size wt hT m_36 m0 am v1 v2 v8 v9 v10 v11 v12 v13 v14 v16 y_32 v21 v22 v23 v24 v25 v27 v32 (by first | assumption | exact hSD.1 | exact hSD.w _ | (rw [hKH 2 (by omega)]; exact hKP) | omega) (by first | assumption | exact hSD.1 | exact hSD.w _ | (rw [hKH 2 (by omega)]; exact hKP) | omega) (by first | assumption | exact hSD.1 | exact hSD.w _ | (rw [hKH 2 (by omega)]; exact hKP) | omega) (by first | assumption | exact hSD.1 | exact hSD.w _ | (rw [hKH 2 (by omega)]; exact hKP) | omega) (by first | assumption | exact hSD.1 | exact hSD.w _ | (rw [hKH 2 (by omega)]; exact hKP) | omega) (by first | assumption | exact hSD.1 | exact hSD.w _ | (rw [hKH 2 (by omega)]; exact hKP) | omega) (by first | assumption | exact hSD.1 | exact hSD.w _ | (rw [hKH 2 (by omega)]; exact hKP) | omega) (by first | assumption | exact hSD.1 | exact hSD.w _ | (rw [hKH 2 (by omega)]; exact hKP) | omega) (by first | assumption | exact hSD.1 | exact hSD.w _ | (rw [hKH 2 (by omega)]; exact hKP) | omega) (by first | assumption | exact hSD.1 | exact hSD.w _ | (rw [hKH 2 (by omega)]; exact hKP) | omega) (by first | assumption | exact hSD.1 | exact hSD.w _ | (rw [hKH 2 (by omega)]; exact hKP) | omega) (by first | assumption | exact hSD.1 | exact hSD.w _ | (rw [hKH 2 (by omega)]; exact hKP) | omega) (by first | assumption | exact hSD.1 | exact hSD.w _ | (rw [hKH 2 (by omega)]; exact hKP) | omega) (by first | assumption | exact hSD.1 | exact hSD.w _ | (rw [hKH 2 (by omega)]; exact hKP) | omega) (by first | assumption | exact hSD.1 | exact hSD.w _ | (rw [hKH 2 (by omega)]; exact hKP) | omega) (by first | assumption | exact hSD.1 | exact hSD.w _ | (rw [hKH 2 (by omega)]; exact hKP) | omega) (by first | assumption | exact hSD.1 | exact hSD.w _ | (rw [hKH 2 (by omega)]; exact hKP) | omega) (by first | assumption | exact hSD.1 | exact hSD.w _ | (rw [hKH 2 (by omega)]; exact hKP) | omega) (by first | assumption | exact hSD.1 | exact hSD.w _ | (rw [hKH 2 (by omega)]; exact hKP) | omega) (by first | assumption | exact hSD.1 | exact hSD.w _ | (rw [hKH 2 (by omega)]; exact hKP) | omega) (by first | assumption | exact hSD.1 | exact hSD.w _ | (rw [hKH 2 (by omega)]; exact hKP) | omega) (by first | assumption | exact hSD.1 | exact hSD.w _ | (rw [hKH 2 (by omega)]; exact hKP) | omega) (by first | assumption | exact hSD.1 | exact hSD.w _ | (rw [hKH 2 (by omega)]; exact hKP) | omega) (by first | assumption | exact hSD.1 | exact hSD.w _ | (rw [hKH 2 (by omega)]; exact hKP) | omega) (by first | assumption | exact hSD.1 | exact hSD.w _ | (rw [hKH 2 (by omega)]; exact hKP) | omega)) (cwV 1 ht (ts_gV wd_1657 wd_1659 wd_92 wd_134 wd_1660) rfl rfl rfl (by decide +kernel) ⟨Nat.le_of_ble_eq_true rfl, Nat.le_of_ble_eq_true rfl⟩) (gc_preV (ci := 12) (q0 := 0) hK (tw_right hP) (tw_rightD hD) rfl rfl) rfl rfl hl.1 rfl (lv_room (Nat.le_of_ble_eq_true rfl)) dX12_reckons_98 ⟨Nat.le_of_ble_eq_true rfl, Nat.le_of_ble_eq_true rfl⟩) hP hD hS hA (fun u H locs hw hP hD hS => ?_)
          obtain ⟨y_37, wt⟩ := u
          obtain ⟨hT, hkp, w_38, w_39, w_40⟩ := hw
          have hW := hW.call (show ∀ x ∈ [], x ∈ [] by decide) hkp
          have hP : va_P (gg_D G) classes ([((am 3), .inl (G.2.2 0, 2400, .inl sg)), (m0, .inr (12, [.ref (am 0), .int v1, .int v2, .ref (am 3), .ref (am 4), .ref (am 5), .ref (am 6), .ref (am 7), .int v8, .int v9, .int v10, .int v11, .int v12, .int v13, .int v14, .ref (am 15), .int v16, .ref (am 17), .int y_37, .ref (am 19), .ref (am 20), .int v21, .int v22, .int v23, .int v24, .int v25, .ref (am 26), .int v27, .ref (am 28), .ref (am 29), .ref (am 30), .ref (am 31), .long v32, .ref (am 33), .ref (am 34), .ref (am 35), .ref (am 36)]))] ++ wt) H := hP
          have hD : va_D A ([((am 3), .inl (G.2.2 0, 2400, .inl sg)), (m0, .inr (12, [.ref (am 0), .int v1, .int v2, .ref (am 3), .ref (am 4), .ref (am 5), .ref (am 6), .ref (am 7), .int v8, .int v9, .int v10, .int v11, .int v12, .int v13, .int v14, .ref (am 15), .int v16, .ref (am 17), .int y_37, .ref (am 19), .ref (am 20), .int v21, .int v22, .int v23, .int v24, .int v25, .ref (am 26), .int v27, .ref (am 28), .ref (am 29), .ref (am 30), .ref (am 31), .long v32, .ref (am 33), .ref (am 34), .ref (am 35), .ref (am 36)]))] ++ wt) := hD
          refine lv_goto (tgt := 129) hx hb dX12_reckons_101 (by decide) ?_
          obtain ⟨t_41, et_41⟩ : ∃ zz_ : Int32, x8_0 + Int32.ofInt (1) = zz_ := ⟨_, rfl⟩
          have ft_41 : t_41.toInt = x8_0.toInt + (1 : Int32).toInt := ia_add (y := 1) et_41 (by omega) (by omega)
          refine lv_iinc (v := t_41) (lv' := [(4, .int t_41), (6, .int t_11), (5, .int t_10), (0, .ref m0), (1, .int b), (2, .int w), (3, .int z)]) hx hb dX12_reckons_129 hl (k := 2) rfl et_41 (by decide) rfl (fun ls hl => ?_)
          refine lv_goto (tgt := 8) hx hb dX12_reckons_132 (by decide) ?_
          have hg : y_37.toInt = g t_41.toInt.toNat := by rw [show t_41.toInt.toNat = x8_0.toInt.toNat + 1 by omega]; omega
          exact ih8 (t_41, y_37) (show (0 ≤ t_41.toInt) ∧ (t_41.toInt ≤ 400) ∧ (0 ≤ y_37.toInt) ∧ (y_37.toInt ≤ 60) ∧ (w.toInt ≤ t_41.toInt) ∧ (t_41.toInt ≤ z.toInt) ∧ (y_37.toInt = g (t_41.toInt).toNat) from ⟨by omega, by omega, by omega, by omega, by omega, by omega, hg⟩) (show (z.toInt - t_41.toInt).toNat < (z.toInt - x8_0.toInt).toNat by omega) H locs wt ls hT hW hP hD hS (lv_sub hl [0, 3, 4, 5, 6] rfl)
      · rw [← Int32.toInt_inj] at c_13
        refine lv_aload_n hx hb dX12_reckons_70 rfl (lv_at hl 3 rfl) ?_
        refine lv_aload_n hx hb dX12_reckons_71 rfl (lv_at hl 3 rfl) ?_
        refine gq_get hx hb ht hown hK hP i_X12 1 rfl rfl 19 (by decide) wd_1271 rfl rfl dX12_reckons_72 ?_
        refine lv_iload hx hb dX12_reckons_75 (lv_at hl 0 rfl) ?_
        refine tr_lald hx hb hK hT hP 30 k19 (by decide) (by decide) (show vp_in _ (tk_len 30) from ia_in (n := 10) (by omega) (by omega)) dX12_reckons_77 (fun m_42 => ?_)
        have hP : va_P (gg_D G) classes ([((am 3), .inl (G.2.2 0, 2400, .inl sg))] ++ ([(m0, .inr (12, [.ref (am 0), .int v1, .int v2, .ref (am 3), .ref (am 4), .ref (am 5), .ref (am 6), .ref (am 7), .int v8, .int v9, .int v10, .int v11, .int v12, .int v13, .int v14, .ref (am 15), .int v16, .ref (am 17), .int x8_1, .ref (am 19), .ref (am 20), .int v21, .int v22, .int v23, .int v24, .int v25, .ref (am 26), .int v27, .ref (am 28), .ref (am 29), .ref (am 30), .ref (am 31), .long v32, .ref (am 33), .ref (am 34), .ref (am 35), .ref (am 36)]))] ++ wt)) H := hP
        have hD : va_D A ([((am 3), .inl (G.2.2 0, 2400, .inl sg))] ++ ([(m0, .inr (12, [.ref (am 0), .int v1, .int v2, .ref (am 3), .ref (am 4), .ref (am 5), .ref (am 6), .ref (am 7), .int v8, .int v9, .int v10, .int v11, .int v12, .int v13, .int v14, .ref (am 15), .int v16, .ref (am 17), .int x8_1, .ref (am 19), .ref (am 20), .int v21, .int v22, .int v23, .int v24, .int v25, .ref (am 26), .int v27, .ref (am 28), .ref (am 29), .ref (am 30), .ref (am 31), .long v32, .ref (am 33), .ref (am 34), .ref (am 35), .ref (am 36)]))] ++ wt)) := hD
        refine gt_callV (wr := [((am 3), .inl (G.2.2 0, 2400, .inl sg))]) (va_runV (As := [.long m_42]) (rest := []) ⟨hx, hb, hml, hown, ht⟩ (d_m_push l G Γ H.size wt hT m_42 m0 am v1 v2 v8 v9 v10 v11 v12 v13 v14 v16 x8_1 v21 v22 v23 v24 v25 v27 v32 (by first | assumption | exact hSD.1 | exact hSD.w _ | (rw [hKH 2 (by omega)]; exact hKP) | omega) (by first | assumption | exact hSD.1 | exact hSD.w _ | (rw [hKH 2 (by omega)]; exact hKP) | omega) (by first | assumption | exact hSD.1 | exact hSD.w _ | (rw [hKH 2 (by omega)]; exact hKP) | omega) (by first | assumption | exact hSD.1 | exact hSD.w _ | (rw [hKH 2 (by omega)]; exact hKP) | omega) (by first | assumption | exact hSD.1 | exact hSD.w _ | (rw [hKH 2 (by omega)]; exact hKP) | omega) (by first | assumption | exact hSD.1 | exact hSD.w _ | (rw [hKH 2 (by omega)]; exact hKP) | omega) (by first | assumption | exact hSD.1 | exact hSD.w _ | (rw [hKH 2 (by omega)]; exact hKP) | omega) (by first | assumption | exact hSD.1 | exact hSD.w _ | (rw [hKH 2 (by omega)]; exact hKP) | omega) (by first | assumption | exact hSD.1 | exact hSD.w _ | (rw [hKH 2 (by omega)]; exact hKP) | omega) (by first | assumption | exact hSD.1 | exact hSD.w _ | (rw [hKH 2 (by omega)]; exact hKP) | omega) (by first | assumption | exact hSD.1 | exact hSD.w _ | (rw [hKH 2 (by omega)]; exact hKP) | omega) (by first | assumption | exact hSD.1 | exact hSD.w _ | (rw [hKH 2 (by omega)]; exact hKP) | omega) (by first | assumption | exact hSD.1 | exact hSD.w _ | (rw [hKH 2 (by omega)]; exact hKP) | omega) (by first | assumption | exact hSD.1 | exact hSD.w _ | (rw [hKH 2 (by omega)]; exact hKP) | omega) (by first | assumption | exact hSD.1 | exact hSD.w _ | (rw [hKH 2 (by omega)]; exact hKP) | omega) (by first | assumption | exact hSD.1 | exact hSD.w _ | (rw [hKH 2 (by omega)]; exact hKP) | omega) (by first | assumption | exact hSD.1 | exact hSD.w _ | (rw [hKH 2 (by omega)]; exact hKP) | omega) (by first | assumption | exact hSD.1 | exact hSD.w _ | (rw [hKH 2 (by omega)]; exact hKP) | omega) (by first | assumption | exact hSD.1 | exact hSD.w _ | (rw [hKH 2 (by omega)]; exact hKP) | omega) (by first | assumption | exact hSD.1 | exact hSD.w _ | (rw [hKH 2 (by omega)]; exact hKP) | omega) (by first | assumption | exact hSD.1 | exact hSD.w _ | (rw [hKH 2 (by omega)]; exact hKP) | omega) (by first | assumption | exact hSD.1 | exact hSD.w _ | (rw [hKH 2 (by omega)]; exact hKP) | omega) (by first | assumption | exact hSD.1 | exact hSD.w _ | (rw [hKH 2 (by omega)]; exact hKP) | omega) (by first | assumption | exact hSD.1 | exact hSD.w _ | (rw [hKH 2 (by omega)]; exact hKP) | omega) (by first | assumption | exact hSD.1 | exact hSD.w _ | (rw [hKH 2 (by omega)]; exact hKP) | omega)) (cwV 1 ht (ts_gV wd_1657 wd_1659 wd_92 wd_134 wd_1660) rfl rfl rfl (by decide +kernel) ⟨Nat.le_of_ble_eq_true rfl, Nat.le_of_ble_eq_true rfl⟩) (gc_preV (ci := 12) (q0 := 0) hK (tw_right hP) (tw_rightD hD) rfl rfl) rfl rfl hl.1 rfl (lv_room (Nat.le_of_ble_eq_true rfl)) dX12_reckons_78 ⟨Nat.le_of_ble_eq_true rfl, Nat.le_of_ble_eq_true rfl⟩) hP hD hS hA (fun u H locs hw hP hD hS => ?_)
        obtain ⟨y_43, wt⟩ := u
        obtain ⟨hT, hkp, w_44, w_45, w_46⟩ := hw
        have hW := hW.call (show ∀ x ∈ [], x ∈ [] by decide) hkp
        have hP : va_P (gg_D G) classes ([((am 3), .inl (G.2.2 0, 2400, .inl sg)), (m0, .inr (12, [.ref (am 0), .int v1, .int v2, .ref (am 3), .ref (am 4), .ref (am 5), .ref (am 6), .ref (am 7), .int v8, .int v9, .int v10, .int v11, .int v12, .int v13, .int v14, .ref (am 15), .int v16, .ref (am 17), .int y_43, .ref (am 19), .ref (am 20), .int v21, .int v22, .int v23, .int v24, .int v25, .ref (am 26), .int v27, .ref (am 28), .ref (am 29), .ref (am 30), .ref (am 31), .long v32, .ref (am 33), .ref (am 34), .ref (am 35), .ref (am 36)]))] ++ wt) H := hP
        have hD : va_D A ([((am 3), .inl (G.2.2 0, 2400, .inl sg)), (m0, .inr (12, [.ref (am 0), .int v1, .int v2, .ref (am 3), .ref (am 4), .ref (am 5), .ref (am 6), .ref (am 7), .int v8, .int v9, .int v10, .int v11, .int v12, .int v13, .int v14, .ref (am 15), .int v16, .ref (am 17), .int y_43, .ref (am 19), .ref (am 20), .int v21, .int v22, .int v23, .int v24, .int v25, .ref (am 26), .int v27, .ref (am 28), .ref (am 29), .ref (am 30), .ref (am 31), .long v32, .ref (am 33), .ref (am 34), .ref (am 35), .ref (am 36)]))] ++ wt) := hD
        refine lv_goto (tgt := 129) hx hb dX12_reckons_81 (by decide) ?_
        obtain ⟨t_47, et_47⟩ : ∃ zz_ : Int32, x8_0 + Int32.ofInt (1) = zz_ := ⟨_, rfl⟩
        have ft_47 : t_47.toInt = x8_0.toInt + (1 : Int32).toInt := ia_add (y := 1) et_47 (by omega) (by omega)
        refine lv_iinc (v := t_47) (lv' := [(4, .int t_47), (6, .int t_11), (5, .int t_10), (0, .ref m0), (1, .int b), (2, .int w), (3, .int z)]) hx hb dX12_reckons_129 hl (k := 2) rfl et_47 (by decide) rfl (fun ls hl => ?_)
        refine lv_goto (tgt := 8) hx hb dX12_reckons_132 (by decide) ?_
        have hg : y_43.toInt = g t_47.toInt.toNat := by rw [show t_47.toInt.toNat = x8_0.toInt.toNat + 1 by omega]; omega
        exact ih8 (t_47, y_43) (show (0 ≤ t_47.toInt) ∧ (t_47.toInt ≤ 400) ∧ (0 ≤ y_43.toInt) ∧ (y_43.toInt ≤ 60) ∧ (w.toInt ≤ t_47.toInt) ∧ (t_47.toInt ≤ z.toInt) ∧ (y_43.toInt = g (t_47.toInt).toNat) from ⟨by omega, by omega, by omega, by omega, by omega, by omega, hg⟩) (show (z.toInt - t_47.toInt).toNat < (z.toInt - x8_0.toInt).toNat by omega) H locs wt ls hT hW hP hD hS (lv_sub hl [0, 3, 4, 5, 6] rfl)
    · rw [← Int32.toInt_inj] at c_12
      refine lv_aload_n hx hb dX12_reckons_54 rfl (lv_at hl 3 rfl) ?_
      refine lv_iload hx hb dX12_reckons_55 (lv_at hl 0 rfl) ?_
      refine lv_i2l hx hb dX12_reckons_57 rfl ?_
      refine lv_topl (fun m_48 em_48 => ?_)
      have fm_48 := il_i2l em_48
      have hP : va_P (gg_D G) classes ([((am 3), .inl (G.2.2 0, 2400, .inl sg))] ++ ([(m0, .inr (12, [.ref (am 0), .int v1, .int v2, .ref (am 3), .ref (am 4), .ref (am 5), .ref (am 6), .ref (am 7), .int v8, .int v9, .int v10, .int v11, .int v12, .int v13, .int v14, .ref (am 15), .int v16, .ref (am 17), .int x8_1, .ref (am 19), .ref (am 20), .int v21, .int v22, .int v23, .int v24, .int v25, .ref (am 26), .int v27, .ref (am 28), .ref (am 29), .ref (am 30), .ref (am 31), .long v32, .ref (am 33), .ref (am 34), .ref (am 35), .ref (am 36)]))] ++ wt)) H := hP
      have hD : va_D A ([((am 3), .inl (G.2.2 0, 2400, .inl sg))] ++ ([(m0, .inr (12, [.ref (am 0), .int v1, .int v2, .ref (am 3), .ref (am 4), .ref (am 5), .ref (am 6), .ref (am 7), .int v8, .int v9, .int v10, .int v11, .int v12, .int v13, .int v14, .ref (am 15), .int v16, .ref (am 17), .int x8_1, .ref (am 19), .ref (am 20), .int v21, .int v22, .int v23, .int v24, .int v25, .ref (am 26), .int v27, .ref (am 28), .ref (am 29), .ref (am 30), .ref (am 31), .long v32, .ref (am 33), .ref (am 34), .ref (am 35), .ref (am 36)]))] ++ wt)) := hD
      refine gt_callV (wr := [((am 3), .inl (G.2.2 0, 2400, .inl sg))]) (va_runV (As := [.long m_48]) (rest := []) ⟨hx, hb, hml, hown, ht⟩ (d_m_push l G Γ H.size wt hT m_48 m0 am v1 v2 v8 v9 v10 v11 v12 v13 v14 v16 x8_1 v21 v22 v23 v24 v25 v27 v32 (by first | assumption | exact hSD.1 | exact hSD.w _ | (rw [hKH 2 (by omega)]; exact hKP) | omega) (by first | assumption | exact hSD.1 | exact hSD.w _ | (rw [hKH 2 (by omega)]; exact hKP) | omega) (by first | assumption | exact hSD.1 | exact hSD.w _ | (rw [hKH 2 (by omega)]; exact hKP) | omega) (by first | assumption | exact hSD.1 | exact hSD.w _ | (rw [hKH 2 (by omega)]; exact hKP) | omega) (by first | assumption | exact hSD.1 | exact hSD.w _ | (rw [hKH 2 (by omega)]; exact hKP) | omega) (by first | assumption | exact hSD.1 | exact hSD.w _ | (rw [hKH 2 (by omega)]; exact hKP) | omega) (by first | assumption | exact hSD.1 | exact hSD.w _ | (rw [hKH 2 (by omega)]; exact hKP) | omega) (by first | assumption | exact hSD.1 | exact hSD.w _ | (rw [hKH 2 (by omega)]; exact hKP) | omega) (by first | assumption | exact hSD.1 | exact hSD.w _ | (rw [hKH 2 (by omega)]; exact hKP) | omega) (by first | assumption | exact hSD.1 | exact hSD.w _ | (rw [hKH 2 (by omega)]; exact hKP) | omega) (by first | assumption | exact hSD.1 | exact hSD.w _ | (rw [hKH 2 (by omega)]; exact hKP) | omega) (by first | assumption | exact hSD.1 | exact hSD.w _ | (rw [hKH 2 (by omega)]; exact hKP) | omega) (by first | assumption | exact hSD.1 | exact hSD.w _ | (rw [hKH 2 (by omega)]; exact hKP) | omega) (by first | assumption | exact hSD.1 | exact hSD.w _ | (rw [hKH 2 (by omega)]; exact hKP) | omega) (by first | assumption | exact hSD.1 | exact hSD.w _ | (rw [hKH 2 (by omega)]; exact hKP) | omega) (by first | assumption | exact hSD.1 | exact hSD.w _ | (rw [hKH 2 (by omega)]; exact hKP) | omega) (by first | assumption | exact hSD.1 | exact hSD.w _ | (rw [hKH 2 (by omega)]; exact hKP) | omega) (by first | assumption | exact hSD.1 | exact hSD.w _ | (rw [hKH 2 (by omega)]; exact hKP) | omega) (by first | assumption | exact hSD.1 | exact hSD.w _ | (rw [hKH 2 (by omega)]; exact hKP) | omega) (by first | assumption | exact hSD.1 | exact hSD.w _ | (rw [hKH 2 (by omega)]; exact hKP) | omega) (by first | assumption | exact hSD.1 | exact hSD.w _ | (rw [hKH 2 (by omega)]; exact hKP) | omega) (by first | assumption | exact hSD.1 | exact hSD.w _ | (rw [hKH 2 (by omega)]; exact hKP) | omega) (by first | assumption | exact hSD.1 | exact hSD.w _ | (rw [hKH 2 (by omega)]; exact hKP) | omega) (by first | assumption | exact hSD.1 | exact hSD.w _ | (rw [hKH 2 (by omega)]; exact hKP) | omega) (by first | assumption | exact hSD.1 | exact hSD.w _ | (rw [hKH 2 (by omega)]; exact hKP) | omega)) (cwV 1 ht (ts_gV wd_1657 wd_1659 wd_92 wd_134 wd_1660) rfl rfl rfl (by decide +kernel) ⟨Nat.le_of_ble_eq_true rfl, Nat.le_of_ble_eq_true rfl⟩) (gc_preV (ci := 12) (q0 := 0) hK (tw_right hP) (tw_rightD hD) rfl rfl) rfl rfl hl.1 rfl (lv_room (Nat.le_of_ble_eq_true rfl)) dX12_reckons_58 ⟨Nat.le_of_ble_eq_true rfl, Nat.le_of_ble_eq_true rfl⟩) hP hD hS hA (fun u H locs hw hP hD hS => ?_)
      obtain ⟨y_49, wt⟩ := u
      obtain ⟨hT, hkp, w_50, w_51, w_52⟩ := hw
      have hW := hW.call (show ∀ x ∈ [], x ∈ [] by decide) hkp
      have hP : va_P (gg_D G) classes ([((am 3), .inl (G.2.2 0, 2400, .inl sg)), (m0, .inr (12, [.ref (am 0), .int v1, .int v2, .ref (am 3), .ref (am 4), .ref (am 5), .ref (am 6), .ref (am 7), .int v8, .int v9, .int v10, .int v11, .int v12, .int v13, .int v14, .ref (am 15), .int v16, .ref (am 17), .int y_49, .ref (am 19), .ref (am 20), .int v21, .int v22, .int v23, .int v24, .int v25, .ref (am 26), .int v27, .ref (am 28), .ref (am 29), .ref (am 30), .ref (am 31), .long v32, .ref (am 33), .ref (am 34), .ref (am 35), .ref (am 36)]))] ++ wt) H := hP
      have hD : va_D A ([((am 3), .inl (G.2.2 0, 2400, .inl sg)), (m0, .inr (12, [.ref (am 0), .int v1, .int v2, .ref (am 3), .ref (am 4), .ref (am 5), .ref (am 6), .ref (am 7), .int v8, .int v9, .int v10, .int v11, .int v12, .int v13, .int v14, .ref (am 15), .int v16, .ref (am 17), .int y_49, .ref (am 19), .ref (am 20), .int v21, .int v22, .int v23, .int v24, .int v25, .ref (am 26), .int v27, .ref (am 28), .ref (am 29), .ref (am 30), .ref (am 31), .long v32, .ref (am 33), .ref (am 34), .ref (am 35), .ref (am 36)]))] ++ wt) := hD
      refine lv_goto (tgt := 129) hx hb dX12_reckons_61 (by decide) ?_
      obtain ⟨t_53, et_53⟩ : ∃ zz_ : Int32, x8_0 + Int32.ofInt (1) = zz_ := ⟨_, rfl⟩
      have ft_53 : t_53.toInt = x8_0.toInt + (1 : Int32).toInt := ia_add (y := 1) et_53 (by omega) (by omega)
      refine lv_iinc (v := t_53) (lv' := [(4, .int t_53), (6, .int t_11), (5, .int t_10), (0, .ref m0), (1, .int b), (2, .int w), (3, .int z)]) hx hb dX12_reckons_129 hl (k := 2) rfl et_53 (by decide) rfl (fun ls hl => ?_)
      refine lv_goto (tgt := 8) hx hb dX12_reckons_132 (by decide) ?_
      have hg : y_49.toInt = g t_53.toInt.toNat := by rw [show t_53.toInt.toNat = x8_0.toInt.toNat + 1 by omega]; omega
      exact ih8 (t_53, y_49) (show (0 ≤ t_53.toInt) ∧ (t_53.toInt ≤ 400) ∧ (0 ≤ y_49.toInt) ∧ (y_49.toInt ≤ 60) ∧ (w.toInt ≤ t_53.toInt) ∧ (t_53.toInt ≤ z.toInt) ∧ (y_49.toInt = g (t_53.toInt).toNat) from ⟨by omega, by omega, by omega, by omega, by omega, by omega, hg⟩) (show (z.toInt - t_53.toInt).toNat < (z.toInt - x8_0.toInt).toNat by omega) H locs wt ls hT hW hP hD hS (lv_sub hl [0, 3, 4, 5, 6] rfl)
set_option maxHeartbeats 4000000 in
set_option maxRecDepth 100000 in
theorem d_m_summedBy (l : Launch) (G : gg_T) (Γ : Nat → Nat) (sz : Nat) (wt : va_W) (hT : tk_ty G Γ wt) (b : Int32) (m0 : Nat) (am : Nat → Nat) (v1 : Int32) (v2 : Int32) (v8 : Int32) (v9 : Int32) (v10 : Int32) (v11 : Int32) (v12 : Int32) (v13 : Int32) (v14 : Int32) (v16 : Int32) (v18 : Int32) (v21 : Int32) (v22 : Int32) (v23 : Int32) (v24 : Int32) (v25 : Int32) (v27 : Int32) (v32 : Int64) (cs : Nat → Int32) (cl : Nat → Int32) (sg : Nat → Int32) (lo_b : 0 ≤ b.toInt) (hi_b : b.toInt ≤ 5) (k17 : Γ (am 17) = 32) (k19 : Γ (am 19) = 30) (k30 : Γ (am 30) = 28) (k31 : Γ (am 31) = 28) (lo_v1 : 0 ≤ v1.toInt) (hi_v1 : v1.toInt ≤ 400) (lo_v2 : 0 ≤ v2.toInt) (hi_v2 : v2.toInt ≤ 6) (lo_v8 : 0 ≤ v8.toInt) (hi_v8 : v8.toInt ≤ 400) (lo_v11 : 0 ≤ v11.toInt) (hi_v11 : v11.toInt ≤ 6) (lo_v12 : 0 ≤ v12.toInt) (hi_v12 : v12.toInt ≤ 60) (lo_v16 : 0 ≤ v16.toInt) (hi_v16 : v16.toInt ≤ 400) (lo_v21 : -1 ≤ v21.toInt) (hi_v21 : v21.toInt ≤ 5) (lo_v23 : 0 ≤ v23.toInt) (hi_v23 : v23.toInt ≤ 31) (lo_v27 : 0 ≤ v27.toInt) (hi_v27 : v27.toInt ≤ 20) (xfr : v21.toInt < v2.toInt) (hRU : rRU cs cl sg v2.toInt) (hbr : b.toInt < v2.toInt) : Met l yX12_summedBy (ts_L yX12_summedBy cX12_summedBy 4 (some .long)) ({ frames := 2, cells := 0, slots := 0, locals := 54 }) (gc_P G ([((am 6), .inl (G.2.2 0, 6, .inl cs)), ((am 5), .inl (G.2.2 0, 288, .inl cl)), ((am 3), .inl (G.2.2 0, 2400, .inl sg)), (m0, .inr (12, [.ref (am 0), .int v1, .int v2, .ref (am 3), .ref (am 4), .ref (am 5), .ref (am 6), .ref (am 7), .int v8, .int v9, .int v10, .int v11, .int v12, .int v13, .int v14, .ref (am 15), .int v16, .ref (am 17), .int v18, .ref (am 19), .ref (am 20), .int v21, .int v22, .int v23, .int v24, .int v25, .ref (am 26), .int v27, .ref (am 28), .ref (am 29), .ref (am 30), .ref (am 31), .long v32, .ref (am 33), .ref (am 34), .ref (am 35), .ref (am 36)]))] ++ wt) sz [.ref m0, .int b]) (gc_J G (va_A ([((am 6), .inl (G.2.2 0, 6, .inl cs)), ((am 5), .inl (G.2.2 0, 288, .inl cl)), ((am 3), .inl (G.2.2 0, 2400, .inl sg)), (m0, .inr (12, [.ref (am 0), .int v1, .int v2, .ref (am 3), .ref (am 4), .ref (am 5), .ref (am 6), .ref (am 7), .int v8, .int v9, .int v10, .int v11, .int v12, .int v13, .int v14, .ref (am 15), .int v16, .ref (am 17), .int v18, .ref (am 19), .ref (am 20), .int v21, .int v22, .int v23, .int v24, .int v25, .ref (am 26), .int v27, .ref (am 28), .ref (am 29), .ref (am 30), .ref (am 31), .long v32, .ref (am 33), .ref (am 34), .ref (am 35), .ref (am 36)]))] ++ wt) sz) (fun r (u : (Int32) × va_W) => match u with | (w18, wt1) => tk_ty G Γ wt1 ∧ tk_kp [] wt wt1) (fun (u : (Int32) × va_W) => match u with | (w18, wt1) => [((am 6), .inl (G.2.2 0, 6, .inl cs)), ((am 5), .inl (G.2.2 0, 288, .inl cl)), ((am 3), .inl (G.2.2 0, 2400, .inl sg)), (m0, .inr (12, [.ref (am 0), .int v1, .int v2, .ref (am 3), .ref (am 4), .ref (am 5), .ref (am 6), .ref (am 7), .int v8, .int v9, .int v10, .int v11, .int v12, .int v13, .int v14, .ref (am 15), .int v16, .ref (am 17), .int w18, .ref (am 19), .ref (am 20), .int v21, .int v22, .int v23, .int v24, .int v25, .ref (am 26), .int v27, .ref (am 28), .ref (am 29), .ref (am 30), .ref (am 31), .long v32, .ref (am 33), .ref (am 34), .ref (am 35), .ref (am 36)]))] ++ wt1)) 0 0 (va_A ([((am 6), .inl (G.2.2 0, 6, .inl cs)), ((am 5), .inl (G.2.2 0, 288, .inl cl)), ((am 3), .inl (G.2.2 0, 2400, .inl sg)), (m0, .inr (12, [.ref (am 0), .int v1, .int v2, .ref (am 3), .ref (am 4), .ref (am 5), .ref (am 6), .ref (am 7), .int v8, .int v9, .int v10, .int v11, .int v12, .int v13, .int v14, .ref (am 15), .int v16, .ref (am 17), .int v18, .ref (am 19), .ref (am 20), .int v21, .int v22, .int v23, .int v24, .int v25, .ref (am 26), .int v27, .ref (am 28), .ref (am 29), .ref (am 30), .ref (am 31), .long v32, .ref (am 33), .ref (am 34), .ref (am 35), .ref (am 36)]))] ++ wt) sz) := by
  refine Met.ofW (cc := cX12_summedBy) (maxL := 4) (ret := (some .long)) (by decide) rfl ?_
  intro p e s m args below meth c s₁ B hml hv
  obtain ⟨rfl, hsz, hP, hK, hD0⟩ := hv
  have hx := B.exec
  have hb := B.bytes
  have hr := B.returns
  have ht := ts_ht (atoms_spec (ws := ts_L yX12_summedBy cX12_summedBy 4 (some .long)) B.pre)
  have hown : s.vm.findClass RX12 = some m.cls := findClass_of_methodNamed B.named
  have hlocks := B.notSynchronized
  subst hsz
  have hD := hD0.self (sz := s.heap.size)
  generalize hAe : va_A ([((am 6), .inl (G.2.2 0, 6, .inl cs)), ((am 5), .inl (G.2.2 0, 288, .inl cl)), ((am 3), .inl (G.2.2 0, 2400, .inl sg)), (m0, .inr (12, [.ref (am 0), .int v1, .int v2, .ref (am 3), .ref (am 4), .ref (am 5), .ref (am 6), .ref (am 7), .int v8, .int v9, .int v10, .int v11, .int v12, .int v13, .int v14, .ref (am 15), .int v16, .ref (am 17), .int v18, .ref (am 19), .ref (am 20), .int v21, .int v22, .int v23, .int v24, .int v25, .ref (am 26), .int v27, .ref (am 28), .ref (am 29), .ref (am 30), .ref (am 31), .long v32, .ref (am 33), .ref (am 34), .ref (am 35), .ref (am 36)]))] ++ wt) s.heap.size = A at hD ⊢
  have hA : ∀ q : Nat, s.heap.size ≤ q → A q := fun q h => by rw [← hAe]; exact Or.inr h
  clear hAe hD0
  have hS : va_S A s.heap s.heap [] := va_S.rf
  obtain ⟨w0, hw0⟩ : ∃ z, z = wt := ⟨_, rfl⟩
  have hW : tk_kp [] w0 wt := by rw [hw0]; exact tk_kp.rf
  rw [← hw0]
  clear hw0
  have hP : va_P (gg_D G) classes ([((am 6), .inl (G.2.2 0, 6, .inl cs)), ((am 5), .inl (G.2.2 0, 288, .inl cl)), ((am 3), .inl (G.2.2 0, 2400, .inl sg)), (m0, .inr (12, [.ref (am 0), .int v1, .int v2, .ref (am 3), .ref (am 4), .ref (am 5), .ref (am 6), .ref (am 7), .int v8, .int v9, .int v10, .int v11, .int v12, .int v13, .int v14, .ref (am 15), .int v16, .ref (am 17), .int v18, .ref (am 19), .ref (am 20), .int v21, .int v22, .int v23, .int v24, .int v25, .ref (am 26), .int v27, .ref (am 28), .ref (am 29), .ref (am 30), .ref (am 31), .long v32, .ref (am 33), .ref (am 34), .ref (am 35), .ref (am 36)]))] ++ wt) s.heap := hP
  have hD : va_D A ([((am 6), .inl (G.2.2 0, 6, .inl cs)), ((am 5), .inl (G.2.2 0, 288, .inl cl)), ((am 3), .inl (G.2.2 0, 2400, .inl sg)), (m0, .inr (12, [.ref (am 0), .int v1, .int v2, .ref (am 3), .ref (am 4), .ref (am 5), .ref (am 6), .ref (am 7), .int v8, .int v9, .int v10, .int v11, .int v12, .int v13, .int v14, .ref (am 15), .int v16, .ref (am 17), .int v18, .ref (am 19), .ref (am 20), .int v21, .int v22, .int v23, .int v24, .int v25, .ref (am 26), .int v27, .ref (am 28), .ref (am 29), .ref (am 30), .ref (am 31), .long v32, .ref (am 33), .ref (am 34), .ref (am 35), .ref (am 36)]))] ++ wt) := hD
  have hl := lv_entry ([.ref m0, .int b]) (n := 4) (Nat.le_of_ble_eq_true rfl)
  rw [lg_entry_eq]
  generalize (lg_sl ([.ref m0, .int b]) ++ List.replicate (4 - (lg_sl ([.ref m0, .int b])).length) Slot.unset).toArray = ls at hl ⊢
  have hl : lv_has ls 4 [(0, .ref m0), (1, .int b)] := hl
  have hRUb := hRU b.toInt.toNat (by omega)
  have hRUc := hRUb.1
  have L1 : (1 : Int64).toInt = 1 := by decide +kernel
  have l0 : (0 : Int32).toInt = 0 := by decide +kernel
  have l1 : (1 : Int32).toInt = 1 := by decide +kernel
  have l2 : (2 : Int32).toInt = 2 := by decide +kernel
  have l3 : (3 : Int32).toInt = 3 := by decide +kernel
  have l4 : (4 : Int32).toInt = 4 := by decide +kernel
  have l48 : (48 : Int32).toInt = 48 := by decide +kernel
  refine lv_iconst (v := 0) hx hb dX12_summedBy_0 (by decide +kernel) ?_
  refine lv_istore_n (lv' := [(2, .int 0), (0, .ref m0), (1, .int b)]) hx hb dX12_summedBy_1 rfl hl (by decide) rfl (fun ls hl => ?_)
  refine tl_loopE (Γ := Γ) (nL := 4) (fun (zz_ : Int32 × Int32) => match zz_ with | (x2_0, x2_1) => (0 ≤ x2_0.toInt) ∧ (x2_0.toInt ≤ 12)) (fun (zz_ : Int32 × Int32) => match zz_ with | (x2_0, x2_1) => (12 - x2_0.toInt).toNat) (fun (zz_ : Int32 × Int32) => match zz_ with | (x2_0, x2_1) => [(2, .int x2_0), (0, .ref m0), (1, .int b)]) (fun (zz_ : Int32 × Int32) => match zz_ with | (x2_0, x2_1) => [((am 6), .inl (G.2.2 0, 6, .inl cs)), ((am 5), .inl (G.2.2 0, 288, .inl cl)), ((am 3), .inl (G.2.2 0, 2400, .inl sg)), (m0, .inr (12, [.ref (am 0), .int v1, .int v2, .ref (am 3), .ref (am 4), .ref (am 5), .ref (am 6), .ref (am 7), .int v8, .int v9, .int v10, .int v11, .int v12, .int v13, .int v14, .ref (am 15), .int v16, .ref (am 17), .int x2_1, .ref (am 19), .ref (am 20), .int v21, .int v22, .int v23, .int v24, .int v25, .ref (am 26), .int v27, .ref (am 28), .ref (am 29), .ref (am 30), .ref (am 31), .long v32, .ref (am 33), .ref (am 34), .ref (am 35), .ref (am 36)]))]) (fun (zz_ : Int32 × Int32) (w : va_W) => match zz_ with | (x2_0, x2_1) => tk_kp [] w0 w) (fun zz_ hI H locs wt ls hT hW hP hD hS hl ih2 => ?_) (0, v18) (show (0 ≤ (0 : Int32).toInt) ∧ ((0 : Int32).toInt ≤ 12) from ⟨by omega, by omega⟩) _ _ wt ls hT hW hP hD hS hl
  obtain ⟨x2_0, x2_1⟩ := zz_
  have hW : tk_kp [] w0 wt := hW
  have hI : (0 ≤ x2_0.toInt) ∧ (x2_0.toInt ≤ 12) := hI
  obtain ⟨j2_0, j2_1⟩ := hI
  have hl : lv_has ls 4 [(2, .int x2_0), (0, .ref m0), (1, .int b)] := hl
  have hP : va_P (gg_D G) classes ([((am 6), .inl (G.2.2 0, 6, .inl cs)), ((am 5), .inl (G.2.2 0, 288, .inl cl)), ((am 3), .inl (G.2.2 0, 2400, .inl sg)), (m0, .inr (12, [.ref (am 0), .int v1, .int v2, .ref (am 3), .ref (am 4), .ref (am 5), .ref (am 6), .ref (am 7), .int v8, .int v9, .int v10, .int v11, .int v12, .int v13, .int v14, .ref (am 15), .int v16, .ref (am 17), .int x2_1, .ref (am 19), .ref (am 20), .int v21, .int v22, .int v23, .int v24, .int v25, .ref (am 26), .int v27, .ref (am 28), .ref (am 29), .ref (am 30), .ref (am 31), .long v32, .ref (am 33), .ref (am 34), .ref (am 35), .ref (am 36)]))] ++ wt) H := hP
  have hD : va_D A ([((am 6), .inl (G.2.2 0, 6, .inl cs)), ((am 5), .inl (G.2.2 0, 288, .inl cl)), ((am 3), .inl (G.2.2 0, 2400, .inl sg)), (m0, .inr (12, [.ref (am 0), .int v1, .int v2, .ref (am 3), .ref (am 4), .ref (am 5), .ref (am 6), .ref (am 7), .int v8, .int v9, .int v10, .int v11, .int v12, .int v13, .int v14, .ref (am 15), .int v16, .ref (am 17), .int x2_1, .ref (am 19), .ref (am 20), .int v21, .int v22, .int v23, .int v24, .int v25, .ref (am 26), .int v27, .ref (am 28), .ref (am 29), .ref (am 30), .ref (am 31), .long v32, .ref (am 33), .ref (am 34), .ref (am 35), .ref (am 36)]))] ++ wt) := hD
  refine lv_iload_n hx hb dX12_summedBy_2 rfl (lv_at hl 0 rfl) ?_
  refine lv_aload_n hx hb dX12_summedBy_3 rfl (lv_at hl 1 rfl) ?_
  refine gq_get hx hb ht hown hK hP i_X12 3 rfl rfl 6 (by decide) wd_1258 rfl rfl dX12_summedBy_4 ?_
  refine lv_iload_n hx hb dX12_summedBy_7 rfl (lv_at hl 2 rfl) ?_
  obtain ⟨n_1, en_1⟩ : ∃ zz_ : Int32, cs (Int32.toNatClampNeg b) = zz_ := ⟨_, rfl⟩
  refine gq_iald hx hb hK hP 0 rfl n_1 (ia_in (n := 6) (by omega) (by omega)) en_1 dX12_summedBy_8 ?_
  have En_1 : cs (b.toInt.toNat) = n_1 := by rw [← show Int32.toNatClampNeg b = b.toInt.toNat from ix_n (by omega)]; exact en_1
  have hn_1 : (cs (b.toInt.toNat)).toInt = n_1.toInt := by rw [En_1]
  refine lv_icmp_ge (tgt := 84) hx hb dX12_summedBy_9 (by decide) (fun c_2 => ?_) (fun c_2 => ?_)
  · rw [Int32.le_iff_toInt_le] at c_2
    refine lv_lconst (v := 0) hx hb dX12_summedBy_84 (by decide +kernel) ?_
    have hP9 : va_P (gg_D G) classes ([((am 6), .inl (G.2.2 0, 6, .inl cs)), ((am 5), .inl (G.2.2 0, 288, .inl cl)), ((am 3), .inl (G.2.2 0, 2400, .inl sg)), (m0, .inr (12, [.ref (am 0), .int v1, .int v2, .ref (am 3), .ref (am 4), .ref (am 5), .ref (am 6), .ref (am 7), .int v8, .int v9, .int v10, .int v11, .int v12, .int v13, .int v14, .ref (am 15), .int v16, .ref (am 17), .int x2_1, .ref (am 19), .ref (am 20), .int v21, .int v22, .int v23, .int v24, .int v25, .ref (am 26), .int v27, .ref (am 28), .ref (am 29), .ref (am 30), .ref (am 31), .long v32, .ref (am 33), .ref (am 34), .ref (am 35), .ref (am 36)]))] ++ wt) _ := hP
    have hD9 : va_D A ([((am 6), .inl (G.2.2 0, 6, .inl cs)), ((am 5), .inl (G.2.2 0, 288, .inl cl)), ((am 3), .inl (G.2.2 0, 2400, .inl sg)), (m0, .inr (12, [.ref (am 0), .int v1, .int v2, .ref (am 3), .ref (am 4), .ref (am 5), .ref (am 6), .ref (am 7), .int v8, .int v9, .int v10, .int v11, .int v12, .int v13, .int v14, .ref (am 15), .int v16, .ref (am 17), .int x2_1, .ref (am 19), .ref (am 20), .int v21, .int v22, .int v23, .int v24, .int v25, .ref (am 26), .int v27, .ref (am 28), .ref (am 29), .ref (am 30), .ref (am 31), .long v32, .ref (am 33), .ref (am 34), .ref (am 35), .ref (am 36)]))] ++ wt) := hD
    exact W.lret (v := 0) hx hb hr (gq_endJ (x2_1, wt) ⟨hT, hW⟩ hP9 hD9 hS) hS.2.2 dX12_summedBy_85
  · rw [Int32.le_iff_toInt_le] at c_2
    obtain ⟨hC1, hC2⟩ := hRUb.2 x2_0.toInt.toNat (by omega)
    refine lv_bipush (v := 48) hx hb dX12_summedBy_12 (by decide +kernel) ?_
    refine lv_iload_n hx hb dX12_summedBy_14 rfl (lv_at hl 2 rfl) ?_
    obtain ⟨t_3, et_3⟩ : ∃ zz_ : Int32, 48 * b = zz_ := ⟨_, rfl⟩
    refine gq_imul hx hb t_3 et_3 dX12_summedBy_15 ?_
    have ft_3 := ia_mul et_3 (by rw [l48]; omega) (by rw [l48]; omega)
    rw [l48] at ft_3
    refine lv_iconst (v := 4) hx hb dX12_summedBy_16 (by decide +kernel) ?_
    refine lv_iload_n hx hb dX12_summedBy_17 rfl (lv_at hl 0 rfl) ?_
    obtain ⟨t_4, et_4⟩ : ∃ zz_ : Int32, 4 * x2_0 = zz_ := ⟨_, rfl⟩
    refine gq_imul hx hb t_4 et_4 dX12_summedBy_18 ?_
    have ft_4 := ia_mul et_4 (by rw [l4]; omega) (by rw [l4]; omega)
    rw [l4] at ft_4
    obtain ⟨t_5, et_5⟩ : ∃ zz_ : Int32, t_3 + t_4 = zz_ := ⟨_, rfl⟩
    refine gq_iadd hx hb t_5 et_5 dX12_summedBy_19 ?_
    have ft_5 := ia_add et_5 (by omega) (by omega)
    refine lv_istore_n (lv' := [(3, .int t_5), (2, .int x2_0), (0, .ref m0), (1, .int b)]) hx hb dX12_summedBy_20 rfl hl (by decide) rfl (fun ls hl => ?_)
    refine lv_aload_n hx hb dX12_summedBy_21 rfl (lv_at hl 2 rfl) ?_
    refine gq_get hx hb ht hown hK hP i_X12 3 rfl rfl 5 (by decide) wd_1257 rfl rfl dX12_summedBy_22 ?_
    refine lv_iload_n hx hb dX12_summedBy_25 rfl (lv_at hl 0 rfl) ?_
    refine lv_iconst (v := 2) hx hb dX12_summedBy_26 (by decide +kernel) ?_
    obtain ⟨t_6, et_6⟩ : ∃ zz_ : Int32, t_5 + 2 = zz_ := ⟨_, rfl⟩
    refine gq_iadd hx hb t_6 et_6 dX12_summedBy_27 ?_
    have ft_6 := ia_add et_6 (by omega) (by omega)
    obtain ⟨n_7, en_7⟩ : ∃ zz_ : Int32, cl (Int32.toNatClampNeg t_6) = zz_ := ⟨_, rfl⟩
    refine gq_iald hx hb hK hP 1 rfl n_7 (ia_in (n := 288) (by omega) (by omega)) en_7 dX12_summedBy_28 ?_
    have En_7 : cl (48 * b.toInt.toNat + 4 * x2_0.toInt.toNat + 2) = n_7 := by rw [← show Int32.toNatClampNeg t_6 = 48 * b.toInt.toNat + 4 * x2_0.toInt.toNat + 2 from ix_n (by omega)]; exact en_7
    have hn_7 : (cl (48 * b.toInt.toNat + 4 * x2_0.toInt.toNat + 2)).toInt = n_7.toInt := by rw [En_7]
    refine lv_if_lt (tgt := 58) hx hb dX12_summedBy_29 (by decide) (fun c_8 => ?_) (fun c_8 => ?_)
    · rw [Int32.lt_iff_toInt_lt] at c_8
      refine lv_aload_n hx hb dX12_summedBy_58 rfl (lv_at hl 2 rfl) ?_
      refine lv_iload_n hx hb dX12_summedBy_59 rfl (lv_at hl 3 rfl) ?_
      refine lv_aload_n hx hb dX12_summedBy_60 rfl (lv_at hl 2 rfl) ?_
      refine gq_get hx hb ht hown hK hP i_X12 3 rfl rfl 5 (by decide) wd_1257 rfl rfl dX12_summedBy_61 ?_
      refine lv_iload_n hx hb dX12_summedBy_64 rfl (lv_at hl 0 rfl) ?_
      obtain ⟨n_9, en_9⟩ : ∃ zz_ : Int32, cl (Int32.toNatClampNeg t_5) = zz_ := ⟨_, rfl⟩
      refine gq_iald hx hb hK hP 1 rfl n_9 (ia_in (n := 288) (by omega) (by omega)) en_9 dX12_summedBy_65 ?_
      have En_9 : cl (48 * b.toInt.toNat + 4 * x2_0.toInt.toNat) = n_9 := by rw [← show Int32.toNatClampNeg t_5 = 48 * b.toInt.toNat + 4 * x2_0.toInt.toNat from ix_n (by omega)]; exact en_9
      have hn_9 : (cl (48 * b.toInt.toNat + 4 * x2_0.toInt.toNat)).toInt = n_9.toInt := by rw [En_9]
      refine lv_aload_n hx hb dX12_summedBy_66 rfl (lv_at hl 2 rfl) ?_
      refine gq_get hx hb ht hown hK hP i_X12 3 rfl rfl 5 (by decide) wd_1257 rfl rfl dX12_summedBy_67 ?_
      refine lv_iload_n hx hb dX12_summedBy_70 rfl (lv_at hl 0 rfl) ?_
      refine lv_iconst (v := 1) hx hb dX12_summedBy_71 (by decide +kernel) ?_
      obtain ⟨t_10, et_10⟩ : ∃ zz_ : Int32, t_5 + 1 = zz_ := ⟨_, rfl⟩
      refine gq_iadd hx hb t_10 et_10 dX12_summedBy_72 ?_
      have ft_10 := ia_add et_10 (by omega) (by omega)
      obtain ⟨n_11, en_11⟩ : ∃ zz_ : Int32, cl (Int32.toNatClampNeg t_10) = zz_ := ⟨_, rfl⟩
      refine gq_iald hx hb hK hP 1 rfl n_11 (ia_in (n := 288) (by omega) (by omega)) en_11 dX12_summedBy_73 ?_
      have En_11 : cl (48 * b.toInt.toNat + 4 * x2_0.toInt.toNat + 1) = n_11 := by rw [← show Int32.toNatClampNeg t_10 = 48 * b.toInt.toNat + 4 * x2_0.toInt.toNat + 1 from ix_n (by omega)]; exact en_11
      have hn_11 : (cl (48 * b.toInt.toNat + 4 * x2_0.toInt.toNat + 1)).toInt = n_11.toInt := by rw [En_11]
      have hWFc : rWF sg b.toInt.toNat n_9 n_11 400 := by rw [← En_9, ← En_11]; exact hC1
      have hP : va_P (gg_D G) classes ([((am 6), .inl (G.2.2 0, 6, .inl cs)), ((am 5), .inl (G.2.2 0, 288, .inl cl))] ++ ([((am 3), .inl (G.2.2 0, 2400, .inl sg)), (m0, .inr (12, [.ref (am 0), .int v1, .int v2, .ref (am 3), .ref (am 4), .ref (am 5), .ref (am 6), .ref (am 7), .int v8, .int v9, .int v10, .int v11, .int v12, .int v13, .int v14, .ref (am 15), .int v16, .ref (am 17), .int x2_1, .ref (am 19), .ref (am 20), .int v21, .int v22, .int v23, .int v24, .int v25, .ref (am 26), .int v27, .ref (am 28), .ref (am 29), .ref (am 30), .ref (am 31), .long v32, .ref (am 33), .ref (am 34), .ref (am 35), .ref (am 36)]))] ++ wt)) H := hP
      have hD : va_D A ([((am 6), .inl (G.2.2 0, 6, .inl cs)), ((am 5), .inl (G.2.2 0, 288, .inl cl))] ++ ([((am 3), .inl (G.2.2 0, 2400, .inl sg)), (m0, .inr (12, [.ref (am 0), .int v1, .int v2, .ref (am 3), .ref (am 4), .ref (am 5), .ref (am 6), .ref (am 7), .int v8, .int v9, .int v10, .int v11, .int v12, .int v13, .int v14, .ref (am 15), .int v16, .ref (am 17), .int x2_1, .ref (am 19), .ref (am 20), .int v21, .int v22, .int v23, .int v24, .int v25, .ref (am 26), .int v27, .ref (am 28), .ref (am 29), .ref (am 30), .ref (am 31), .long v32, .ref (am 33), .ref (am 34), .ref (am 35), .ref (am 36)]))] ++ wt)) := hD
      refine gt_callJ (wr := [((am 6), .inl (G.2.2 0, 6, .inl cs)), ((am 5), .inl (G.2.2 0, 288, .inl cl))]) (va_runV (As := [.int b, .int n_9, .int n_11]) (rest := []) ⟨hx, hb, hml, hown, ht⟩ (d_m_reckons l G Γ H.size wt hT b n_9 n_11 m0 am v1 v2 v8 v9 v10 v11 v12 v13 v14 v16 x2_1 v21 v22 v23 v24 v25 v27 v32 sg (by omega) (by omega) (by first | assumption | exact hSD.1 | exact hSD.w _ | (rw [hKH 2 (by omega)]; exact hKP) | omega) (by first | assumption | exact hSD.1 | exact hSD.w _ | (rw [hKH 2 (by omega)]; exact hKP) | omega) (by first | assumption | exact hSD.1 | exact hSD.w _ | (rw [hKH 2 (by omega)]; exact hKP) | omega) (by first | assumption | exact hSD.1 | exact hSD.w _ | (rw [hKH 2 (by omega)]; exact hKP) | omega) (by first | assumption | exact hSD.1 | exact hSD.w _ | (rw [hKH 2 (by omega)]; exact hKP) | omega) (by first | assumption | exact hSD.1 | exact hSD.w _ | (rw [hKH 2 (by omega)]; exact hKP) | omega) (by first | assumption | exact hSD.1 | exact hSD.w _ | (rw [hKH 2 (by omega)]; exact hKP) | omega) (by first | assumption | exact hSD.1 | exact hSD.w _ | (rw [hKH 2 (by omega)]; exact hKP) | omega) (by first | assumption | exact hSD.1 | exact hSD.w _ | (rw [hKH 2 (by omega)]; exact hKP) | omega) (by first | assumption | exact hSD.1 | exact hSD.w _ | (rw [hKH 2 (by omega)]; exact hKP) | omega) (by first | assumption | exact hSD.1 | exact hSD.w _ | (rw [hKH 2 (by omega)]; exact hKP) | omega) (by first | assumption | exact hSD.1 | exact hSD.w _ | (rw [hKH 2 (by omega)]; exact hKP) | omega) (by first | assumption | exact hSD.1 | exact hSD.w _ | (rw [hKH 2 (by omega)]; exact hKP) | omega) (by first | assumption | exact hSD.1 | exact hSD.w _ | (rw [hKH 2 (by omega)]; exact hKP) | omega) (by first | assumption | exact hSD.1 | exact hSD.w _ | (rw [hKH 2 (by omega)]; exact hKP) | omega) (by first | assumption | exact hSD.1 | exact hSD.w _ | (rw [hKH 2 (by omega)]; exact hKP) | omega) (by first | assumption | exact hSD.1 | exact hSD.w _ | (rw [hKH 2 (by omega)]; exact hKP) | omega) (by first | assumption | exact hSD.1 | exact hSD.w _ | (rw [hKH 2 (by omega)]; exact hKP) | omega) (by first | assumption | exact hSD.1 | exact hSD.w _ | (rw [hKH 2 (by omega)]; exact hKP) | omega) (by first | assumption | exact hSD.1 | exact hSD.w _ | (rw [hKH 2 (by omega)]; exact hKP) | omega) (by first | assumption | exact hSD.1 | exact hSD.w _ | (rw [hKH 2 (by omega)]; exact hKP) | omega) (by first | assumption | exact hSD.1 | exact hSD.w _ | (rw [hKH 2 (by omega)]; exact hKP) | omega) (by first | assumption | exact hSD.1 | exact hSD.w _ | (rw [hKH 2 (by omega)]; exact hKP) | omega) (by first | assumption | exact hSD.1 | exact hSD.w _ | (rw [hKH 2 (by omega)]; exact hKP) | omega)) (cwV 3 ht (ts_gV wd_1653 wd_1655 wd_91 wd_134 wd_1656) rfl rfl rfl (by decide +kernel) ⟨Nat.le_of_ble_eq_true rfl, Nat.le_of_ble_eq_true rfl⟩) (gc_preV (ci := 12) (q0 := 1) hK (tw_right hP) (tw_rightD hD) rfl rfl) rfl rfl hl.1 rfl (lv_room (Nat.le_of_ble_eq_true rfl)) dX12_summedBy_74 ⟨Nat.le_of_ble_eq_true rfl, Nat.le_of_ble_eq_true rfl⟩) hP hD hS hA (fun m_12 u H locs hw hP hD hS => ?_)
      obtain ⟨y_13, wt⟩ := u
      obtain ⟨hT, hkp⟩ := hw
      have hW := hW.call (show ∀ x ∈ [], x ∈ [] by decide) hkp
      have hP : va_P (gg_D G) classes ([((am 6), .inl (G.2.2 0, 6, .inl cs)), ((am 5), .inl (G.2.2 0, 288, .inl cl)), ((am 3), .inl (G.2.2 0, 2400, .inl sg)), (m0, .inr (12, [.ref (am 0), .int v1, .int v2, .ref (am 3), .ref (am 4), .ref (am 5), .ref (am 6), .ref (am 7), .int v8, .int v9, .int v10, .int v11, .int v12, .int v13, .int v14, .ref (am 15), .int v16, .ref (am 17), .int y_13, .ref (am 19), .ref (am 20), .int v21, .int v22, .int v23, .int v24, .int v25, .ref (am 26), .int v27, .ref (am 28), .ref (am 29), .ref (am 30), .ref (am 31), .long v32, .ref (am 33), .ref (am 34), .ref (am 35), .ref (am 36)]))] ++ wt) H := hP
      have hD : va_D A ([((am 6), .inl (G.2.2 0, 6, .inl cs)), ((am 5), .inl (G.2.2 0, 288, .inl cl)), ((am 3), .inl (G.2.2 0, 2400, .inl sg)), (m0, .inr (12, [.ref (am 0), .int v1, .int v2, .ref (am 3), .ref (am 4), .ref (am 5), .ref (am 6), .ref (am 7), .int v8, .int v9, .int v10, .int v11, .int v12, .int v13, .int v14, .ref (am 15), .int v16, .ref (am 17), .int y_13, .ref (am 19), .ref (am 20), .int v21, .int v22, .int v23, .int v24, .int v25, .ref (am 26), .int v27, .ref (am 28), .ref (am 29), .ref (am 30), .ref (am 31), .long v32, .ref (am 33), .ref (am 34), .ref (am 35), .ref (am 36)]))] ++ wt) := hD
      have hP9 : va_P (gg_D G) classes ([((am 6), .inl (G.2.2 0, 6, .inl cs)), ((am 5), .inl (G.2.2 0, 288, .inl cl)), ((am 3), .inl (G.2.2 0, 2400, .inl sg)), (m0, .inr (12, [.ref (am 0), .int v1, .int v2, .ref (am 3), .ref (am 4), .ref (am 5), .ref (am 6), .ref (am 7), .int v8, .int v9, .int v10, .int v11, .int v12, .int v13, .int v14, .ref (am 15), .int v16, .ref (am 17), .int y_13, .ref (am 19), .ref (am 20), .int v21, .int v22, .int v23, .int v24, .int v25, .ref (am 26), .int v27, .ref (am 28), .ref (am 29), .ref (am 30), .ref (am 31), .long v32, .ref (am 33), .ref (am 34), .ref (am 35), .ref (am 36)]))] ++ wt) _ := hP
      have hD9 : va_D A ([((am 6), .inl (G.2.2 0, 6, .inl cs)), ((am 5), .inl (G.2.2 0, 288, .inl cl)), ((am 3), .inl (G.2.2 0, 2400, .inl sg)), (m0, .inr (12, [.ref (am 0), .int v1, .int v2, .ref (am 3), .ref (am 4), .ref (am 5), .ref (am 6), .ref (am 7), .int v8, .int v9, .int v10, .int v11, .int v12, .int v13, .int v14, .ref (am 15), .int v16, .ref (am 17), .int y_13, .ref (am 19), .ref (am 20), .int v21, .int v22, .int v23, .int v24, .int v25, .ref (am 26), .int v27, .ref (am 28), .ref (am 29), .ref (am 30), .ref (am 31), .long v32, .ref (am 33), .ref (am 34), .ref (am 35), .ref (am 36)]))] ++ wt) := hD
      exact W.lret (v := m_12) hx hb hr (gq_endJ (y_13, wt) ⟨hT, hW⟩ hP9 hD9 hS) hS.2.2 dX12_summedBy_77
    · rw [Int32.lt_iff_toInt_lt] at c_8
      refine lv_aload_n hx hb dX12_summedBy_32 rfl (lv_at hl 2 rfl) ?_
      refine lv_iload_n hx hb dX12_summedBy_33 rfl (lv_at hl 3 rfl) ?_
      refine lv_aload_n hx hb dX12_summedBy_34 rfl (lv_at hl 2 rfl) ?_
      refine gq_get hx hb ht hown hK hP i_X12 3 rfl rfl 5 (by decide) wd_1257 rfl rfl dX12_summedBy_35 ?_
      refine lv_iload_n hx hb dX12_summedBy_38 rfl (lv_at hl 0 rfl) ?_
      refine lv_iconst (v := 2) hx hb dX12_summedBy_39 (by decide +kernel) ?_
      refine gq_iadd hx hb t_6 et_6 dX12_summedBy_40 ?_
      refine gq_iald hx hb hK hP 1 rfl n_7 (ia_in (n := 288) (by omega) (by omega)) en_7 dX12_summedBy_41 ?_
      have En_7 : cl (48 * b.toInt.toNat + 4 * x2_0.toInt.toNat + 2) = n_7 := by rw [← show Int32.toNatClampNeg t_6 = 48 * b.toInt.toNat + 4 * x2_0.toInt.toNat + 2 from ix_n (by omega)]; exact en_7
      have hn_7 : (cl (48 * b.toInt.toNat + 4 * x2_0.toInt.toNat + 2)).toInt = n_7.toInt := by rw [En_7]
      refine lv_aload_n hx hb dX12_summedBy_42 rfl (lv_at hl 2 rfl) ?_
      refine gq_get hx hb ht hown hK hP i_X12 3 rfl rfl 5 (by decide) wd_1257 rfl rfl dX12_summedBy_43 ?_
      refine lv_iload_n hx hb dX12_summedBy_46 rfl (lv_at hl 0 rfl) ?_
      refine lv_iconst (v := 3) hx hb dX12_summedBy_47 (by decide +kernel) ?_
      obtain ⟨t_14, et_14⟩ : ∃ zz_ : Int32, t_5 + 3 = zz_ := ⟨_, rfl⟩
      refine gq_iadd hx hb t_14 et_14 dX12_summedBy_48 ?_
      have ft_14 := ia_add et_14 (by omega) (by omega)
      obtain ⟨n_15, en_15⟩ : ∃ zz_ : Int32, cl (Int32.toNatClampNeg t_14) = zz_ := ⟨_, rfl⟩
      refine gq_iald hx hb hK hP 1 rfl n_15 (ia_in (n := 288) (by omega) (by omega)) en_15 dX12_summedBy_49 ?_
      have En_15 : cl (48 * b.toInt.toNat + 4 * x2_0.toInt.toNat + 3) = n_15 := by rw [← show Int32.toNatClampNeg t_14 = 48 * b.toInt.toNat + 4 * x2_0.toInt.toNat + 3 from ix_n (by omega)]; exact en_15
      have hn_15 : (cl (48 * b.toInt.toNat + 4 * x2_0.toInt.toNat + 3)).toInt = n_15.toInt := by rw [En_15]
      have hWFc : rWF sg b.toInt.toNat n_7 n_15 400 := by rw [← En_7, ← En_15]; exact hC2.resolve_left (by omega)
      have hP : va_P (gg_D G) classes ([((am 6), .inl (G.2.2 0, 6, .inl cs)), ((am 5), .inl (G.2.2 0, 288, .inl cl))] ++ ([((am 3), .inl (G.2.2 0, 2400, .inl sg)), (m0, .inr (12, [.ref (am 0), .int v1, .int v2, .ref (am 3), .ref (am 4), .ref (am 5), .ref (am 6), .ref (am 7), .int v8, .int v9, .int v10, .int v11, .int v12, .int v13, .int v14, .ref (am 15), .int v16, .ref (am 17), .int x2_1, .ref (am 19), .ref (am 20), .int v21, .int v22, .int v23, .int v24, .int v25, .ref (am 26), .int v27, .ref (am 28), .ref (am 29), .ref (am 30), .ref (am 31), .long v32, .ref (am 33), .ref (am 34), .ref (am 35), .ref (am 36)]))] ++ wt)) H := hP
      have hD : va_D A ([((am 6), .inl (G.2.2 0, 6, .inl cs)), ((am 5), .inl (G.2.2 0, 288, .inl cl))] ++ ([((am 3), .inl (G.2.2 0, 2400, .inl sg)), (m0, .inr (12, [.ref (am 0), .int v1, .int v2, .ref (am 3), .ref (am 4), .ref (am 5), .ref (am 6), .ref (am 7), .int v8, .int v9, .int v10, .int v11, .int v12, .int v13, .int v14, .ref (am 15), .int v16, .ref (am 17), .int x2_1, .ref (am 19), .ref (am 20), .int v21, .int v22, .int v23, .int v24, .int v25, .ref (am 26), .int v27, .ref (am 28), .ref (am 29), .ref (am 30), .ref (am 31), .long v32, .ref (am 33), .ref (am 34), .ref (am 35), .ref (am 36)]))] ++ wt)) := hD
      refine gt_callJ (wr := [((am 6), .inl (G.2.2 0, 6, .inl cs)), ((am 5), .inl (G.2.2 0, 288, .inl cl))]) (va_runV (As := [.int b, .int n_7, .int n_15]) (rest := []) ⟨hx, hb, hml, hown, ht⟩ (d_m_reckons l G Γ H.size wt hT b n_7 n_15 m0 am v1 v2 v8 v9 v10 v11 v12 v13 v14 v16 x2_1 v21 v22 v23 v24 v25 v27 v32 sg (by omega) (by omega) (by first | assumption | exact hSD.1 | exact hSD.w _ | (rw [hKH 2 (by omega)]; exact hKP) | omega) (by first | assumption | exact hSD.1 | exact hSD.w _ | (rw [hKH 2 (by omega)]; exact hKP) | omega) (by first | assumption | exact hSD.1 | exact hSD.w _ | (rw [hKH 2 (by omega)]; exact hKP) | omega) (by first | assumption | exact hSD.1 | exact hSD.w _ | (rw [hKH 2 (by omega)]; exact hKP) | omega) (by first | assumption | exact hSD.1 | exact hSD.w _ | (rw [hKH 2 (by omega)]; exact hKP) | omega) (by first | assumption | exact hSD.1 | exact hSD.w _ | (rw [hKH 2 (by omega)]; exact hKP) | omega) (by first | assumption | exact hSD.1 | exact hSD.w _ | (rw [hKH 2 (by omega)]; exact hKP) | omega) (by first | assumption | exact hSD.1 | exact hSD.w _ | (rw [hKH 2 (by omega)]; exact hKP) | omega) (by first | assumption | exact hSD.1 | exact hSD.w _ | (rw [hKH 2 (by omega)]; exact hKP) | omega) (by first | assumption | exact hSD.1 | exact hSD.w _ | (rw [hKH 2 (by omega)]; exact hKP) | omega) (by first | assumption | exact hSD.1 | exact hSD.w _ | (rw [hKH 2 (by omega)]; exact hKP) | omega) (by first | assumption | exact hSD.1 | exact hSD.w _ | (rw [hKH 2 (by omega)]; exact hKP) | omega) (by first | assumption | exact hSD.1 | exact hSD.w _ | (rw [hKH 2 (by omega)]; exact hKP) | omega) (by first | assumption | exact hSD.1 | exact hSD.w _ | (rw [hKH 2 (by omega)]; exact hKP) | omega) (by first | assumption | exact hSD.1 | exact hSD.w _ | (rw [hKH 2 (by omega)]; exact hKP) | omega) (by first | assumption | exact hSD.1 | exact hSD.w _ | (rw [hKH 2 (by omega)]; exact hKP) | omega) (by first | assumption | exact hSD.1 | exact hSD.w _ | (rw [hKH 2 (by omega)]; exact hKP) | omega) (by first | assumption | exact hSD.1 | exact hSD.w _ | (rw [hKH 2 (by omega)]; exact hKP) | omega) (by first | assumption | exact hSD.1 | exact hSD.w _ | (rw [hKH 2 (by omega)]; exact hKP) | omega) (by first | assumption | exact hSD.1 | exact hSD.w _ | (rw [hKH 2 (by omega)]; exact hKP) | omega) (by first | assumption | exact hSD.1 | exact hSD.w _ | (rw [hKH 2 (by omega)]; exact hKP) | omega) (by first | assumption | exact hSD.1 | exact hSD.w _ | (rw [hKH 2 (by omega)]; exact hKP) | omega) (by first | assumption | exact hSD.1 | exact hSD.w _ | (rw [hKH 2 (by omega)]; exact hKP) | omega) (by first | assumption | exact hSD.1 | exact hSD.w _ | (rw [hKH 2 (by omega)]; exact hKP) | omega)) (cwV 3 ht (ts_gV wd_1653 wd_1655 wd_91 wd_134 wd_1656) rfl rfl rfl (by decide +kernel) ⟨Nat.le_of_ble_eq_true rfl, Nat.le_of_ble_eq_true rfl⟩) (gc_preV (ci := 12) (q0 := 1) hK (tw_right hP) (tw_rightD hD) rfl rfl) rfl rfl hl.1 rfl (lv_room (Nat.le_of_ble_eq_true rfl)) dX12_summedBy_50 ⟨Nat.le_of_ble_eq_true rfl, Nat.le_of_ble_eq_true rfl⟩) hP hD hS hA (fun m_16 u H locs hw hP hD hS => ?_)
      obtain ⟨y_17, wt⟩ := u
      obtain ⟨hT, hkp⟩ := hw
      have hW := hW.call (show ∀ x ∈ [], x ∈ [] by decide) hkp
      have hP : va_P (gg_D G) classes ([((am 6), .inl (G.2.2 0, 6, .inl cs)), ((am 5), .inl (G.2.2 0, 288, .inl cl)), ((am 3), .inl (G.2.2 0, 2400, .inl sg)), (m0, .inr (12, [.ref (am 0), .int v1, .int v2, .ref (am 3), .ref (am 4), .ref (am 5), .ref (am 6), .ref (am 7), .int v8, .int v9, .int v10, .int v11, .int v12, .int v13, .int v14, .ref (am 15), .int v16, .ref (am 17), .int y_17, .ref (am 19), .ref (am 20), .int v21, .int v22, .int v23, .int v24, .int v25, .ref (am 26), .int v27, .ref (am 28), .ref (am 29), .ref (am 30), .ref (am 31), .long v32, .ref (am 33), .ref (am 34), .ref (am 35), .ref (am 36)]))] ++ wt) H := hP
      have hD : va_D A ([((am 6), .inl (G.2.2 0, 6, .inl cs)), ((am 5), .inl (G.2.2 0, 288, .inl cl)), ((am 3), .inl (G.2.2 0, 2400, .inl sg)), (m0, .inr (12, [.ref (am 0), .int v1, .int v2, .ref (am 3), .ref (am 4), .ref (am 5), .ref (am 6), .ref (am 7), .int v8, .int v9, .int v10, .int v11, .int v12, .int v13, .int v14, .ref (am 15), .int v16, .ref (am 17), .int y_17, .ref (am 19), .ref (am 20), .int v21, .int v22, .int v23, .int v24, .int v25, .ref (am 26), .int v27, .ref (am 28), .ref (am 29), .ref (am 30), .ref (am 31), .long v32, .ref (am 33), .ref (am 34), .ref (am 35), .ref (am 36)]))] ++ wt) := hD
      refine lv_lconst (v := 1) hx hb dX12_summedBy_53 (by decide +kernel) ?_
      obtain ⟨t_18, et_18⟩ : ∃ zz_ : Int32, lg_cmp m_16 1 = zz_ := ⟨_, rfl⟩
      refine gq_lcmp hx hb t_18 et_18 dX12_summedBy_54 ?_
      have ft_18 := il_cmp et_18
      refine lv_if_ne (tgt := 78) hx hb dX12_summedBy_55 (by decide) (fun c_19 => ?_) (fun c_19 => ?_)
      · rw [← Int32.toInt_inj] at c_19
        obtain ⟨t_20, et_20⟩ : ∃ zz_ : Int32, x2_0 + Int32.ofInt (1) = zz_ := ⟨_, rfl⟩
        have ft_20 : t_20.toInt = x2_0.toInt + (1 : Int32).toInt := ia_add (y := 1) et_20 (by omega) (by omega)
        refine lv_iinc (v := t_20) (lv' := [(2, .int t_20), (3, .int t_5), (0, .ref m0), (1, .int b)]) hx hb dX12_summedBy_78 hl (k := 1) rfl et_20 (by decide) rfl (fun ls hl => ?_)
        refine lv_goto (tgt := 2) hx hb dX12_summedBy_81 (by decide) ?_
        exact ih2 (t_20, y_17) (show (0 ≤ t_20.toInt) ∧ (t_20.toInt ≤ 12) from ⟨by omega, by omega⟩) (show (12 - t_20.toInt).toNat < (12 - x2_0.toInt).toNat by omega) H locs wt ls hT hW hP hD hS (lv_sub hl [0, 2, 3] rfl)
      · rw [← Int32.toInt_inj] at c_19
        refine lv_aload_n hx hb dX12_summedBy_58 rfl (lv_at hl 2 rfl) ?_
        refine lv_iload_n hx hb dX12_summedBy_59 rfl (lv_at hl 3 rfl) ?_
        refine lv_aload_n hx hb dX12_summedBy_60 rfl (lv_at hl 2 rfl) ?_
        refine gq_get hx hb ht hown hK hP i_X12 3 rfl rfl 5 (by decide) wd_1257 rfl rfl dX12_summedBy_61 ?_
        refine lv_iload_n hx hb dX12_summedBy_64 rfl (lv_at hl 0 rfl) ?_
        obtain ⟨n_21, en_21⟩ : ∃ zz_ : Int32, cl (Int32.toNatClampNeg t_5) = zz_ := ⟨_, rfl⟩
        refine gq_iald hx hb hK hP 1 rfl n_21 (ia_in (n := 288) (by omega) (by omega)) en_21 dX12_summedBy_65 ?_
        have En_21 : cl (48 * b.toInt.toNat + 4 * x2_0.toInt.toNat) = n_21 := by rw [← show Int32.toNatClampNeg t_5 = 48 * b.toInt.toNat + 4 * x2_0.toInt.toNat from ix_n (by omega)]; exact en_21
        have hn_21 : (cl (48 * b.toInt.toNat + 4 * x2_0.toInt.toNat)).toInt = n_21.toInt := by rw [En_21]
        refine lv_aload_n hx hb dX12_summedBy_66 rfl (lv_at hl 2 rfl) ?_
        refine gq_get hx hb ht hown hK hP i_X12 3 rfl rfl 5 (by decide) wd_1257 rfl rfl dX12_summedBy_67 ?_
        refine lv_iload_n hx hb dX12_summedBy_70 rfl (lv_at hl 0 rfl) ?_
        refine lv_iconst (v := 1) hx hb dX12_summedBy_71 (by decide +kernel) ?_
        obtain ⟨t_22, et_22⟩ : ∃ zz_ : Int32, t_5 + 1 = zz_ := ⟨_, rfl⟩
        refine gq_iadd hx hb t_22 et_22 dX12_summedBy_72 ?_
        have ft_22 := ia_add et_22 (by omega) (by omega)
        obtain ⟨n_23, en_23⟩ : ∃ zz_ : Int32, cl (Int32.toNatClampNeg t_22) = zz_ := ⟨_, rfl⟩
        refine gq_iald hx hb hK hP 1 rfl n_23 (ia_in (n := 288) (by omega) (by omega)) en_23 dX12_summedBy_73 ?_
        have En_23 : cl (48 * b.toInt.toNat + 4 * x2_0.toInt.toNat + 1) = n_23 := by rw [← show Int32.toNatClampNeg t_22 = 48 * b.toInt.toNat + 4 * x2_0.toInt.toNat + 1 from ix_n (by omega)]; exact en_23
        have hn_23 : (cl (48 * b.toInt.toNat + 4 * x2_0.toInt.toNat + 1)).toInt = n_23.toInt := by rw [En_23]
        have hWFc : rWF sg b.toInt.toNat n_21 n_23 400 := by rw [← En_21, ← En_23]; exact hC1
        have hP : va_P (gg_D G) classes ([((am 6), .inl (G.2.2 0, 6, .inl cs)), ((am 5), .inl (G.2.2 0, 288, .inl cl))] ++ ([((am 3), .inl (G.2.2 0, 2400, .inl sg)), (m0, .inr (12, [.ref (am 0), .int v1, .int v2, .ref (am 3), .ref (am 4), .ref (am 5), .ref (am 6), .ref (am 7), .int v8, .int v9, .int v10, .int v11, .int v12, .int v13, .int v14, .ref (am 15), .int v16, .ref (am 17), .int y_17, .ref (am 19), .ref (am 20), .int v21, .int v22, .int v23, .int v24, .int v25, .ref (am 26), .int v27, .ref (am 28), .ref (am 29), .ref (am 30), .ref (am 31), .long v32, .ref (am 33), .ref (am 34), .ref (am 35), .ref (am 36)]))] ++ wt)) H := hP
        have hD : va_D A ([((am 6), .inl (G.2.2 0, 6, .inl cs)), ((am 5), .inl (G.2.2 0, 288, .inl cl))] ++ ([((am 3), .inl (G.2.2 0, 2400, .inl sg)), (m0, .inr (12, [.ref (am 0), .int v1, .int v2, .ref (am 3), .ref (am 4), .ref (am 5), .ref (am 6), .ref (am 7), .int v8, .int v9, .int v10, .int v11, .int v12, .int v13, .int v14, .ref (am 15), .int v16, .ref (am 17), .int y_17, .ref (am 19), .ref (am 20), .int v21, .int v22, .int v23, .int v24, .int v25, .ref (am 26), .int v27, .ref (am 28), .ref (am 29), .ref (am 30), .ref (am 31), .long v32, .ref (am 33), .ref (am 34), .ref (am 35), .ref (am 36)]))] ++ wt)) := hD
        refine gt_callJ (wr := [((am 6), .inl (G.2.2 0, 6, .inl cs)), ((am 5), .inl (G.2.2 0, 288, .inl cl))]) (va_runV (As := [.int b, .int n_21, .int n_23]) (rest := []) ⟨hx, hb, hml, hown, ht⟩ (d_m_reckons l G Γ H.size wt hT b n_21 n_23 m0 am v1 v2 v8 v9 v10 v11 v12 v13 v14 v16 y_17 v21 v22 v23 v24 v25 v27 v32 sg (by omega) (by omega) (by first | assumption | exact hSD.1 | exact hSD.w _ | (rw [hKH 2 (by omega)]; exact hKP) | omega) (by first | assumption | exact hSD.1 | exact hSD.w _ | (rw [hKH 2 (by omega)]; exact hKP) | omega) (by first | assumption | exact hSD.1 | exact hSD.w _ | (rw [hKH 2 (by omega)]; exact hKP) | omega) (by first | assumption | exact hSD.1 | exact hSD.w _ | (rw [hKH 2 (by omega)]; exact hKP) | omega) (by first | assumption | exact hSD.1 | exact hSD.w _ | (rw [hKH 2 (by omega)]; exact hKP) | omega) (by first | assumption | exact hSD.1 | exact hSD.w _ | (rw [hKH 2 (by omega)]; exact hKP) | omega) (by first | assumption | exact hSD.1 | exact hSD.w _ | (rw [hKH 2 (by omega)]; exact hKP) | omega) (by first | assumption | exact hSD.1 | exact hSD.w _ | (rw [hKH 2 (by omega)]; exact hKP) | omega) (by first | assumption | exact hSD.1 | exact hSD.w _ | (rw [hKH 2 (by omega)]; exact hKP) | omega) (by first | assumption | exact hSD.1 | exact hSD.w _ | (rw [hKH 2 (by omega)]; exact hKP) | omega) (by first | assumption | exact hSD.1 | exact hSD.w _ | (rw [hKH 2 (by omega)]; exact hKP) | omega) (by first | assumption | exact hSD.1 | exact hSD.w _ | (rw [hKH 2 (by omega)]; exact hKP) | omega) (by first | assumption | exact hSD.1 | exact hSD.w _ | (rw [hKH 2 (by omega)]; exact hKP) | omega) (by first | assumption | exact hSD.1 | exact hSD.w _ | (rw [hKH 2 (by omega)]; exact hKP) | omega) (by first | assumption | exact hSD.1 | exact hSD.w _ | (rw [hKH 2 (by omega)]; exact hKP) | omega) (by first | assumption | exact hSD.1 | exact hSD.w _ | (rw [hKH 2 (by omega)]; exact hKP) | omega) (by first | assumption | exact hSD.1 | exact hSD.w _ | (rw [hKH 2 (by omega)]; exact hKP) | omega) (by first | assumption | exact hSD.1 | exact hSD.w _ | (rw [hKH 2 (by omega)]; exact hKP) | omega) (by first | assumption | exact hSD.1 | exact hSD.w _ | (rw [hKH 2 (by omega)]; exact hKP) | omega) (by first | assumption | exact hSD.1 | exact hSD.w _ | (rw [hKH 2 (by omega)]; exact hKP) | omega) (by first | assumption | exact hSD.1 | exact hSD.w _ | (rw [hKH 2 (by omega)]; exact hKP) | omega) (by first | assumption | exact hSD.1 | exact hSD.w _ | (rw [hKH 2 (by omega)]; exact hKP) | omega) (by first | assumption | exact hSD.1 | exact hSD.w _ | (rw [hKH 2 (by omega)]; exact hKP) | omega) (by first | assumption | exact hSD.1 | exact hSD.w _ | (rw [hKH 2 (by omega)]; exact hKP) | omega)) (cwV 3 ht (ts_gV wd_1653 wd_1655 wd_91 wd_134 wd_1656) rfl rfl rfl (by decide +kernel) ⟨Nat.le_of_ble_eq_true rfl, Nat.le_of_ble_eq_true rfl⟩) (gc_preV (ci := 12) (q0 := 1) hK (tw_right hP) (tw_rightD hD) rfl rfl) rfl rfl hl.1 rfl (lv_room (Nat.le_of_ble_eq_true rfl)) dX12_summedBy_74 ⟨Nat.le_of_ble_eq_true rfl, Nat.le_of_ble_eq_true rfl⟩) hP hD hS hA (fun m_24 u H locs hw hP hD hS => ?_)
        obtain ⟨y_25, wt⟩ := u
        obtain ⟨hT, hkp⟩ := hw
        have hW := hW.call (show ∀ x ∈ [], x ∈ [] by decide) hkp
        have hP : va_P (gg_D G) classes ([((am 6), .inl (G.2.2 0, 6, .inl cs)), ((am 5), .inl (G.2.2 0, 288, .inl cl)), ((am 3), .inl (G.2.2 0, 2400, .inl sg)), (m0, .inr (12, [.ref (am 0), .int v1, .int v2, .ref (am 3), .ref (am 4), .ref (am 5), .ref (am 6), .ref (am 7), .int v8, .int v9, .int v10, .int v11, .int v12, .int v13, .int v14, .ref (am 15), .int v16, .ref (am 17), .int y_25, .ref (am 19), .ref (am 20), .int v21, .int v22, .int v23, .int v24, .int v25, .ref (am 26), .int v27, .ref (am 28), .ref (am 29), .ref (am 30), .ref (am 31), .long v32, .ref (am 33), .ref (am 34), .ref (am 35), .ref (am 36)]))] ++ wt) H := hP
        have hD : va_D A ([((am 6), .inl (G.2.2 0, 6, .inl cs)), ((am 5), .inl (G.2.2 0, 288, .inl cl)), ((am 3), .inl (G.2.2 0, 2400, .inl sg)), (m0, .inr (12, [.ref (am 0), .int v1, .int v2, .ref (am 3), .ref (am 4), .ref (am 5), .ref (am 6), .ref (am 7), .int v8, .int v9, .int v10, .int v11, .int v12, .int v13, .int v14, .ref (am 15), .int v16, .ref (am 17), .int y_25, .ref (am 19), .ref (am 20), .int v21, .int v22, .int v23, .int v24, .int v25, .ref (am 26), .int v27, .ref (am 28), .ref (am 29), .ref (am 30), .ref (am 31), .long v32, .ref (am 33), .ref (am 34), .ref (am 35), .ref (am 36)]))] ++ wt) := hD
        have hP9 : va_P (gg_D G) classes ([((am 6), .inl (G.2.2 0, 6, .inl cs)), ((am 5), .inl (G.2.2 0, 288, .inl cl)), ((am 3), .inl (G.2.2 0, 2400, .inl sg)), (m0, .inr (12, [.ref (am 0), .int v1, .int v2, .ref (am 3), .ref (am 4), .ref (am 5), .ref (am 6), .ref (am 7), .int v8, .int v9, .int v10, .int v11, .int v12, .int v13, .int v14, .ref (am 15), .int v16, .ref (am 17), .int y_25, .ref (am 19), .ref (am 20), .int v21, .int v22, .int v23, .int v24, .int v25, .ref (am 26), .int v27, .ref (am 28), .ref (am 29), .ref (am 30), .ref (am 31), .long v32, .ref (am 33), .ref (am 34), .ref (am 35), .ref (am 36)]))] ++ wt) _ := hP
        have hD9 : va_D A ([((am 6), .inl (G.2.2 0, 6, .inl cs)), ((am 5), .inl (G.2.2 0, 288, .inl cl)), ((am 3), .inl (G.2.2 0, 2400, .inl sg)), (m0, .inr (12, [.ref (am 0), .int v1, .int v2, .ref (am 3), .ref (am 4), .ref (am 5), .ref (am 6), .ref (am 7), .int v8, .int v9, .int v10, .int v11, .int v12, .int v13, .int v14, .ref (am 15), .int v16, .ref (am 17), .int y_25, .ref (am 19), .ref (am 20), .int v21, .int v22, .int v23, .int v24, .int v25, .ref (am 26), .int v27, .ref (am 28), .ref (am 29), .ref (am 30), .ref (am 31), .long v32, .ref (am 33), .ref (am 34), .ref (am 35), .ref (am 36)]))] ++ wt) := hD
        exact W.lret (v := m_24) hx hb hr (gq_endJ (y_25, wt) ⟨hT, hW⟩ hP9 hD9 hS) hS.2.2 dX12_summedBy_77
set_option maxHeartbeats 4000000 in
set_option maxRecDepth 100000 in
theorem d_m_words (l : Launch) (G : gg_T) (Γ : Nat → Nat) (sz : Nat) (wt : va_W) (hT : tk_ty G Γ wt) (b : Int32) (w : Int32) (m0 : Nat) (am : Nat → Nat) (v1 : Int32) (v2 : Int32) (v8 : Int32) (v9 : Int32) (v10 : Int32) (v11 : Int32) (v12 : Int32) (v13 : Int32) (v14 : Int32) (v16 : Int32) (v18 : Int32) (v21 : Int32) (v22 : Int32) (v23 : Int32) (v24 : Int32) (v25 : Int32) (v27 : Int32) (v32 : Int64) (sd : Nat → Int32) (lo_b : 0 ≤ b.toInt) (hi_b : b.toInt ≤ 4) (lo_w : 0 ≤ w.toInt) (hi_w : w.toInt ≤ 2) (k17 : Γ (am 17) = 32) (k19 : Γ (am 19) = 30) (k30 : Γ (am 30) = 28) (k31 : Γ (am 31) = 28) (lo_v1 : 0 ≤ v1.toInt) (hi_v1 : v1.toInt ≤ 400) (lo_v2 : 0 ≤ v2.toInt) (hi_v2 : v2.toInt ≤ 6) (lo_v8 : 0 ≤ v8.toInt) (hi_v8 : v8.toInt ≤ 400) (lo_v11 : 0 ≤ v11.toInt) (hi_v11 : v11.toInt ≤ 6) (lo_v12 : 0 ≤ v12.toInt) (hi_v12 : v12.toInt ≤ 60) (lo_v16 : 0 ≤ v16.toInt) (hi_v16 : v16.toInt ≤ 400) (lo_v21 : -1 ≤ v21.toInt) (hi_v21 : v21.toInt ≤ 5) (lo_v23 : 0 ≤ v23.toInt) (hi_v23 : v23.toInt ≤ 31) (lo_v27 : 0 ≤ v27.toInt) (hi_v27 : v27.toInt ≤ 20) (xfr : v21.toInt < v2.toInt) (hSD : SD sd) : Met l yX12_words (ts_L yX12_words cX12_words 6 none) ({ frames := 3, cells := 0, slots := 0, locals := 66 }) (gc_P G ([((am 20), .inl (G.2.2 0, 110, .inl sd)), (m0, .inr (12, [.ref (am 0), .int v1, .int v2, .ref (am 3), .ref (am 4), .ref (am 5), .ref (am 6), .ref (am 7), .int v8, .int v9, .int v10, .int v11, .int v12, .int v13, .int v14, .ref (am 15), .int v16, .ref (am 17), .int v18, .ref (am 19), .ref (am 20), .int v21, .int v22, .int v23, .int v24, .int v25, .ref (am 26), .int v27, .ref (am 28), .ref (am 29), .ref (am 30), .ref (am 31), .long v32, .ref (am 33), .ref (am 34), .ref (am 35), .ref (am 36)]))] ++ wt) sz [.ref m0, .int b, .int w]) (gc_V G (va_A ([((am 20), .inl (G.2.2 0, 110, .inl sd)), (m0, .inr (12, [.ref (am 0), .int v1, .int v2, .ref (am 3), .ref (am 4), .ref (am 5), .ref (am 6), .ref (am 7), .int v8, .int v9, .int v10, .int v11, .int v12, .int v13, .int v14, .ref (am 15), .int v16, .ref (am 17), .int v18, .ref (am 19), .ref (am 20), .int v21, .int v22, .int v23, .int v24, .int v25, .ref (am 26), .int v27, .ref (am 28), .ref (am 29), .ref (am 30), .ref (am 31), .long v32, .ref (am 33), .ref (am 34), .ref (am 35), .ref (am 36)]))] ++ wt) sz) (fun (u : va_W) => match u with | wt1 => tk_ty G Γ wt1 ∧ tk_kp [] wt wt1) (fun (u : va_W) => match u with | wt1 => [((am 20), .inl (G.2.2 0, 110, .inl sd)), (m0, .inr (12, [.ref (am 0), .int v1, .int v2, .ref (am 3), .ref (am 4), .ref (am 5), .ref (am 6), .ref (am 7), .int v8, .int v9, .int v10, .int v11, .int v12, .int v13, .int v14, .ref (am 15), .int v16, .ref (am 17), .int v18, .ref (am 19), .ref (am 20), .int v21, .int v22, .int v23, .int v24, .int v25, .ref (am 26), .int v27, .ref (am 28), .ref (am 29), .ref (am 30), .ref (am 31), .long v32, .ref (am 33), .ref (am 34), .ref (am 35), .ref (am 36)]))] ++ wt1)) 0 0 (va_A ([((am 20), .inl (G.2.2 0, 110, .inl sd)), (m0, .inr (12, [.ref (am 0), .int v1, .int v2, .ref (am 3), .ref (am 4), .ref (am 5), .ref (am 6), .ref (am 7), .int v8, .int v9, .int v10, .int v11, .int v12, .int v13, .int v14, .ref (am 15), .int v16, .ref (am 17), .int v18, .ref (am 19), .ref (am 20), .int v21, .int v22, .int v23, .int v24, .int v25, .ref (am 26), .int v27, .ref (am 28), .ref (am 29), .ref (am 30), .ref (am 31), .long v32, .ref (am 33), .ref (am 34), .ref (am 35), .ref (am 36)]))] ++ wt) sz) := by
  refine Met.ofW (cc := cX12_words) (maxL := 6) (ret := none) (by decide) rfl ?_
  intro p e s m args below meth c s₁ B hml hv
  obtain ⟨rfl, hsz, hP, hK, hD0⟩ := hv
  have hx := B.exec
  have hb := B.bytes
  have hr := B.returns
  have ht := ts_ht (atoms_spec (ws := ts_L yX12_words cX12_words 6 none) B.pre)
  have hown : s.vm.findClass RX12 = some m.cls := findClass_of_methodNamed B.named
  have hlocks := B.notSynchronized
  subst hsz
  have hD := hD0.self (sz := s.heap.size)
  generalize hAe : va_A ([((am 20), .inl (G.2.2 0, 110, .inl sd)), (m0, .inr (12, [.ref (am 0), .int v1, .int v2, .ref (am 3), .ref (am 4), .ref (am 5), .ref (am 6), .ref (am 7), .int v8, .int v9, .int v10, .int v11, .int v12, .int v13, .int v14, .ref (am 15), .int v16, .ref (am 17), .int v18, .ref (am 19), .ref (am 20), .int v21, .int v22, .int v23, .int v24, .int v25, .ref (am 26), .int v27, .ref (am 28), .ref (am 29), .ref (am 30), .ref (am 31), .long v32, .ref (am 33), .ref (am 34), .ref (am 35), .ref (am 36)]))] ++ wt) s.heap.size = A at hD ⊢
  have hA : ∀ q : Nat, s.heap.size ≤ q → A q := fun q h => by rw [← hAe]; exact Or.inr h
  clear hAe hD0
  have hS : va_S A s.heap s.heap [] := va_S.rf
  obtain ⟨w0, hw0⟩ : ∃ z, z = wt := ⟨_, rfl⟩
  have hW : tk_kp [] w0 wt := by rw [hw0]; exact tk_kp.rf
  rw [← hw0]
  clear hw0
  have hP : va_P (gg_D G) classes ([((am 20), .inl (G.2.2 0, 110, .inl sd)), (m0, .inr (12, [.ref (am 0), .int v1, .int v2, .ref (am 3), .ref (am 4), .ref (am 5), .ref (am 6), .ref (am 7), .int v8, .int v9, .int v10, .int v11, .int v12, .int v13, .int v14, .ref (am 15), .int v16, .ref (am 17), .int v18, .ref (am 19), .ref (am 20), .int v21, .int v22, .int v23, .int v24, .int v25, .ref (am 26), .int v27, .ref (am 28), .ref (am 29), .ref (am 30), .ref (am 31), .long v32, .ref (am 33), .ref (am 34), .ref (am 35), .ref (am 36)]))] ++ wt) s.heap := hP
  have hD : va_D A ([((am 20), .inl (G.2.2 0, 110, .inl sd)), (m0, .inr (12, [.ref (am 0), .int v1, .int v2, .ref (am 3), .ref (am 4), .ref (am 5), .ref (am 6), .ref (am 7), .int v8, .int v9, .int v10, .int v11, .int v12, .int v13, .int v14, .ref (am 15), .int v16, .ref (am 17), .int v18, .ref (am 19), .ref (am 20), .int v21, .int v22, .int v23, .int v24, .int v25, .ref (am 26), .int v27, .ref (am 28), .ref (am 29), .ref (am 30), .ref (am 31), .long v32, .ref (am 33), .ref (am 34), .ref (am 35), .ref (am 36)]))] ++ wt) := hD
  have hl := lv_entry ([.ref m0, .int b, .int w]) (n := 6) (Nat.le_of_ble_eq_true rfl)
  rw [lg_entry_eq]
  generalize (lg_sl ([.ref m0, .int b, .int w]) ++ List.replicate (6 - (lg_sl ([.ref m0, .int b, .int w])).length) Slot.unset).toArray = ls at hl ⊢
  have hl : lv_has ls 6 [(0, .ref m0), (1, .int b), (2, .int w)] := hl
  have hKH : KH sd sd := KH.rf
  have l0 : (0 : Int32).toInt = 0 := by decide +kernel
  have l1 : (1 : Int32).toInt = 1 := by decide +kernel
  have l2 : (2 : Int32).toInt = 2 := by decide +kernel
  have l3 : (3 : Int32).toInt = 3 := by decide +kernel
  have l4 : (4 : Int32).toInt = 4 := by decide +kernel
  have l5 : (5 : Int32).toInt = 5 := by decide +kernel
  have l6 : (6 : Int32).toInt = 6 := by decide +kernel
  have l7 : (7 : Int32).toInt = 7 := by decide +kernel
  have l8 : (8 : Int32).toInt = 8 := by decide +kernel
  have l9 : (9 : Int32).toInt = 9 := by decide +kernel
  refine lv_aload_n hx hb dX12_words_0 rfl (lv_at hl 0 rfl) ?_
  refine lv_iload_n hx hb dX12_words_1 rfl (lv_at hl 2 rfl) ?_
  have hP : va_P (gg_D G) classes ([] ++ ([((am 20), .inl (G.2.2 0, 110, .inl sd)), (m0, .inr (12, [.ref (am 0), .int v1, .int v2, .ref (am 3), .ref (am 4), .ref (am 5), .ref (am 6), .ref (am 7), .int v8, .int v9, .int v10, .int v11, .int v12, .int v13, .int v14, .ref (am 15), .int v16, .ref (am 17), .int v18, .ref (am 19), .ref (am 20), .int v21, .int v22, .int v23, .int v24, .int v25, .ref (am 26), .int v27, .ref (am 28), .ref (am 29), .ref (am 30), .ref (am 31), .long v32, .ref (am 33), .ref (am 34), .ref (am 35), .ref (am 36)]))] ++ wt)) s.heap := hP
  have hD : va_D A ([] ++ ([((am 20), .inl (G.2.2 0, 110, .inl sd)), (m0, .inr (12, [.ref (am 0), .int v1, .int v2, .ref (am 3), .ref (am 4), .ref (am 5), .ref (am 6), .ref (am 7), .int v8, .int v9, .int v10, .int v11, .int v12, .int v13, .int v14, .ref (am 15), .int v16, .ref (am 17), .int v18, .ref (am 19), .ref (am 20), .int v21, .int v22, .int v23, .int v24, .int v25, .ref (am 26), .int v27, .ref (am 28), .ref (am 29), .ref (am 30), .ref (am 31), .long v32, .ref (am 33), .ref (am 34), .ref (am 35), .ref (am 36)]))] ++ wt)) := hD
  refine gt_callI (wr := []) (va_runV (As := [.int w]) (rest := []) ⟨hx, hb, hml, hown, ht⟩ (d_m_silentBy l G Γ s.heap.size wt hT w m0 am v1 v2 v8 v9 v10 v11 v12 v13 v14 v16 v18 v21 v22 v23 v24 v25 v27 v32 sd (by first | assumption | exact hSD.1 | exact hSD.w _ | (rw [hKH 2 (by omega)]; exact hKP) | omega) (by first | assumption | exact hSD.1 | exact hSD.w _ | (rw [hKH 2 (by omega)]; exact hKP) | omega) (by first | assumption | exact hSD.1 | exact hSD.w _ | (rw [hKH 2 (by omega)]; exact hKP) | omega) (by first | assumption | exact hSD.1 | exact hSD.w _ | (rw [hKH 2 (by omega)]; exact hKP) | omega) (by first | assumption | exact hSD.1 | exact hSD.w _ | (rw [hKH 2 (by omega)]; exact hKP) | omega) (by first | assumption | exact hSD.1 | exact hSD.w _ | (rw [hKH 2 (by omega)]; exact hKP) | omega) (by first | assumption | exact hSD.1 | exact hSD.w _ | (rw [hKH 2 (by omega)]; exact hKP) | omega) (by first | assumption | exact hSD.1 | exact hSD.w _ | (rw [hKH 2 (by omega)]; exact hKP) | omega) (by first | assumption | exact hSD.1 | exact hSD.w _ | (rw [hKH 2 (by omega)]; exact hKP) | omega) (by first | assumption | exact hSD.1 | exact hSD.w _ | (rw [hKH 2 (by omega)]; exact hKP) | omega) (by first | assumption | exact hSD.1 | exact hSD.w _ | (rw [hKH 2 (by omega)]; exact hKP) | omega) (by first | assumption | exact hSD.1 | exact hSD.w _ | (rw [hKH 2 (by omega)]; exact hKP) | omega) (by first | assumption | exact hSD.1 | exact hSD.w _ | (rw [hKH 2 (by omega)]; exact hKP) | omega) (by first | assumption | exact hSD.1 | exact hSD.w _ | (rw [hKH 2 (by omega)]; exact hKP) | omega) (by first | assumption | exact hSD.1 | exact hSD.w _ | (rw [hKH 2 (by omega)]; exact hKP) | omega) (by first | assumption | exact hSD.1 | exact hSD.w _ | (rw [hKH 2 (by omega)]; exact hKP) | omega) (by first | assumption | exact hSD.1 | exact hSD.w _ | (rw [hKH 2 (by omega)]; exact hKP) | omega) (by first | assumption | exact hSD.1 | exact hSD.w _ | (rw [hKH 2 (by omega)]; exact hKP) | omega) (by first | assumption | exact hSD.1 | exact hSD.w _ | (rw [hKH 2 (by omega)]; exact hKP) | omega) (by first | assumption | exact hSD.1 | exact hSD.w _ | (rw [hKH 2 (by omega)]; exact hKP) | omega) (by first | assumption | exact hSD.1 | exact hSD.w _ | (rw [hKH 2 (by omega)]; exact hKP) | omega) (by first | assumption | exact hSD.1 | exact hSD.w _ | (rw [hKH 2 (by omega)]; exact hKP) | omega) (by first | assumption | exact hSD.1 | exact hSD.w _ | (rw [hKH 2 (by omega)]; exact hKP) | omega) (by first | assumption | exact hSD.1 | exact hSD.w _ | (rw [hKH 2 (by omega)]; exact hKP) | omega)) (cwV 1 ht (ts_gV wd_1591 wd_1593 wd_81 wd_134 wd_1594) rfl rfl rfl (by decide +kernel) ⟨Nat.le_of_ble_eq_true rfl, Nat.le_of_ble_eq_true rfl⟩) (gc_preV (ci := 12) (q0 := 1) hK (tw_right hP) (tw_rightD hD) rfl rfl) rfl rfl hl.1 rfl (lv_room (Nat.le_of_ble_eq_true rfl)) dX12_words_2 ⟨Nat.le_of_ble_eq_true rfl, Nat.le_of_ble_eq_true rfl⟩) hP hD hS hA (fun r_1 wt H locs hw hP hD hS => ?_)
  obtain ⟨hT, hkp, lo_r_1, hi_r_1⟩ := hw
  have hW := hW.call (show ∀ x ∈ [], x ∈ [] by decide) hkp
  have hP : va_P (gg_D G) classes ([((am 20), .inl (G.2.2 0, 110, .inl sd)), (m0, .inr (12, [.ref (am 0), .int v1, .int v2, .ref (am 3), .ref (am 4), .ref (am 5), .ref (am 6), .ref (am 7), .int v8, .int v9, .int v10, .int v11, .int v12, .int v13, .int v14, .ref (am 15), .int v16, .ref (am 17), .int v18, .ref (am 19), .ref (am 20), .int v21, .int v22, .int v23, .int v24, .int v25, .ref (am 26), .int v27, .ref (am 28), .ref (am 29), .ref (am 30), .ref (am 31), .long v32, .ref (am 33), .ref (am 34), .ref (am 35), .ref (am 36)]))] ++ wt) H := hP
  have hD : va_D A ([((am 20), .inl (G.2.2 0, 110, .inl sd)), (m0, .inr (12, [.ref (am 0), .int v1, .int v2, .ref (am 3), .ref (am 4), .ref (am 5), .ref (am 6), .ref (am 7), .int v8, .int v9, .int v10, .int v11, .int v12, .int v13, .int v14, .ref (am 15), .int v16, .ref (am 17), .int v18, .ref (am 19), .ref (am 20), .int v21, .int v22, .int v23, .int v24, .int v25, .ref (am 26), .int v27, .ref (am 28), .ref (am 29), .ref (am 30), .ref (am 31), .long v32, .ref (am 33), .ref (am 34), .ref (am 35), .ref (am 36)]))] ++ wt) := hD
  refine lv_iconst (v := 1) hx hb dX12_words_5 (by decide +kernel) ?_
  refine lv_iload_n hx hb dX12_words_6 rfl (lv_at hl 1 rfl) ?_
  obtain ⟨t_2, et_2⟩ : ∃ zz_ : Int32, 1 <<< (b &&& 31) = zz_ := ⟨_, rfl⟩
  refine gq_ishl hx hb t_2 et_2 dX12_words_7 ?_
  have ft_2 := ia_bit et_2 (by omega) (by omega)
  refine lv_iconst (v := (-1)) hx hb dX12_words_8 (by decide +kernel) ?_
  refine lv_ixor hx hb dX12_words_9 ?_
  refine lv_topi (fun t_3 et_3 => ?_)
  obtain ⟨t_4, et_4⟩ : ∃ zz_ : Int32, r_1 &&& t_3 = zz_ := ⟨_, rfl⟩
  refine gq_iand hx hb t_4 et_4 dX12_words_10 ?_
  have ft_4 := ia_and1 et_4 (by omega)
  refine lv_istore_n (lv' := [(3, .int t_4), (0, .ref m0), (1, .int b), (2, .int w)]) hx hb dX12_words_11 rfl hl (by decide) rfl (fun ls hl => ?_)
  refine lv_iconst (v := 0) hx hb dX12_words_12 (by decide +kernel) ?_
  refine lv_istore (lv' := [(4, .int 0), (3, .int t_4), (0, .ref m0), (1, .int b), (2, .int w)]) hx hb dX12_words_13 hl (by decide) rfl (fun ls hl => ?_)
  refine lv_iconst (v := 0) hx hb dX12_words_15 (by decide +kernel) ?_
  refine lv_istore (lv' := [(5, .int 0), (4, .int 0), (3, .int t_4), (0, .ref m0), (1, .int b), (2, .int w)]) hx hb dX12_words_16 hl (by decide) rfl (fun ls hl => ?_)
  refine tl_loopE (Γ := Γ) (nL := 6) (fun (zz_ : Int32 × Int32) => match zz_ with | (x18_0, x18_1) => 0 ≤ x18_0.toInt ∧ x18_0.toInt ≤ 5) (fun (zz_ : Int32 × Int32) => match zz_ with | (x18_0, x18_1) => (5 - x18_0.toInt).toNat) (fun (zz_ : Int32 × Int32) => match zz_ with | (x18_0, x18_1) => [(5, .int x18_0), (4, .int x18_1), (3, .int t_4), (0, .ref m0), (1, .int b), (2, .int w)]) (fun (zz_ : Int32 × Int32) => match zz_ with | (x18_0, x18_1) => [((am 20), .inl (G.2.2 0, 110, .inl sd)), (m0, .inr (12, [.ref (am 0), .int v1, .int v2, .ref (am 3), .ref (am 4), .ref (am 5), .ref (am 6), .ref (am 7), .int v8, .int v9, .int v10, .int v11, .int v12, .int v13, .int v14, .ref (am 15), .int v16, .ref (am 17), .int v18, .ref (am 19), .ref (am 20), .int v21, .int v22, .int v23, .int v24, .int v25, .ref (am 26), .int v27, .ref (am 28), .ref (am 29), .ref (am 30), .ref (am 31), .long v32, .ref (am 33), .ref (am 34), .ref (am 35), .ref (am 36)]))]) (fun (zz_ : Int32 × Int32) (w : va_W) => match zz_ with | (x18_0, x18_1) => tk_kp [] w0 w) (fun zz_ hI H locs wt ls hT hW hP hD hS hl ih18 => ?_) (0, 0) (show 0 ≤ (0 : Int32).toInt ∧ (0 : Int32).toInt ≤ 5 from ⟨by omega, by omega⟩) _ _ wt ls hT hW hP hD hS hl
  obtain ⟨x18_0, x18_1⟩ := zz_
  have hW : tk_kp [] w0 wt := hW
  have hI : 0 ≤ x18_0.toInt ∧ x18_0.toInt ≤ 5 := hI
  obtain ⟨j18_0, j18_1⟩ := hI
  have hl : lv_has ls 6 [(5, .int x18_0), (4, .int x18_1), (3, .int t_4), (0, .ref m0), (1, .int b), (2, .int w)] := hl
  have hP : va_P (gg_D G) classes ([((am 20), .inl (G.2.2 0, 110, .inl sd)), (m0, .inr (12, [.ref (am 0), .int v1, .int v2, .ref (am 3), .ref (am 4), .ref (am 5), .ref (am 6), .ref (am 7), .int v8, .int v9, .int v10, .int v11, .int v12, .int v13, .int v14, .ref (am 15), .int v16, .ref (am 17), .int v18, .ref (am 19), .ref (am 20), .int v21, .int v22, .int v23, .int v24, .int v25, .ref (am 26), .int v27, .ref (am 28), .ref (am 29), .ref (am 30), .ref (am 31), .long v32, .ref (am 33), .ref (am 34), .ref (am 35), .ref (am 36)]))] ++ wt) H := hP
  have hD : va_D A ([((am 20), .inl (G.2.2 0, 110, .inl sd)), (m0, .inr (12, [.ref (am 0), .int v1, .int v2, .ref (am 3), .ref (am 4), .ref (am 5), .ref (am 6), .ref (am 7), .int v8, .int v9, .int v10, .int v11, .int v12, .int v13, .int v14, .ref (am 15), .int v16, .ref (am 17), .int v18, .ref (am 19), .ref (am 20), .int v21, .int v22, .int v23, .int v24, .int v25, .ref (am 26), .int v27, .ref (am 28), .ref (am 29), .ref (am 30), .ref (am 31), .long v32, .ref (am 33), .ref (am 34), .ref (am 35), .ref (am 36)]))] ++ wt) := hD
  refine lv_iload hx hb dX12_words_18 (lv_at hl 0 rfl) ?_
  refine lv_aload_n hx hb dX12_words_20 rfl (lv_at hl 3 rfl) ?_
  refine gq_get hx hb ht hown hK hP i_X12 1 rfl rfl 20 (by decide) wd_1272 rfl rfl dX12_words_21 ?_
  refine lv_iconst (v := 1) hx hb dX12_words_24 (by decide +kernel) ?_
  obtain ⟨n_5, en_5⟩ : ∃ zz_ : Int32, sd (Int32.toNatClampNeg 1) = zz_ := ⟨_, rfl⟩
  refine gq_iald hx hb hK hP 0 rfl n_5 (ia_in (n := 110) (by omega) (by omega)) en_5 dX12_words_25 ?_
  have En_5 : sd (1) = n_5 := by rw [← show Int32.toNatClampNeg 1 = 1 from ix_n (by omega)]; exact en_5
  have hn_5 : (sd (1)).toInt = n_5.toInt := by rw [En_5]
  have gn_5 := hSD.r1
  refine lv_icmp_ge (tgt := 65) hx hb dX12_words_26 (by decide) (fun c_6 => ?_) (fun c_6 => ?_)
  · rw [Int32.le_iff_toInt_le] at c_6
    refine lv_aload_n hx hb dX12_words_65 rfl (lv_at hl 3 rfl) ?_
    refine gq_get hx hb ht hown hK hP i_X12 1 rfl rfl 19 (by decide) wd_1271 rfl rfl dX12_words_66 ?_
    refine lv_iconst (v := 0) hx hb dX12_words_69 (by decide +kernel) ?_
    refine lv_iload_n hx hb dX12_words_70 rfl (lv_at hl 4 rfl) ?_
    refine lv_i2l hx hb dX12_words_71 rfl ?_
    refine lv_topl (fun m_7 em_7 => ?_)
    have fm_7 := il_i2l em_7
    refine tr_last hx hb hK hT hP hD hS 30 k19 (by decide) (by decide) (show vp_in _ (tk_len 30) from ia_in (n := 10) (by omega) (by omega)) dX12_words_72 (fun H locs wt hT hfl hP hD hS => ?_)
    have hW := hW.arr hfl
    refine lv_aload_n hx hb dX12_words_73 rfl (lv_at hl 3 rfl) ?_
    refine gq_get hx hb ht hown hK hP i_X12 1 rfl rfl 19 (by decide) wd_1271 rfl rfl dX12_words_74 ?_
    refine lv_iconst (v := 1) hx hb dX12_words_77 (by decide +kernel) ?_
    refine lv_iload_n hx hb dX12_words_78 rfl (lv_at hl 5 rfl) ?_
    refine lv_i2l hx hb dX12_words_79 rfl ?_
    refine lv_topl (fun m_8 em_8 => ?_)
    have fm_8 := il_i2l em_8
    refine tr_last hx hb hK hT hP hD hS 30 k19 (by decide) (by decide) (show vp_in _ (tk_len 30) from ia_in (n := 10) (by omega) (by omega)) dX12_words_80 (fun H locs wt hT hfl hP hD hS => ?_)
    have hW := hW.arr hfl
    refine lv_aload_n hx hb dX12_words_81 rfl (lv_at hl 3 rfl) ?_
    refine gq_get hx hb ht hown hK hP i_X12 1 rfl rfl 19 (by decide) wd_1271 rfl rfl dX12_words_82 ?_
    refine lv_iconst (v := 2) hx hb dX12_words_85 (by decide +kernel) ?_
    refine lv_aload_n hx hb dX12_words_86 rfl (lv_at hl 3 rfl) ?_
    refine lv_iload_n hx hb dX12_words_87 rfl (lv_at hl 4 rfl) ?_
    refine lv_iload_n hx hb dX12_words_88 rfl (lv_at hl 5 rfl) ?_
    have hP : va_P (gg_D G) classes ([] ++ ([((am 20), .inl (G.2.2 0, 110, .inl sd)), (m0, .inr (12, [.ref (am 0), .int v1, .int v2, .ref (am 3), .ref (am 4), .ref (am 5), .ref (am 6), .ref (am 7), .int v8, .int v9, .int v10, .int v11, .int v12, .int v13, .int v14, .ref (am 15), .int v16, .ref (am 17), .int v18, .ref (am 19), .ref (am 20), .int v21, .int v22, .int v23, .int v24, .int v25, .ref (am 26), .int v27, .ref (am 28), .ref (am 29), .ref (am 30), .ref (am 31), .long v32, .ref (am 33), .ref (am 34), .ref (am 35), .ref (am 36)]))] ++ wt)) H := hP
    have hD : va_D A ([] ++ ([((am 20), .inl (G.2.2 0, 110, .inl sd)), (m0, .inr (12, [.ref (am 0), .int v1, .int v2, .ref (am 3), .ref (am 4), .ref (am 5), .ref (am 6), .ref (am 7), .int v8, .int v9, .int v10, .int v11, .int v12, .int v13, .int v14, .ref (am 15), .int v16, .ref (am 17), .int v18, .ref (am 19), .ref (am 20), .int v21, .int v22, .int v23, .int v24, .int v25, .ref (am 26), .int v27, .ref (am 28), .ref (am 29), .ref (am 30), .ref (am 31), .long v32, .ref (am 33), .ref (am 34), .ref (am 35), .ref (am 36)]))] ++ wt)) := hD
    refine gt_callI (wr := []) (va_runV (As := [.int b, .int w]) (rest := [.int 2, .ref (am 19)]) ⟨hx, hb, hml, hown, ht⟩ (d_m_worthTo l G Γ H.size wt hT b w m0 am v1 v2 v8 v9 v10 v11 v12 v13 v14 v16 v18 v21 v22 v23 v24 v25 v27 v32 sd (by omega) (by omega) (by omega) (by omega) (by first | assumption | exact hSD.1 | exact hSD.w _ | (rw [hKH 2 (by omega)]; exact hKP) | omega) (by first | assumption | exact hSD.1 | exact hSD.w _ | (rw [hKH 2 (by omega)]; exact hKP) | omega) (by first | assumption | exact hSD.1 | exact hSD.w _ | (rw [hKH 2 (by omega)]; exact hKP) | omega) (by first | assumption | exact hSD.1 | exact hSD.w _ | (rw [hKH 2 (by omega)]; exact hKP) | omega) (by first | assumption | exact hSD.1 | exact hSD.w _ | (rw [hKH 2 (by omega)]; exact hKP) | omega) (by first | assumption | exact hSD.1 | exact hSD.w _ | (rw [hKH 2 (by omega)]; exact hKP) | omega) (by first | assumption | exact hSD.1 | exact hSD.w _ | (rw [hKH 2 (by omega)]; exact hKP) | omega) (by first | assumption | exact hSD.1 | exact hSD.w _ | (rw [hKH 2 (by omega)]; exact hKP) | omega) (by first | assumption | exact hSD.1 | exact hSD.w _ | (rw [hKH 2 (by omega)]; exact hKP) | omega) (by first | assumption | exact hSD.1 | exact hSD.w _ | (rw [hKH 2 (by omega)]; exact hKP) | omega) (by first | assumption | exact hSD.1 | exact hSD.w _ | (rw [hKH 2 (by omega)]; exact hKP) | omega) (by first | assumption | exact hSD.1 | exact hSD.w _ | (rw [hKH 2 (by omega)]; exact hKP) | omega) (by first | assumption | exact hSD.1 | exact hSD.w _ | (rw [hKH 2 (by omega)]; exact hKP) | omega) (by first | assumption | exact hSD.1 | exact hSD.w _ | (rw [hKH 2 (by omega)]; exact hKP) | omega) (by first | assumption | exact hSD.1 | exact hSD.w _ | (rw [hKH 2 (by omega)]; exact hKP) | omega) (by first | assumption | exact hSD.1 | exact hSD.w _ | (rw [hKH 2 (by omega)]; exact hKP) | omega) (by first | assumption | exact hSD.1 | exact hSD.w _ | (rw [hKH 2 (by omega)]; exact hKP) | omega) (by first | assumption | exact hSD.1 | exact hSD.w _ | (rw [hKH 2 (by omega)]; exact hKP) | omega) (by first | assumption | exact hSD.1 | exact hSD.w _ | (rw [hKH 2 (by omega)]; exact hKP) | omega) (by first | assumption | exact hSD.1 | exact hSD.w _ | (rw [hKH 2 (by omega)]; exact hKP) | omega) (by first | assumption | exact hSD.1 | exact hSD.w _ | (rw [hKH 2 (by omega)]; exact hKP) | omega) (by first | assumption | exact hSD.1 | exact hSD.w _ | (rw [hKH 2 (by omega)]; exact hKP) | omega) (by first | assumption | exact hSD.1 | exact hSD.w _ | (rw [hKH 2 (by omega)]; exact hKP) | omega)) (cwV 2 ht (ts_gV wd_1574 wd_1576 wd_78 wd_134 wd_1577) rfl rfl rfl (by decide +kernel) ⟨Nat.le_of_ble_eq_true rfl, Nat.le_of_ble_eq_true rfl⟩) (gc_preV (ci := 12) (q0 := 1) hK (tw_right hP) (tw_rightD hD) rfl rfl) rfl rfl hl.1 rfl (lv_room (Nat.le_of_ble_eq_true rfl)) dX12_words_89 ⟨Nat.le_of_ble_eq_true rfl, Nat.le_of_ble_eq_true rfl⟩) hP hD hS hA (fun r_9 wt H locs hw hP hD hS => ?_)
    obtain ⟨hT, hkp⟩ := hw
    have hW := hW.call (show ∀ x ∈ [], x ∈ [] by decide) hkp
    have hP : va_P (gg_D G) classes ([((am 20), .inl (G.2.2 0, 110, .inl sd)), (m0, .inr (12, [.ref (am 0), .int v1, .int v2, .ref (am 3), .ref (am 4), .ref (am 5), .ref (am 6), .ref (am 7), .int v8, .int v9, .int v10, .int v11, .int v12, .int v13, .int v14, .ref (am 15), .int v16, .ref (am 17), .int v18, .ref (am 19), .ref (am 20), .int v21, .int v22, .int v23, .int v24, .int v25, .ref (am 26), .int v27, .ref (am 28), .ref (am 29), .ref (am 30), .ref (am 31), .long v32, .ref (am 33), .ref (am 34), .ref (am 35), .ref (am 36)]))] ++ wt) H := hP
    have hD : va_D A ([((am 20), .inl (G.2.2 0, 110, .inl sd)), (m0, .inr (12, [.ref (am 0), .int v1, .int v2, .ref (am 3), .ref (am 4), .ref (am 5), .ref (am 6), .ref (am 7), .int v8, .int v9, .int v10, .int v11, .int v12, .int v13, .int v14, .ref (am 15), .int v16, .ref (am 17), .int v18, .ref (am 19), .ref (am 20), .int v21, .int v22, .int v23, .int v24, .int v25, .ref (am 26), .int v27, .ref (am 28), .ref (am 29), .ref (am 30), .ref (am 31), .long v32, .ref (am 33), .ref (am 34), .ref (am 35), .ref (am 36)]))] ++ wt) := hD
    refine lv_i2l hx hb dX12_words_92 rfl ?_
    refine lv_topl (fun m_10 em_10 => ?_)
    have fm_10 := il_i2l em_10
    refine tr_last hx hb hK hT hP hD hS 30 k19 (by decide) (by decide) (show vp_in _ (tk_len 30) from ia_in (n := 10) (by omega) (by omega)) dX12_words_93 (fun H locs wt hT hfl hP hD hS => ?_)
    have hW := hW.arr hfl
    refine lv_aload_n hx hb dX12_words_94 rfl (lv_at hl 3 rfl) ?_
    refine gq_get hx hb ht hown hK hP i_X12 1 rfl rfl 19 (by decide) wd_1271 rfl rfl dX12_words_95 ?_
    refine lv_iconst (v := 3) hx hb dX12_words_98 (by decide +kernel) ?_
    refine lv_aload_n hx hb dX12_words_99 rfl (lv_at hl 3 rfl) ?_
    refine lv_iload_n hx hb dX12_words_100 rfl (lv_at hl 4 rfl) ?_
    refine lv_iconst (v := 0) hx hb dX12_words_101 (by decide +kernel) ?_
    have hP : va_P (gg_D G) classes ([] ++ ([((am 20), .inl (G.2.2 0, 110, .inl sd)), (m0, .inr (12, [.ref (am 0), .int v1, .int v2, .ref (am 3), .ref (am 4), .ref (am 5), .ref (am 6), .ref (am 7), .int v8, .int v9, .int v10, .int v11, .int v12, .int v13, .int v14, .ref (am 15), .int v16, .ref (am 17), .int v18, .ref (am 19), .ref (am 20), .int v21, .int v22, .int v23, .int v24, .int v25, .ref (am 26), .int v27, .ref (am 28), .ref (am 29), .ref (am 30), .ref (am 31), .long v32, .ref (am 33), .ref (am 34), .ref (am 35), .ref (am 36)]))] ++ wt)) H := hP
    have hD : va_D A ([] ++ ([((am 20), .inl (G.2.2 0, 110, .inl sd)), (m0, .inr (12, [.ref (am 0), .int v1, .int v2, .ref (am 3), .ref (am 4), .ref (am 5), .ref (am 6), .ref (am 7), .int v8, .int v9, .int v10, .int v11, .int v12, .int v13, .int v14, .ref (am 15), .int v16, .ref (am 17), .int v18, .ref (am 19), .ref (am 20), .int v21, .int v22, .int v23, .int v24, .int v25, .ref (am 26), .int v27, .ref (am 28), .ref (am 29), .ref (am 30), .ref (am 31), .long v32, .ref (am 33), .ref (am 34), .ref (am 35), .ref (am 36)]))] ++ wt)) := hD
    refine gt_callI (wr := []) (va_runV (As := [.int b, .int 0]) (rest := [.int 3, .ref (am 19)]) ⟨hx, hb, hml, hown, ht⟩ (d_m_bid0 l G Γ H.size wt hT b m0 am v1 v2 v8 v9 v10 v11 v12 v13 v14 v16 v18 v21 v22 v23 v24 v25 v27 v32 sd (by omega) (by omega) (by first | assumption | exact hSD.1 | exact hSD.w _ | (rw [hKH 2 (by omega)]; exact hKP) | omega) (by first | assumption | exact hSD.1 | exact hSD.w _ | (rw [hKH 2 (by omega)]; exact hKP) | omega) (by first | assumption | exact hSD.1 | exact hSD.w _ | (rw [hKH 2 (by omega)]; exact hKP) | omega) (by first | assumption | exact hSD.1 | exact hSD.w _ | (rw [hKH 2 (by omega)]; exact hKP) | omega) (by first | assumption | exact hSD.1 | exact hSD.w _ | (rw [hKH 2 (by omega)]; exact hKP) | omega) (by first | assumption | exact hSD.1 | exact hSD.w _ | (rw [hKH 2 (by omega)]; exact hKP) | omega) (by first | assumption | exact hSD.1 | exact hSD.w _ | (rw [hKH 2 (by omega)]; exact hKP) | omega) (by first | assumption | exact hSD.1 | exact hSD.w _ | (rw [hKH 2 (by omega)]; exact hKP) | omega) (by first | assumption | exact hSD.1 | exact hSD.w _ | (rw [hKH 2 (by omega)]; exact hKP) | omega) (by first | assumption | exact hSD.1 | exact hSD.w _ | (rw [hKH 2 (by omega)]; exact hKP) | omega) (by first | assumption | exact hSD.1 | exact hSD.w _ | (rw [hKH 2 (by omega)]; exact hKP) | omega) (by first | assumption | exact hSD.1 | exact hSD.w _ | (rw [hKH 2 (by omega)]; exact hKP) | omega) (by first | assumption | exact hSD.1 | exact hSD.w _ | (rw [hKH 2 (by omega)]; exact hKP) | omega) (by first | assumption | exact hSD.1 | exact hSD.w _ | (rw [hKH 2 (by omega)]; exact hKP) | omega) (by first | assumption | exact hSD.1 | exact hSD.w _ | (rw [hKH 2 (by omega)]; exact hKP) | omega) (by first | assumption | exact hSD.1 | exact hSD.w _ | (rw [hKH 2 (by omega)]; exact hKP) | omega) (by first | assumption | exact hSD.1 | exact hSD.w _ | (rw [hKH 2 (by omega)]; exact hKP) | omega) (by first | assumption | exact hSD.1 | exact hSD.w _ | (rw [hKH 2 (by omega)]; exact hKP) | omega) (by first | assumption | exact hSD.1 | exact hSD.w _ | (rw [hKH 2 (by omega)]; exact hKP) | omega) (by first | assumption | exact hSD.1 | exact hSD.w _ | (rw [hKH 2 (by omega)]; exact hKP) | omega) (by first | assumption | exact hSD.1 | exact hSD.w _ | (rw [hKH 2 (by omega)]; exact hKP) | omega) (by first | assumption | exact hSD.1 | exact hSD.w _ | (rw [hKH 2 (by omega)]; exact hKP) | omega) (by first | assumption | exact hSD.1 | exact hSD.w _ | (rw [hKH 2 (by omega)]; exact hKP) | omega)) (cwV 2 ht (ts_gV wd_1558 wd_1560 wd_74 wd_134 wd_1561) rfl rfl rfl (by decide +kernel) ⟨Nat.le_of_ble_eq_true rfl, Nat.le_of_ble_eq_true rfl⟩) (gc_preV (ci := 12) (q0 := 1) hK (tw_right hP) (tw_rightD hD) rfl rfl) rfl rfl hl.1 rfl (lv_room (Nat.le_of_ble_eq_true rfl)) dX12_words_102 ⟨Nat.le_of_ble_eq_true rfl, Nat.le_of_ble_eq_true rfl⟩) hP hD hS hA (fun r_11 wt H locs hw hP hD hS => ?_)
    obtain ⟨hT, hkp, rp_r_11⟩ := hw
    have hW := hW.call (show ∀ x ∈ [], x ∈ [] by decide) hkp
    have hP : va_P (gg_D G) classes ([((am 20), .inl (G.2.2 0, 110, .inl sd)), (m0, .inr (12, [.ref (am 0), .int v1, .int v2, .ref (am 3), .ref (am 4), .ref (am 5), .ref (am 6), .ref (am 7), .int v8, .int v9, .int v10, .int v11, .int v12, .int v13, .int v14, .ref (am 15), .int v16, .ref (am 17), .int v18, .ref (am 19), .ref (am 20), .int v21, .int v22, .int v23, .int v24, .int v25, .ref (am 26), .int v27, .ref (am 28), .ref (am 29), .ref (am 30), .ref (am 31), .long v32, .ref (am 33), .ref (am 34), .ref (am 35), .ref (am 36)]))] ++ wt) H := hP
    have hD : va_D A ([((am 20), .inl (G.2.2 0, 110, .inl sd)), (m0, .inr (12, [.ref (am 0), .int v1, .int v2, .ref (am 3), .ref (am 4), .ref (am 5), .ref (am 6), .ref (am 7), .int v8, .int v9, .int v10, .int v11, .int v12, .int v13, .int v14, .ref (am 15), .int v16, .ref (am 17), .int v18, .ref (am 19), .ref (am 20), .int v21, .int v22, .int v23, .int v24, .int v25, .ref (am 26), .int v27, .ref (am 28), .ref (am 29), .ref (am 30), .ref (am 31), .long v32, .ref (am 33), .ref (am 34), .ref (am 35), .ref (am 36)]))] ++ wt) := hD
    refine lv_i2l hx hb dX12_words_105 rfl ?_
    refine lv_topl (fun m_12 em_12 => ?_)
    have fm_12 := il_i2l em_12
    refine tr_last hx hb hK hT hP hD hS 30 k19 (by decide) (by decide) (show vp_in _ (tk_len 30) from ia_in (n := 10) (by omega) (by omega)) dX12_words_106 (fun H locs wt hT hfl hP hD hS => ?_)
    have hW := hW.arr hfl
    refine lv_aload_n hx hb dX12_words_107 rfl (lv_at hl 3 rfl) ?_
    refine gq_get hx hb ht hown hK hP i_X12 1 rfl rfl 19 (by decide) wd_1271 rfl rfl dX12_words_108 ?_
    refine lv_iconst (v := 4) hx hb dX12_words_111 (by decide +kernel) ?_
    refine lv_aload_n hx hb dX12_words_112 rfl (lv_at hl 3 rfl) ?_
    refine lv_iload_n hx hb dX12_words_113 rfl (lv_at hl 4 rfl) ?_
    refine lv_iconst (v := 1) hx hb dX12_words_114 (by decide +kernel) ?_
    have hP : va_P (gg_D G) classes ([] ++ ([((am 20), .inl (G.2.2 0, 110, .inl sd)), (m0, .inr (12, [.ref (am 0), .int v1, .int v2, .ref (am 3), .ref (am 4), .ref (am 5), .ref (am 6), .ref (am 7), .int v8, .int v9, .int v10, .int v11, .int v12, .int v13, .int v14, .ref (am 15), .int v16, .ref (am 17), .int v18, .ref (am 19), .ref (am 20), .int v21, .int v22, .int v23, .int v24, .int v25, .ref (am 26), .int v27, .ref (am 28), .ref (am 29), .ref (am 30), .ref (am 31), .long v32, .ref (am 33), .ref (am 34), .ref (am 35), .ref (am 36)]))] ++ wt)) H := hP
    have hD : va_D A ([] ++ ([((am 20), .inl (G.2.2 0, 110, .inl sd)), (m0, .inr (12, [.ref (am 0), .int v1, .int v2, .ref (am 3), .ref (am 4), .ref (am 5), .ref (am 6), .ref (am 7), .int v8, .int v9, .int v10, .int v11, .int v12, .int v13, .int v14, .ref (am 15), .int v16, .ref (am 17), .int v18, .ref (am 19), .ref (am 20), .int v21, .int v22, .int v23, .int v24, .int v25, .ref (am 26), .int v27, .ref (am 28), .ref (am 29), .ref (am 30), .ref (am 31), .long v32, .ref (am 33), .ref (am 34), .ref (am 35), .ref (am 36)]))] ++ wt)) := hD
    refine gt_callI (wr := []) (va_runV (As := [.int b, .int 1]) (rest := [.int 4, .ref (am 19)]) ⟨hx, hb, hml, hown, ht⟩ (d_m_bid1 l G Γ H.size wt hT b m0 am v1 v2 v8 v9 v10 v11 v12 v13 v14 v16 v18 v21 v22 v23 v24 v25 v27 v32 sd (by omega) (by omega) (by first | assumption | exact hSD.1 | exact hSD.w _ | (rw [hKH 2 (by omega)]; exact hKP) | omega) (by first | assumption | exact hSD.1 | exact hSD.w _ | (rw [hKH 2 (by omega)]; exact hKP) | omega) (by first | assumption | exact hSD.1 | exact hSD.w _ | (rw [hKH 2 (by omega)]; exact hKP) | omega) (by first | assumption | exact hSD.1 | exact hSD.w _ | (rw [hKH 2 (by omega)]; exact hKP) | omega) (by first | assumption | exact hSD.1 | exact hSD.w _ | (rw [hKH 2 (by omega)]; exact hKP) | omega) (by first | assumption | exact hSD.1 | exact hSD.w _ | (rw [hKH 2 (by omega)]; exact hKP) | omega) (by first | assumption | exact hSD.1 | exact hSD.w _ | (rw [hKH 2 (by omega)]; exact hKP) | omega) (by first | assumption | exact hSD.1 | exact hSD.w _ | (rw [hKH 2 (by omega)]; exact hKP) | omega) (by first | assumption | exact hSD.1 | exact hSD.w _ | (rw [hKH 2 (by omega)]; exact hKP) | omega) (by first | assumption | exact hSD.1 | exact hSD.w _ | (rw [hKH 2 (by omega)]; exact hKP) | omega) (by first | assumption | exact hSD.1 | exact hSD.w _ | (rw [hKH 2 (by omega)]; exact hKP) | omega) (by first | assumption | exact hSD.1 | exact hSD.w _ | (rw [hKH 2 (by omega)]; exact hKP) | omega) (by first | assumption | exact hSD.1 | exact hSD.w _ | (rw [hKH 2 (by omega)]; exact hKP) | omega) (by first | assumption | exact hSD.1 | exact hSD.w _ | (rw [hKH 2 (by omega)]; exact hKP) | omega) (by first | assumption | exact hSD.1 | exact hSD.w _ | (rw [hKH 2 (by omega)]; exact hKP) | omega) (by first | assumption | exact hSD.1 | exact hSD.w _ | (rw [hKH 2 (by omega)]; exact hKP) | omega) (by first | assumption | exact hSD.1 | exact hSD.w _ | (rw [hKH 2 (by omega)]; exact hKP) | omega) (by first | assumption | exact hSD.1 | exact hSD.w _ | (rw [hKH 2 (by omega)]; exact hKP) | omega) (by first | assumption | exact hSD.1 | exact hSD.w _ | (rw [hKH 2 (by omega)]; exact hKP) | omega) (by first | assumption | exact hSD.1 | exact hSD.w _ | (rw [hKH 2 (by omega)]; exact hKP) | omega) (by first | assumption | exact hSD.1 | exact hSD.w _ | (rw [hKH 2 (by omega)]; exact hKP) | omega) (by first | assumption | exact hSD.1 | exact hSD.w _ | (rw [hKH 2 (by omega)]; exact hKP) | omega) (by first | assumption | exact hSD.1 | exact hSD.w _ | (rw [hKH 2 (by omega)]; exact hKP) | omega)) (cwV 2 ht (ts_gV wd_1558 wd_1560 wd_74 wd_134 wd_1561) rfl rfl rfl (by decide +kernel) ⟨Nat.le_of_ble_eq_true rfl, Nat.le_of_ble_eq_true rfl⟩) (gc_preV (ci := 12) (q0 := 1) hK (tw_right hP) (tw_rightD hD) rfl rfl) rfl rfl hl.1 rfl (lv_room (Nat.le_of_ble_eq_true rfl)) dX12_words_115 ⟨Nat.le_of_ble_eq_true rfl, Nat.le_of_ble_eq_true rfl⟩) hP hD hS hA (fun r_13 wt H locs hw hP hD hS => ?_)
    obtain ⟨hT, hkp, rp_r_13⟩ := hw
    have hW := hW.call (show ∀ x ∈ [], x ∈ [] by decide) hkp
    have hP : va_P (gg_D G) classes ([((am 20), .inl (G.2.2 0, 110, .inl sd)), (m0, .inr (12, [.ref (am 0), .int v1, .int v2, .ref (am 3), .ref (am 4), .ref (am 5), .ref (am 6), .ref (am 7), .int v8, .int v9, .int v10, .int v11, .int v12, .int v13, .int v14, .ref (am 15), .int v16, .ref (am 17), .int v18, .ref (am 19), .ref (am 20), .int v21, .int v22, .int v23, .int v24, .int v25, .ref (am 26), .int v27, .ref (am 28), .ref (am 29), .ref (am 30), .ref (am 31), .long v32, .ref (am 33), .ref (am 34), .ref (am 35), .ref (am 36)]))] ++ wt) H := hP
    have hD : va_D A ([((am 20), .inl (G.2.2 0, 110, .inl sd)), (m0, .inr (12, [.ref (am 0), .int v1, .int v2, .ref (am 3), .ref (am 4), .ref (am 5), .ref (am 6), .ref (am 7), .int v8, .int v9, .int v10, .int v11, .int v12, .int v13, .int v14, .ref (am 15), .int v16, .ref (am 17), .int v18, .ref (am 19), .ref (am 20), .int v21, .int v22, .int v23, .int v24, .int v25, .ref (am 26), .int v27, .ref (am 28), .ref (am 29), .ref (am 30), .ref (am 31), .long v32, .ref (am 33), .ref (am 34), .ref (am 35), .ref (am 36)]))] ++ wt) := hD
    refine lv_i2l hx hb dX12_words_118 rfl ?_
    refine lv_topl (fun m_14 em_14 => ?_)
    have fm_14 := il_i2l em_14
    refine tr_last hx hb hK hT hP hD hS 30 k19 (by decide) (by decide) (show vp_in _ (tk_len 30) from ia_in (n := 10) (by omega) (by omega)) dX12_words_119 (fun H locs wt hT hfl hP hD hS => ?_)
    have hW := hW.arr hfl
    refine lv_aload_n hx hb dX12_words_120 rfl (lv_at hl 3 rfl) ?_
    refine gq_get hx hb ht hown hK hP i_X12 1 rfl rfl 19 (by decide) wd_1271 rfl rfl dX12_words_121 ?_
    refine lv_iconst (v := 5) hx hb dX12_words_124 (by decide +kernel) ?_
    refine lv_aload_n hx hb dX12_words_125 rfl (lv_at hl 3 rfl) ?_
    refine lv_iload_n hx hb dX12_words_126 rfl (lv_at hl 5 rfl) ?_
    refine lv_iconst (v := 1) hx hb dX12_words_127 (by decide +kernel) ?_
    have hP : va_P (gg_D G) classes ([] ++ ([((am 20), .inl (G.2.2 0, 110, .inl sd)), (m0, .inr (12, [.ref (am 0), .int v1, .int v2, .ref (am 3), .ref (am 4), .ref (am 5), .ref (am 6), .ref (am 7), .int v8, .int v9, .int v10, .int v11, .int v12, .int v13, .int v14, .ref (am 15), .int v16, .ref (am 17), .int v18, .ref (am 19), .ref (am 20), .int v21, .int v22, .int v23, .int v24, .int v25, .ref (am 26), .int v27, .ref (am 28), .ref (am 29), .ref (am 30), .ref (am 31), .long v32, .ref (am 33), .ref (am 34), .ref (am 35), .ref (am 36)]))] ++ wt)) H := hP
    have hD : va_D A ([] ++ ([((am 20), .inl (G.2.2 0, 110, .inl sd)), (m0, .inr (12, [.ref (am 0), .int v1, .int v2, .ref (am 3), .ref (am 4), .ref (am 5), .ref (am 6), .ref (am 7), .int v8, .int v9, .int v10, .int v11, .int v12, .int v13, .int v14, .ref (am 15), .int v16, .ref (am 17), .int v18, .ref (am 19), .ref (am 20), .int v21, .int v22, .int v23, .int v24, .int v25, .ref (am 26), .int v27, .ref (am 28), .ref (am 29), .ref (am 30), .ref (am 31), .long v32, .ref (am 33), .ref (am 34), .ref (am 35), .ref (am 36)]))] ++ wt)) := hD
    refine gt_callI (wr := []) (va_runV (As := [.int w, .int 1]) (rest := [.int 5, .ref (am 19)]) ⟨hx, hb, hml, hown, ht⟩ (d_m_lot1 l G Γ H.size wt hT w m0 am v1 v2 v8 v9 v10 v11 v12 v13 v14 v16 v18 v21 v22 v23 v24 v25 v27 v32 sd (by omega) (by omega) (by first | assumption | exact hSD.1 | exact hSD.w _ | (rw [hKH 2 (by omega)]; exact hKP) | omega) (by first | assumption | exact hSD.1 | exact hSD.w _ | (rw [hKH 2 (by omega)]; exact hKP) | omega) (by first | assumption | exact hSD.1 | exact hSD.w _ | (rw [hKH 2 (by omega)]; exact hKP) | omega) (by first | assumption | exact hSD.1 | exact hSD.w _ | (rw [hKH 2 (by omega)]; exact hKP) | omega) (by first | assumption | exact hSD.1 | exact hSD.w _ | (rw [hKH 2 (by omega)]; exact hKP) | omega) (by first | assumption | exact hSD.1 | exact hSD.w _ | (rw [hKH 2 (by omega)]; exact hKP) | omega) (by first | assumption | exact hSD.1 | exact hSD.w _ | (rw [hKH 2 (by omega)]; exact hKP) | omega) (by first | assumption | exact hSD.1 | exact hSD.w _ | (rw [hKH 2 (by omega)]; exact hKP) | omega) (by first | assumption | exact hSD.1 | exact hSD.w _ | (rw [hKH 2 (by omega)]; exact hKP) | omega) (by first | assumption | exact hSD.1 | exact hSD.w _ | (rw [hKH 2 (by omega)]; exact hKP) | omega) (by first | assumption | exact hSD.1 | exact hSD.w _ | (rw [hKH 2 (by omega)]; exact hKP) | omega) (by first | assumption | exact hSD.1 | exact hSD.w _ | (rw [hKH 2 (by omega)]; exact hKP) | omega) (by first | assumption | exact hSD.1 | exact hSD.w _ | (rw [hKH 2 (by omega)]; exact hKP) | omega) (by first | assumption | exact hSD.1 | exact hSD.w _ | (rw [hKH 2 (by omega)]; exact hKP) | omega) (by first | assumption | exact hSD.1 | exact hSD.w _ | (rw [hKH 2 (by omega)]; exact hKP) | omega) (by first | assumption | exact hSD.1 | exact hSD.w _ | (rw [hKH 2 (by omega)]; exact hKP) | omega) (by first | assumption | exact hSD.1 | exact hSD.w _ | (rw [hKH 2 (by omega)]; exact hKP) | omega) (by first | assumption | exact hSD.1 | exact hSD.w _ | (rw [hKH 2 (by omega)]; exact hKP) | omega) (by first | assumption | exact hSD.1 | exact hSD.w _ | (rw [hKH 2 (by omega)]; exact hKP) | omega) (by first | assumption | exact hSD.1 | exact hSD.w _ | (rw [hKH 2 (by omega)]; exact hKP) | omega) (by first | assumption | exact hSD.1 | exact hSD.w _ | (rw [hKH 2 (by omega)]; exact hKP) | omega) (by first | assumption | exact hSD.1 | exact hSD.w _ | (rw [hKH 2 (by omega)]; exact hKP) | omega) (by first | assumption | exact hSD.1 | exact hSD.w _ | (rw [hKH 2 (by omega)]; exact hKP) | omega)) (cwV 2 ht (ts_gV wd_1566 wd_1568 wd_76 wd_134 wd_1569) rfl rfl rfl (by decide +kernel) ⟨Nat.le_of_ble_eq_true rfl, Nat.le_of_ble_eq_true rfl⟩) (gc_preV (ci := 12) (q0 := 1) hK (tw_right hP) (tw_rightD hD) rfl rfl) rfl rfl hl.1 rfl (lv_room (Nat.le_of_ble_eq_true rfl)) dX12_words_128 ⟨Nat.le_of_ble_eq_true rfl, Nat.le_of_ble_eq_true rfl⟩) hP hD hS hA (fun r_15 wt H locs hw hP hD hS => ?_)
    obtain ⟨hT, hkp, rp_r_15⟩ := hw
    have hW := hW.call (show ∀ x ∈ [], x ∈ [] by decide) hkp
    have hP : va_P (gg_D G) classes ([((am 20), .inl (G.2.2 0, 110, .inl sd)), (m0, .inr (12, [.ref (am 0), .int v1, .int v2, .ref (am 3), .ref (am 4), .ref (am 5), .ref (am 6), .ref (am 7), .int v8, .int v9, .int v10, .int v11, .int v12, .int v13, .int v14, .ref (am 15), .int v16, .ref (am 17), .int v18, .ref (am 19), .ref (am 20), .int v21, .int v22, .int v23, .int v24, .int v25, .ref (am 26), .int v27, .ref (am 28), .ref (am 29), .ref (am 30), .ref (am 31), .long v32, .ref (am 33), .ref (am 34), .ref (am 35), .ref (am 36)]))] ++ wt) H := hP
    have hD : va_D A ([((am 20), .inl (G.2.2 0, 110, .inl sd)), (m0, .inr (12, [.ref (am 0), .int v1, .int v2, .ref (am 3), .ref (am 4), .ref (am 5), .ref (am 6), .ref (am 7), .int v8, .int v9, .int v10, .int v11, .int v12, .int v13, .int v14, .ref (am 15), .int v16, .ref (am 17), .int v18, .ref (am 19), .ref (am 20), .int v21, .int v22, .int v23, .int v24, .int v25, .ref (am 26), .int v27, .ref (am 28), .ref (am 29), .ref (am 30), .ref (am 31), .long v32, .ref (am 33), .ref (am 34), .ref (am 35), .ref (am 36)]))] ++ wt) := hD
    refine lv_i2l hx hb dX12_words_131 rfl ?_
    refine lv_topl (fun m_16 em_16 => ?_)
    have fm_16 := il_i2l em_16
    refine tr_last hx hb hK hT hP hD hS 30 k19 (by decide) (by decide) (show vp_in _ (tk_len 30) from ia_in (n := 10) (by omega) (by omega)) dX12_words_132 (fun H locs wt hT hfl hP hD hS => ?_)
    have hW := hW.arr hfl
    refine lv_aload_n hx hb dX12_words_133 rfl (lv_at hl 3 rfl) ?_
    refine gq_get hx hb ht hown hK hP i_X12 1 rfl rfl 19 (by decide) wd_1271 rfl rfl dX12_words_134 ?_
    refine lv_bipush (v := 6) hx hb dX12_words_137 (by decide +kernel) ?_
    refine lv_iload_n hx hb dX12_words_139 rfl (lv_at hl 2 rfl) ?_
    refine gt_callI (wr := [((am 20), .inl (G.2.2 0, 110, .inl sd)), (m0, .inr (12, [.ref (am 0), .int v1, .int v2, .ref (am 3), .ref (am 4), .ref (am 5), .ref (am 6), .ref (am 7), .int v8, .int v9, .int v10, .int v11, .int v12, .int v13, .int v14, .ref (am 15), .int v16, .ref (am 17), .int v18, .ref (am 19), .ref (am 20), .int v21, .int v22, .int v23, .int v24, .int v25, .ref (am 26), .int v27, .ref (am 28), .ref (am 29), .ref (am 30), .ref (am 31), .long v32, .ref (am 33), .ref (am 34), .ref (am 35), .ref (am 36)]))]) (va_runS (As := [.int t_4]) (rest := [.int 6, .ref (am 19)]) ⟨hx, hb, hml, hown, ht⟩ (d_m_bits l G Γ H.size wt hT t_4 (by omega) (by omega)) (va_cwS 1 ht (ts_gS wd_1646 wd_1647 wd_134 wd_1648) rfl rfl rfl (by decide +kernel) ⟨Nat.le_of_ble_eq_true rfl, Nat.le_of_ble_eq_true rfl⟩) (gc_preS hK (tw_right hP) (tw_rightD hD)) rfl rfl hl.1 rfl (lv_room (Nat.le_of_ble_eq_true rfl)) dX12_words_140 ⟨Nat.le_of_ble_eq_true rfl, Nat.le_of_ble_eq_true rfl⟩) hP hD hS hA (fun r_17 wt H locs hw hP hD hS => ?_)
    obtain ⟨hT, hkp, lo_r_17, hi_r_17, rp_r_17⟩ := hw
    have hW := hW.call (show ∀ x ∈ [], x ∈ [] by decide) hkp
    have hP : va_P (gg_D G) classes ([((am 20), .inl (G.2.2 0, 110, .inl sd)), (m0, .inr (12, [.ref (am 0), .int v1, .int v2, .ref (am 3), .ref (am 4), .ref (am 5), .ref (am 6), .ref (am 7), .int v8, .int v9, .int v10, .int v11, .int v12, .int v13, .int v14, .ref (am 15), .int v16, .ref (am 17), .int v18, .ref (am 19), .ref (am 20), .int v21, .int v22, .int v23, .int v24, .int v25, .ref (am 26), .int v27, .ref (am 28), .ref (am 29), .ref (am 30), .ref (am 31), .long v32, .ref (am 33), .ref (am 34), .ref (am 35), .ref (am 36)]))] ++ wt) H := hP
    have hD : va_D A ([((am 20), .inl (G.2.2 0, 110, .inl sd)), (m0, .inr (12, [.ref (am 0), .int v1, .int v2, .ref (am 3), .ref (am 4), .ref (am 5), .ref (am 6), .ref (am 7), .int v8, .int v9, .int v10, .int v11, .int v12, .int v13, .int v14, .ref (am 15), .int v16, .ref (am 17), .int v18, .ref (am 19), .ref (am 20), .int v21, .int v22, .int v23, .int v24, .int v25, .ref (am 26), .int v27, .ref (am 28), .ref (am 29), .ref (am 30), .ref (am 31), .long v32, .ref (am 33), .ref (am 34), .ref (am 35), .ref (am 36)]))] ++ wt) := hD
    refine lv_i2l hx hb dX12_words_143 rfl ?_
    refine lv_topl (fun m_18 em_18 => ?_)
    have fm_18 := il_i2l em_18
    refine tr_last hx hb hK hT hP hD hS 30 k19 (by decide) (by decide) (show vp_in _ (tk_len 30) from ia_in (n := 10) (by omega) (by omega)) dX12_words_144 (fun H locs wt hT hfl hP hD hS => ?_)
    have hW := hW.arr hfl
    refine lv_aload_n hx hb dX12_words_145 rfl (lv_at hl 3 rfl) ?_
    refine gq_get hx hb ht hown hK hP i_X12 1 rfl rfl 19 (by decide) wd_1271 rfl rfl dX12_words_146 ?_
    refine lv_bipush (v := 7) hx hb dX12_words_149 (by decide +kernel) ?_
    refine lv_aload_n hx hb dX12_words_151 rfl (lv_at hl 3 rfl) ?_
    refine lv_iload_n hx hb dX12_words_152 rfl (lv_at hl 4 rfl) ?_
    refine lv_iconst (v := 4) hx hb dX12_words_153 (by decide +kernel) ?_
    have hP : va_P (gg_D G) classes ([] ++ ([((am 20), .inl (G.2.2 0, 110, .inl sd)), (m0, .inr (12, [.ref (am 0), .int v1, .int v2, .ref (am 3), .ref (am 4), .ref (am 5), .ref (am 6), .ref (am 7), .int v8, .int v9, .int v10, .int v11, .int v12, .int v13, .int v14, .ref (am 15), .int v16, .ref (am 17), .int v18, .ref (am 19), .ref (am 20), .int v21, .int v22, .int v23, .int v24, .int v25, .ref (am 26), .int v27, .ref (am 28), .ref (am 29), .ref (am 30), .ref (am 31), .long v32, .ref (am 33), .ref (am 34), .ref (am 35), .ref (am 36)]))] ++ wt)) H := hP
    have hD : va_D A ([] ++ ([((am 20), .inl (G.2.2 0, 110, .inl sd)), (m0, .inr (12, [.ref (am 0), .int v1, .int v2, .ref (am 3), .ref (am 4), .ref (am 5), .ref (am 6), .ref (am 7), .int v8, .int v9, .int v10, .int v11, .int v12, .int v13, .int v14, .ref (am 15), .int v16, .ref (am 17), .int v18, .ref (am 19), .ref (am 20), .int v21, .int v22, .int v23, .int v24, .int v25, .ref (am 26), .int v27, .ref (am 28), .ref (am 29), .ref (am 30), .ref (am 31), .long v32, .ref (am 33), .ref (am 34), .ref (am 35), .ref (am 36)]))] ++ wt)) := hD
    refine gt_callI (wr := []) (va_runV (As := [.int b, .int 4]) (rest := [.int 7, .ref (am 19)]) ⟨hx, hb, hml, hown, ht⟩ (d_m_bid4 l G Γ H.size wt hT b m0 am v1 v2 v8 v9 v10 v11 v12 v13 v14 v16 v18 v21 v22 v23 v24 v25 v27 v32 sd (by omega) (by omega) (by first | assumption | exact hSD.1 | exact hSD.w _ | (rw [hKH 2 (by omega)]; exact hKP) | omega) (by first | assumption | exact hSD.1 | exact hSD.w _ | (rw [hKH 2 (by omega)]; exact hKP) | omega) (by first | assumption | exact hSD.1 | exact hSD.w _ | (rw [hKH 2 (by omega)]; exact hKP) | omega) (by first | assumption | exact hSD.1 | exact hSD.w _ | (rw [hKH 2 (by omega)]; exact hKP) | omega) (by first | assumption | exact hSD.1 | exact hSD.w _ | (rw [hKH 2 (by omega)]; exact hKP) | omega) (by first | assumption | exact hSD.1 | exact hSD.w _ | (rw [hKH 2 (by omega)]; exact hKP) | omega) (by first | assumption | exact hSD.1 | exact hSD.w _ | (rw [hKH 2 (by omega)]; exact hKP) | omega) (by first | assumption | exact hSD.1 | exact hSD.w _ | (rw [hKH 2 (by omega)]; exact hKP) | omega) (by first | assumption | exact hSD.1 | exact hSD.w _ | (rw [hKH 2 (by omega)]; exact hKP) | omega) (by first | assumption | exact hSD.1 | exact hSD.w _ | (rw [hKH 2 (by omega)]; exact hKP) | omega) (by first | assumption | exact hSD.1 | exact hSD.w _ | (rw [hKH 2 (by omega)]; exact hKP) | omega) (by first | assumption | exact hSD.1 | exact hSD.w _ | (rw [hKH 2 (by omega)]; exact hKP) | omega) (by first | assumption | exact hSD.1 | exact hSD.w _ | (rw [hKH 2 (by omega)]; exact hKP) | omega) (by first | assumption | exact hSD.1 | exact hSD.w _ | (rw [hKH 2 (by omega)]; exact hKP) | omega) (by first | assumption | exact hSD.1 | exact hSD.w _ | (rw [hKH 2 (by omega)]; exact hKP) | omega) (by first | assumption | exact hSD.1 | exact hSD.w _ | (rw [hKH 2 (by omega)]; exact hKP) | omega) (by first | assumption | exact hSD.1 | exact hSD.w _ | (rw [hKH 2 (by omega)]; exact hKP) | omega) (by first | assumption | exact hSD.1 | exact hSD.w _ | (rw [hKH 2 (by omega)]; exact hKP) | omega) (by first | assumption | exact hSD.1 | exact hSD.w _ | (rw [hKH 2 (by omega)]; exact hKP) | omega) (by first | assumption | exact hSD.1 | exact hSD.w _ | (rw [hKH 2 (by omega)]; exact hKP) | omega) (by first | assumption | exact hSD.1 | exact hSD.w _ | (rw [hKH 2 (by omega)]; exact hKP) | omega) (by first | assumption | exact hSD.1 | exact hSD.w _ | (rw [hKH 2 (by omega)]; exact hKP) | omega) (by first | assumption | exact hSD.1 | exact hSD.w _ | (rw [hKH 2 (by omega)]; exact hKP) | omega)) (cwV 2 ht (ts_gV wd_1558 wd_1560 wd_74 wd_134 wd_1561) rfl rfl rfl (by decide +kernel) ⟨Nat.le_of_ble_eq_true rfl, Nat.le_of_ble_eq_true rfl⟩) (gc_preV (ci := 12) (q0 := 1) hK (tw_right hP) (tw_rightD hD) rfl rfl) rfl rfl hl.1 rfl (lv_room (Nat.le_of_ble_eq_true rfl)) dX12_words_154 ⟨Nat.le_of_ble_eq_true rfl, Nat.le_of_ble_eq_true rfl⟩) hP hD hS hA (fun r_19 wt H locs hw hP hD hS => ?_)
    obtain ⟨hT, hkp, rp_r_19⟩ := hw
    have hW := hW.call (show ∀ x ∈ [], x ∈ [] by decide) hkp
    have hP : va_P (gg_D G) classes ([((am 20), .inl (G.2.2 0, 110, .inl sd)), (m0, .inr (12, [.ref (am 0), .int v1, .int v2, .ref (am 3), .ref (am 4), .ref (am 5), .ref (am 6), .ref (am 7), .int v8, .int v9, .int v10, .int v11, .int v12, .int v13, .int v14, .ref (am 15), .int v16, .ref (am 17), .int v18, .ref (am 19), .ref (am 20), .int v21, .int v22, .int v23, .int v24, .int v25, .ref (am 26), .int v27, .ref (am 28), .ref (am 29), .ref (am 30), .ref (am 31), .long v32, .ref (am 33), .ref (am 34), .ref (am 35), .ref (am 36)]))] ++ wt) H := hP
    have hD : va_D A ([((am 20), .inl (G.2.2 0, 110, .inl sd)), (m0, .inr (12, [.ref (am 0), .int v1, .int v2, .ref (am 3), .ref (am 4), .ref (am 5), .ref (am 6), .ref (am 7), .int v8, .int v9, .int v10, .int v11, .int v12, .int v13, .int v14, .ref (am 15), .int v16, .ref (am 17), .int v18, .ref (am 19), .ref (am 20), .int v21, .int v22, .int v23, .int v24, .int v25, .ref (am 26), .int v27, .ref (am 28), .ref (am 29), .ref (am 30), .ref (am 31), .long v32, .ref (am 33), .ref (am 34), .ref (am 35), .ref (am 36)]))] ++ wt) := hD
    refine lv_i2l hx hb dX12_words_157 rfl ?_
    refine lv_topl (fun m_20 em_20 => ?_)
    have fm_20 := il_i2l em_20
    refine tr_last hx hb hK hT hP hD hS 30 k19 (by decide) (by decide) (show vp_in _ (tk_len 30) from ia_in (n := 10) (by omega) (by omega)) dX12_words_158 (fun H locs wt hT hfl hP hD hS => ?_)
    have hW := hW.arr hfl
    refine lv_aload_n hx hb dX12_words_159 rfl (lv_at hl 3 rfl) ?_
    refine gq_get hx hb ht hown hK hP i_X12 1 rfl rfl 19 (by decide) wd_1271 rfl rfl dX12_words_160 ?_
    refine lv_bipush (v := 8) hx hb dX12_words_163 (by decide +kernel) ?_
    refine lv_iload hx hb dX12_words_165 (lv_at hl 1 rfl) ?_
    refine lv_i2l hx hb dX12_words_167 rfl ?_
    refine lv_topl (fun m_21 em_21 => ?_)
    have fm_21 := il_i2l em_21
    refine tr_last hx hb hK hT hP hD hS 30 k19 (by decide) (by decide) (show vp_in _ (tk_len 30) from ia_in (n := 10) (by omega) (by omega)) dX12_words_168 (fun H locs wt hT hfl hP hD hS => ?_)
    have hW := hW.arr hfl
    refine lv_aload_n hx hb dX12_words_169 rfl (lv_at hl 3 rfl) ?_
    refine gq_get hx hb ht hown hK hP i_X12 1 rfl rfl 19 (by decide) wd_1271 rfl rfl dX12_words_170 ?_
    refine lv_bipush (v := 9) hx hb dX12_words_173 (by decide +kernel) ?_
    refine lv_aload_n hx hb dX12_words_175 rfl (lv_at hl 3 rfl) ?_
    refine lv_iconst (v := 1) hx hb dX12_words_176 (by decide +kernel) ?_
    have hP : va_P (gg_D G) classes ([] ++ ([((am 20), .inl (G.2.2 0, 110, .inl sd)), (m0, .inr (12, [.ref (am 0), .int v1, .int v2, .ref (am 3), .ref (am 4), .ref (am 5), .ref (am 6), .ref (am 7), .int v8, .int v9, .int v10, .int v11, .int v12, .int v13, .int v14, .ref (am 15), .int v16, .ref (am 17), .int v18, .ref (am 19), .ref (am 20), .int v21, .int v22, .int v23, .int v24, .int v25, .ref (am 26), .int v27, .ref (am 28), .ref (am 29), .ref (am 30), .ref (am 31), .long v32, .ref (am 33), .ref (am 34), .ref (am 35), .ref (am 36)]))] ++ wt)) H := hP
    have hD : va_D A ([] ++ ([((am 20), .inl (G.2.2 0, 110, .inl sd)), (m0, .inr (12, [.ref (am 0), .int v1, .int v2, .ref (am 3), .ref (am 4), .ref (am 5), .ref (am 6), .ref (am 7), .int v8, .int v9, .int v10, .int v11, .int v12, .int v13, .int v14, .ref (am 15), .int v16, .ref (am 17), .int v18, .ref (am 19), .ref (am 20), .int v21, .int v22, .int v23, .int v24, .int v25, .ref (am 26), .int v27, .ref (am 28), .ref (am 29), .ref (am 30), .ref (am 31), .long v32, .ref (am 33), .ref (am 34), .ref (am 35), .ref (am 36)]))] ++ wt)) := hD
    refine gt_callI (wr := []) (va_runV (As := [.int 1]) (rest := [.int 9, .ref (am 19)]) ⟨hx, hb, hml, hown, ht⟩ (d_m_lotsIn l G Γ H.size wt hT 1 m0 am v1 v2 v8 v9 v10 v11 v12 v13 v14 v16 v18 v21 v22 v23 v24 v25 v27 v32 sd (by first | assumption | exact hSD.1 | exact hSD.w _ | (rw [hKH 2 (by omega)]; exact hKP) | omega) (by first | assumption | exact hSD.1 | exact hSD.w _ | (rw [hKH 2 (by omega)]; exact hKP) | omega) (by first | assumption | exact hSD.1 | exact hSD.w _ | (rw [hKH 2 (by omega)]; exact hKP) | omega) (by first | assumption | exact hSD.1 | exact hSD.w _ | (rw [hKH 2 (by omega)]; exact hKP) | omega) (by first | assumption | exact hSD.1 | exact hSD.w _ | (rw [hKH 2 (by omega)]; exact hKP) | omega) (by first | assumption | exact hSD.1 | exact hSD.w _ | (rw [hKH 2 (by omega)]; exact hKP) | omega) (by first | assumption | exact hSD.1 | exact hSD.w _ | (rw [hKH 2 (by omega)]; exact hKP) | omega) (by first | assumption | exact hSD.1 | exact hSD.w _ | (rw [hKH 2 (by omega)]; exact hKP) | omega) (by first | assumption | exact hSD.1 | exact hSD.w _ | (rw [hKH 2 (by omega)]; exact hKP) | omega) (by first | assumption | exact hSD.1 | exact hSD.w _ | (rw [hKH 2 (by omega)]; exact hKP) | omega) (by first | assumption | exact hSD.1 | exact hSD.w _ | (rw [hKH 2 (by omega)]; exact hKP) | omega) (by first | assumption | exact hSD.1 | exact hSD.w _ | (rw [hKH 2 (by omega)]; exact hKP) | omega) (by first | assumption | exact hSD.1 | exact hSD.w _ | (rw [hKH 2 (by omega)]; exact hKP) | omega) (by first | assumption | exact hSD.1 | exact hSD.w _ | (rw [hKH 2 (by omega)]; exact hKP) | omega) (by first | assumption | exact hSD.1 | exact hSD.w _ | (rw [hKH 2 (by omega)]; exact hKP) | omega) (by first | assumption | exact hSD.1 | exact hSD.w _ | (rw [hKH 2 (by omega)]; exact hKP) | omega) (by first | assumption | exact hSD.1 | exact hSD.w _ | (rw [hKH 2 (by omega)]; exact hKP) | omega) (by first | assumption | exact hSD.1 | exact hSD.w _ | (rw [hKH 2 (by omega)]; exact hKP) | omega) (by first | assumption | exact hSD.1 | exact hSD.w _ | (rw [hKH 2 (by omega)]; exact hKP) | omega) (by first | assumption | exact hSD.1 | exact hSD.w _ | (rw [hKH 2 (by omega)]; exact hKP) | omega) (by first | assumption | exact hSD.1 | exact hSD.w _ | (rw [hKH 2 (by omega)]; exact hKP) | omega) (by first | assumption | exact hSD.1 | exact hSD.w _ | (rw [hKH 2 (by omega)]; exact hKP) | omega) (by first | assumption | exact hSD.1 | exact hSD.w _ | (rw [hKH 2 (by omega)]; exact hKP) | omega) (by first | assumption | exact hSD.1 | exact hSD.w _ | (rw [hKH 2 (by omega)]; exact hKP) | omega)) (cwV 1 ht (ts_gV wd_1619 wd_1621 wd_84 wd_134 wd_1622) rfl rfl rfl (by decide +kernel) ⟨Nat.le_of_ble_eq_true rfl, Nat.le_of_ble_eq_true rfl⟩) (gc_preV (ci := 12) (q0 := 1) hK (tw_right hP) (tw_rightD hD) rfl rfl) rfl rfl hl.1 rfl (lv_room (Nat.le_of_ble_eq_true rfl)) dX12_words_177 ⟨Nat.le_of_ble_eq_true rfl, Nat.le_of_ble_eq_true rfl⟩) hP hD hS hA (fun r_22 wt H locs hw hP hD hS => ?_)
    obtain ⟨hT, hkp, lo_r_22, hi_r_22⟩ := hw
    have hW := hW.call (show ∀ x ∈ [], x ∈ [] by decide) hkp
    have hP : va_P (gg_D G) classes ([((am 20), .inl (G.2.2 0, 110, .inl sd)), (m0, .inr (12, [.ref (am 0), .int v1, .int v2, .ref (am 3), .ref (am 4), .ref (am 5), .ref (am 6), .ref (am 7), .int v8, .int v9, .int v10, .int v11, .int v12, .int v13, .int v14, .ref (am 15), .int v16, .ref (am 17), .int v18, .ref (am 19), .ref (am 20), .int v21, .int v22, .int v23, .int v24, .int v25, .ref (am 26), .int v27, .ref (am 28), .ref (am 29), .ref (am 30), .ref (am 31), .long v32, .ref (am 33), .ref (am 34), .ref (am 35), .ref (am 36)]))] ++ wt) H := hP
    have hD : va_D A ([((am 20), .inl (G.2.2 0, 110, .inl sd)), (m0, .inr (12, [.ref (am 0), .int v1, .int v2, .ref (am 3), .ref (am 4), .ref (am 5), .ref (am 6), .ref (am 7), .int v8, .int v9, .int v10, .int v11, .int v12, .int v13, .int v14, .ref (am 15), .int v16, .ref (am 17), .int v18, .ref (am 19), .ref (am 20), .int v21, .int v22, .int v23, .int v24, .int v25, .ref (am 26), .int v27, .ref (am 28), .ref (am 29), .ref (am 30), .ref (am 31), .long v32, .ref (am 33), .ref (am 34), .ref (am 35), .ref (am 36)]))] ++ wt) := hD
    refine gt_callI (wr := [((am 20), .inl (G.2.2 0, 110, .inl sd)), (m0, .inr (12, [.ref (am 0), .int v1, .int v2, .ref (am 3), .ref (am 4), .ref (am 5), .ref (am 6), .ref (am 7), .int v8, .int v9, .int v10, .int v11, .int v12, .int v13, .int v14, .ref (am 15), .int v16, .ref (am 17), .int v18, .ref (am 19), .ref (am 20), .int v21, .int v22, .int v23, .int v24, .int v25, .ref (am 26), .int v27, .ref (am 28), .ref (am 29), .ref (am 30), .ref (am 31), .long v32, .ref (am 33), .ref (am 34), .ref (am 35), .ref (am 36)]))]) (va_runS (As := [.int r_22]) (rest := [.int 9, .ref (am 19)]) ⟨hx, hb, hml, hown, ht⟩ (d_m_bits l G Γ H.size wt hT r_22 (by omega) (by omega)) (va_cwS 1 ht (ts_gS wd_1646 wd_1647 wd_134 wd_1648) rfl rfl rfl (by decide +kernel) ⟨Nat.le_of_ble_eq_true rfl, Nat.le_of_ble_eq_true rfl⟩) (gc_preS hK (tw_right hP) (tw_rightD hD)) rfl rfl hl.1 rfl (lv_room (Nat.le_of_ble_eq_true rfl)) dX12_words_180 ⟨Nat.le_of_ble_eq_true rfl, Nat.le_of_ble_eq_true rfl⟩) hP hD hS hA (fun r_23 wt H locs hw hP hD hS => ?_)
    obtain ⟨hT, hkp, lo_r_23, hi_r_23, rp_r_23⟩ := hw
    have hW := hW.call (show ∀ x ∈ [], x ∈ [] by decide) hkp
    have hP : va_P (gg_D G) classes ([((am 20), .inl (G.2.2 0, 110, .inl sd)), (m0, .inr (12, [.ref (am 0), .int v1, .int v2, .ref (am 3), .ref (am 4), .ref (am 5), .ref (am 6), .ref (am 7), .int v8, .int v9, .int v10, .int v11, .int v12, .int v13, .int v14, .ref (am 15), .int v16, .ref (am 17), .int v18, .ref (am 19), .ref (am 20), .int v21, .int v22, .int v23, .int v24, .int v25, .ref (am 26), .int v27, .ref (am 28), .ref (am 29), .ref (am 30), .ref (am 31), .long v32, .ref (am 33), .ref (am 34), .ref (am 35), .ref (am 36)]))] ++ wt) H := hP
    have hD : va_D A ([((am 20), .inl (G.2.2 0, 110, .inl sd)), (m0, .inr (12, [.ref (am 0), .int v1, .int v2, .ref (am 3), .ref (am 4), .ref (am 5), .ref (am 6), .ref (am 7), .int v8, .int v9, .int v10, .int v11, .int v12, .int v13, .int v14, .ref (am 15), .int v16, .ref (am 17), .int v18, .ref (am 19), .ref (am 20), .int v21, .int v22, .int v23, .int v24, .int v25, .ref (am 26), .int v27, .ref (am 28), .ref (am 29), .ref (am 30), .ref (am 31), .long v32, .ref (am 33), .ref (am 34), .ref (am 35), .ref (am 36)]))] ++ wt) := hD
    refine lv_i2l hx hb dX12_words_183 rfl ?_
    refine lv_topl (fun m_24 em_24 => ?_)
    have fm_24 := il_i2l em_24
    refine tr_last hx hb hK hT hP hD hS 30 k19 (by decide) (by decide) (show vp_in _ (tk_len 30) from ia_in (n := 10) (by omega) (by omega)) dX12_words_184 (fun H locs wt hT hfl hP hD hS => ?_)
    have hW := hW.arr hfl
    have hP9 : va_P (gg_D G) classes ([((am 20), .inl (G.2.2 0, 110, .inl sd)), (m0, .inr (12, [.ref (am 0), .int v1, .int v2, .ref (am 3), .ref (am 4), .ref (am 5), .ref (am 6), .ref (am 7), .int v8, .int v9, .int v10, .int v11, .int v12, .int v13, .int v14, .ref (am 15), .int v16, .ref (am 17), .int v18, .ref (am 19), .ref (am 20), .int v21, .int v22, .int v23, .int v24, .int v25, .ref (am 26), .int v27, .ref (am 28), .ref (am 29), .ref (am 30), .ref (am 31), .long v32, .ref (am 33), .ref (am 34), .ref (am 35), .ref (am 36)]))] ++ wt) _ := hP
    have hD9 : va_D A ([((am 20), .inl (G.2.2 0, 110, .inl sd)), (m0, .inr (12, [.ref (am 0), .int v1, .int v2, .ref (am 3), .ref (am 4), .ref (am 5), .ref (am 6), .ref (am 7), .int v8, .int v9, .int v10, .int v11, .int v12, .int v13, .int v14, .ref (am 15), .int v16, .ref (am 17), .int v18, .ref (am 19), .ref (am 20), .int v21, .int v22, .int v23, .int v24, .int v25, .ref (am 26), .int v27, .ref (am 28), .ref (am 29), .ref (am 30), .ref (am 31), .long v32, .ref (am 33), .ref (am 34), .ref (am 35), .ref (am 36)]))] ++ wt) := hD
    exact W.vret hx hb hr (gq_endV wt ⟨hT, hW⟩ hP9 hD9 hS) hS.2.2 dX12_words_185
  · rw [Int32.le_iff_toInt_le] at c_6
    refine lv_iload_n hx hb dX12_words_29 rfl (lv_at hl 2 rfl) ?_
    refine lv_iload hx hb dX12_words_30 (lv_at hl 0 rfl) ?_
    refine gt_callI (wr := [((am 20), .inl (G.2.2 0, 110, .inl sd)), (m0, .inr (12, [.ref (am 0), .int v1, .int v2, .ref (am 3), .ref (am 4), .ref (am 5), .ref (am 6), .ref (am 7), .int v8, .int v9, .int v10, .int v11, .int v12, .int v13, .int v14, .ref (am 15), .int v16, .ref (am 17), .int v18, .ref (am 19), .ref (am 20), .int v21, .int v22, .int v23, .int v24, .int v25, .ref (am 26), .int v27, .ref (am 28), .ref (am 29), .ref (am 30), .ref (am 31), .long v32, .ref (am 33), .ref (am 34), .ref (am 35), .ref (am 36)]))]) (va_runS (As := [.int t_4, .int x18_0]) (rest := []) ⟨hx, hb, hml, hown, ht⟩ (d_m_isOf l G Γ H.size wt hT t_4 x18_0 (by omega) (by omega) (by omega) (by omega)) (va_cwS 2 ht (ts_gS wd_1635 wd_1636 wd_134 wd_1637) rfl rfl rfl (by decide +kernel) ⟨Nat.le_of_ble_eq_true rfl, Nat.le_of_ble_eq_true rfl⟩) (gc_preS hK (tw_right hP) (tw_rightD hD)) rfl rfl hl.1 rfl (lv_room (Nat.le_of_ble_eq_true rfl)) dX12_words_32 ⟨Nat.le_of_ble_eq_true rfl, Nat.le_of_ble_eq_true rfl⟩) hP hD hS hA (fun r_25 wt H locs hw hP hD hS => ?_)
    obtain ⟨hT, hkp, lo_r_25, hi_r_25, rp_r_25⟩ := hw
    have hW := hW.call (show ∀ x ∈ [], x ∈ [] by decide) hkp
    have hP : va_P (gg_D G) classes ([((am 20), .inl (G.2.2 0, 110, .inl sd)), (m0, .inr (12, [.ref (am 0), .int v1, .int v2, .ref (am 3), .ref (am 4), .ref (am 5), .ref (am 6), .ref (am 7), .int v8, .int v9, .int v10, .int v11, .int v12, .int v13, .int v14, .ref (am 15), .int v16, .ref (am 17), .int v18, .ref (am 19), .ref (am 20), .int v21, .int v22, .int v23, .int v24, .int v25, .ref (am 26), .int v27, .ref (am 28), .ref (am 29), .ref (am 30), .ref (am 31), .long v32, .ref (am 33), .ref (am 34), .ref (am 35), .ref (am 36)]))] ++ wt) H := hP
    have hD : va_D A ([((am 20), .inl (G.2.2 0, 110, .inl sd)), (m0, .inr (12, [.ref (am 0), .int v1, .int v2, .ref (am 3), .ref (am 4), .ref (am 5), .ref (am 6), .ref (am 7), .int v8, .int v9, .int v10, .int v11, .int v12, .int v13, .int v14, .ref (am 15), .int v16, .ref (am 17), .int v18, .ref (am 19), .ref (am 20), .int v21, .int v22, .int v23, .int v24, .int v25, .ref (am 26), .int v27, .ref (am 28), .ref (am 29), .ref (am 30), .ref (am 31), .long v32, .ref (am 33), .ref (am 34), .ref (am 35), .ref (am 36)]))] ++ wt) := hD
    refine lv_if_eq (tgt := 59) hx hb dX12_words_35 (by decide) (fun c_26 => ?_) (fun c_26 => ?_)
    · rw [← Int32.toInt_inj] at c_26
      obtain ⟨t_27, et_27⟩ : ∃ zz_ : Int32, x18_0 + Int32.ofInt (1) = zz_ := ⟨_, rfl⟩
      have ft_27 : t_27.toInt = x18_0.toInt + (1 : Int32).toInt := ia_add (y := 1) et_27 (by omega) (by omega)
      refine lv_iinc (v := t_27) (lv' := [(5, .int t_27), (4, .int x18_1), (3, .int t_4), (0, .ref m0), (1, .int b), (2, .int w)]) hx hb dX12_words_59 hl (k := 0) rfl et_27 (by decide) rfl (fun ls hl => ?_)
      refine lv_goto (tgt := 18) hx hb dX12_words_62 (by decide) ?_
      exact ih18 (t_27, x18_1) (show 0 ≤ t_27.toInt ∧ t_27.toInt ≤ 5 from ⟨by omega, by omega⟩) (show (5 - t_27.toInt).toNat < (5 - x18_0.toInt).toNat by omega) H locs wt ls hT hW hP hD hS (lv_sub hl [0, 1, 2, 3, 4, 5] rfl)
    · rw [← Int32.toInt_inj] at c_26
      refine lv_aload_n hx hb dX12_words_38 rfl (lv_at hl 3 rfl) ?_
      refine lv_iload hx hb dX12_words_39 (lv_at hl 0 rfl) ?_
      refine lv_iload_n hx hb dX12_words_41 rfl (lv_at hl 5 rfl) ?_
      have hP : va_P (gg_D G) classes ([] ++ ([((am 20), .inl (G.2.2 0, 110, .inl sd)), (m0, .inr (12, [.ref (am 0), .int v1, .int v2, .ref (am 3), .ref (am 4), .ref (am 5), .ref (am 6), .ref (am 7), .int v8, .int v9, .int v10, .int v11, .int v12, .int v13, .int v14, .ref (am 15), .int v16, .ref (am 17), .int v18, .ref (am 19), .ref (am 20), .int v21, .int v22, .int v23, .int v24, .int v25, .ref (am 26), .int v27, .ref (am 28), .ref (am 29), .ref (am 30), .ref (am 31), .long v32, .ref (am 33), .ref (am 34), .ref (am 35), .ref (am 36)]))] ++ wt)) H := hP
      have hD : va_D A ([] ++ ([((am 20), .inl (G.2.2 0, 110, .inl sd)), (m0, .inr (12, [.ref (am 0), .int v1, .int v2, .ref (am 3), .ref (am 4), .ref (am 5), .ref (am 6), .ref (am 7), .int v8, .int v9, .int v10, .int v11, .int v12, .int v13, .int v14, .ref (am 15), .int v16, .ref (am 17), .int v18, .ref (am 19), .ref (am 20), .int v21, .int v22, .int v23, .int v24, .int v25, .ref (am 26), .int v27, .ref (am 28), .ref (am 29), .ref (am 30), .ref (am 31), .long v32, .ref (am 33), .ref (am 34), .ref (am 35), .ref (am 36)]))] ++ wt)) := hD
      refine gt_callI (wr := []) (va_runV (As := [.int x18_0, .int w]) (rest := []) ⟨hx, hb, hml, hown, ht⟩ (d_m_worthTo l G Γ H.size wt hT x18_0 w m0 am v1 v2 v8 v9 v10 v11 v12 v13 v14 v16 v18 v21 v22 v23 v24 v25 v27 v32 sd (by omega) (by omega) (by omega) (by omega) (by first | assumption | exact hSD.1 | exact hSD.w _ | (rw [hKH 2 (by omega)]; exact hKP) | omega) (by first | assumption | exact hSD.1 | exact hSD.w _ | (rw [hKH 2 (by omega)]; exact hKP) | omega) (by first | assumption | exact hSD.1 | exact hSD.w _ | (rw [hKH 2 (by omega)]; exact hKP) | omega) (by first | assumption | exact hSD.1 | exact hSD.w _ | (rw [hKH 2 (by omega)]; exact hKP) | omega) (by first | assumption | exact hSD.1 | exact hSD.w _ | (rw [hKH 2 (by omega)]; exact hKP) | omega) (by first | assumption | exact hSD.1 | exact hSD.w _ | (rw [hKH 2 (by omega)]; exact hKP) | omega) (by first | assumption | exact hSD.1 | exact hSD.w _ | (rw [hKH 2 (by omega)]; exact hKP) | omega) (by first | assumption | exact hSD.1 | exact hSD.w _ | (rw [hKH 2 (by omega)]; exact hKP) | omega) (by first | assumption | exact hSD.1 | exact hSD.w _ | (rw [hKH 2 (by omega)]; exact hKP) | omega) (by first | assumption | exact hSD.1 | exact hSD.w _ | (rw [hKH 2 (by omega)]; exact hKP) | omega) (by first | assumption | exact hSD.1 | exact hSD.w _ | (rw [hKH 2 (by omega)]; exact hKP) | omega) (by first | assumption | exact hSD.1 | exact hSD.w _ | (rw [hKH 2 (by omega)]; exact hKP) | omega) (by first | assumption | exact hSD.1 | exact hSD.w _ | (rw [hKH 2 (by omega)]; exact hKP) | omega) (by first | assumption | exact hSD.1 | exact hSD.w _ | (rw [hKH 2 (by omega)]; exact hKP) | omega) (by first | assumption | exact hSD.1 | exact hSD.w _ | (rw [hKH 2 (by omega)]; exact hKP) | omega) (by first | assumption | exact hSD.1 | exact hSD.w _ | (rw [hKH 2 (by omega)]; exact hKP) | omega) (by first | assumption | exact hSD.1 | exact hSD.w _ | (rw [hKH 2 (by omega)]; exact hKP) | omega) (by first | assumption | exact hSD.1 | exact hSD.w _ | (rw [hKH 2 (by omega)]; exact hKP) | omega) (by first | assumption | exact hSD.1 | exact hSD.w _ | (rw [hKH 2 (by omega)]; exact hKP) | omega) (by first | assumption | exact hSD.1 | exact hSD.w _ | (rw [hKH 2 (by omega)]; exact hKP) | omega) (by first | assumption | exact hSD.1 | exact hSD.w _ | (rw [hKH 2 (by omega)]; exact hKP) | omega) (by first | assumption | exact hSD.1 | exact hSD.w _ | (rw [hKH 2 (by omega)]; exact hKP) | omega) (by first | assumption | exact hSD.1 | exact hSD.w _ | (rw [hKH 2 (by omega)]; exact hKP) | omega)) (cwV 2 ht (ts_gV wd_1574 wd_1576 wd_78 wd_134 wd_1577) rfl rfl rfl (by decide +kernel) ⟨Nat.le_of_ble_eq_true rfl, Nat.le_of_ble_eq_true rfl⟩) (gc_preV (ci := 12) (q0 := 1) hK (tw_right hP) (tw_rightD hD) rfl rfl) rfl rfl hl.1 rfl (lv_room (Nat.le_of_ble_eq_true rfl)) dX12_words_42 ⟨Nat.le_of_ble_eq_true rfl, Nat.le_of_ble_eq_true rfl⟩) hP hD hS hA (fun r_28 wt H locs hw hP hD hS => ?_)
      obtain ⟨hT, hkp⟩ := hw
      have hW := hW.call (show ∀ x ∈ [], x ∈ [] by decide) hkp
      have hP : va_P (gg_D G) classes ([((am 20), .inl (G.2.2 0, 110, .inl sd)), (m0, .inr (12, [.ref (am 0), .int v1, .int v2, .ref (am 3), .ref (am 4), .ref (am 5), .ref (am 6), .ref (am 7), .int v8, .int v9, .int v10, .int v11, .int v12, .int v13, .int v14, .ref (am 15), .int v16, .ref (am 17), .int v18, .ref (am 19), .ref (am 20), .int v21, .int v22, .int v23, .int v24, .int v25, .ref (am 26), .int v27, .ref (am 28), .ref (am 29), .ref (am 30), .ref (am 31), .long v32, .ref (am 33), .ref (am 34), .ref (am 35), .ref (am 36)]))] ++ wt) H := hP
      have hD : va_D A ([((am 20), .inl (G.2.2 0, 110, .inl sd)), (m0, .inr (12, [.ref (am 0), .int v1, .int v2, .ref (am 3), .ref (am 4), .ref (am 5), .ref (am 6), .ref (am 7), .int v8, .int v9, .int v10, .int v11, .int v12, .int v13, .int v14, .ref (am 15), .int v16, .ref (am 17), .int v18, .ref (am 19), .ref (am 20), .int v21, .int v22, .int v23, .int v24, .int v25, .ref (am 26), .int v27, .ref (am 28), .ref (am 29), .ref (am 30), .ref (am 31), .long v32, .ref (am 33), .ref (am 34), .ref (am 35), .ref (am 36)]))] ++ wt) := hD
      refine lv_iload hx hb dX12_words_45 (lv_at hl 1 rfl) ?_
      refine lv_icmp_le (tgt := 59) hx hb dX12_words_47 (by decide) (fun c_29 => ?_) (fun c_29 => ?_)
      · rw [Int32.le_iff_toInt_le] at c_29
        obtain ⟨t_30, et_30⟩ : ∃ zz_ : Int32, x18_0 + Int32.ofInt (1) = zz_ := ⟨_, rfl⟩
        have ft_30 : t_30.toInt = x18_0.toInt + (1 : Int32).toInt := ia_add (y := 1) et_30 (by omega) (by omega)
        refine lv_iinc (v := t_30) (lv' := [(5, .int t_30), (4, .int x18_1), (3, .int t_4), (0, .ref m0), (1, .int b), (2, .int w)]) hx hb dX12_words_59 hl (k := 0) rfl et_30 (by decide) rfl (fun ls hl => ?_)
        refine lv_goto (tgt := 18) hx hb dX12_words_62 (by decide) ?_
        exact ih18 (t_30, x18_1) (show 0 ≤ t_30.toInt ∧ t_30.toInt ≤ 5 from ⟨by omega, by omega⟩) (show (5 - t_30.toInt).toNat < (5 - x18_0.toInt).toNat by omega) H locs wt ls hT hW hP hD hS (lv_sub hl [0, 1, 2, 3, 4, 5] rfl)
      · rw [Int32.le_iff_toInt_le] at c_29
        refine lv_aload_n hx hb dX12_words_50 rfl (lv_at hl 3 rfl) ?_
        refine lv_iload hx hb dX12_words_51 (lv_at hl 0 rfl) ?_
        refine lv_iload_n hx hb dX12_words_53 rfl (lv_at hl 5 rfl) ?_
        have hP : va_P (gg_D G) classes ([] ++ ([((am 20), .inl (G.2.2 0, 110, .inl sd)), (m0, .inr (12, [.ref (am 0), .int v1, .int v2, .ref (am 3), .ref (am 4), .ref (am 5), .ref (am 6), .ref (am 7), .int v8, .int v9, .int v10, .int v11, .int v12, .int v13, .int v14, .ref (am 15), .int v16, .ref (am 17), .int v18, .ref (am 19), .ref (am 20), .int v21, .int v22, .int v23, .int v24, .int v25, .ref (am 26), .int v27, .ref (am 28), .ref (am 29), .ref (am 30), .ref (am 31), .long v32, .ref (am 33), .ref (am 34), .ref (am 35), .ref (am 36)]))] ++ wt)) H := hP
        have hD : va_D A ([] ++ ([((am 20), .inl (G.2.2 0, 110, .inl sd)), (m0, .inr (12, [.ref (am 0), .int v1, .int v2, .ref (am 3), .ref (am 4), .ref (am 5), .ref (am 6), .ref (am 7), .int v8, .int v9, .int v10, .int v11, .int v12, .int v13, .int v14, .ref (am 15), .int v16, .ref (am 17), .int v18, .ref (am 19), .ref (am 20), .int v21, .int v22, .int v23, .int v24, .int v25, .ref (am 26), .int v27, .ref (am 28), .ref (am 29), .ref (am 30), .ref (am 31), .long v32, .ref (am 33), .ref (am 34), .ref (am 35), .ref (am 36)]))] ++ wt)) := hD
        refine gt_callI (wr := []) (va_runV (As := [.int x18_0, .int w]) (rest := []) ⟨hx, hb, hml, hown, ht⟩ (d_m_worthTo l G Γ H.size wt hT x18_0 w m0 am v1 v2 v8 v9 v10 v11 v12 v13 v14 v16 v18 v21 v22 v23 v24 v25 v27 v32 sd (by omega) (by omega) (by omega) (by omega) (by first | assumption | exact hSD.1 | exact hSD.w _ | (rw [hKH 2 (by omega)]; exact hKP) | omega) (by first | assumption | exact hSD.1 | exact hSD.w _ | (rw [hKH 2 (by omega)]; exact hKP) | omega) (by first | assumption | exact hSD.1 | exact hSD.w _ | (rw [hKH 2 (by omega)]; exact hKP) | omega) (by first | assumption | exact hSD.1 | exact hSD.w _ | (rw [hKH 2 (by omega)]; exact hKP) | omega) (by first | assumption | exact hSD.1 | exact hSD.w _ | (rw [hKH 2 (by omega)]; exact hKP) | omega) (by first | assumption | exact hSD.1 | exact hSD.w _ | (rw [hKH 2 (by omega)]; exact hKP) | omega) (by first | assumption | exact hSD.1 | exact hSD.w _ | (rw [hKH 2 (by omega)]; exact hKP) | omega) (by first | assumption | exact hSD.1 | exact hSD.w _ | (rw [hKH 2 (by omega)]; exact hKP) | omega) (by first | assumption | exact hSD.1 | exact hSD.w _ | (rw [hKH 2 (by omega)]; exact hKP) | omega) (by first | assumption | exact hSD.1 | exact hSD.w _ | (rw [hKH 2 (by omega)]; exact hKP) | omega) (by first | assumption | exact hSD.1 | exact hSD.w _ | (rw [hKH 2 (by omega)]; exact hKP) | omega) (by first | assumption | exact hSD.1 | exact hSD.w _ | (rw [hKH 2 (by omega)]; exact hKP) | omega) (by first | assumption | exact hSD.1 | exact hSD.w _ | (rw [hKH 2 (by omega)]; exact hKP) | omega) (by first | assumption | exact hSD.1 | exact hSD.w _ | (rw [hKH 2 (by omega)]; exact hKP) | omega) (by first | assumption | exact hSD.1 | exact hSD.w _ | (rw [hKH 2 (by omega)]; exact hKP) | omega) (by first | assumption | exact hSD.1 | exact hSD.w _ | (rw [hKH 2 (by omega)]; exact hKP) | omega) (by first | assumption | exact hSD.1 | exact hSD.w _ | (rw [hKH 2 (by omega)]; exact hKP) | omega) (by first | assumption | exact hSD.1 | exact hSD.w _ | (rw [hKH 2 (by omega)]; exact hKP) | omega) (by first | assumption | exact hSD.1 | exact hSD.w _ | (rw [hKH 2 (by omega)]; exact hKP) | omega) (by first | assumption | exact hSD.1 | exact hSD.w _ | (rw [hKH 2 (by omega)]; exact hKP) | omega) (by first | assumption | exact hSD.1 | exact hSD.w _ | (rw [hKH 2 (by omega)]; exact hKP) | omega) (by first | assumption | exact hSD.1 | exact hSD.w _ | (rw [hKH 2 (by omega)]; exact hKP) | omega) (by first | assumption | exact hSD.1 | exact hSD.w _ | (rw [hKH 2 (by omega)]; exact hKP) | omega)) (cwV 2 ht (ts_gV wd_1574 wd_1576 wd_78 wd_134 wd_1577) rfl rfl rfl (by decide +kernel) ⟨Nat.le_of_ble_eq_true rfl, Nat.le_of_ble_eq_true rfl⟩) (gc_preV (ci := 12) (q0 := 1) hK (tw_right hP) (tw_rightD hD) rfl rfl) rfl rfl hl.1 rfl (lv_room (Nat.le_of_ble_eq_true rfl)) dX12_words_54 ⟨Nat.le_of_ble_eq_true rfl, Nat.le_of_ble_eq_true rfl⟩) hP hD hS hA (fun r_31 wt H locs hw hP hD hS => ?_)
        obtain ⟨hT, hkp⟩ := hw
        have hW := hW.call (show ∀ x ∈ [], x ∈ [] by decide) hkp
        have hP : va_P (gg_D G) classes ([((am 20), .inl (G.2.2 0, 110, .inl sd)), (m0, .inr (12, [.ref (am 0), .int v1, .int v2, .ref (am 3), .ref (am 4), .ref (am 5), .ref (am 6), .ref (am 7), .int v8, .int v9, .int v10, .int v11, .int v12, .int v13, .int v14, .ref (am 15), .int v16, .ref (am 17), .int v18, .ref (am 19), .ref (am 20), .int v21, .int v22, .int v23, .int v24, .int v25, .ref (am 26), .int v27, .ref (am 28), .ref (am 29), .ref (am 30), .ref (am 31), .long v32, .ref (am 33), .ref (am 34), .ref (am 35), .ref (am 36)]))] ++ wt) H := hP
        have hD : va_D A ([((am 20), .inl (G.2.2 0, 110, .inl sd)), (m0, .inr (12, [.ref (am 0), .int v1, .int v2, .ref (am 3), .ref (am 4), .ref (am 5), .ref (am 6), .ref (am 7), .int v8, .int v9, .int v10, .int v11, .int v12, .int v13, .int v14, .ref (am 15), .int v16, .ref (am 17), .int v18, .ref (am 19), .ref (am 20), .int v21, .int v22, .int v23, .int v24, .int v25, .ref (am 26), .int v27, .ref (am 28), .ref (am 29), .ref (am 30), .ref (am 31), .long v32, .ref (am 33), .ref (am 34), .ref (am 35), .ref (am 36)]))] ++ wt) := hD
        refine lv_istore (lv' := [(4, .int r_31), (5, .int x18_0), (3, .int t_4), (0, .ref m0), (1, .int b), (2, .int w)]) hx hb dX12_words_57 hl (by decide) rfl (fun ls hl => ?_)
        obtain ⟨t_32, et_32⟩ : ∃ zz_ : Int32, x18_0 + Int32.ofInt (1) = zz_ := ⟨_, rfl⟩
        have ft_32 : t_32.toInt = x18_0.toInt + (1 : Int32).toInt := ia_add (y := 1) et_32 (by omega) (by omega)
        refine lv_iinc (v := t_32) (lv' := [(5, .int t_32), (4, .int r_31), (3, .int t_4), (0, .ref m0), (1, .int b), (2, .int w)]) hx hb dX12_words_59 hl (k := 1) rfl et_32 (by decide) rfl (fun ls hl => ?_)
        refine lv_goto (tgt := 18) hx hb dX12_words_62 (by decide) ?_
        exact ih18 (t_32, r_31) (show 0 ≤ t_32.toInt ∧ t_32.toInt ≤ 5 from ⟨by omega, by omega⟩) (show (5 - t_32.toInt).toNat < (5 - x18_0.toInt).toNat by omega) H locs wt ls hT hW hP hD hS (lv_sub hl [0, 1, 2, 3, 4, 5] rfl)
set_option maxHeartbeats 4000000 in
set_option maxRecDepth 100000 in
theorem d_m_speaks (l : Launch) (G : gg_T) (Γ : Nat → Nat) (sz : Nat) (wt : va_W) (hT : tk_ty G Γ wt) (b : Int32) (w : Int32) (m0 : Nat) (am : Nat → Nat) (v1 : Int32) (v2 : Int32) (v8 : Int32) (v9 : Int32) (v10 : Int32) (v11 : Int32) (v12 : Int32) (v13 : Int32) (v14 : Int32) (v16 : Int32) (v18 : Int32) (v21 : Int32) (v22 : Int32) (v23 : Int32) (v24 : Int32) (v25 : Int32) (v27 : Int32) (v32 : Int64) (cs : Nat → Int32) (cl : Nat → Int32) (sg : Nat → Int32) (sd : Nat → Int32) (lo_b : 0 ≤ b.toInt) (hi_b : b.toInt ≤ 4) (lo_w : 0 ≤ w.toInt) (hi_w : w.toInt ≤ 2) (k17 : Γ (am 17) = 32) (k19 : Γ (am 19) = 30) (k30 : Γ (am 30) = 28) (k31 : Γ (am 31) = 28) (lo_v1 : 0 ≤ v1.toInt) (hi_v1 : v1.toInt ≤ 400) (lo_v2 : 0 ≤ v2.toInt) (hi_v2 : v2.toInt ≤ 6) (lo_v8 : 0 ≤ v8.toInt) (hi_v8 : v8.toInt ≤ 400) (lo_v11 : 0 ≤ v11.toInt) (hi_v11 : v11.toInt ≤ 6) (lo_v12 : 0 ≤ v12.toInt) (hi_v12 : v12.toInt ≤ 60) (lo_v16 : 0 ≤ v16.toInt) (hi_v16 : v16.toInt ≤ 400) (lo_v21 : -1 ≤ v21.toInt) (hi_v21 : v21.toInt ≤ 5) (lo_v23 : 0 ≤ v23.toInt) (hi_v23 : v23.toInt ≤ 31) (lo_v27 : 0 ≤ v27.toInt) (hi_v27 : v27.toInt ≤ 20) (xfr : v21.toInt < v2.toInt) (hRU : rRU cs cl sg v2.toInt) (hSD : SD sd) : Met l yX12_speaks (ts_L yX12_speaks cX12_speaks 4 (some .boolean)) ({ frames := 4, cells := 0, slots := 0, locals := 91 }) (gc_P G ([((am 6), .inl (G.2.2 0, 6, .inl cs)), ((am 5), .inl (G.2.2 0, 288, .inl cl)), ((am 3), .inl (G.2.2 0, 2400, .inl sg)), ((am 20), .inl (G.2.2 0, 110, .inl sd)), (m0, .inr (12, [.ref (am 0), .int v1, .int v2, .ref (am 3), .ref (am 4), .ref (am 5), .ref (am 6), .ref (am 7), .int v8, .int v9, .int v10, .int v11, .int v12, .int v13, .int v14, .ref (am 15), .int v16, .ref (am 17), .int v18, .ref (am 19), .ref (am 20), .int v21, .int v22, .int v23, .int v24, .int v25, .ref (am 26), .int v27, .ref (am 28), .ref (am 29), .ref (am 30), .ref (am 31), .long v32, .ref (am 33), .ref (am 34), .ref (am 35), .ref (am 36)]))] ++ wt) sz [.ref m0, .int b, .int w]) (gc_I G (va_A ([((am 6), .inl (G.2.2 0, 6, .inl cs)), ((am 5), .inl (G.2.2 0, 288, .inl cl)), ((am 3), .inl (G.2.2 0, 2400, .inl sg)), ((am 20), .inl (G.2.2 0, 110, .inl sd)), (m0, .inr (12, [.ref (am 0), .int v1, .int v2, .ref (am 3), .ref (am 4), .ref (am 5), .ref (am 6), .ref (am 7), .int v8, .int v9, .int v10, .int v11, .int v12, .int v13, .int v14, .ref (am 15), .int v16, .ref (am 17), .int v18, .ref (am 19), .ref (am 20), .int v21, .int v22, .int v23, .int v24, .int v25, .ref (am 26), .int v27, .ref (am 28), .ref (am 29), .ref (am 30), .ref (am 31), .long v32, .ref (am 33), .ref (am 34), .ref (am 35), .ref (am 36)]))] ++ wt) sz) (fun r (u : (Int32) × va_W) => match u with | (w18, wt1) => tk_ty G Γ wt1 ∧ tk_kp [] wt wt1 ∧ 0 ≤ r.toInt ∧ r.toInt ≤ 1) (fun (u : (Int32) × va_W) => match u with | (w18, wt1) => [((am 6), .inl (G.2.2 0, 6, .inl cs)), ((am 5), .inl (G.2.2 0, 288, .inl cl)), ((am 3), .inl (G.2.2 0, 2400, .inl sg)), ((am 20), .inl (G.2.2 0, 110, .inl sd)), (m0, .inr (12, [.ref (am 0), .int v1, .int v2, .ref (am 3), .ref (am 4), .ref (am 5), .ref (am 6), .ref (am 7), .int v8, .int v9, .int v10, .int v11, .int v12, .int v13, .int v14, .ref (am 15), .int v16, .ref (am 17), .int w18, .ref (am 19), .ref (am 20), .int v21, .int v22, .int v23, .int v24, .int v25, .ref (am 26), .int v27, .ref (am 28), .ref (am 29), .ref (am 30), .ref (am 31), .long v32, .ref (am 33), .ref (am 34), .ref (am 35), .ref (am 36)]))] ++ wt1)) 0 0 (va_A ([((am 6), .inl (G.2.2 0, 6, .inl cs)), ((am 5), .inl (G.2.2 0, 288, .inl cl)), ((am 3), .inl (G.2.2 0, 2400, .inl sg)), ((am 20), .inl (G.2.2 0, 110, .inl sd)), (m0, .inr (12, [.ref (am 0), .int v1, .int v2, .ref (am 3), .ref (am 4), .ref (am 5), .ref (am 6), .ref (am 7), .int v8, .int v9, .int v10, .int v11, .int v12, .int v13, .int v14, .ref (am 15), .int v16, .ref (am 17), .int v18, .ref (am 19), .ref (am 20), .int v21, .int v22, .int v23, .int v24, .int v25, .ref (am 26), .int v27, .ref (am 28), .ref (am 29), .ref (am 30), .ref (am 31), .long v32, .ref (am 33), .ref (am 34), .ref (am 35), .ref (am 36)]))] ++ wt) sz) := by
  refine Met.ofW (cc := cX12_speaks) (maxL := 4) (ret := (some .boolean)) (by decide) rfl ?_
  intro p e s m args below meth c s₁ B hml hv
  obtain ⟨rfl, hsz, hP, hK, hD0⟩ := hv
  have hx := B.exec
  have hb := B.bytes
  have hr := B.returns
  have ht := ts_ht (atoms_spec (ws := ts_L yX12_speaks cX12_speaks 4 (some .boolean)) B.pre)
  have hown : s.vm.findClass RX12 = some m.cls := findClass_of_methodNamed B.named
  have hlocks := B.notSynchronized
  subst hsz
  have hD := hD0.self (sz := s.heap.size)
  generalize hAe : va_A ([((am 6), .inl (G.2.2 0, 6, .inl cs)), ((am 5), .inl (G.2.2 0, 288, .inl cl)), ((am 3), .inl (G.2.2 0, 2400, .inl sg)), ((am 20), .inl (G.2.2 0, 110, .inl sd)), (m0, .inr (12, [.ref (am 0), .int v1, .int v2, .ref (am 3), .ref (am 4), .ref (am 5), .ref (am 6), .ref (am 7), .int v8, .int v9, .int v10, .int v11, .int v12, .int v13, .int v14, .ref (am 15), .int v16, .ref (am 17), .int v18, .ref (am 19), .ref (am 20), .int v21, .int v22, .int v23, .int v24, .int v25, .ref (am 26), .int v27, .ref (am 28), .ref (am 29), .ref (am 30), .ref (am 31), .long v32, .ref (am 33), .ref (am 34), .ref (am 35), .ref (am 36)]))] ++ wt) s.heap.size = A at hD ⊢
  have hA : ∀ q : Nat, s.heap.size ≤ q → A q := fun q h => by rw [← hAe]; exact Or.inr h
  clear hAe hD0
  have hS : va_S A s.heap s.heap [] := va_S.rf
  obtain ⟨w0, hw0⟩ : ∃ z, z = wt := ⟨_, rfl⟩
  have hW : tk_kp [] w0 wt := by rw [hw0]; exact tk_kp.rf
  rw [← hw0]
  clear hw0
  have hP : va_P (gg_D G) classes ([((am 6), .inl (G.2.2 0, 6, .inl cs)), ((am 5), .inl (G.2.2 0, 288, .inl cl)), ((am 3), .inl (G.2.2 0, 2400, .inl sg)), ((am 20), .inl (G.2.2 0, 110, .inl sd)), (m0, .inr (12, [.ref (am 0), .int v1, .int v2, .ref (am 3), .ref (am 4), .ref (am 5), .ref (am 6), .ref (am 7), .int v8, .int v9, .int v10, .int v11, .int v12, .int v13, .int v14, .ref (am 15), .int v16, .ref (am 17), .int v18, .ref (am 19), .ref (am 20), .int v21, .int v22, .int v23, .int v24, .int v25, .ref (am 26), .int v27, .ref (am 28), .ref (am 29), .ref (am 30), .ref (am 31), .long v32, .ref (am 33), .ref (am 34), .ref (am 35), .ref (am 36)]))] ++ wt) s.heap := hP
  have hD : va_D A ([((am 6), .inl (G.2.2 0, 6, .inl cs)), ((am 5), .inl (G.2.2 0, 288, .inl cl)), ((am 3), .inl (G.2.2 0, 2400, .inl sg)), ((am 20), .inl (G.2.2 0, 110, .inl sd)), (m0, .inr (12, [.ref (am 0), .int v1, .int v2, .ref (am 3), .ref (am 4), .ref (am 5), .ref (am 6), .ref (am 7), .int v8, .int v9, .int v10, .int v11, .int v12, .int v13, .int v14, .ref (am 15), .int v16, .ref (am 17), .int v18, .ref (am 19), .ref (am 20), .int v21, .int v22, .int v23, .int v24, .int v25, .ref (am 26), .int v27, .ref (am 28), .ref (am 29), .ref (am 30), .ref (am 31), .long v32, .ref (am 33), .ref (am 34), .ref (am 35), .ref (am 36)]))] ++ wt) := hD
  have hl := lv_entry ([.ref m0, .int b, .int w]) (n := 4) (Nat.le_of_ble_eq_true rfl)
  rw [lg_entry_eq]
  generalize (lg_sl ([.ref m0, .int b, .int w]) ++ List.replicate (4 - (lg_sl ([.ref m0, .int b, .int w])).length) Slot.unset).toArray = ls at hl ⊢
  have hl : lv_has ls 4 [(0, .ref m0), (1, .int b), (2, .int w)] := hl
  have hKH : KH sd sd := KH.rf
  have L0 : (0 : Int64).toInt = 0 := by decide +kernel
  have l0 : (0 : Int32).toInt = 0 := by decide +kernel
  have l1 : (1 : Int32).toInt = 1 := by decide +kernel
  refine lv_aload_n hx hb dX12_speaks_0 rfl (lv_at hl 0 rfl) ?_
  refine lv_iload_n hx hb dX12_speaks_1 rfl (lv_at hl 2 rfl) ?_
  refine lv_iconst (v := 1) hx hb dX12_speaks_2 (by decide +kernel) ?_
  have hP : va_P (gg_D G) classes ([((am 6), .inl (G.2.2 0, 6, .inl cs)), ((am 5), .inl (G.2.2 0, 288, .inl cl)), ((am 3), .inl (G.2.2 0, 2400, .inl sg))] ++ ([((am 20), .inl (G.2.2 0, 110, .inl sd)), (m0, .inr (12, [.ref (am 0), .int v1, .int v2, .ref (am 3), .ref (am 4), .ref (am 5), .ref (am 6), .ref (am 7), .int v8, .int v9, .int v10, .int v11, .int v12, .int v13, .int v14, .ref (am 15), .int v16, .ref (am 17), .int v18, .ref (am 19), .ref (am 20), .int v21, .int v22, .int v23, .int v24, .int v25, .ref (am 26), .int v27, .ref (am 28), .ref (am 29), .ref (am 30), .ref (am 31), .long v32, .ref (am 33), .ref (am 34), .ref (am 35), .ref (am 36)]))] ++ wt)) s.heap := hP
  have hD : va_D A ([((am 6), .inl (G.2.2 0, 6, .inl cs)), ((am 5), .inl (G.2.2 0, 288, .inl cl)), ((am 3), .inl (G.2.2 0, 2400, .inl sg))] ++ ([((am 20), .inl (G.2.2 0, 110, .inl sd)), (m0, .inr (12, [.ref (am 0), .int v1, .int v2, .ref (am 3), .ref (am 4), .ref (am 5), .ref (am 6), .ref (am 7), .int v8, .int v9, .int v10, .int v11, .int v12, .int v13, .int v14, .ref (am 15), .int v16, .ref (am 17), .int v18, .ref (am 19), .ref (am 20), .int v21, .int v22, .int v23, .int v24, .int v25, .ref (am 26), .int v27, .ref (am 28), .ref (am 29), .ref (am 30), .ref (am 31), .long v32, .ref (am 33), .ref (am 34), .ref (am 35), .ref (am 36)]))] ++ wt)) := hD
  refine gt_callI (wr := [((am 6), .inl (G.2.2 0, 6, .inl cs)), ((am 5), .inl (G.2.2 0, 288, .inl cl)), ((am 3), .inl (G.2.2 0, 2400, .inl sg))]) (va_runV (As := [.int w, .int 1]) (rest := []) ⟨hx, hb, hml, hown, ht⟩ (d_m_lot1 l G Γ s.heap.size wt hT w m0 am v1 v2 v8 v9 v10 v11 v12 v13 v14 v16 v18 v21 v22 v23 v24 v25 v27 v32 sd (by omega) (by omega) (by first | assumption | exact hSD.1 | exact hSD.w _ | (rw [hKH 2 (by omega)]; exact hKP) | omega) (by first | assumption | exact hSD.1 | exact hSD.w _ | (rw [hKH 2 (by omega)]; exact hKP) | omega) (by first | assumption | exact hSD.1 | exact hSD.w _ | (rw [hKH 2 (by omega)]; exact hKP) | omega) (by first | assumption | exact hSD.1 | exact hSD.w _ | (rw [hKH 2 (by omega)]; exact hKP) | omega) (by first | assumption | exact hSD.1 | exact hSD.w _ | (rw [hKH 2 (by omega)]; exact hKP) | omega) (by first | assumption | exact hSD.1 | exact hSD.w _ | (rw [hKH 2 (by omega)]; exact hKP) | omega) (by first | assumption | exact hSD.1 | exact hSD.w _ | (rw [hKH 2 (by omega)]; exact hKP) | omega) (by first | assumption | exact hSD.1 | exact hSD.w _ | (rw [hKH 2 (by omega)]; exact hKP) | omega) (by first | assumption | exact hSD.1 | exact hSD.w _ | (rw [hKH 2 (by omega)]; exact hKP) | omega) (by first | assumption | exact hSD.1 | exact hSD.w _ | (rw [hKH 2 (by omega)]; exact hKP) | omega) (by first | assumption | exact hSD.1 | exact hSD.w _ | (rw [hKH 2 (by omega)]; exact hKP) | omega) (by first | assumption | exact hSD.1 | exact hSD.w _ | (rw [hKH 2 (by omega)]; exact hKP) | omega) (by first | assumption | exact hSD.1 | exact hSD.w _ | (rw [hKH 2 (by omega)]; exact hKP) | omega) (by first | assumption | exact hSD.1 | exact hSD.w _ | (rw [hKH 2 (by omega)]; exact hKP) | omega) (by first | assumption | exact hSD.1 | exact hSD.w _ | (rw [hKH 2 (by omega)]; exact hKP) | omega) (by first | assumption | exact hSD.1 | exact hSD.w _ | (rw [hKH 2 (by omega)]; exact hKP) | omega) (by first | assumption | exact hSD.1 | exact hSD.w _ | (rw [hKH 2 (by omega)]; exact hKP) | omega) (by first | assumption | exact hSD.1 | exact hSD.w _ | (rw [hKH 2 (by omega)]; exact hKP) | omega) (by first | assumption | exact hSD.1 | exact hSD.w _ | (rw [hKH 2 (by omega)]; exact hKP) | omega) (by first | assumption | exact hSD.1 | exact hSD.w _ | (rw [hKH 2 (by omega)]; exact hKP) | omega) (by first | assumption | exact hSD.1 | exact hSD.w _ | (rw [hKH 2 (by omega)]; exact hKP) | omega) (by first | assumption | exact hSD.1 | exact hSD.w _ | (rw [hKH 2 (by omega)]; exact hKP) | omega) (by first | assumption | exact hSD.1 | exact hSD.w _ | (rw [hKH 2 (by omega)]; exact hKP) | omega)) (cwV 2 ht (ts_gV wd_1566 wd_1568 wd_76 wd_134 wd_1569) rfl rfl rfl (by decide +kernel) ⟨Nat.le_of_ble_eq_true rfl, Nat.le_of_ble_eq_true rfl⟩) (gc_preV (ci := 12) (q0 := 1) hK (tw_right hP) (tw_rightD hD) rfl rfl) rfl rfl hl.1 rfl (lv_room (Nat.le_of_ble_eq_true rfl)) dX12_speaks_3 ⟨Nat.le_of_ble_eq_true rfl, Nat.le_of_ble_eq_true rfl⟩) hP hD hS hA (fun r_1 wt H locs hw hP hD hS => ?_)
  obtain ⟨hT, hkp, rp_r_1⟩ := hw
  have hW := hW.call (show ∀ x ∈ [], x ∈ [] by decide) hkp
  have hP : va_P (gg_D G) classes ([((am 6), .inl (G.2.2 0, 6, .inl cs)), ((am 5), .inl (G.2.2 0, 288, .inl cl)), ((am 3), .inl (G.2.2 0, 2400, .inl sg)), ((am 20), .inl (G.2.2 0, 110, .inl sd)), (m0, .inr (12, [.ref (am 0), .int v1, .int v2, .ref (am 3), .ref (am 4), .ref (am 5), .ref (am 6), .ref (am 7), .int v8, .int v9, .int v10, .int v11, .int v12, .int v13, .int v14, .ref (am 15), .int v16, .ref (am 17), .int v18, .ref (am 19), .ref (am 20), .int v21, .int v22, .int v23, .int v24, .int v25, .ref (am 26), .int v27, .ref (am 28), .ref (am 29), .ref (am 30), .ref (am 31), .long v32, .ref (am 33), .ref (am 34), .ref (am 35), .ref (am 36)]))] ++ wt) H := hP
  have hD : va_D A ([((am 6), .inl (G.2.2 0, 6, .inl cs)), ((am 5), .inl (G.2.2 0, 288, .inl cl)), ((am 3), .inl (G.2.2 0, 2400, .inl sg)), ((am 20), .inl (G.2.2 0, 110, .inl sd)), (m0, .inr (12, [.ref (am 0), .int v1, .int v2, .ref (am 3), .ref (am 4), .ref (am 5), .ref (am 6), .ref (am 7), .int v8, .int v9, .int v10, .int v11, .int v12, .int v13, .int v14, .ref (am 15), .int v16, .ref (am 17), .int v18, .ref (am 19), .ref (am 20), .int v21, .int v22, .int v23, .int v24, .int v25, .ref (am 26), .int v27, .ref (am 28), .ref (am 29), .ref (am 30), .ref (am 31), .long v32, .ref (am 33), .ref (am 34), .ref (am 35), .ref (am 36)]))] ++ wt) := hD
  refine lv_istore_n (lv' := [(3, .int r_1), (0, .ref m0), (1, .int b), (2, .int w)]) hx hb dX12_speaks_6 rfl hl (by decide) rfl (fun ls hl => ?_)
  refine lv_aload_n hx hb dX12_speaks_7 rfl (lv_at hl 1 rfl) ?_
  refine gq_get hx hb ht hown hK hP i_X12 4 rfl rfl 23 (by decide) wd_1275 rfl rfl dX12_speaks_8 ?_
  refine lv_iload_n hx hb dX12_speaks_11 rfl (lv_at hl 2 rfl) ?_
  refine gt_callI (wr := [((am 6), .inl (G.2.2 0, 6, .inl cs)), ((am 5), .inl (G.2.2 0, 288, .inl cl)), ((am 3), .inl (G.2.2 0, 2400, .inl sg)), ((am 20), .inl (G.2.2 0, 110, .inl sd)), (m0, .inr (12, [.ref (am 0), .int v1, .int v2, .ref (am 3), .ref (am 4), .ref (am 5), .ref (am 6), .ref (am 7), .int v8, .int v9, .int v10, .int v11, .int v12, .int v13, .int v14, .ref (am 15), .int v16, .ref (am 17), .int v18, .ref (am 19), .ref (am 20), .int v21, .int v22, .int v23, .int v24, .int v25, .ref (am 26), .int v27, .ref (am 28), .ref (am 29), .ref (am 30), .ref (am 31), .long v32, .ref (am 33), .ref (am 34), .ref (am 35), .ref (am 36)]))]) (va_runS (As := [.int v23, .int b]) (rest := []) ⟨hx, hb, hml, hown, ht⟩ (d_m_isOf l G Γ H.size wt hT v23 b (by omega) (by omega) (by omega) (by omega)) (va_cwS 2 ht (ts_gS wd_1635 wd_1636 wd_134 wd_1637) rfl rfl rfl (by decide +kernel) ⟨Nat.le_of_ble_eq_true rfl, Nat.le_of_ble_eq_true rfl⟩) (gc_preS hK (tw_right hP) (tw_rightD hD)) rfl rfl hl.1 rfl (lv_room (Nat.le_of_ble_eq_true rfl)) dX12_speaks_12 ⟨Nat.le_of_ble_eq_true rfl, Nat.le_of_ble_eq_true rfl⟩) hP hD hS hA (fun r_2 wt H locs hw hP hD hS => ?_)
  obtain ⟨hT, hkp, lo_r_2, hi_r_2, rp_r_2⟩ := hw
  have hW := hW.call (show ∀ x ∈ [], x ∈ [] by decide) hkp
  have hP : va_P (gg_D G) classes ([((am 6), .inl (G.2.2 0, 6, .inl cs)), ((am 5), .inl (G.2.2 0, 288, .inl cl)), ((am 3), .inl (G.2.2 0, 2400, .inl sg)), ((am 20), .inl (G.2.2 0, 110, .inl sd)), (m0, .inr (12, [.ref (am 0), .int v1, .int v2, .ref (am 3), .ref (am 4), .ref (am 5), .ref (am 6), .ref (am 7), .int v8, .int v9, .int v10, .int v11, .int v12, .int v13, .int v14, .ref (am 15), .int v16, .ref (am 17), .int v18, .ref (am 19), .ref (am 20), .int v21, .int v22, .int v23, .int v24, .int v25, .ref (am 26), .int v27, .ref (am 28), .ref (am 29), .ref (am 30), .ref (am 31), .long v32, .ref (am 33), .ref (am 34), .ref (am 35), .ref (am 36)]))] ++ wt) H := hP
  have hD : va_D A ([((am 6), .inl (G.2.2 0, 6, .inl cs)), ((am 5), .inl (G.2.2 0, 288, .inl cl)), ((am 3), .inl (G.2.2 0, 2400, .inl sg)), ((am 20), .inl (G.2.2 0, 110, .inl sd)), (m0, .inr (12, [.ref (am 0), .int v1, .int v2, .ref (am 3), .ref (am 4), .ref (am 5), .ref (am 6), .ref (am 7), .int v8, .int v9, .int v10, .int v11, .int v12, .int v13, .int v14, .ref (am 15), .int v16, .ref (am 17), .int v18, .ref (am 19), .ref (am 20), .int v21, .int v22, .int v23, .int v24, .int v25, .ref (am 26), .int v27, .ref (am 28), .ref (am 29), .ref (am 30), .ref (am 31), .long v32, .ref (am 33), .ref (am 34), .ref (am 35), .ref (am 36)]))] ++ wt) := hD
  refine lv_if_eq (tgt := 20) hx hb dX12_speaks_15 (by decide) (fun c_3 => ?_) (fun c_3 => ?_)
  · rw [← Int32.toInt_inj] at c_3
    refine lv_iload_n hx hb dX12_speaks_20 rfl (lv_at hl 2 rfl) ?_
    refine lv_aload_n hx hb dX12_speaks_21 rfl (lv_at hl 1 rfl) ?_
    refine gq_get hx hb ht hown hK hP i_X12 4 rfl rfl 24 (by decide) wd_1276 rfl rfl dX12_speaks_22 ?_
    refine lv_icmp_ne (tgt := 42) hx hb dX12_speaks_25 (by decide) (fun c_4 => ?_) (fun c_4 => ?_)
    · rw [← Int32.toInt_inj] at c_4
      refine lv_aload_n hx hb dX12_speaks_42 rfl (lv_at hl 1 rfl) ?_
      refine gq_get hx hb ht hown hK hP i_X12 4 rfl rfl 21 (by decide) wd_1273 rfl rfl dX12_speaks_43 ?_
      refine lv_if_ge (tgt := 75) hx hb dX12_speaks_46 (by decide) (fun c_5 => ?_) (fun c_5 => ?_)
      · rw [Int32.le_iff_toInt_le] at c_5
        refine lv_aload_n hx hb dX12_speaks_75 rfl (lv_at hl 1 rfl) ?_
        refine lv_iload_n hx hb dX12_speaks_76 rfl (lv_at hl 2 rfl) ?_
        refine lv_iload_n hx hb dX12_speaks_77 rfl (lv_at hl 3 rfl) ?_
        have hP : va_P (gg_D G) classes ([((am 6), .inl (G.2.2 0, 6, .inl cs)), ((am 5), .inl (G.2.2 0, 288, .inl cl)), ((am 3), .inl (G.2.2 0, 2400, .inl sg))] ++ ([((am 20), .inl (G.2.2 0, 110, .inl sd)), (m0, .inr (12, [.ref (am 0), .int v1, .int v2, .ref (am 3), .ref (am 4), .ref (am 5), .ref (am 6), .ref (am 7), .int v8, .int v9, .int v10, .int v11, .int v12, .int v13, .int v14, .ref (am 15), .int v16, .ref (am 17), .int v18, .ref (am 19), .ref (am 20), .int v21, .int v22, .int v23, .int v24, .int v25, .ref (am 26), .int v27, .ref (am 28), .ref (am 29), .ref (am 30), .ref (am 31), .long v32, .ref (am 33), .ref (am 34), .ref (am 35), .ref (am 36)]))] ++ wt)) H := hP
        have hD : va_D A ([((am 6), .inl (G.2.2 0, 6, .inl cs)), ((am 5), .inl (G.2.2 0, 288, .inl cl)), ((am 3), .inl (G.2.2 0, 2400, .inl sg))] ++ ([((am 20), .inl (G.2.2 0, 110, .inl sd)), (m0, .inr (12, [.ref (am 0), .int v1, .int v2, .ref (am 3), .ref (am 4), .ref (am 5), .ref (am 6), .ref (am 7), .int v8, .int v9, .int v10, .int v11, .int v12, .int v13, .int v14, .ref (am 15), .int v16, .ref (am 17), .int v18, .ref (am 19), .ref (am 20), .int v21, .int v22, .int v23, .int v24, .int v25, .ref (am 26), .int v27, .ref (am 28), .ref (am 29), .ref (am 30), .ref (am 31), .long v32, .ref (am 33), .ref (am 34), .ref (am 35), .ref (am 36)]))] ++ wt)) := hD
        refine gt_callV (wr := [((am 6), .inl (G.2.2 0, 6, .inl cs)), ((am 5), .inl (G.2.2 0, 288, .inl cl)), ((am 3), .inl (G.2.2 0, 2400, .inl sg))]) (va_runV (As := [.int b, .int w]) (rest := []) ⟨hx, hb, hml, hown, ht⟩ (d_m_words l G Γ H.size wt hT b w m0 am v1 v2 v8 v9 v10 v11 v12 v13 v14 v16 v18 v21 v22 v23 v24 v25 v27 v32 sd (by omega) (by omega) (by omega) (by omega) (by first | assumption | exact hSD.1 | exact hSD.w _ | (rw [hKH 2 (by omega)]; exact hKP) | omega) (by first | assumption | exact hSD.1 | exact hSD.w _ | (rw [hKH 2 (by omega)]; exact hKP) | omega) (by first | assumption | exact hSD.1 | exact hSD.w _ | (rw [hKH 2 (by omega)]; exact hKP) | omega) (by first | assumption | exact hSD.1 | exact hSD.w _ | (rw [hKH 2 (by omega)]; exact hKP) | omega) (by first | assumption | exact hSD.1 | exact hSD.w _ | (rw [hKH 2 (by omega)]; exact hKP) | omega) (by first | assumption | exact hSD.1 | exact hSD.w _ | (rw [hKH 2 (by omega)]; exact hKP) | omega) (by first | assumption | exact hSD.1 | exact hSD.w _ | (rw [hKH 2 (by omega)]; exact hKP) | omega) (by first | assumption | exact hSD.1 | exact hSD.w _ | (rw [hKH 2 (by omega)]; exact hKP) | omega) (by first | assumption | exact hSD.1 | exact hSD.w _ | (rw [hKH 2 (by omega)]; exact hKP) | omega) (by first | assumption | exact hSD.1 | exact hSD.w _ | (rw [hKH 2 (by omega)]; exact hKP) | omega) (by first | assumption | exact hSD.1 | exact hSD.w _ | (rw [hKH 2 (by omega)]; exact hKP) | omega) (by first | assumption | exact hSD.1 | exact hSD.w _ | (rw [hKH 2 (by omega)]; exact hKP) | omega) (by first | assumption | exact hSD.1 | exact hSD.w _ | (rw [hKH 2 (by omega)]; exact hKP) | omega) (by first | assumption | exact hSD.1 | exact hSD.w _ | (rw [hKH 2 (by omega)]; exact hKP) | omega) (by first | assumption | exact hSD.1 | exact hSD.w _ | (rw [hKH 2 (by omega)]; exact hKP) | omega) (by first | assumption | exact hSD.1 | exact hSD.w _ | (rw [hKH 2 (by omega)]; exact hKP) | omega) (by first | assumption | exact hSD.1 | exact hSD.w _ | (rw [hKH 2 (by omega)]; exact hKP) | omega) (by first | assumption | exact hSD.1 | exact hSD.w _ | (rw [hKH 2 (by omega)]; exact hKP) | omega) (by first | assumption | exact hSD.1 | exact hSD.w _ | (rw [hKH 2 (by omega)]; exact hKP) | omega) (by first | assumption | exact hSD.1 | exact hSD.w _ | (rw [hKH 2 (by omega)]; exact hKP) | omega) (by first | assumption | exact hSD.1 | exact hSD.w _ | (rw [hKH 2 (by omega)]; exact hKP) | omega) (by first | assumption | exact hSD.1 | exact hSD.w _ | (rw [hKH 2 (by omega)]; exact hKP) | omega) (by first | assumption | exact hSD.1 | exact hSD.w _ | (rw [hKH 2 (by omega)]; exact hKP) | omega) (by first | assumption | exact hSD.1 | exact hSD.w _ | (rw [hKH 2 (by omega)]; exact hKP) | omega)) (cwV 2 ht (ts_gV wd_1642 wd_1644 wd_89 wd_134 wd_1645) rfl rfl rfl (by decide +kernel) ⟨Nat.le_of_ble_eq_true rfl, Nat.le_of_ble_eq_true rfl⟩) (gc_preV (ci := 12) (q0 := 1) hK (tw_right hP) (tw_rightD hD) rfl rfl) rfl rfl hl.1 rfl (lv_room (Nat.le_of_ble_eq_true rfl)) dX12_speaks_78 ⟨Nat.le_of_ble_eq_true rfl, Nat.le_of_ble_eq_true rfl⟩) hP hD hS hA (fun wt H locs hw hP hD hS => ?_)
        obtain ⟨hT, hkp⟩ := hw
        have hW := hW.call (show ∀ x ∈ [], x ∈ [] by decide) hkp
        have hP : va_P (gg_D G) classes ([((am 6), .inl (G.2.2 0, 6, .inl cs)), ((am 5), .inl (G.2.2 0, 288, .inl cl)), ((am 3), .inl (G.2.2 0, 2400, .inl sg)), ((am 20), .inl (G.2.2 0, 110, .inl sd)), (m0, .inr (12, [.ref (am 0), .int v1, .int v2, .ref (am 3), .ref (am 4), .ref (am 5), .ref (am 6), .ref (am 7), .int v8, .int v9, .int v10, .int v11, .int v12, .int v13, .int v14, .ref (am 15), .int v16, .ref (am 17), .int v18, .ref (am 19), .ref (am 20), .int v21, .int v22, .int v23, .int v24, .int v25, .ref (am 26), .int v27, .ref (am 28), .ref (am 29), .ref (am 30), .ref (am 31), .long v32, .ref (am 33), .ref (am 34), .ref (am 35), .ref (am 36)]))] ++ wt) H := hP
        have hD : va_D A ([((am 6), .inl (G.2.2 0, 6, .inl cs)), ((am 5), .inl (G.2.2 0, 288, .inl cl)), ((am 3), .inl (G.2.2 0, 2400, .inl sg)), ((am 20), .inl (G.2.2 0, 110, .inl sd)), (m0, .inr (12, [.ref (am 0), .int v1, .int v2, .ref (am 3), .ref (am 4), .ref (am 5), .ref (am 6), .ref (am 7), .int v8, .int v9, .int v10, .int v11, .int v12, .int v13, .int v14, .ref (am 15), .int v16, .ref (am 17), .int v18, .ref (am 19), .ref (am 20), .int v21, .int v22, .int v23, .int v24, .int v25, .ref (am 26), .int v27, .ref (am 28), .ref (am 29), .ref (am 30), .ref (am 31), .long v32, .ref (am 33), .ref (am 34), .ref (am 35), .ref (am 36)]))] ++ wt) := hD
        refine lv_aload_n hx hb dX12_speaks_81 rfl (lv_at hl 1 rfl) ?_
        refine lv_aload_n hx hb dX12_speaks_82 rfl (lv_at hl 1 rfl) ?_
        refine gq_get hx hb ht hown hK hP i_X12 4 rfl rfl 21 (by decide) wd_1273 rfl rfl dX12_speaks_83 ?_
        have hP := tw_permP (we' := [((am 20), .inl (G.2.2 0, 110, .inl sd)), ((am 6), .inl (G.2.2 0, 6, .inl cs)), ((am 5), .inl (G.2.2 0, 288, .inl cl)), ((am 3), .inl (G.2.2 0, 2400, .inl sg)), (m0, .inr (12, [.ref (am 0), .int v1, .int v2, .ref (am 3), .ref (am 4), .ref (am 5), .ref (am 6), .ref (am 7), .int v8, .int v9, .int v10, .int v11, .int v12, .int v13, .int v14, .ref (am 15), .int v16, .ref (am 17), .int v18, .ref (am 19), .ref (am 20), .int v21, .int v22, .int v23, .int v24, .int v25, .ref (am 26), .int v27, .ref (am 28), .ref (am 29), .ref (am 30), .ref (am 31), .long v32, .ref (am 33), .ref (am 34), .ref (am 35), .ref (am 36)]))]) [3, 0, 1, 2, 4] rfl hP
        have hD := tw_permD (we' := [((am 20), .inl (G.2.2 0, 110, .inl sd)), ((am 6), .inl (G.2.2 0, 6, .inl cs)), ((am 5), .inl (G.2.2 0, 288, .inl cl)), ((am 3), .inl (G.2.2 0, 2400, .inl sg)), (m0, .inr (12, [.ref (am 0), .int v1, .int v2, .ref (am 3), .ref (am 4), .ref (am 5), .ref (am 6), .ref (am 7), .int v8, .int v9, .int v10, .int v11, .int v12, .int v13, .int v14, .ref (am 15), .int v16, .ref (am 17), .int v18, .ref (am 19), .ref (am 20), .int v21, .int v22, .int v23, .int v24, .int v25, .ref (am 26), .int v27, .ref (am 28), .ref (am 29), .ref (am 30), .ref (am 31), .long v32, .ref (am 33), .ref (am 34), .ref (am 35), .ref (am 36)]))]) [3, 0, 1, 2, 4] (by decide) rfl hD
        have hP : va_P (gg_D G) classes ([((am 20), .inl (G.2.2 0, 110, .inl sd))] ++ ([((am 6), .inl (G.2.2 0, 6, .inl cs)), ((am 5), .inl (G.2.2 0, 288, .inl cl)), ((am 3), .inl (G.2.2 0, 2400, .inl sg)), (m0, .inr (12, [.ref (am 0), .int v1, .int v2, .ref (am 3), .ref (am 4), .ref (am 5), .ref (am 6), .ref (am 7), .int v8, .int v9, .int v10, .int v11, .int v12, .int v13, .int v14, .ref (am 15), .int v16, .ref (am 17), .int v18, .ref (am 19), .ref (am 20), .int v21, .int v22, .int v23, .int v24, .int v25, .ref (am 26), .int v27, .ref (am 28), .ref (am 29), .ref (am 30), .ref (am 31), .long v32, .ref (am 33), .ref (am 34), .ref (am 35), .ref (am 36)]))] ++ wt)) H := hP
        have hD : va_D A ([((am 20), .inl (G.2.2 0, 110, .inl sd))] ++ ([((am 6), .inl (G.2.2 0, 6, .inl cs)), ((am 5), .inl (G.2.2 0, 288, .inl cl)), ((am 3), .inl (G.2.2 0, 2400, .inl sg)), (m0, .inr (12, [.ref (am 0), .int v1, .int v2, .ref (am 3), .ref (am 4), .ref (am 5), .ref (am 6), .ref (am 7), .int v8, .int v9, .int v10, .int v11, .int v12, .int v13, .int v14, .ref (am 15), .int v16, .ref (am 17), .int v18, .ref (am 19), .ref (am 20), .int v21, .int v22, .int v23, .int v24, .int v25, .ref (am 26), .int v27, .ref (am 28), .ref (am 29), .ref (am 30), .ref (am 31), .long v32, .ref (am 33), .ref (am 34), .ref (am 35), .ref (am 36)]))] ++ wt)) := hD
        refine gt_callJ (wr := [((am 20), .inl (G.2.2 0, 110, .inl sd))]) (va_runV (As := [.int v21]) (rest := []) ⟨hx, hb, hml, hown, ht⟩ (d_m_summedBy l G Γ H.size wt hT v21 m0 am v1 v2 v8 v9 v10 v11 v12 v13 v14 v16 v18 v21 v22 v23 v24 v25 v27 v32 cs cl sg (by omega) (by omega) (by first | assumption | exact hSD.1 | exact hSD.w _ | (rw [hKH 2 (by omega)]; exact hKP) | omega) (by first | assumption | exact hSD.1 | exact hSD.w _ | (rw [hKH 2 (by omega)]; exact hKP) | omega) (by first | assumption | exact hSD.1 | exact hSD.w _ | (rw [hKH 2 (by omega)]; exact hKP) | omega) (by first | assumption | exact hSD.1 | exact hSD.w _ | (rw [hKH 2 (by omega)]; exact hKP) | omega) (by first | assumption | exact hSD.1 | exact hSD.w _ | (rw [hKH 2 (by omega)]; exact hKP) | omega) (by first | assumption | exact hSD.1 | exact hSD.w _ | (rw [hKH 2 (by omega)]; exact hKP) | omega) (by first | assumption | exact hSD.1 | exact hSD.w _ | (rw [hKH 2 (by omega)]; exact hKP) | omega) (by first | assumption | exact hSD.1 | exact hSD.w _ | (rw [hKH 2 (by omega)]; exact hKP) | omega) (by first | assumption | exact hSD.1 | exact hSD.w _ | (rw [hKH 2 (by omega)]; exact hKP) | omega) (by first | assumption | exact hSD.1 | exact hSD.w _ | (rw [hKH 2 (by omega)]; exact hKP) | omega) (by first | assumption | exact hSD.1 | exact hSD.w _ | (rw [hKH 2 (by omega)]; exact hKP) | omega) (by first | assumption | exact hSD.1 | exact hSD.w _ | (rw [hKH 2 (by omega)]; exact hKP) | omega) (by first | assumption | exact hSD.1 | exact hSD.w _ | (rw [hKH 2 (by omega)]; exact hKP) | omega) (by first | assumption | exact hSD.1 | exact hSD.w _ | (rw [hKH 2 (by omega)]; exact hKP) | omega) (by first | assumption | exact hSD.1 | exact hSD.w _ | (rw [hKH 2 (by omega)]; exact hKP) | omega) (by first | assumption | exact hSD.1 | exact hSD.w _ | (rw [hKH 2 (by omega)]; exact hKP) | omega) (by first | assumption | exact hSD.1 | exact hSD.w _ | (rw [hKH 2 (by omega)]; exact hKP) | omega) (by first | assumption | exact hSD.1 | exact hSD.w _ | (rw [hKH 2 (by omega)]; exact hKP) | omega) (by first | assumption | exact hSD.1 | exact hSD.w _ | (rw [hKH 2 (by omega)]; exact hKP) | omega) (by first | assumption | exact hSD.1 | exact hSD.w _ | (rw [hKH 2 (by omega)]; exact hKP) | omega) (by first | assumption | exact hSD.1 | exact hSD.w _ | (rw [hKH 2 (by omega)]; exact hKP) | omega) (by first | assumption | exact hSD.1 | exact hSD.w _ | (rw [hKH 2 (by omega)]; exact hKP) | omega) (by first | assumption | exact hSD.1 | exact hSD.w _ | (rw [hKH 2 (by omega)]; exact hKP) | omega) (by first | assumption | exact hSD.1 | exact hSD.w _ | (rw [hKH 2 (by omega)]; exact hKP) | omega) (by first | assumption | exact hSD.1 | exact hSD.w _ | (rw [hKH 2 (by omega)]; exact hKP) | omega)) (cwV 1 ht (ts_gV wd_1649 wd_1651 wd_90 wd_134 wd_1652) rfl rfl rfl (by decide +kernel) ⟨Nat.le_of_ble_eq_true rfl, Nat.le_of_ble_eq_true rfl⟩) (gc_preV (ci := 12) (q0 := 3) hK (tw_right hP) (tw_rightD hD) rfl rfl) rfl rfl hl.1 rfl (lv_room (Nat.le_of_ble_eq_true rfl)) dX12_speaks_86 ⟨Nat.le_of_ble_eq_true rfl, Nat.le_of_ble_eq_true rfl⟩) hP hD hS hA (fun m_6 u H locs hw hP hD hS => ?_)
        obtain ⟨y_7, wt⟩ := u
        obtain ⟨hT, hkp⟩ := hw
        have hW := hW.call (show ∀ x ∈ [], x ∈ [] by decide) hkp
        have hP : va_P (gg_D G) classes ([((am 20), .inl (G.2.2 0, 110, .inl sd)), ((am 6), .inl (G.2.2 0, 6, .inl cs)), ((am 5), .inl (G.2.2 0, 288, .inl cl)), ((am 3), .inl (G.2.2 0, 2400, .inl sg)), (m0, .inr (12, [.ref (am 0), .int v1, .int v2, .ref (am 3), .ref (am 4), .ref (am 5), .ref (am 6), .ref (am 7), .int v8, .int v9, .int v10, .int v11, .int v12, .int v13, .int v14, .ref (am 15), .int v16, .ref (am 17), .int y_7, .ref (am 19), .ref (am 20), .int v21, .int v22, .int v23, .int v24, .int v25, .ref (am 26), .int v27, .ref (am 28), .ref (am 29), .ref (am 30), .ref (am 31), .long v32, .ref (am 33), .ref (am 34), .ref (am 35), .ref (am 36)]))] ++ wt) H := hP
        have hD : va_D A ([((am 20), .inl (G.2.2 0, 110, .inl sd)), ((am 6), .inl (G.2.2 0, 6, .inl cs)), ((am 5), .inl (G.2.2 0, 288, .inl cl)), ((am 3), .inl (G.2.2 0, 2400, .inl sg)), (m0, .inr (12, [.ref (am 0), .int v1, .int v2, .ref (am 3), .ref (am 4), .ref (am 5), .ref (am 6), .ref (am 7), .int v8, .int v9, .int v10, .int v11, .int v12, .int v13, .int v14, .ref (am 15), .int v16, .ref (am 17), .int y_7, .ref (am 19), .ref (am 20), .int v21, .int v22, .int v23, .int v24, .int v25, .ref (am 26), .int v27, .ref (am 28), .ref (am 29), .ref (am 30), .ref (am 31), .long v32, .ref (am 33), .ref (am 34), .ref (am 35), .ref (am 36)]))] ++ wt) := hD
        refine lv_lconst (v := 0) hx hb dX12_speaks_89 (by decide +kernel) ?_
        obtain ⟨t_8, et_8⟩ : ∃ zz_ : Int32, lg_cmp m_6 0 = zz_ := ⟨_, rfl⟩
        refine gq_lcmp hx hb t_8 et_8 dX12_speaks_90 ?_
        have ft_8 := il_cmp et_8
        refine lv_if_le (tgt := 98) hx hb dX12_speaks_91 (by decide) (fun c_9 => ?_) (fun c_9 => ?_)
        · rw [Int32.le_iff_toInt_le] at c_9
          refine lv_iconst (v := 0) hx hb dX12_speaks_98 (by decide +kernel) ?_
          have hP := tw_permP (we' := [((am 6), .inl (G.2.2 0, 6, .inl cs)), ((am 5), .inl (G.2.2 0, 288, .inl cl)), ((am 3), .inl (G.2.2 0, 2400, .inl sg)), ((am 20), .inl (G.2.2 0, 110, .inl sd)), (m0, .inr (12, [.ref (am 0), .int v1, .int v2, .ref (am 3), .ref (am 4), .ref (am 5), .ref (am 6), .ref (am 7), .int v8, .int v9, .int v10, .int v11, .int v12, .int v13, .int v14, .ref (am 15), .int v16, .ref (am 17), .int y_7, .ref (am 19), .ref (am 20), .int v21, .int v22, .int v23, .int v24, .int v25, .ref (am 26), .int v27, .ref (am 28), .ref (am 29), .ref (am 30), .ref (am 31), .long v32, .ref (am 33), .ref (am 34), .ref (am 35), .ref (am 36)]))]) [1, 2, 3, 0, 4] rfl hP
          have hD := tw_permD (we' := [((am 6), .inl (G.2.2 0, 6, .inl cs)), ((am 5), .inl (G.2.2 0, 288, .inl cl)), ((am 3), .inl (G.2.2 0, 2400, .inl sg)), ((am 20), .inl (G.2.2 0, 110, .inl sd)), (m0, .inr (12, [.ref (am 0), .int v1, .int v2, .ref (am 3), .ref (am 4), .ref (am 5), .ref (am 6), .ref (am 7), .int v8, .int v9, .int v10, .int v11, .int v12, .int v13, .int v14, .ref (am 15), .int v16, .ref (am 17), .int y_7, .ref (am 19), .ref (am 20), .int v21, .int v22, .int v23, .int v24, .int v25, .ref (am 26), .int v27, .ref (am 28), .ref (am 29), .ref (am 30), .ref (am 31), .long v32, .ref (am 33), .ref (am 34), .ref (am 35), .ref (am 36)]))]) [1, 2, 3, 0, 4] (by decide) rfl hD
          have hP9 : va_P (gg_D G) classes ([((am 6), .inl (G.2.2 0, 6, .inl cs)), ((am 5), .inl (G.2.2 0, 288, .inl cl)), ((am 3), .inl (G.2.2 0, 2400, .inl sg)), ((am 20), .inl (G.2.2 0, 110, .inl sd)), (m0, .inr (12, [.ref (am 0), .int v1, .int v2, .ref (am 3), .ref (am 4), .ref (am 5), .ref (am 6), .ref (am 7), .int v8, .int v9, .int v10, .int v11, .int v12, .int v13, .int v14, .ref (am 15), .int v16, .ref (am 17), .int y_7, .ref (am 19), .ref (am 20), .int v21, .int v22, .int v23, .int v24, .int v25, .ref (am 26), .int v27, .ref (am 28), .ref (am 29), .ref (am 30), .ref (am 31), .long v32, .ref (am 33), .ref (am 34), .ref (am 35), .ref (am 36)]))] ++ wt) _ := hP
          have hD9 : va_D A ([((am 6), .inl (G.2.2 0, 6, .inl cs)), ((am 5), .inl (G.2.2 0, 288, .inl cl)), ((am 3), .inl (G.2.2 0, 2400, .inl sg)), ((am 20), .inl (G.2.2 0, 110, .inl sd)), (m0, .inr (12, [.ref (am 0), .int v1, .int v2, .ref (am 3), .ref (am 4), .ref (am 5), .ref (am 6), .ref (am 7), .int v8, .int v9, .int v10, .int v11, .int v12, .int v13, .int v14, .ref (am 15), .int v16, .ref (am 17), .int y_7, .ref (am 19), .ref (am 20), .int v21, .int v22, .int v23, .int v24, .int v25, .ref (am 26), .int v27, .ref (am 28), .ref (am 29), .ref (am 30), .ref (am 31), .long v32, .ref (am 33), .ref (am 34), .ref (am 35), .ref (am 36)]))] ++ wt) := hD
          exact W.zret (v := 0) hx hb hr (by decide +kernel) (gq_endI (y_7, wt) ⟨hT, hW, (by omega), (by omega)⟩ hP9 hD9 hS) hS.2.2 dX12_speaks_99
        · rw [Int32.le_iff_toInt_le] at c_9
          refine lv_iconst (v := 1) hx hb dX12_speaks_94 (by decide +kernel) ?_
          refine lv_goto (tgt := 99) hx hb dX12_speaks_95 (by decide) ?_
          have hP := tw_permP (we' := [((am 6), .inl (G.2.2 0, 6, .inl cs)), ((am 5), .inl (G.2.2 0, 288, .inl cl)), ((am 3), .inl (G.2.2 0, 2400, .inl sg)), ((am 20), .inl (G.2.2 0, 110, .inl sd)), (m0, .inr (12, [.ref (am 0), .int v1, .int v2, .ref (am 3), .ref (am 4), .ref (am 5), .ref (am 6), .ref (am 7), .int v8, .int v9, .int v10, .int v11, .int v12, .int v13, .int v14, .ref (am 15), .int v16, .ref (am 17), .int y_7, .ref (am 19), .ref (am 20), .int v21, .int v22, .int v23, .int v24, .int v25, .ref (am 26), .int v27, .ref (am 28), .ref (am 29), .ref (am 30), .ref (am 31), .long v32, .ref (am 33), .ref (am 34), .ref (am 35), .ref (am 36)]))]) [1, 2, 3, 0, 4] rfl hP
          have hD := tw_permD (we' := [((am 6), .inl (G.2.2 0, 6, .inl cs)), ((am 5), .inl (G.2.2 0, 288, .inl cl)), ((am 3), .inl (G.2.2 0, 2400, .inl sg)), ((am 20), .inl (G.2.2 0, 110, .inl sd)), (m0, .inr (12, [.ref (am 0), .int v1, .int v2, .ref (am 3), .ref (am 4), .ref (am 5), .ref (am 6), .ref (am 7), .int v8, .int v9, .int v10, .int v11, .int v12, .int v13, .int v14, .ref (am 15), .int v16, .ref (am 17), .int y_7, .ref (am 19), .ref (am 20), .int v21, .int v22, .int v23, .int v24, .int v25, .ref (am 26), .int v27, .ref (am 28), .ref (am 29), .ref (am 30), .ref (am 31), .long v32, .ref (am 33), .ref (am 34), .ref (am 35), .ref (am 36)]))]) [1, 2, 3, 0, 4] (by decide) rfl hD
          have hP9 : va_P (gg_D G) classes ([((am 6), .inl (G.2.2 0, 6, .inl cs)), ((am 5), .inl (G.2.2 0, 288, .inl cl)), ((am 3), .inl (G.2.2 0, 2400, .inl sg)), ((am 20), .inl (G.2.2 0, 110, .inl sd)), (m0, .inr (12, [.ref (am 0), .int v1, .int v2, .ref (am 3), .ref (am 4), .ref (am 5), .ref (am 6), .ref (am 7), .int v8, .int v9, .int v10, .int v11, .int v12, .int v13, .int v14, .ref (am 15), .int v16, .ref (am 17), .int y_7, .ref (am 19), .ref (am 20), .int v21, .int v22, .int v23, .int v24, .int v25, .ref (am 26), .int v27, .ref (am 28), .ref (am 29), .ref (am 30), .ref (am 31), .long v32, .ref (am 33), .ref (am 34), .ref (am 35), .ref (am 36)]))] ++ wt) _ := hP
          have hD9 : va_D A ([((am 6), .inl (G.2.2 0, 6, .inl cs)), ((am 5), .inl (G.2.2 0, 288, .inl cl)), ((am 3), .inl (G.2.2 0, 2400, .inl sg)), ((am 20), .inl (G.2.2 0, 110, .inl sd)), (m0, .inr (12, [.ref (am 0), .int v1, .int v2, .ref (am 3), .ref (am 4), .ref (am 5), .ref (am 6), .ref (am 7), .int v8, .int v9, .int v10, .int v11, .int v12, .int v13, .int v14, .ref (am 15), .int v16, .ref (am 17), .int y_7, .ref (am 19), .ref (am 20), .int v21, .int v22, .int v23, .int v24, .int v25, .ref (am 26), .int v27, .ref (am 28), .ref (am 29), .ref (am 30), .ref (am 31), .long v32, .ref (am 33), .ref (am 34), .ref (am 35), .ref (am 36)]))] ++ wt) := hD
          exact W.zret (v := 1) hx hb hr (by decide +kernel) (gq_endI (y_7, wt) ⟨hT, hW, (by omega), (by omega)⟩ hP9 hD9 hS) hS.2.2 dX12_speaks_99
      · rw [Int32.le_iff_toInt_le] at c_5
        refine lv_iload_n hx hb dX12_speaks_49 rfl (lv_at hl 0 rfl) ?_
        refine lv_aload_n hx hb dX12_speaks_50 rfl (lv_at hl 1 rfl) ?_
        refine lv_iload_n hx hb dX12_speaks_51 rfl (lv_at hl 2 rfl) ?_
        refine lv_iload_n hx hb dX12_speaks_52 rfl (lv_at hl 3 rfl) ?_
        have hP : va_P (gg_D G) classes ([((am 6), .inl (G.2.2 0, 6, .inl cs)), ((am 5), .inl (G.2.2 0, 288, .inl cl)), ((am 3), .inl (G.2.2 0, 2400, .inl sg))] ++ ([((am 20), .inl (G.2.2 0, 110, .inl sd)), (m0, .inr (12, [.ref (am 0), .int v1, .int v2, .ref (am 3), .ref (am 4), .ref (am 5), .ref (am 6), .ref (am 7), .int v8, .int v9, .int v10, .int v11, .int v12, .int v13, .int v14, .ref (am 15), .int v16, .ref (am 17), .int v18, .ref (am 19), .ref (am 20), .int v21, .int v22, .int v23, .int v24, .int v25, .ref (am 26), .int v27, .ref (am 28), .ref (am 29), .ref (am 30), .ref (am 31), .long v32, .ref (am 33), .ref (am 34), .ref (am 35), .ref (am 36)]))] ++ wt)) H := hP
        have hD : va_D A ([((am 6), .inl (G.2.2 0, 6, .inl cs)), ((am 5), .inl (G.2.2 0, 288, .inl cl)), ((am 3), .inl (G.2.2 0, 2400, .inl sg))] ++ ([((am 20), .inl (G.2.2 0, 110, .inl sd)), (m0, .inr (12, [.ref (am 0), .int v1, .int v2, .ref (am 3), .ref (am 4), .ref (am 5), .ref (am 6), .ref (am 7), .int v8, .int v9, .int v10, .int v11, .int v12, .int v13, .int v14, .ref (am 15), .int v16, .ref (am 17), .int v18, .ref (am 19), .ref (am 20), .int v21, .int v22, .int v23, .int v24, .int v25, .ref (am 26), .int v27, .ref (am 28), .ref (am 29), .ref (am 30), .ref (am 31), .long v32, .ref (am 33), .ref (am 34), .ref (am 35), .ref (am 36)]))] ++ wt)) := hD
        refine gt_callI (wr := [((am 6), .inl (G.2.2 0, 6, .inl cs)), ((am 5), .inl (G.2.2 0, 288, .inl cl)), ((am 3), .inl (G.2.2 0, 2400, .inl sg))]) (va_runV (As := [.int b, .int w]) (rest := [.int r_1]) ⟨hx, hb, hml, hown, ht⟩ (d_m_worthTo l G Γ H.size wt hT b w m0 am v1 v2 v8 v9 v10 v11 v12 v13 v14 v16 v18 v21 v22 v23 v24 v25 v27 v32 sd (by omega) (by omega) (by omega) (by omega) (by first | assumption | exact hSD.1 | exact hSD.w _ | (rw [hKH 2 (by omega)]; exact hKP) | omega) (by first | assumption | exact hSD.1 | exact hSD.w _ | (rw [hKH 2 (by omega)]; exact hKP) | omega) (by first | assumption | exact hSD.1 | exact hSD.w _ | (rw [hKH 2 (by omega)]; exact hKP) | omega) (by first | assumption | exact hSD.1 | exact hSD.w _ | (rw [hKH 2 (by omega)]; exact hKP) | omega) (by first | assumption | exact hSD.1 | exact hSD.w _ | (rw [hKH 2 (by omega)]; exact hKP) | omega) (by first | assumption | exact hSD.1 | exact hSD.w _ | (rw [hKH 2 (by omega)]; exact hKP) | omega) (by first | assumption | exact hSD.1 | exact hSD.w _ | (rw [hKH 2 (by omega)]; exact hKP) | omega) (by first | assumption | exact hSD.1 | exact hSD.w _ | (rw [hKH 2 (by omega)]; exact hKP) | omega) (by first | assumption | exact hSD.1 | exact hSD.w _ | (rw [hKH 2 (by omega)]; exact hKP) | omega) (by first | assumption | exact hSD.1 | exact hSD.w _ | (rw [hKH 2 (by omega)]; exact hKP) | omega) (by first | assumption | exact hSD.1 | exact hSD.w _ | (rw [hKH 2 (by omega)]; exact hKP) | omega) (by first | assumption | exact hSD.1 | exact hSD.w _ | (rw [hKH 2 (by omega)]; exact hKP) | omega) (by first | assumption | exact hSD.1 | exact hSD.w _ | (rw [hKH 2 (by omega)]; exact hKP) | omega) (by first | assumption | exact hSD.1 | exact hSD.w _ | (rw [hKH 2 (by omega)]; exact hKP) | omega) (by first | assumption | exact hSD.1 | exact hSD.w _ | (rw [hKH 2 (by omega)]; exact hKP) | omega) (by first | assumption | exact hSD.1 | exact hSD.w _ | (rw [hKH 2 (by omega)]; exact hKP) | omega) (by first | assumption | exact hSD.1 | exact hSD.w _ | (rw [hKH 2 (by omega)]; exact hKP) | omega) (by first | assumption | exact hSD.1 | exact hSD.w _ | (rw [hKH 2 (by omega)]; exact hKP) | omega) (by first | assumption | exact hSD.1 | exact hSD.w _ | (rw [hKH 2 (by omega)]; exact hKP) | omega) (by first | assumption | exact hSD.1 | exact hSD.w _ | (rw [hKH 2 (by omega)]; exact hKP) | omega) (by first | assumption | exact hSD.1 | exact hSD.w _ | (rw [hKH 2 (by omega)]; exact hKP) | omega) (by first | assumption | exact hSD.1 | exact hSD.w _ | (rw [hKH 2 (by omega)]; exact hKP) | omega) (by first | assumption | exact hSD.1 | exact hSD.w _ | (rw [hKH 2 (by omega)]; exact hKP) | omega)) (cwV 2 ht (ts_gV wd_1574 wd_1576 wd_78 wd_134 wd_1577) rfl rfl rfl (by decide +kernel) ⟨Nat.le_of_ble_eq_true rfl, Nat.le_of_ble_eq_true rfl⟩) (gc_preV (ci := 12) (q0 := 1) hK (tw_right hP) (tw_rightD hD) rfl rfl) rfl rfl hl.1 rfl (lv_room (Nat.le_of_ble_eq_true rfl)) dX12_speaks_53 ⟨Nat.le_of_ble_eq_true rfl, Nat.le_of_ble_eq_true rfl⟩) hP hD hS hA (fun r_10 wt H locs hw hP hD hS => ?_)
        obtain ⟨hT, hkp⟩ := hw
        have hW := hW.call (show ∀ x ∈ [], x ∈ [] by decide) hkp
        have hP : va_P (gg_D G) classes ([((am 6), .inl (G.2.2 0, 6, .inl cs)), ((am 5), .inl (G.2.2 0, 288, .inl cl)), ((am 3), .inl (G.2.2 0, 2400, .inl sg)), ((am 20), .inl (G.2.2 0, 110, .inl sd)), (m0, .inr (12, [.ref (am 0), .int v1, .int v2, .ref (am 3), .ref (am 4), .ref (am 5), .ref (am 6), .ref (am 7), .int v8, .int v9, .int v10, .int v11, .int v12, .int v13, .int v14, .ref (am 15), .int v16, .ref (am 17), .int v18, .ref (am 19), .ref (am 20), .int v21, .int v22, .int v23, .int v24, .int v25, .ref (am 26), .int v27, .ref (am 28), .ref (am 29), .ref (am 30), .ref (am 31), .long v32, .ref (am 33), .ref (am 34), .ref (am 35), .ref (am 36)]))] ++ wt) H := hP
        have hD : va_D A ([((am 6), .inl (G.2.2 0, 6, .inl cs)), ((am 5), .inl (G.2.2 0, 288, .inl cl)), ((am 3), .inl (G.2.2 0, 2400, .inl sg)), ((am 20), .inl (G.2.2 0, 110, .inl sd)), (m0, .inr (12, [.ref (am 0), .int v1, .int v2, .ref (am 3), .ref (am 4), .ref (am 5), .ref (am 6), .ref (am 7), .int v8, .int v9, .int v10, .int v11, .int v12, .int v13, .int v14, .ref (am 15), .int v16, .ref (am 17), .int v18, .ref (am 19), .ref (am 20), .int v21, .int v22, .int v23, .int v24, .int v25, .ref (am 26), .int v27, .ref (am 28), .ref (am 29), .ref (am 30), .ref (am 31), .long v32, .ref (am 33), .ref (am 34), .ref (am 35), .ref (am 36)]))] ++ wt) := hD
        refine lv_icmp_ge (tgt := 69) hx hb dX12_speaks_56 (by decide) (fun c_11 => ?_) (fun c_11 => ?_)
        · rw [Int32.le_iff_toInt_le] at c_11
          refine lv_iconst (v := 1) hx hb dX12_speaks_69 (by decide +kernel) ?_
          refine lv_goto (tgt := 74) hx hb dX12_speaks_70 (by decide) ?_
          have hP9 : va_P (gg_D G) classes ([((am 6), .inl (G.2.2 0, 6, .inl cs)), ((am 5), .inl (G.2.2 0, 288, .inl cl)), ((am 3), .inl (G.2.2 0, 2400, .inl sg)), ((am 20), .inl (G.2.2 0, 110, .inl sd)), (m0, .inr (12, [.ref (am 0), .int v1, .int v2, .ref (am 3), .ref (am 4), .ref (am 5), .ref (am 6), .ref (am 7), .int v8, .int v9, .int v10, .int v11, .int v12, .int v13, .int v14, .ref (am 15), .int v16, .ref (am 17), .int v18, .ref (am 19), .ref (am 20), .int v21, .int v22, .int v23, .int v24, .int v25, .ref (am 26), .int v27, .ref (am 28), .ref (am 29), .ref (am 30), .ref (am 31), .long v32, .ref (am 33), .ref (am 34), .ref (am 35), .ref (am 36)]))] ++ wt) _ := hP
          have hD9 : va_D A ([((am 6), .inl (G.2.2 0, 6, .inl cs)), ((am 5), .inl (G.2.2 0, 288, .inl cl)), ((am 3), .inl (G.2.2 0, 2400, .inl sg)), ((am 20), .inl (G.2.2 0, 110, .inl sd)), (m0, .inr (12, [.ref (am 0), .int v1, .int v2, .ref (am 3), .ref (am 4), .ref (am 5), .ref (am 6), .ref (am 7), .int v8, .int v9, .int v10, .int v11, .int v12, .int v13, .int v14, .ref (am 15), .int v16, .ref (am 17), .int v18, .ref (am 19), .ref (am 20), .int v21, .int v22, .int v23, .int v24, .int v25, .ref (am 26), .int v27, .ref (am 28), .ref (am 29), .ref (am 30), .ref (am 31), .long v32, .ref (am 33), .ref (am 34), .ref (am 35), .ref (am 36)]))] ++ wt) := hD
          exact W.zret (v := 1) hx hb hr (by decide +kernel) (gq_endI (v18, wt) ⟨hT, hW, (by omega), (by omega)⟩ hP9 hD9 hS) hS.2.2 dX12_speaks_74
        · rw [Int32.le_iff_toInt_le] at c_11
          refine lv_iload_n hx hb dX12_speaks_59 rfl (lv_at hl 0 rfl) ?_
          refine lv_aload_n hx hb dX12_speaks_60 rfl (lv_at hl 1 rfl) ?_
          refine lv_iload_n hx hb dX12_speaks_61 rfl (lv_at hl 2 rfl) ?_
          refine lv_iconst (v := 0) hx hb dX12_speaks_62 (by decide +kernel) ?_
          have hP : va_P (gg_D G) classes ([((am 6), .inl (G.2.2 0, 6, .inl cs)), ((am 5), .inl (G.2.2 0, 288, .inl cl)), ((am 3), .inl (G.2.2 0, 2400, .inl sg))] ++ ([((am 20), .inl (G.2.2 0, 110, .inl sd)), (m0, .inr (12, [.ref (am 0), .int v1, .int v2, .ref (am 3), .ref (am 4), .ref (am 5), .ref (am 6), .ref (am 7), .int v8, .int v9, .int v10, .int v11, .int v12, .int v13, .int v14, .ref (am 15), .int v16, .ref (am 17), .int v18, .ref (am 19), .ref (am 20), .int v21, .int v22, .int v23, .int v24, .int v25, .ref (am 26), .int v27, .ref (am 28), .ref (am 29), .ref (am 30), .ref (am 31), .long v32, .ref (am 33), .ref (am 34), .ref (am 35), .ref (am 36)]))] ++ wt)) H := hP
          have hD : va_D A ([((am 6), .inl (G.2.2 0, 6, .inl cs)), ((am 5), .inl (G.2.2 0, 288, .inl cl)), ((am 3), .inl (G.2.2 0, 2400, .inl sg))] ++ ([((am 20), .inl (G.2.2 0, 110, .inl sd)), (m0, .inr (12, [.ref (am 0), .int v1, .int v2, .ref (am 3), .ref (am 4), .ref (am 5), .ref (am 6), .ref (am 7), .int v8, .int v9, .int v10, .int v11, .int v12, .int v13, .int v14, .ref (am 15), .int v16, .ref (am 17), .int v18, .ref (am 19), .ref (am 20), .int v21, .int v22, .int v23, .int v24, .int v25, .ref (am 26), .int v27, .ref (am 28), .ref (am 29), .ref (am 30), .ref (am 31), .long v32, .ref (am 33), .ref (am 34), .ref (am 35), .ref (am 36)]))] ++ wt)) := hD
          refine gt_callI (wr := [((am 6), .inl (G.2.2 0, 6, .inl cs)), ((am 5), .inl (G.2.2 0, 288, .inl cl)), ((am 3), .inl (G.2.2 0, 2400, .inl sg))]) (va_runV (As := [.int b, .int 0]) (rest := [.int r_1]) ⟨hx, hb, hml, hown, ht⟩ (d_m_bid0 l G Γ H.size wt hT b m0 am v1 v2 v8 v9 v10 v11 v12 v13 v14 v16 v18 v21 v22 v23 v24 v25 v27 v32 sd (by omega) (by omega) (by first | assumption | exact hSD.1 | exact hSD.w _ | (rw [hKH 2 (by omega)]; exact hKP) | omega) (by first | assumption | exact hSD.1 | exact hSD.w _ | (rw [hKH 2 (by omega)]; exact hKP) | omega) (by first | assumption | exact hSD.1 | exact hSD.w _ | (rw [hKH 2 (by omega)]; exact hKP) | omega) (by first | assumption | exact hSD.1 | exact hSD.w _ | (rw [hKH 2 (by omega)]; exact hKP) | omega) (by first | assumption | exact hSD.1 | exact hSD.w _ | (rw [hKH 2 (by omega)]; exact hKP) | omega) (by first | assumption | exact hSD.1 | exact hSD.w _ | (rw [hKH 2 (by omega)]; exact hKP) | omega) (by first | assumption | exact hSD.1 | exact hSD.w _ | (rw [hKH 2 (by omega)]; exact hKP) | omega) (by first | assumption | exact hSD.1 | exact hSD.w _ | (rw [hKH 2 (by omega)]; exact hKP) | omega) (by first | assumption | exact hSD.1 | exact hSD.w _ | (rw [hKH 2 (by omega)]; exact hKP) | omega) (by first | assumption | exact hSD.1 | exact hSD.w _ | (rw [hKH 2 (by omega)]; exact hKP) | omega) (by first | assumption | exact hSD.1 | exact hSD.w _ | (rw [hKH 2 (by omega)]; exact hKP) | omega) (by first | assumption | exact hSD.1 | exact hSD.w _ | (rw [hKH 2 (by omega)]; exact hKP) | omega) (by first | assumption | exact hSD.1 | exact hSD.w _ | (rw [hKH 2 (by omega)]; exact hKP) | omega) (by first | assumption | exact hSD.1 | exact hSD.w _ | (rw [hKH 2 (by omega)]; exact hKP) | omega) (by first | assumption | exact hSD.1 | exact hSD.w _ | (rw [hKH 2 (by omega)]; exact hKP) | omega) (by first | assumption | exact hSD.1 | exact hSD.w _ | (rw [hKH 2 (by omega)]; exact hKP) | omega) (by first | assumption | exact hSD.1 | exact hSD.w _ | (rw [hKH 2 (by omega)]; exact hKP) | omega) (by first | assumption | exact hSD.1 | exact hSD.w _ | (rw [hKH 2 (by omega)]; exact hKP) | omega) (by first | assumption | exact hSD.1 | exact hSD.w _ | (rw [hKH 2 (by omega)]; exact hKP) | omega) (by first | assumption | exact hSD.1 | exact hSD.w _ | (rw [hKH 2 (by omega)]; exact hKP) | omega) (by first | assumption | exact hSD.1 | exact hSD.w _ | (rw [hKH 2 (by omega)]; exact hKP) | omega) (by first | assumption | exact hSD.1 | exact hSD.w _ | (rw [hKH 2 (by omega)]; exact hKP) | omega) (by first | assumption | exact hSD.1 | exact hSD.w _ | (rw [hKH 2 (by omega)]; exact hKP) | omega)) (cwV 2 ht (ts_gV wd_1558 wd_1560 wd_74 wd_134 wd_1561) rfl rfl rfl (by decide +kernel) ⟨Nat.le_of_ble_eq_true rfl, Nat.le_of_ble_eq_true rfl⟩) (gc_preV (ci := 12) (q0 := 1) hK (tw_right hP) (tw_rightD hD) rfl rfl) rfl rfl hl.1 rfl (lv_room (Nat.le_of_ble_eq_true rfl)) dX12_speaks_63 ⟨Nat.le_of_ble_eq_true rfl, Nat.le_of_ble_eq_true rfl⟩) hP hD hS hA (fun r_12 wt H locs hw hP hD hS => ?_)
          obtain ⟨hT, hkp, rp_r_12⟩ := hw
          have hW := hW.call (show ∀ x ∈ [], x ∈ [] by decide) hkp
          have hP : va_P (gg_D G) classes ([((am 6), .inl (G.2.2 0, 6, .inl cs)), ((am 5), .inl (G.2.2 0, 288, .inl cl)), ((am 3), .inl (G.2.2 0, 2400, .inl sg)), ((am 20), .inl (G.2.2 0, 110, .inl sd)), (m0, .inr (12, [.ref (am 0), .int v1, .int v2, .ref (am 3), .ref (am 4), .ref (am 5), .ref (am 6), .ref (am 7), .int v8, .int v9, .int v10, .int v11, .int v12, .int v13, .int v14, .ref (am 15), .int v16, .ref (am 17), .int v18, .ref (am 19), .ref (am 20), .int v21, .int v22, .int v23, .int v24, .int v25, .ref (am 26), .int v27, .ref (am 28), .ref (am 29), .ref (am 30), .ref (am 31), .long v32, .ref (am 33), .ref (am 34), .ref (am 35), .ref (am 36)]))] ++ wt) H := hP
          have hD : va_D A ([((am 6), .inl (G.2.2 0, 6, .inl cs)), ((am 5), .inl (G.2.2 0, 288, .inl cl)), ((am 3), .inl (G.2.2 0, 2400, .inl sg)), ((am 20), .inl (G.2.2 0, 110, .inl sd)), (m0, .inr (12, [.ref (am 0), .int v1, .int v2, .ref (am 3), .ref (am 4), .ref (am 5), .ref (am 6), .ref (am 7), .int v8, .int v9, .int v10, .int v11, .int v12, .int v13, .int v14, .ref (am 15), .int v16, .ref (am 17), .int v18, .ref (am 19), .ref (am 20), .int v21, .int v22, .int v23, .int v24, .int v25, .ref (am 26), .int v27, .ref (am 28), .ref (am 29), .ref (am 30), .ref (am 31), .long v32, .ref (am 33), .ref (am 34), .ref (am 35), .ref (am 36)]))] ++ wt) := hD
          refine lv_icmp_lt (tgt := 73) hx hb dX12_speaks_66 (by decide) (fun c_13 => ?_) (fun c_13 => ?_)
          · rw [Int32.lt_iff_toInt_lt] at c_13
            refine lv_iconst (v := 0) hx hb dX12_speaks_73 (by decide +kernel) ?_
            have hP9 : va_P (gg_D G) classes ([((am 6), .inl (G.2.2 0, 6, .inl cs)), ((am 5), .inl (G.2.2 0, 288, .inl cl)), ((am 3), .inl (G.2.2 0, 2400, .inl sg)), ((am 20), .inl (G.2.2 0, 110, .inl sd)), (m0, .inr (12, [.ref (am 0), .int v1, .int v2, .ref (am 3), .ref (am 4), .ref (am 5), .ref (am 6), .ref (am 7), .int v8, .int v9, .int v10, .int v11, .int v12, .int v13, .int v14, .ref (am 15), .int v16, .ref (am 17), .int v18, .ref (am 19), .ref (am 20), .int v21, .int v22, .int v23, .int v24, .int v25, .ref (am 26), .int v27, .ref (am 28), .ref (am 29), .ref (am 30), .ref (am 31), .long v32, .ref (am 33), .ref (am 34), .ref (am 35), .ref (am 36)]))] ++ wt) _ := hP
            have hD9 : va_D A ([((am 6), .inl (G.2.2 0, 6, .inl cs)), ((am 5), .inl (G.2.2 0, 288, .inl cl)), ((am 3), .inl (G.2.2 0, 2400, .inl sg)), ((am 20), .inl (G.2.2 0, 110, .inl sd)), (m0, .inr (12, [.ref (am 0), .int v1, .int v2, .ref (am 3), .ref (am 4), .ref (am 5), .ref (am 6), .ref (am 7), .int v8, .int v9, .int v10, .int v11, .int v12, .int v13, .int v14, .ref (am 15), .int v16, .ref (am 17), .int v18, .ref (am 19), .ref (am 20), .int v21, .int v22, .int v23, .int v24, .int v25, .ref (am 26), .int v27, .ref (am 28), .ref (am 29), .ref (am 30), .ref (am 31), .long v32, .ref (am 33), .ref (am 34), .ref (am 35), .ref (am 36)]))] ++ wt) := hD
            exact W.zret (v := 0) hx hb hr (by decide +kernel) (gq_endI (v18, wt) ⟨hT, hW, (by omega), (by omega)⟩ hP9 hD9 hS) hS.2.2 dX12_speaks_74
          · rw [Int32.lt_iff_toInt_lt] at c_13
            refine lv_iconst (v := 1) hx hb dX12_speaks_69 (by decide +kernel) ?_
            refine lv_goto (tgt := 74) hx hb dX12_speaks_70 (by decide) ?_
            have hP9 : va_P (gg_D G) classes ([((am 6), .inl (G.2.2 0, 6, .inl cs)), ((am 5), .inl (G.2.2 0, 288, .inl cl)), ((am 3), .inl (G.2.2 0, 2400, .inl sg)), ((am 20), .inl (G.2.2 0, 110, .inl sd)), (m0, .inr (12, [.ref (am 0), .int v1, .int v2, .ref (am 3), .ref (am 4), .ref (am 5), .ref (am 6), .ref (am 7), .int v8, .int v9, .int v10, .int v11, .int v12, .int v13, .int v14, .ref (am 15), .int v16, .ref (am 17), .int v18, .ref (am 19), .ref (am 20), .int v21, .int v22, .int v23, .int v24, .int v25, .ref (am 26), .int v27, .ref (am 28), .ref (am 29), .ref (am 30), .ref (am 31), .long v32, .ref (am 33), .ref (am 34), .ref (am 35), .ref (am 36)]))] ++ wt) _ := hP
            have hD9 : va_D A ([((am 6), .inl (G.2.2 0, 6, .inl cs)), ((am 5), .inl (G.2.2 0, 288, .inl cl)), ((am 3), .inl (G.2.2 0, 2400, .inl sg)), ((am 20), .inl (G.2.2 0, 110, .inl sd)), (m0, .inr (12, [.ref (am 0), .int v1, .int v2, .ref (am 3), .ref (am 4), .ref (am 5), .ref (am 6), .ref (am 7), .int v8, .int v9, .int v10, .int v11, .int v12, .int v13, .int v14, .ref (am 15), .int v16, .ref (am 17), .int v18, .ref (am 19), .ref (am 20), .int v21, .int v22, .int v23, .int v24, .int v25, .ref (am 26), .int v27, .ref (am 28), .ref (am 29), .ref (am 30), .ref (am 31), .long v32, .ref (am 33), .ref (am 34), .ref (am 35), .ref (am 36)]))] ++ wt) := hD
            exact W.zret (v := 1) hx hb hr (by decide +kernel) (gq_endI (v18, wt) ⟨hT, hW, (by omega), (by omega)⟩ hP9 hD9 hS) hS.2.2 dX12_speaks_74
    · rw [← Int32.toInt_inj] at c_4
      refine lv_iload_n hx hb dX12_speaks_28 rfl (lv_at hl 0 rfl) ?_
      refine lv_aload_n hx hb dX12_speaks_29 rfl (lv_at hl 1 rfl) ?_
      refine gq_get hx hb ht hown hK hP i_X12 4 rfl rfl 25 (by decide) wd_1277 rfl rfl dX12_speaks_30 ?_
      refine lv_icmp_lt (tgt := 40) hx hb dX12_speaks_33 (by decide) (fun c_14 => ?_) (fun c_14 => ?_)
      · rw [Int32.lt_iff_toInt_lt] at c_14
        refine lv_iconst (v := 0) hx hb dX12_speaks_40 (by decide +kernel) ?_
        have hP9 : va_P (gg_D G) classes ([((am 6), .inl (G.2.2 0, 6, .inl cs)), ((am 5), .inl (G.2.2 0, 288, .inl cl)), ((am 3), .inl (G.2.2 0, 2400, .inl sg)), ((am 20), .inl (G.2.2 0, 110, .inl sd)), (m0, .inr (12, [.ref (am 0), .int v1, .int v2, .ref (am 3), .ref (am 4), .ref (am 5), .ref (am 6), .ref (am 7), .int v8, .int v9, .int v10, .int v11, .int v12, .int v13, .int v14, .ref (am 15), .int v16, .ref (am 17), .int v18, .ref (am 19), .ref (am 20), .int v21, .int v22, .int v23, .int v24, .int v25, .ref (am 26), .int v27, .ref (am 28), .ref (am 29), .ref (am 30), .ref (am 31), .long v32, .ref (am 33), .ref (am 34), .ref (am 35), .ref (am 36)]))] ++ wt) _ := hP
        have hD9 : va_D A ([((am 6), .inl (G.2.2 0, 6, .inl cs)), ((am 5), .inl (G.2.2 0, 288, .inl cl)), ((am 3), .inl (G.2.2 0, 2400, .inl sg)), ((am 20), .inl (G.2.2 0, 110, .inl sd)), (m0, .inr (12, [.ref (am 0), .int v1, .int v2, .ref (am 3), .ref (am 4), .ref (am 5), .ref (am 6), .ref (am 7), .int v8, .int v9, .int v10, .int v11, .int v12, .int v13, .int v14, .ref (am 15), .int v16, .ref (am 17), .int v18, .ref (am 19), .ref (am 20), .int v21, .int v22, .int v23, .int v24, .int v25, .ref (am 26), .int v27, .ref (am 28), .ref (am 29), .ref (am 30), .ref (am 31), .long v32, .ref (am 33), .ref (am 34), .ref (am 35), .ref (am 36)]))] ++ wt) := hD
        exact W.zret (v := 0) hx hb hr (by decide +kernel) (gq_endI (v18, wt) ⟨hT, hW, (by omega), (by omega)⟩ hP9 hD9 hS) hS.2.2 dX12_speaks_41
      · rw [Int32.lt_iff_toInt_lt] at c_14
        refine lv_iconst (v := 1) hx hb dX12_speaks_36 (by decide +kernel) ?_
        refine lv_goto (tgt := 41) hx hb dX12_speaks_37 (by decide) ?_
        have hP9 : va_P (gg_D G) classes ([((am 6), .inl (G.2.2 0, 6, .inl cs)), ((am 5), .inl (G.2.2 0, 288, .inl cl)), ((am 3), .inl (G.2.2 0, 2400, .inl sg)), ((am 20), .inl (G.2.2 0, 110, .inl sd)), (m0, .inr (12, [.ref (am 0), .int v1, .int v2, .ref (am 3), .ref (am 4), .ref (am 5), .ref (am 6), .ref (am 7), .int v8, .int v9, .int v10, .int v11, .int v12, .int v13, .int v14, .ref (am 15), .int v16, .ref (am 17), .int v18, .ref (am 19), .ref (am 20), .int v21, .int v22, .int v23, .int v24, .int v25, .ref (am 26), .int v27, .ref (am 28), .ref (am 29), .ref (am 30), .ref (am 31), .long v32, .ref (am 33), .ref (am 34), .ref (am 35), .ref (am 36)]))] ++ wt) _ := hP
        have hD9 : va_D A ([((am 6), .inl (G.2.2 0, 6, .inl cs)), ((am 5), .inl (G.2.2 0, 288, .inl cl)), ((am 3), .inl (G.2.2 0, 2400, .inl sg)), ((am 20), .inl (G.2.2 0, 110, .inl sd)), (m0, .inr (12, [.ref (am 0), .int v1, .int v2, .ref (am 3), .ref (am 4), .ref (am 5), .ref (am 6), .ref (am 7), .int v8, .int v9, .int v10, .int v11, .int v12, .int v13, .int v14, .ref (am 15), .int v16, .ref (am 17), .int v18, .ref (am 19), .ref (am 20), .int v21, .int v22, .int v23, .int v24, .int v25, .ref (am 26), .int v27, .ref (am 28), .ref (am 29), .ref (am 30), .ref (am 31), .long v32, .ref (am 33), .ref (am 34), .ref (am 35), .ref (am 36)]))] ++ wt) := hD
        exact W.zret (v := 1) hx hb hr (by decide +kernel) (gq_endI (v18, wt) ⟨hT, hW, (by omega), (by omega)⟩ hP9 hD9 hS) hS.2.2 dX12_speaks_41
  · rw [← Int32.toInt_inj] at c_3
    refine lv_iconst (v := 1) hx hb dX12_speaks_18 (by decide +kernel) ?_
    have hP9 : va_P (gg_D G) classes ([((am 6), .inl (G.2.2 0, 6, .inl cs)), ((am 5), .inl (G.2.2 0, 288, .inl cl)), ((am 3), .inl (G.2.2 0, 2400, .inl sg)), ((am 20), .inl (G.2.2 0, 110, .inl sd)), (m0, .inr (12, [.ref (am 0), .int v1, .int v2, .ref (am 3), .ref (am 4), .ref (am 5), .ref (am 6), .ref (am 7), .int v8, .int v9, .int v10, .int v11, .int v12, .int v13, .int v14, .ref (am 15), .int v16, .ref (am 17), .int v18, .ref (am 19), .ref (am 20), .int v21, .int v22, .int v23, .int v24, .int v25, .ref (am 26), .int v27, .ref (am 28), .ref (am 29), .ref (am 30), .ref (am 31), .long v32, .ref (am 33), .ref (am 34), .ref (am 35), .ref (am 36)]))] ++ wt) _ := hP
    have hD9 : va_D A ([((am 6), .inl (G.2.2 0, 6, .inl cs)), ((am 5), .inl (G.2.2 0, 288, .inl cl)), ((am 3), .inl (G.2.2 0, 2400, .inl sg)), ((am 20), .inl (G.2.2 0, 110, .inl sd)), (m0, .inr (12, [.ref (am 0), .int v1, .int v2, .ref (am 3), .ref (am 4), .ref (am 5), .ref (am 6), .ref (am 7), .int v8, .int v9, .int v10, .int v11, .int v12, .int v13, .int v14, .ref (am 15), .int v16, .ref (am 17), .int v18, .ref (am 19), .ref (am 20), .int v21, .int v22, .int v23, .int v24, .int v25, .ref (am 26), .int v27, .ref (am 28), .ref (am 29), .ref (am 30), .ref (am 31), .long v32, .ref (am 33), .ref (am 34), .ref (am 35), .ref (am 36)]))] ++ wt) := hD
    exact W.zret (v := 1) hx hb hr (by decide +kernel) (gq_endI (v18, wt) ⟨hT, hW, (by omega), (by omega)⟩ hP9 hD9 hS) hS.2.2 dX12_speaks_19

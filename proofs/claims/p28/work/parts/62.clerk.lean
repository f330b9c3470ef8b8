theorem wd_917 : (Jvm.Cond.code ({ cls := "SilentSale$Rule", name := "join", desc := "(IJJ)J" } : Jvm.MethodName) prog_6_method_15_code (5 : Nat) (Option.some Jvm.ClassFile.FieldType.long)) ∈ tb_L := tb_in (i := 917) (by decide +kernel) (by decide +kernel)
theorem dX4_join_0 : decode cX4_join 0 = .ok (.iload_n 0, 1) := by decide +kernel
theorem dX4_join_1 : decode cX4_join 1 = .ok (.tableswitch 163 10 20 #[59, 63, 67, 71, 85, 99, 111, 123, 135, 147, 159], 59) := by decide +kernel
theorem dX4_join_60 : decode cX4_join 60 = .ok (.lload_n 1, 1) := by decide +kernel
theorem dX4_join_61 : decode cX4_join 61 = .ok (.lload_n 3, 1) := by decide +kernel
theorem dX4_join_62 : decode cX4_join 62 = .ok (.ladd, 1) := by decide +kernel
theorem dX4_join_63 : decode cX4_join 63 = .ok (.lreturn, 1) := by decide +kernel
theorem dX4_join_64 : decode cX4_join 64 = .ok (.lload_n 1, 1) := by decide +kernel
theorem dX4_join_65 : decode cX4_join 65 = .ok (.lload_n 3, 1) := by decide +kernel
theorem dX4_join_66 : decode cX4_join 66 = .ok (.lsub, 1) := by decide +kernel
theorem dX4_join_67 : decode cX4_join 67 = .ok (.lreturn, 1) := by decide +kernel
theorem dX4_join_68 : decode cX4_join 68 = .ok (.lload_n 1, 1) := by decide +kernel
theorem dX4_join_69 : decode cX4_join 69 = .ok (.lload_n 3, 1) := by decide +kernel
theorem dX4_join_70 : decode cX4_join 70 = .ok (.lmul, 1) := by decide +kernel
theorem dX4_join_71 : decode cX4_join 71 = .ok (.lreturn, 1) := by decide +kernel
theorem dX4_join_72 : decode cX4_join 72 = .ok (.lload_n 3, 1) := by decide +kernel
theorem dX4_join_73 : decode cX4_join 73 = .ok (.lconst 0, 1) := by decide +kernel
theorem dX4_join_74 : decode cX4_join 74 = .ok (.lcmp, 1) := by decide +kernel
theorem dX4_join_75 : decode cX4_join 75 = .ok (.ifCond .ne 7, 3) := by decide +kernel
theorem dX4_join_78 : decode cX4_join 78 = .ok (.lconst 0, 1) := by decide +kernel
theorem dX4_join_79 : decode cX4_join 79 = .ok (.goto 6, 3) := by decide +kernel
theorem dX4_join_82 : decode cX4_join 82 = .ok (.lload_n 1, 1) := by decide +kernel
theorem dX4_join_83 : decode cX4_join 83 = .ok (.lload_n 3, 1) := by decide +kernel
theorem dX4_join_84 : decode cX4_join 84 = .ok (.ldiv, 1) := by decide +kernel
theorem dX4_join_85 : decode cX4_join 85 = .ok (.lreturn, 1) := by decide +kernel
theorem dX4_join_86 : decode cX4_join 86 = .ok (.lload_n 3, 1) := by decide +kernel
theorem dX4_join_87 : decode cX4_join 87 = .ok (.lconst 0, 1) := by decide +kernel
theorem dX4_join_88 : decode cX4_join 88 = .ok (.lcmp, 1) := by decide +kernel
theorem dX4_join_89 : decode cX4_join 89 = .ok (.ifCond .ne 7, 3) := by decide +kernel
theorem dX4_join_92 : decode cX4_join 92 = .ok (.lconst 0, 1) := by decide +kernel
theorem dX4_join_93 : decode cX4_join 93 = .ok (.goto 6, 3) := by decide +kernel
theorem dX4_join_96 : decode cX4_join 96 = .ok (.lload_n 1, 1) := by decide +kernel
theorem dX4_join_97 : decode cX4_join 97 = .ok (.lload_n 3, 1) := by decide +kernel
theorem dX4_join_98 : decode cX4_join 98 = .ok (.lrem, 1) := by decide +kernel
theorem dX4_join_99 : decode cX4_join 99 = .ok (.lreturn, 1) := by decide +kernel
theorem dX4_join_100 : decode cX4_join 100 = .ok (.lload_n 1, 1) := by decide +kernel
theorem dX4_join_101 : decode cX4_join 101 = .ok (.lload_n 3, 1) := by decide +kernel
theorem dX4_join_102 : decode cX4_join 102 = .ok (.lcmp, 1) := by decide +kernel
theorem dX4_join_103 : decode cX4_join 103 = .ok (.ifCond .ge 7, 3) := by decide +kernel
theorem dX4_join_106 : decode cX4_join 106 = .ok (.lconst 1, 1) := by decide +kernel
theorem dX4_join_107 : decode cX4_join 107 = .ok (.goto 4, 3) := by decide +kernel
theorem dX4_join_110 : decode cX4_join 110 = .ok (.lconst 0, 1) := by decide +kernel
theorem dX4_join_111 : decode cX4_join 111 = .ok (.lreturn, 1) := by decide +kernel
theorem dX4_join_112 : decode cX4_join 112 = .ok (.lload_n 1, 1) := by decide +kernel
theorem dX4_join_113 : decode cX4_join 113 = .ok (.lload_n 3, 1) := by decide +kernel
theorem dX4_join_114 : decode cX4_join 114 = .ok (.lcmp, 1) := by decide +kernel
theorem dX4_join_115 : decode cX4_join 115 = .ok (.ifCond .gt 7, 3) := by decide +kernel
theorem dX4_join_118 : decode cX4_join 118 = .ok (.lconst 1, 1) := by decide +kernel
theorem dX4_join_119 : decode cX4_join 119 = .ok (.goto 4, 3) := by decide +kernel
theorem dX4_join_122 : decode cX4_join 122 = .ok (.lconst 0, 1) := by decide +kernel
theorem dX4_join_123 : decode cX4_join 123 = .ok (.lreturn, 1) := by decide +kernel
theorem dX4_join_124 : decode cX4_join 124 = .ok (.lload_n 1, 1) := by decide +kernel
theorem dX4_join_125 : decode cX4_join 125 = .ok (.lload_n 3, 1) := by decide +kernel
theorem dX4_join_126 : decode cX4_join 126 = .ok (.lcmp, 1) := by decide +kernel
theorem dX4_join_127 : decode cX4_join 127 = .ok (.ifCond .ne 7, 3) := by decide +kernel
theorem dX4_join_130 : decode cX4_join 130 = .ok (.lconst 1, 1) := by decide +kernel
theorem dX4_join_131 : decode cX4_join 131 = .ok (.goto 4, 3) := by decide +kernel
theorem dX4_join_134 : decode cX4_join 134 = .ok (.lconst 0, 1) := by decide +kernel
theorem dX4_join_135 : decode cX4_join 135 = .ok (.lreturn, 1) := by decide +kernel
theorem dX4_join_136 : decode cX4_join 136 = .ok (.lload_n 1, 1) := by decide +kernel
theorem dX4_join_137 : decode cX4_join 137 = .ok (.lload_n 3, 1) := by decide +kernel
theorem dX4_join_138 : decode cX4_join 138 = .ok (.lcmp, 1) := by decide +kernel
theorem dX4_join_139 : decode cX4_join 139 = .ok (.ifCond .lt 7, 3) := by decide +kernel
theorem dX4_join_142 : decode cX4_join 142 = .ok (.lconst 1, 1) := by decide +kernel
theorem dX4_join_143 : decode cX4_join 143 = .ok (.goto 4, 3) := by decide +kernel
theorem dX4_join_146 : decode cX4_join 146 = .ok (.lconst 0, 1) := by decide +kernel
theorem dX4_join_147 : decode cX4_join 147 = .ok (.lreturn, 1) := by decide +kernel
theorem dX4_join_148 : decode cX4_join 148 = .ok (.lload_n 1, 1) := by decide +kernel
theorem dX4_join_149 : decode cX4_join 149 = .ok (.lload_n 3, 1) := by decide +kernel
theorem dX4_join_150 : decode cX4_join 150 = .ok (.lcmp, 1) := by decide +kernel
theorem dX4_join_151 : decode cX4_join 151 = .ok (.ifCond .le 7, 3) := by decide +kernel
theorem dX4_join_154 : decode cX4_join 154 = .ok (.lconst 1, 1) := by decide +kernel
theorem dX4_join_155 : decode cX4_join 155 = .ok (.goto 4, 3) := by decide +kernel
theorem dX4_join_158 : decode cX4_join 158 = .ok (.lconst 0, 1) := by decide +kernel
theorem dX4_join_159 : decode cX4_join 159 = .ok (.lreturn, 1) := by decide +kernel
theorem dX4_join_160 : decode cX4_join 160 = .ok (.lload_n 1, 1) := by decide +kernel
theorem dX4_join_161 : decode cX4_join 161 = .ok (.lload_n 3, 1) := by decide +kernel
theorem dX4_join_162 : decode cX4_join 162 = .ok (.land, 1) := by decide +kernel
theorem dX4_join_163 : decode cX4_join 163 = .ok (.lreturn, 1) := by decide +kernel
theorem dX4_join_164 : decode cX4_join 164 = .ok (.lload_n 1, 1) := by decide +kernel
theorem dX4_join_165 : decode cX4_join 165 = .ok (.lload_n 3, 1) := by decide +kernel
theorem dX4_join_166 : decode cX4_join 166 = .ok (.lor, 1) := by decide +kernel
theorem dX4_join_167 : decode cX4_join 167 = .ok (.lreturn, 1) := by decide +kernel
theorem wd_128 : (Jvm.Cond.initialized "SilentSale$Rule") ∈ tb_L := tb_in (i := 128) (by decide +kernel) (by decide +kernel)
theorem wd_337 : (Jvm.Cond.fieldLink "SilentSale$Rule" (9 : Nat) "SilentSale$Rule" "steps" "[I") ∈ tb_L := tb_in (i := 337) (by decide +kernel) (by decide +kernel)
theorem wd_338 : (Jvm.Cond.fieldLink "SilentSale$Rule" (15 : Nat) "SilentSale$Rule" "words" "[J") ∈ tb_L := tb_in (i := 338) (by decide +kernel) (by decide +kernel)
theorem wd_339 : (Jvm.Cond.fieldLink "SilentSale$Rule" (19 : Nat) "SilentSale$Rule" "pile" "[J") ∈ tb_L := tb_in (i := 339) (by decide +kernel) (by decide +kernel)
theorem wd_343 : (Jvm.Cond.fieldLink "SilentSale$Rule" (32 : Nat) "SilentSale$Rule" "size" "I") ∈ tb_L := tb_in (i := 343) (by decide +kernel) (by decide +kernel)
theorem wd_914 : (Jvm.Cond.code ({ cls := "SilentSale$Rule", name := "workOut", desc := "()J" } : Jvm.MethodName) prog_6_method_14_code (4 : Nat) (Option.some Jvm.ClassFile.FieldType.long)) ∈ tb_L := tb_in (i := 914) (by decide +kernel) (by decide +kernel)
theorem wd_915 : (Jvm.Cond.methodLink "SilentSale$Rule" (175 : Nat) ({ cls := "SilentSale$Rule", name := "join", desc := "(IJJ)J" } : Jvm.MethodName)) ∈ tb_L := tb_in (i := 915) (by decide +kernel) (by decide +kernel)
theorem wd_916 : (Jvm.Cond.static ({ cls := "SilentSale$Rule", name := "join", desc := "(IJJ)J" } : Jvm.MethodName)) ∈ tb_L := tb_in (i := 916) (by decide +kernel) (by decide +kernel)
theorem dX4_workOut_0 : decode cX4_workOut 0 = .ok (.iconst 0, 1) := by decide +kernel
theorem dX4_workOut_1 : decode cX4_workOut 1 = .ok (.istore_n 1, 1) := by decide +kernel
theorem dX4_workOut_2 : decode cX4_workOut 2 = .ok (.iconst 0, 1) := by decide +kernel
theorem dX4_workOut_3 : decode cX4_workOut 3 = .ok (.istore_n 2, 1) := by decide +kernel
theorem dX4_workOut_4 : decode cX4_workOut 4 = .ok (.iload_n 2, 1) := by decide +kernel
theorem dX4_workOut_5 : decode cX4_workOut 5 = .ok (.aload_n 0, 1) := by decide +kernel
theorem dX4_workOut_6 : decode cX4_workOut 6 = .ok (.getfield 32, 3) := by decide +kernel
theorem dX4_workOut_9 : decode cX4_workOut 9 = .ok (.if_icmp .ge 182, 3) := by decide +kernel
theorem dX4_workOut_12 : decode cX4_workOut 12 = .ok (.aload_n 0, 1) := by decide +kernel
theorem dX4_workOut_13 : decode cX4_workOut 13 = .ok (.getfield 9, 3) := by decide +kernel
theorem dX4_workOut_16 : decode cX4_workOut 16 = .ok (.iload_n 2, 1) := by decide +kernel
theorem dX4_workOut_17 : decode cX4_workOut 17 = .ok (.iaload, 1) := by decide +kernel
theorem dX4_workOut_18 : decode cX4_workOut 18 = .ok (.istore_n 3, 1) := by decide +kernel
theorem dX4_workOut_19 : decode cX4_workOut 19 = .ok (.iload_n 3, 1) := by decide +kernel
theorem dX4_workOut_20 : decode cX4_workOut 20 = .ok (.bipush 9, 2) := by decide +kernel
theorem dX4_workOut_22 : decode cX4_workOut 22 = .ok (.if_icmp .le 9, 3) := by decide +kernel
theorem dX4_workOut_25 : decode cX4_workOut 25 = .ok (.iload_n 3, 1) := by decide +kernel
theorem dX4_workOut_26 : decode cX4_workOut 26 = .ok (.bipush 100, 2) := by decide +kernel
theorem dX4_workOut_28 : decode cX4_workOut 28 = .ok (.if_icmp .lt 43, 3) := by decide +kernel
theorem dX4_workOut_31 : decode cX4_workOut 31 = .ok (.iload_n 1, 1) := by decide +kernel
theorem dX4_workOut_32 : decode cX4_workOut 32 = .ok (.bipush 60, 2) := by decide +kernel
theorem dX4_workOut_34 : decode cX4_workOut 34 = .ok (.if_icmp .lt 5, 3) := by decide +kernel
theorem dX4_workOut_37 : decode cX4_workOut 37 = .ok (.lconst 0, 1) := by decide +kernel
theorem dX4_workOut_38 : decode cX4_workOut 38 = .ok (.lreturn, 1) := by decide +kernel
theorem dX4_workOut_39 : decode cX4_workOut 39 = .ok (.aload_n 0, 1) := by decide +kernel
theorem dX4_workOut_40 : decode cX4_workOut 40 = .ok (.getfield 19, 3) := by decide +kernel
theorem dX4_workOut_43 : decode cX4_workOut 43 = .ok (.iload_n 1, 1) := by decide +kernel
theorem dX4_workOut_44 : decode cX4_workOut 44 = .ok (.iload_n 3, 1) := by decide +kernel
theorem dX4_workOut_45 : decode cX4_workOut 45 = .ok (.bipush 9, 2) := by decide +kernel
theorem dX4_workOut_47 : decode cX4_workOut 47 = .ok (.if_icmp .gt 12, 3) := by decide +kernel
theorem dX4_workOut_50 : decode cX4_workOut 50 = .ok (.aload_n 0, 1) := by decide +kernel
theorem dX4_workOut_51 : decode cX4_workOut 51 = .ok (.getfield 15, 3) := by decide +kernel
theorem dX4_workOut_54 : decode cX4_workOut 54 = .ok (.iload_n 3, 1) := by decide +kernel
theorem dX4_workOut_55 : decode cX4_workOut 55 = .ok (.laload, 1) := by decide +kernel
theorem dX4_workOut_56 : decode cX4_workOut 56 = .ok (.goto 8, 3) := by decide +kernel
theorem dX4_workOut_59 : decode cX4_workOut 59 = .ok (.iload_n 3, 1) := by decide +kernel
theorem dX4_workOut_60 : decode cX4_workOut 60 = .ok (.bipush 100, 2) := by decide +kernel
theorem dX4_workOut_62 : decode cX4_workOut 62 = .ok (.isub, 1) := by decide +kernel
theorem dX4_workOut_63 : decode cX4_workOut 63 = .ok (.i2l, 1) := by decide +kernel
theorem dX4_workOut_64 : decode cX4_workOut 64 = .ok (.lastore, 1) := by decide +kernel
theorem dX4_workOut_65 : decode cX4_workOut 65 = .ok (.iinc 1 1, 3) := by decide +kernel
theorem dX4_workOut_68 : decode cX4_workOut 68 = .ok (.goto 117, 3) := by decide +kernel
theorem dX4_workOut_71 : decode cX4_workOut 71 = .ok (.iload_n 1, 1) := by decide +kernel
theorem dX4_workOut_72 : decode cX4_workOut 72 = .ok (.iconst 1, 1) := by decide +kernel
theorem dX4_workOut_73 : decode cX4_workOut 73 = .ok (.if_icmp .ge 5, 3) := by decide +kernel
theorem dX4_workOut_76 : decode cX4_workOut 76 = .ok (.lconst 0, 1) := by decide +kernel
theorem dX4_workOut_77 : decode cX4_workOut 77 = .ok (.lreturn, 1) := by decide +kernel
theorem dX4_workOut_78 : decode cX4_workOut 78 = .ok (.iload_n 3, 1) := by decide +kernel
theorem dX4_workOut_79 : decode cX4_workOut 79 = .ok (.bipush 22, 2) := by decide +kernel
theorem dX4_workOut_81 : decode cX4_workOut 81 = .ok (.if_icmp .ne 24, 3) := by decide +kernel
theorem dX4_workOut_84 : decode cX4_workOut 84 = .ok (.aload_n 0, 1) := by decide +kernel
theorem dX4_workOut_85 : decode cX4_workOut 85 = .ok (.getfield 19, 3) := by decide +kernel
theorem dX4_workOut_88 : decode cX4_workOut 88 = .ok (.iload_n 1, 1) := by decide +kernel
theorem dX4_workOut_89 : decode cX4_workOut 89 = .ok (.iconst 1, 1) := by decide +kernel
theorem dX4_workOut_90 : decode cX4_workOut 90 = .ok (.isub, 1) := by decide +kernel
theorem dX4_workOut_91 : decode cX4_workOut 91 = .ok (.lconst 1, 1) := by decide +kernel
theorem dX4_workOut_92 : decode cX4_workOut 92 = .ok (.aload_n 0, 1) := by decide +kernel
theorem dX4_workOut_93 : decode cX4_workOut 93 = .ok (.getfield 19, 3) := by decide +kernel
theorem dX4_workOut_96 : decode cX4_workOut 96 = .ok (.iload_n 1, 1) := by decide +kernel
theorem dX4_workOut_97 : decode cX4_workOut 97 = .ok (.iconst 1, 1) := by decide +kernel
theorem dX4_workOut_98 : decode cX4_workOut 98 = .ok (.isub, 1) := by decide +kernel
theorem dX4_workOut_99 : decode cX4_workOut 99 = .ok (.laload, 1) := by decide +kernel
theorem dX4_workOut_100 : decode cX4_workOut 100 = .ok (.lsub, 1) := by decide +kernel
theorem dX4_workOut_101 : decode cX4_workOut 101 = .ok (.lastore, 1) := by decide +kernel
theorem dX4_workOut_102 : decode cX4_workOut 102 = .ok (.goto 83, 3) := by decide +kernel
theorem dX4_workOut_105 : decode cX4_workOut 105 = .ok (.iload_n 3, 1) := by decide +kernel
theorem dX4_workOut_106 : decode cX4_workOut 106 = .ok (.bipush 23, 2) := by decide +kernel
theorem dX4_workOut_108 : decode cX4_workOut 108 = .ok (.if_icmp .ne 10, 3) := by decide +kernel
theorem dX4_workOut_111 : decode cX4_workOut 111 = .ok (.aload_n 0, 1) := by decide +kernel
theorem dX4_workOut_112 : decode cX4_workOut 112 = .ok (.getfield 19, 3) := by decide +kernel
theorem dX4_workOut_115 : decode cX4_workOut 115 = .ok (.iconst 0, 1) := by decide +kernel
theorem dX4_workOut_116 : decode cX4_workOut 116 = .ok (.laload, 1) := by decide +kernel
theorem dX4_workOut_117 : decode cX4_workOut 117 = .ok (.lreturn, 1) := by decide +kernel
theorem dX4_workOut_118 : decode cX4_workOut 118 = .ok (.iload_n 3, 1) := by decide +kernel
theorem dX4_workOut_119 : decode cX4_workOut 119 = .ok (.bipush 24, 2) := by decide +kernel
theorem dX4_workOut_121 : decode cX4_workOut 121 = .ok (.if_icmp .ne 28, 3) := by decide +kernel
theorem dX4_workOut_124 : decode cX4_workOut 124 = .ok (.aload_n 0, 1) := by decide +kernel
theorem dX4_workOut_125 : decode cX4_workOut 125 = .ok (.getfield 19, 3) := by decide +kernel
theorem dX4_workOut_128 : decode cX4_workOut 128 = .ok (.iload_n 1, 1) := by decide +kernel
theorem dX4_workOut_129 : decode cX4_workOut 129 = .ok (.iconst 1, 1) := by decide +kernel
theorem dX4_workOut_130 : decode cX4_workOut 130 = .ok (.isub, 1) := by decide +kernel
theorem dX4_workOut_131 : decode cX4_workOut 131 = .ok (.laload, 1) := by decide +kernel
theorem dX4_workOut_132 : decode cX4_workOut 132 = .ok (.lconst 0, 1) := by decide +kernel
theorem dX4_workOut_133 : decode cX4_workOut 133 = .ok (.lcmp, 1) := by decide +kernel
theorem dX4_workOut_134 : decode cX4_workOut 134 = .ok (.ifCond .eq 10, 3) := by decide +kernel
theorem dX4_workOut_137 : decode cX4_workOut 137 = .ok (.aload_n 0, 1) := by decide +kernel
theorem dX4_workOut_138 : decode cX4_workOut 138 = .ok (.getfield 19, 3) := by decide +kernel
theorem dX4_workOut_141 : decode cX4_workOut 141 = .ok (.iconst 0, 1) := by decide +kernel
theorem dX4_workOut_142 : decode cX4_workOut 142 = .ok (.laload, 1) := by decide +kernel
theorem dX4_workOut_143 : decode cX4_workOut 143 = .ok (.lreturn, 1) := by decide +kernel
theorem dX4_workOut_144 : decode cX4_workOut 144 = .ok (.iconst 0, 1) := by decide +kernel
theorem dX4_workOut_145 : decode cX4_workOut 145 = .ok (.istore_n 1, 1) := by decide +kernel
theorem dX4_workOut_146 : decode cX4_workOut 146 = .ok (.goto 39, 3) := by decide +kernel
theorem dX4_workOut_149 : decode cX4_workOut 149 = .ok (.iload_n 1, 1) := by decide +kernel
theorem dX4_workOut_150 : decode cX4_workOut 150 = .ok (.iconst 2, 1) := by decide +kernel
theorem dX4_workOut_151 : decode cX4_workOut 151 = .ok (.if_icmp .ge 5, 3) := by decide +kernel
theorem dX4_workOut_154 : decode cX4_workOut 154 = .ok (.lconst 0, 1) := by decide +kernel
theorem dX4_workOut_155 : decode cX4_workOut 155 = .ok (.lreturn, 1) := by decide +kernel
theorem dX4_workOut_156 : decode cX4_workOut 156 = .ok (.iinc 1 (-1), 3) := by decide +kernel
theorem dX4_workOut_159 : decode cX4_workOut 159 = .ok (.aload_n 0, 1) := by decide +kernel
theorem dX4_workOut_160 : decode cX4_workOut 160 = .ok (.getfield 19, 3) := by decide +kernel
theorem dX4_workOut_163 : decode cX4_workOut 163 = .ok (.iload_n 1, 1) := by decide +kernel
theorem dX4_workOut_164 : decode cX4_workOut 164 = .ok (.iconst 1, 1) := by decide +kernel
theorem dX4_workOut_165 : decode cX4_workOut 165 = .ok (.isub, 1) := by decide +kernel
theorem dX4_workOut_166 : decode cX4_workOut 166 = .ok (.iload_n 3, 1) := by decide +kernel
theorem dX4_workOut_167 : decode cX4_workOut 167 = .ok (.aload_n 0, 1) := by decide +kernel
theorem dX4_workOut_168 : decode cX4_workOut 168 = .ok (.getfield 19, 3) := by decide +kernel
theorem dX4_workOut_171 : decode cX4_workOut 171 = .ok (.iload_n 1, 1) := by decide +kernel
theorem dX4_workOut_172 : decode cX4_workOut 172 = .ok (.iconst 1, 1) := by decide +kernel
theorem dX4_workOut_173 : decode cX4_workOut 173 = .ok (.isub, 1) := by decide +kernel
theorem dX4_workOut_174 : decode cX4_workOut 174 = .ok (.laload, 1) := by decide +kernel
theorem dX4_workOut_175 : decode cX4_workOut 175 = .ok (.aload_n 0, 1) := by decide +kernel
theorem dX4_workOut_176 : decode cX4_workOut 176 = .ok (.getfield 19, 3) := by decide +kernel
theorem dX4_workOut_179 : decode cX4_workOut 179 = .ok (.iload_n 1, 1) := by decide +kernel
theorem dX4_workOut_180 : decode cX4_workOut 180 = .ok (.laload, 1) := by decide +kernel
theorem dX4_workOut_181 : decode cX4_workOut 181 = .ok (.invokestatic 175, 3) := by decide +kernel
theorem dX4_workOut_184 : decode cX4_workOut 184 = .ok (.lastore, 1) := by decide +kernel
theorem dX4_workOut_185 : decode cX4_workOut 185 = .ok (.iinc 2 1, 3) := by decide +kernel
theorem dX4_workOut_188 : decode cX4_workOut 188 = .ok (.goto (-184), 3) := by decide +kernel
theorem dX4_workOut_191 : decode cX4_workOut 191 = .ok (.lconst 0, 1) := by decide +kernel
theorem dX4_workOut_192 : decode cX4_workOut 192 = .ok (.lreturn, 1) := by decide +kernel
theorem wd_345 : (Jvm.Cond.fieldLink "SilentSale$Rule" (38 : Nat) "SilentSale$Rule" "wordsUsed" "I") ∈ tb_L := tb_in (i := 345) (by decide +kernel) (by decide +kernel)
theorem wd_1054 : (Jvm.Cond.code ({ cls := "SilentSale$Rule", name := "usesRooms", desc := "()Z" } : Jvm.MethodName) prog_6_method_2_code (1 : Nat) (Option.some Jvm.ClassFile.FieldType.boolean)) ∈ tb_L := tb_in (i := 1054) (by decide +kernel) (by decide +kernel)
theorem dX4_usesRooms_0 : decode cX4_usesRooms 0 = .ok (.bipush 9, 2) := by decide +kernel
theorem dX4_usesRooms_2 : decode cX4_usesRooms 2 = .ok (.aload_n 0, 1) := by decide +kernel
theorem dX4_usesRooms_3 : decode cX4_usesRooms 3 = .ok (.getfield 38, 3) := by decide +kernel
theorem dX4_usesRooms_6 : decode cX4_usesRooms 6 = .ok (.invokestatic 41, 3) := by decide +kernel
theorem dX4_usesRooms_9 : decode cX4_usesRooms 9 = .ok (.ireturn, 1) := by decide +kernel
theorem wd_19 : (Jvm.Cond.selects "SilentSale$Rule" ({ cls := "SilentSale$Rule", name := "workOut", desc := "()J" } : Jvm.MethodName) ({ cls := "SilentSale$Rule", name := "workOut", desc := "()J" } : Jvm.MethodName)) ∈ tb_L := tb_in (i := 19) (by decide +kernel) (by decide +kernel)
theorem wd_234 : (Jvm.Cond.fieldLink "SilentSale$Rule" (159 : Nat) "SilentSale$State" "purse" "[I") ∈ tb_L := tb_in (i := 234) (by decide +kernel) (by decide +kernel)
theorem wd_238 : (Jvm.Cond.fieldLink "SilentSale$Rule" (162 : Nat) "SilentSale$State" "patience" "[I") ∈ tb_L := tb_in (i := 238) (by decide +kernel) (by decide +kernel)
theorem wd_245 : (Jvm.Cond.fieldLink "SilentSale$Rule" (165 : Nat) "SilentSale$State" "tricked" "[I") ∈ tb_L := tb_in (i := 245) (by decide +kernel) (by decide +kernel)
theorem wd_253 : (Jvm.Cond.fieldLink "SilentSale$Rule" (137 : Nat) "SilentSale$State" "gone" "[I") ∈ tb_L := tb_in (i := 253) (by decide +kernel) (by decide +kernel)
theorem wd_265 : (Jvm.Cond.fieldLink "SilentSale$Rule" (142 : Nat) "SilentSale$State" "silentAt" "[I") ∈ tb_L := tb_in (i := 265) (by decide +kernel) (by decide +kernel)
theorem wd_847 : (Jvm.Cond.instanceMethod ({ cls := "SilentSale$State", name := "lotsAt", desc := "(I)I" } : Jvm.MethodName)) ∈ tb_L := tb_in (i := 847) (by decide +kernel) (by decide +kernel)
theorem wd_848 : (Jvm.Cond.selects "SilentSale$State" ({ cls := "SilentSale$State", name := "lotsAt", desc := "(I)I" } : Jvm.MethodName) ({ cls := "SilentSale$State", name := "lotsAt", desc := "(I)I" } : Jvm.MethodName)) ∈ tb_L := tb_in (i := 848) (by decide +kernel) (by decide +kernel)
theorem wd_893 : (Jvm.Cond.code ({ cls := "SilentSale$Rule", name := "speakersOf", desc := "(IILSilentSale$Terms;LSilentSale$State;)I" } : Jvm.MethodName) prog_6_method_13_code (7 : Nat) (Option.some Jvm.ClassFile.FieldType.int)) ∈ tb_L := tb_in (i := 893) (by decide +kernel) (by decide +kernel)
theorem wd_894 : (Jvm.Cond.methodLink "SilentSale$Rule" (145 : Nat) ({ cls := "java/lang/Integer", name := "bitCount", desc := "(I)I" } : Jvm.MethodName)) ∈ tb_L := tb_in (i := 894) (by decide +kernel) (by decide +kernel)
theorem wd_900 : (Jvm.Cond.methodLink "SilentSale$Rule" (151 : Nat) ({ cls := "SilentSale$State", name := "lotsAt", desc := "(I)I" } : Jvm.MethodName)) ∈ tb_L := tb_in (i := 900) (by decide +kernel) (by decide +kernel)
theorem wd_902 : (Jvm.Cond.methodLink "SilentSale$Rule" (154 : Nat) ({ cls := "SilentSale$Terms", name := "worthTo", desc := "(II)I" } : Jvm.MethodName)) ∈ tb_L := tb_in (i := 902) (by decide +kernel) (by decide +kernel)
theorem wd_903 : (Jvm.Cond.methodLink "SilentSale$Rule" (168 : Nat) ({ cls := "SilentSale$Terms", name := "mostWorth", desc := "(II)I" } : Jvm.MethodName)) ∈ tb_L := tb_in (i := 903) (by decide +kernel) (by decide +kernel)
theorem wd_904 : (Jvm.Cond.instanceMethod ({ cls := "SilentSale$Terms", name := "mostWorth", desc := "(II)I" } : Jvm.MethodName)) ∈ tb_L := tb_in (i := 904) (by decide +kernel) (by decide +kernel)
theorem wd_905 : (Jvm.Cond.selects "SilentSale$Terms" ({ cls := "SilentSale$Terms", name := "mostWorth", desc := "(II)I" } : Jvm.MethodName) ({ cls := "SilentSale$Terms", name := "mostWorth", desc := "(II)I" } : Jvm.MethodName)) ∈ tb_L := tb_in (i := 905) (by decide +kernel) (by decide +kernel)
theorem wd_911 : (Jvm.Cond.methodLink "SilentSale$Rule" (171 : Nat) ({ cls := "SilentSale$Rule", name := "workOut", desc := "()J" } : Jvm.MethodName)) ∈ tb_L := tb_in (i := 911) (by decide +kernel) (by decide +kernel)
theorem wd_913 : (Jvm.Cond.instanceMethod ({ cls := "SilentSale$Rule", name := "workOut", desc := "()J" } : Jvm.MethodName)) ∈ tb_L := tb_in (i := 913) (by decide +kernel) (by decide +kernel)
theorem dX4_speakersOf_0 : decode cX4_speakersOf 0 = .ok (.aload_n 0, 1) := by decide +kernel
theorem dX4_speakersOf_1 : decode cX4_speakersOf 1 = .ok (.getfield 15, 3) := by decide +kernel
theorem dX4_speakersOf_4 : decode cX4_speakersOf 4 = .ok (.iconst 1, 1) := by decide +kernel
theorem dX4_speakersOf_5 : decode cX4_speakersOf 5 = .ok (.iload_n 2, 1) := by decide +kernel
theorem dX4_speakersOf_6 : decode cX4_speakersOf 6 = .ok (.i2l, 1) := by decide +kernel
theorem dX4_speakersOf_7 : decode cX4_speakersOf 7 = .ok (.lastore, 1) := by decide +kernel
theorem dX4_speakersOf_8 : decode cX4_speakersOf 8 = .ok (.aload_n 0, 1) := by decide +kernel
theorem dX4_speakersOf_9 : decode cX4_speakersOf 9 = .ok (.getfield 15, 3) := by decide +kernel
theorem dX4_speakersOf_12 : decode cX4_speakersOf 12 = .ok (.iconst 5, 1) := by decide +kernel
theorem dX4_speakersOf_13 : decode cX4_speakersOf 13 = .ok (.aload 4, 2) := by decide +kernel
theorem dX4_speakersOf_15 : decode cX4_speakersOf 15 = .ok (.getfield 137, 3) := by decide +kernel
theorem dX4_speakersOf_18 : decode cX4_speakersOf 18 = .ok (.iload_n 2, 1) := by decide +kernel
theorem dX4_speakersOf_19 : decode cX4_speakersOf 19 = .ok (.iaload, 1) := by decide +kernel
theorem dX4_speakersOf_20 : decode cX4_speakersOf 20 = .ok (.i2l, 1) := by decide +kernel
theorem dX4_speakersOf_21 : decode cX4_speakersOf 21 = .ok (.lastore, 1) := by decide +kernel
theorem dX4_speakersOf_22 : decode cX4_speakersOf 22 = .ok (.aload_n 0, 1) := by decide +kernel
theorem dX4_speakersOf_23 : decode cX4_speakersOf 23 = .ok (.getfield 15, 3) := by decide +kernel
theorem dX4_speakersOf_26 : decode cX4_speakersOf 26 = .ok (.bipush 6, 2) := by decide +kernel
theorem dX4_speakersOf_28 : decode cX4_speakersOf 28 = .ok (.aload 4, 2) := by decide +kernel
theorem dX4_speakersOf_30 : decode cX4_speakersOf 30 = .ok (.getfield 142, 3) := by decide +kernel
theorem dX4_speakersOf_33 : decode cX4_speakersOf 33 = .ok (.iload_n 2, 1) := by decide +kernel
theorem dX4_speakersOf_34 : decode cX4_speakersOf 34 = .ok (.iaload, 1) := by decide +kernel
theorem dX4_speakersOf_35 : decode cX4_speakersOf 35 = .ok (.invokestatic 145, 3) := by decide +kernel
theorem dX4_speakersOf_38 : decode cX4_speakersOf 38 = .ok (.iconst 1, 1) := by decide +kernel
theorem dX4_speakersOf_39 : decode cX4_speakersOf 39 = .ok (.isub, 1) := by decide +kernel
theorem dX4_speakersOf_40 : decode cX4_speakersOf 40 = .ok (.i2l, 1) := by decide +kernel
theorem dX4_speakersOf_41 : decode cX4_speakersOf 41 = .ok (.lastore, 1) := by decide +kernel
theorem dX4_speakersOf_42 : decode cX4_speakersOf 42 = .ok (.aload_n 0, 1) := by decide +kernel
theorem dX4_speakersOf_43 : decode cX4_speakersOf 43 = .ok (.getfield 15, 3) := by decide +kernel
theorem dX4_speakersOf_46 : decode cX4_speakersOf 46 = .ok (.bipush 9, 2) := by decide +kernel
theorem dX4_speakersOf_48 : decode cX4_speakersOf 48 = .ok (.aload 4, 2) := by decide +kernel
theorem dX4_speakersOf_50 : decode cX4_speakersOf 50 = .ok (.iconst 1, 1) := by decide +kernel
theorem dX4_speakersOf_51 : decode cX4_speakersOf 51 = .ok (.invokevirtual 151, 3) := by decide +kernel
theorem dX4_speakersOf_54 : decode cX4_speakersOf 54 = .ok (.invokestatic 145, 3) := by decide +kernel
theorem dX4_speakersOf_57 : decode cX4_speakersOf 57 = .ok (.i2l, 1) := by decide +kernel
theorem dX4_speakersOf_58 : decode cX4_speakersOf 58 = .ok (.lastore, 1) := by decide +kernel
theorem dX4_speakersOf_59 : decode cX4_speakersOf 59 = .ok (.iconst 0, 1) := by decide +kernel
theorem dX4_speakersOf_60 : decode cX4_speakersOf 60 = .ok (.istore 5, 2) := by decide +kernel
theorem dX4_speakersOf_62 : decode cX4_speakersOf 62 = .ok (.iconst 0, 1) := by decide +kernel
theorem dX4_speakersOf_63 : decode cX4_speakersOf 63 = .ok (.istore 6, 2) := by decide +kernel
theorem dX4_speakersOf_65 : decode cX4_speakersOf 65 = .ok (.iload 6, 2) := by decide +kernel
theorem dX4_speakersOf_67 : decode cX4_speakersOf 67 = .ok (.iconst 5, 1) := by decide +kernel
theorem dX4_speakersOf_68 : decode cX4_speakersOf 68 = .ok (.if_icmp .ge 152, 3) := by decide +kernel
theorem dX4_speakersOf_71 : decode cX4_speakersOf 71 = .ok (.iload 6, 2) := by decide +kernel
theorem dX4_speakersOf_73 : decode cX4_speakersOf 73 = .ok (.iload_n 1, 1) := by decide +kernel
theorem dX4_speakersOf_74 : decode cX4_speakersOf 74 = .ok (.invokestatic 41, 3) := by decide +kernel
theorem dX4_speakersOf_77 : decode cX4_speakersOf 77 = .ok (.ifCond .eq 137, 3) := by decide +kernel
theorem dX4_speakersOf_80 : decode cX4_speakersOf 80 = .ok (.aload_n 0, 1) := by decide +kernel
theorem dX4_speakersOf_81 : decode cX4_speakersOf 81 = .ok (.getfield 15, 3) := by decide +kernel
theorem dX4_speakersOf_84 : decode cX4_speakersOf 84 = .ok (.iconst 0, 1) := by decide +kernel
theorem dX4_speakersOf_85 : decode cX4_speakersOf 85 = .ok (.iload 6, 2) := by decide +kernel
theorem dX4_speakersOf_87 : decode cX4_speakersOf 87 = .ok (.i2l, 1) := by decide +kernel
theorem dX4_speakersOf_88 : decode cX4_speakersOf 88 = .ok (.lastore, 1) := by decide +kernel
theorem dX4_speakersOf_89 : decode cX4_speakersOf 89 = .ok (.aload_n 0, 1) := by decide +kernel
theorem dX4_speakersOf_90 : decode cX4_speakersOf 90 = .ok (.getfield 15, 3) := by decide +kernel
theorem dX4_speakersOf_93 : decode cX4_speakersOf 93 = .ok (.iconst 2, 1) := by decide +kernel
theorem dX4_speakersOf_94 : decode cX4_speakersOf 94 = .ok (.aload_n 3, 1) := by decide +kernel
theorem dX4_speakersOf_95 : decode cX4_speakersOf 95 = .ok (.iload 6, 2) := by decide +kernel
theorem dX4_speakersOf_97 : decode cX4_speakersOf 97 = .ok (.iload_n 2, 1) := by decide +kernel
theorem dX4_speakersOf_98 : decode cX4_speakersOf 98 = .ok (.invokevirtual 154, 3) := by decide +kernel
theorem dX4_speakersOf_101 : decode cX4_speakersOf 101 = .ok (.i2l, 1) := by decide +kernel
theorem dX4_speakersOf_102 : decode cX4_speakersOf 102 = .ok (.lastore, 1) := by decide +kernel
theorem dX4_speakersOf_103 : decode cX4_speakersOf 103 = .ok (.aload_n 0, 1) := by decide +kernel
theorem dX4_speakersOf_104 : decode cX4_speakersOf 104 = .ok (.getfield 15, 3) := by decide +kernel
theorem dX4_speakersOf_107 : decode cX4_speakersOf 107 = .ok (.iconst 3, 1) := by decide +kernel
theorem dX4_speakersOf_108 : decode cX4_speakersOf 108 = .ok (.aload 4, 2) := by decide +kernel
theorem dX4_speakersOf_110 : decode cX4_speakersOf 110 = .ok (.getfield 159, 3) := by decide +kernel
theorem dX4_speakersOf_113 : decode cX4_speakersOf 113 = .ok (.iload 6, 2) := by decide +kernel
theorem dX4_speakersOf_115 : decode cX4_speakersOf 115 = .ok (.iaload, 1) := by decide +kernel
theorem dX4_speakersOf_116 : decode cX4_speakersOf 116 = .ok (.i2l, 1) := by decide +kernel
theorem dX4_speakersOf_117 : decode cX4_speakersOf 117 = .ok (.lastore, 1) := by decide +kernel
theorem dX4_speakersOf_118 : decode cX4_speakersOf 118 = .ok (.aload_n 0, 1) := by decide +kernel
theorem dX4_speakersOf_119 : decode cX4_speakersOf 119 = .ok (.getfield 15, 3) := by decide +kernel
theorem dX4_speakersOf_122 : decode cX4_speakersOf 122 = .ok (.iconst 4, 1) := by decide +kernel
theorem dX4_speakersOf_123 : decode cX4_speakersOf 123 = .ok (.aload 4, 2) := by decide +kernel
theorem dX4_speakersOf_125 : decode cX4_speakersOf 125 = .ok (.getfield 162, 3) := by decide +kernel
theorem dX4_speakersOf_128 : decode cX4_speakersOf 128 = .ok (.iload 6, 2) := by decide +kernel
theorem dX4_speakersOf_130 : decode cX4_speakersOf 130 = .ok (.iaload, 1) := by decide +kernel
theorem dX4_speakersOf_131 : decode cX4_speakersOf 131 = .ok (.i2l, 1) := by decide +kernel
theorem dX4_speakersOf_132 : decode cX4_speakersOf 132 = .ok (.lastore, 1) := by decide +kernel
theorem dX4_speakersOf_133 : decode cX4_speakersOf 133 = .ok (.aload_n 0, 1) := by decide +kernel
theorem dX4_speakersOf_134 : decode cX4_speakersOf 134 = .ok (.getfield 15, 3) := by decide +kernel
theorem dX4_speakersOf_137 : decode cX4_speakersOf 137 = .ok (.bipush 7, 2) := by decide +kernel
theorem dX4_speakersOf_139 : decode cX4_speakersOf 139 = .ok (.aload 4, 2) := by decide +kernel
theorem dX4_speakersOf_141 : decode cX4_speakersOf 141 = .ok (.getfield 165, 3) := by decide +kernel
theorem dX4_speakersOf_144 : decode cX4_speakersOf 144 = .ok (.iload 6, 2) := by decide +kernel
theorem dX4_speakersOf_146 : decode cX4_speakersOf 146 = .ok (.iaload, 1) := by decide +kernel
theorem dX4_speakersOf_147 : decode cX4_speakersOf 147 = .ok (.i2l, 1) := by decide +kernel
theorem dX4_speakersOf_148 : decode cX4_speakersOf 148 = .ok (.lastore, 1) := by decide +kernel
theorem dX4_speakersOf_149 : decode cX4_speakersOf 149 = .ok (.aload_n 0, 1) := by decide +kernel
theorem dX4_speakersOf_150 : decode cX4_speakersOf 150 = .ok (.getfield 15, 3) := by decide +kernel
theorem dX4_speakersOf_153 : decode cX4_speakersOf 153 = .ok (.bipush 8, 2) := by decide +kernel
theorem dX4_speakersOf_155 : decode cX4_speakersOf 155 = .ok (.bipush 8, 2) := by decide +kernel
theorem dX4_speakersOf_157 : decode cX4_speakersOf 157 = .ok (.aload_n 0, 1) := by decide +kernel
theorem dX4_speakersOf_158 : decode cX4_speakersOf 158 = .ok (.getfield 38, 3) := by decide +kernel
theorem dX4_speakersOf_161 : decode cX4_speakersOf 161 = .ok (.invokestatic 41, 3) := by decide +kernel
theorem dX4_speakersOf_164 : decode cX4_speakersOf 164 = .ok (.ifCond .eq 26, 3) := by decide +kernel
theorem dX4_speakersOf_167 : decode cX4_speakersOf 167 = .ok (.aload_n 3, 1) := by decide +kernel
theorem dX4_speakersOf_168 : decode cX4_speakersOf 168 = .ok (.aload 4, 2) := by decide +kernel
theorem dX4_speakersOf_170 : decode cX4_speakersOf 170 = .ok (.getfield 142, 3) := by decide +kernel
theorem dX4_speakersOf_173 : decode cX4_speakersOf 173 = .ok (.iload_n 2, 1) := by decide +kernel
theorem dX4_speakersOf_174 : decode cX4_speakersOf 174 = .ok (.iaload, 1) := by decide +kernel
theorem dX4_speakersOf_175 : decode cX4_speakersOf 175 = .ok (.iconst 1, 1) := by decide +kernel
theorem dX4_speakersOf_176 : decode cX4_speakersOf 176 = .ok (.iload 6, 2) := by decide +kernel
theorem dX4_speakersOf_178 : decode cX4_speakersOf 178 = .ok (.ishl, 1) := by decide +kernel
theorem dX4_speakersOf_179 : decode cX4_speakersOf 179 = .ok (.iconst (-1), 1) := by decide +kernel
theorem dX4_speakersOf_180 : decode cX4_speakersOf 180 = .ok (.ixor, 1) := by decide +kernel
theorem dX4_speakersOf_181 : decode cX4_speakersOf 181 = .ok (.iand, 1) := by decide +kernel
theorem dX4_speakersOf_182 : decode cX4_speakersOf 182 = .ok (.iload_n 2, 1) := by decide +kernel
theorem dX4_speakersOf_183 : decode cX4_speakersOf 183 = .ok (.invokevirtual 168, 3) := by decide +kernel
theorem dX4_speakersOf_186 : decode cX4_speakersOf 186 = .ok (.i2l, 1) := by decide +kernel
theorem dX4_speakersOf_187 : decode cX4_speakersOf 187 = .ok (.goto 4, 3) := by decide +kernel
theorem dX4_speakersOf_190 : decode cX4_speakersOf 190 = .ok (.lconst 0, 1) := by decide +kernel
theorem dX4_speakersOf_191 : decode cX4_speakersOf 191 = .ok (.lastore, 1) := by decide +kernel
theorem dX4_speakersOf_192 : decode cX4_speakersOf 192 = .ok (.iload 5, 2) := by decide +kernel
theorem dX4_speakersOf_194 : decode cX4_speakersOf 194 = .ok (.aload_n 0, 1) := by decide +kernel
theorem dX4_speakersOf_195 : decode cX4_speakersOf 195 = .ok (.invokevirtual 171, 3) := by decide +kernel
theorem dX4_speakersOf_198 : decode cX4_speakersOf 198 = .ok (.lconst 0, 1) := by decide +kernel
theorem dX4_speakersOf_199 : decode cX4_speakersOf 199 = .ok (.lcmp, 1) := by decide +kernel
theorem dX4_speakersOf_200 : decode cX4_speakersOf 200 = .ok (.ifCond .le 10, 3) := by decide +kernel
theorem dX4_speakersOf_203 : decode cX4_speakersOf 203 = .ok (.iconst 1, 1) := by decide +kernel
theorem dX4_speakersOf_204 : decode cX4_speakersOf 204 = .ok (.iload 6, 2) := by decide +kernel
theorem dX4_speakersOf_206 : decode cX4_speakersOf 206 = .ok (.ishl, 1) := by decide +kernel
theorem dX4_speakersOf_207 : decode cX4_speakersOf 207 = .ok (.goto 4, 3) := by decide +kernel
theorem dX4_speakersOf_210 : decode cX4_speakersOf 210 = .ok (.iconst 0, 1) := by decide +kernel
theorem dX4_speakersOf_211 : decode cX4_speakersOf 211 = .ok (.ior, 1) := by decide +kernel
theorem dX4_speakersOf_212 : decode cX4_speakersOf 212 = .ok (.istore 5, 2) := by decide +kernel
theorem dX4_speakersOf_214 : decode cX4_speakersOf 214 = .ok (.iinc 6 1, 3) := by decide +kernel
theorem dX4_speakersOf_217 : decode cX4_speakersOf 217 = .ok (.goto (-152), 3) := by decide +kernel
theorem dX4_speakersOf_220 : decode cX4_speakersOf 220 = .ok (.iload 5, 2) := by decide +kernel
theorem dX4_speakersOf_222 : decode cX4_speakersOf 222 = .ok (.ireturn, 1) := by decide +kernel
theorem wd_409 : (Jvm.Cond.fieldLink "SilentSale$Clerk" (12 : Nat) "SilentSale$Clerk" "terms" "LSilentSale$Terms;") ∈ tb_L := tb_in (i := 409) (by decide +kernel) (by decide +kernel)
theorem wd_410 : (Jvm.Cond.fieldLink "SilentSale$Clerk" (18 : Nat) "SilentSale$Clerk" "rule" "LSilentSale$Rule;") ∈ tb_L := tb_in (i := 410) (by decide +kernel) (by decide +kernel)
theorem wd_411 : (Jvm.Cond.fieldLink "SilentSale$Clerk" (22 : Nat) "SilentSale$Clerk" "holder" "I") ∈ tb_L := tb_in (i := 411) (by decide +kernel) (by decide +kernel)
theorem wd_875 : (Jvm.Cond.code ({ cls := "SilentSale$Clerk", name := "serve", desc := "(LSilentSale$Terms;LSilentSale$Rule;)V" } : Jvm.MethodName) prog_2_method_2_code (3 : Nat) (Option.none : Option Jvm.ClassFile.FieldType)) ∈ tb_L := tb_in (i := 875) (by decide +kernel) (by decide +kernel)
theorem dX0_serve_0 : decode cX0_serve 0 = .ok (.aload_n 0, 1) := by decide +kernel
theorem dX0_serve_1 : decode cX0_serve 1 = .ok (.aload_n 1, 1) := by decide +kernel
theorem dX0_serve_2 : decode cX0_serve 2 = .ok (.putfield 12, 3) := by decide +kernel
theorem dX0_serve_5 : decode cX0_serve 5 = .ok (.aload_n 0, 1) := by decide +kernel
theorem dX0_serve_6 : decode cX0_serve 6 = .ok (.aload_n 2, 1) := by decide +kernel
theorem dX0_serve_7 : decode cX0_serve 7 = .ok (.putfield 18, 3) := by decide +kernel
theorem dX0_serve_10 : decode cX0_serve 10 = .ok (.aload_n 0, 1) := by decide +kernel
theorem dX0_serve_11 : decode cX0_serve 11 = .ok (.iconst 0, 1) := by decide +kernel
theorem dX0_serve_12 : decode cX0_serve 12 = .ok (.putfield 22, 3) := by decide +kernel
theorem dX0_serve_15 : decode cX0_serve 15 = .ok (.return_, 1) := by decide +kernel
theorem wd_1022 : (Jvm.Cond.code ({ cls := "SilentSale$Clerk", name := "letHold", desc := "(I)V" } : Jvm.MethodName) prog_2_method_3_code (2 : Nat) (Option.none : Option Jvm.ClassFile.FieldType)) ∈ tb_L := tb_in (i := 1022) (by decide +kernel) (by decide +kernel)
theorem dX0_letHold_0 : decode cX0_letHold 0 = .ok (.aload_n 0, 1) := by decide +kernel
theorem dX0_letHold_1 : decode cX0_letHold 1 = .ok (.iconst 1, 1) := by decide +kernel
theorem dX0_letHold_2 : decode cX0_letHold 2 = .ok (.iload_n 1, 1) := by decide +kernel
theorem dX0_letHold_3 : decode cX0_letHold 3 = .ok (.ishl, 1) := by decide +kernel
theorem dX0_letHold_4 : decode cX0_letHold 4 = .ok (.putfield 22, 3) := by decide +kernel
theorem dX0_letHold_7 : decode cX0_letHold 7 = .ok (.return_, 1) := by decide +kernel
theorem wd_1050 : (Jvm.Cond.code ({ cls := "SilentSale$Clerk", name := "mindsRooms", desc := "()Z" } : Jvm.MethodName) prog_2_method_4_code (1 : Nat) (Option.some Jvm.ClassFile.FieldType.boolean)) ∈ tb_L := tb_in (i := 1050) (by decide +kernel) (by decide +kernel)
theorem wd_1051 : (Jvm.Cond.methodLink "SilentSale$Clerk" (30 : Nat) ({ cls := "SilentSale$Rule", name := "usesRooms", desc := "()Z" } : Jvm.MethodName)) ∈ tb_L := tb_in (i := 1051) (by decide +kernel) (by decide +kernel)
theorem wd_1052 : (Jvm.Cond.instanceMethod ({ cls := "SilentSale$Rule", name := "usesRooms", desc := "()Z" } : Jvm.MethodName)) ∈ tb_L := tb_in (i := 1052) (by decide +kernel) (by decide +kernel)
theorem wd_1053 : (Jvm.Cond.selects "SilentSale$Rule" ({ cls := "SilentSale$Rule", name := "usesRooms", desc := "()Z" } : Jvm.MethodName) ({ cls := "SilentSale$Rule", name := "usesRooms", desc := "()Z" } : Jvm.MethodName)) ∈ tb_L := tb_in (i := 1053) (by decide +kernel) (by decide +kernel)
theorem dX0_mindsRooms_0 : decode cX0_mindsRooms 0 = .ok (.aload_n 0, 1) := by decide +kernel
theorem dX0_mindsRooms_1 : decode cX0_mindsRooms 1 = .ok (.getfield 18, 3) := by decide +kernel
theorem dX0_mindsRooms_4 : decode cX0_mindsRooms 4 = .ok (.ifnull 17, 3) := by decide +kernel
theorem dX0_mindsRooms_7 : decode cX0_mindsRooms 7 = .ok (.aload_n 0, 1) := by decide +kernel
theorem dX0_mindsRooms_8 : decode cX0_mindsRooms 8 = .ok (.getfield 18, 3) := by decide +kernel
theorem dX0_mindsRooms_11 : decode cX0_mindsRooms 11 = .ok (.invokevirtual 30, 3) := by decide +kernel
theorem dX0_mindsRooms_14 : decode cX0_mindsRooms 14 = .ok (.ifCond .eq 7, 3) := by decide +kernel
theorem dX0_mindsRooms_17 : decode cX0_mindsRooms 17 = .ok (.iconst 1, 1) := by decide +kernel
theorem dX0_mindsRooms_18 : decode cX0_mindsRooms 18 = .ok (.goto 4, 3) := by decide +kernel
theorem dX0_mindsRooms_21 : decode cX0_mindsRooms 21 = .ok (.iconst 0, 1) := by decide +kernel
theorem dX0_mindsRooms_22 : decode cX0_mindsRooms 22 = .ok (.ireturn, 1) := by decide +kernel
theorem wd_233 : (Jvm.Cond.fieldLink "SilentSale$Clerk" (90 : Nat) "SilentSale$State" "purse" "[I") ∈ tb_L := tb_in (i := 233) (by decide +kernel) (by decide +kernel)
theorem wd_252 : (Jvm.Cond.fieldLink "SilentSale$Clerk" (79 : Nat) "SilentSale$State" "gone" "[I") ∈ tb_L := tb_in (i := 252) (by decide +kernel) (by decide +kernel)
theorem wd_887 : (Jvm.Cond.code ({ cls := "SilentSale$Clerk", name := "unwillingOf", desc := "(IILSilentSale$State;)I" } : Jvm.MethodName) prog_2_method_10_code (7 : Nat) (Option.some Jvm.ClassFile.FieldType.int)) ∈ tb_L := tb_in (i := 887) (by decide +kernel) (by decide +kernel)
theorem wd_889 : (Jvm.Cond.methodLink "SilentSale$Clerk" (86 : Nat) ({ cls := "SilentSale$Terms", name := "worthTo", desc := "(II)I" } : Jvm.MethodName)) ∈ tb_L := tb_in (i := 889) (by decide +kernel) (by decide +kernel)
theorem dX0_unwillingOf_0 : decode cX0_unwillingOf 0 = .ok (.aload_n 3, 1) := by decide +kernel
theorem dX0_unwillingOf_1 : decode cX0_unwillingOf 1 = .ok (.getfield 79, 3) := by decide +kernel
theorem dX0_unwillingOf_4 : decode cX0_unwillingOf 4 = .ok (.iload_n 2, 1) := by decide +kernel
theorem dX0_unwillingOf_5 : decode cX0_unwillingOf 5 = .ok (.iaload, 1) := by decide +kernel
theorem dX0_unwillingOf_6 : decode cX0_unwillingOf 6 = .ok (.istore 4, 2) := by decide +kernel
theorem dX0_unwillingOf_8 : decode cX0_unwillingOf 8 = .ok (.iconst 0, 1) := by decide +kernel
theorem dX0_unwillingOf_9 : decode cX0_unwillingOf 9 = .ok (.istore 5, 2) := by decide +kernel
theorem dX0_unwillingOf_11 : decode cX0_unwillingOf 11 = .ok (.iconst 0, 1) := by decide +kernel
theorem dX0_unwillingOf_12 : decode cX0_unwillingOf 12 = .ok (.istore 6, 2) := by decide +kernel
theorem dX0_unwillingOf_14 : decode cX0_unwillingOf 14 = .ok (.iload 6, 2) := by decide +kernel
theorem dX0_unwillingOf_16 : decode cX0_unwillingOf 16 = .ok (.iconst 5, 1) := by decide +kernel
theorem dX0_unwillingOf_17 : decode cX0_unwillingOf 17 = .ok (.if_icmp .ge 54, 3) := by decide +kernel
theorem dX0_unwillingOf_20 : decode cX0_unwillingOf 20 = .ok (.iload 6, 2) := by decide +kernel
theorem dX0_unwillingOf_22 : decode cX0_unwillingOf 22 = .ok (.iload_n 1, 1) := by decide +kernel
theorem dX0_unwillingOf_23 : decode cX0_unwillingOf 23 = .ok (.invokestatic 60, 3) := by decide +kernel
theorem dX0_unwillingOf_26 : decode cX0_unwillingOf 26 = .ok (.ifCond .eq 39, 3) := by decide +kernel
theorem dX0_unwillingOf_29 : decode cX0_unwillingOf 29 = .ok (.iload 4, 2) := by decide +kernel
theorem dX0_unwillingOf_31 : decode cX0_unwillingOf 31 = .ok (.aload_n 0, 1) := by decide +kernel
theorem dX0_unwillingOf_32 : decode cX0_unwillingOf 32 = .ok (.getfield 12, 3) := by decide +kernel
theorem dX0_unwillingOf_35 : decode cX0_unwillingOf 35 = .ok (.iload 6, 2) := by decide +kernel
theorem dX0_unwillingOf_37 : decode cX0_unwillingOf 37 = .ok (.iload_n 2, 1) := by decide +kernel
theorem dX0_unwillingOf_38 : decode cX0_unwillingOf 38 = .ok (.invokevirtual 86, 3) := by decide +kernel
theorem dX0_unwillingOf_41 : decode cX0_unwillingOf 41 = .ok (.if_icmp .ge 15, 3) := by decide +kernel
theorem dX0_unwillingOf_44 : decode cX0_unwillingOf 44 = .ok (.iload 4, 2) := by decide +kernel
theorem dX0_unwillingOf_46 : decode cX0_unwillingOf 46 = .ok (.aload_n 3, 1) := by decide +kernel
theorem dX0_unwillingOf_47 : decode cX0_unwillingOf 47 = .ok (.getfield 90, 3) := by decide +kernel
theorem dX0_unwillingOf_50 : decode cX0_unwillingOf 50 = .ok (.iload 6, 2) := by decide +kernel
theorem dX0_unwillingOf_52 : decode cX0_unwillingOf 52 = .ok (.iaload, 1) := by decide +kernel
theorem dX0_unwillingOf_53 : decode cX0_unwillingOf 53 = .ok (.if_icmp .lt 12, 3) := by decide +kernel
theorem dX0_unwillingOf_56 : decode cX0_unwillingOf 56 = .ok (.iload 5, 2) := by decide +kernel
theorem dX0_unwillingOf_58 : decode cX0_unwillingOf 58 = .ok (.iconst 1, 1) := by decide +kernel
theorem dX0_unwillingOf_59 : decode cX0_unwillingOf 59 = .ok (.iload 6, 2) := by decide +kernel
theorem dX0_unwillingOf_61 : decode cX0_unwillingOf 61 = .ok (.ishl, 1) := by decide +kernel
theorem dX0_unwillingOf_62 : decode cX0_unwillingOf 62 = .ok (.ior, 1) := by decide +kernel
theorem dX0_unwillingOf_63 : decode cX0_unwillingOf 63 = .ok (.istore 5, 2) := by decide +kernel
theorem dX0_unwillingOf_65 : decode cX0_unwillingOf 65 = .ok (.iinc 6 1, 3) := by decide +kernel
theorem dX0_unwillingOf_68 : decode cX0_unwillingOf 68 = .ok (.goto (-54), 3) := by decide +kernel
theorem dX0_unwillingOf_71 : decode cX0_unwillingOf 71 = .ok (.iload 5, 2) := by decide +kernel
theorem dX0_unwillingOf_73 : decode cX0_unwillingOf 73 = .ok (.ireturn, 1) := by decide +kernel
theorem wd_237 : (Jvm.Cond.fieldLink "SilentSale$Clerk" (93 : Nat) "SilentSale$State" "patience" "[I") ∈ tb_L := tb_in (i := 237) (by decide +kernel) (by decide +kernel)
theorem wd_920 : (Jvm.Cond.code ({ cls := "SilentSale$Clerk", name := "coughersOf", desc := "(ILSilentSale$State;)I" } : Jvm.MethodName) prog_2_method_11_code (4 : Nat) (Option.some Jvm.ClassFile.FieldType.int)) ∈ tb_L := tb_in (i := 920) (by decide +kernel) (by decide +kernel)
theorem wd_921 : (Jvm.Cond.methodLink "SilentSale$Clerk" (96 : Nat) ({ cls := "java/lang/Math", name := "max", desc := "(II)I" } : Jvm.MethodName)) ∈ tb_L := tb_in (i := 921) (by decide +kernel) (by decide +kernel)
theorem dX0_coughersOf_0 : decode cX0_coughersOf 0 = .ok (.iconst 0, 1) := by decide +kernel
theorem dX0_coughersOf_1 : decode cX0_coughersOf 1 = .ok (.istore_n 2, 1) := by decide +kernel
theorem dX0_coughersOf_2 : decode cX0_coughersOf 2 = .ok (.iconst 0, 1) := by decide +kernel
theorem dX0_coughersOf_3 : decode cX0_coughersOf 3 = .ok (.istore_n 3, 1) := by decide +kernel
theorem dX0_coughersOf_4 : decode cX0_coughersOf 4 = .ok (.iload_n 3, 1) := by decide +kernel
theorem dX0_coughersOf_5 : decode cX0_coughersOf 5 = .ok (.iconst 5, 1) := by decide +kernel
theorem dX0_coughersOf_6 : decode cX0_coughersOf 6 = .ok (.if_icmp .ge 54, 3) := by decide +kernel
theorem dX0_coughersOf_9 : decode cX0_coughersOf 9 = .ok (.iload_n 3, 1) := by decide +kernel
theorem dX0_coughersOf_10 : decode cX0_coughersOf 10 = .ok (.iload_n 0, 1) := by decide +kernel
theorem dX0_coughersOf_11 : decode cX0_coughersOf 11 = .ok (.invokestatic 60, 3) := by decide +kernel
theorem dX0_coughersOf_14 : decode cX0_coughersOf 14 = .ok (.ifCond .eq 40, 3) := by decide +kernel
theorem dX0_coughersOf_17 : decode cX0_coughersOf 17 = .ok (.aload_n 1, 1) := by decide +kernel
theorem dX0_coughersOf_18 : decode cX0_coughersOf 18 = .ok (.getfield 93, 3) := by decide +kernel
theorem dX0_coughersOf_21 : decode cX0_coughersOf 21 = .ok (.iload_n 3, 1) := by decide +kernel
theorem dX0_coughersOf_22 : decode cX0_coughersOf 22 = .ok (.iconst 0, 1) := by decide +kernel
theorem dX0_coughersOf_23 : decode cX0_coughersOf 23 = .ok (.aload_n 1, 1) := by decide +kernel
theorem dX0_coughersOf_24 : decode cX0_coughersOf 24 = .ok (.getfield 93, 3) := by decide +kernel
theorem dX0_coughersOf_27 : decode cX0_coughersOf 27 = .ok (.iload_n 3, 1) := by decide +kernel
theorem dX0_coughersOf_28 : decode cX0_coughersOf 28 = .ok (.iaload, 1) := by decide +kernel
theorem dX0_coughersOf_29 : decode cX0_coughersOf 29 = .ok (.iconst 1, 1) := by decide +kernel
theorem dX0_coughersOf_30 : decode cX0_coughersOf 30 = .ok (.isub, 1) := by decide +kernel
theorem dX0_coughersOf_31 : decode cX0_coughersOf 31 = .ok (.invokestatic 96, 3) := by decide +kernel
theorem dX0_coughersOf_34 : decode cX0_coughersOf 34 = .ok (.iastore, 1) := by decide +kernel
theorem dX0_coughersOf_35 : decode cX0_coughersOf 35 = .ok (.iload_n 2, 1) := by decide +kernel
theorem dX0_coughersOf_36 : decode cX0_coughersOf 36 = .ok (.aload_n 1, 1) := by decide +kernel
theorem dX0_coughersOf_37 : decode cX0_coughersOf 37 = .ok (.getfield 93, 3) := by decide +kernel
theorem dX0_coughersOf_40 : decode cX0_coughersOf 40 = .ok (.iload_n 3, 1) := by decide +kernel
theorem dX0_coughersOf_41 : decode cX0_coughersOf 41 = .ok (.iaload, 1) := by decide +kernel
theorem dX0_coughersOf_42 : decode cX0_coughersOf 42 = .ok (.ifCond .ne 9, 3) := by decide +kernel
theorem dX0_coughersOf_45 : decode cX0_coughersOf 45 = .ok (.iconst 1, 1) := by decide +kernel
theorem dX0_coughersOf_46 : decode cX0_coughersOf 46 = .ok (.iload_n 3, 1) := by decide +kernel
theorem dX0_coughersOf_47 : decode cX0_coughersOf 47 = .ok (.ishl, 1) := by decide +kernel
theorem dX0_coughersOf_48 : decode cX0_coughersOf 48 = .ok (.goto 4, 3) := by decide +kernel
theorem dX0_coughersOf_51 : decode cX0_coughersOf 51 = .ok (.iconst 0, 1) := by decide +kernel
theorem dX0_coughersOf_52 : decode cX0_coughersOf 52 = .ok (.ior, 1) := by decide +kernel
theorem dX0_coughersOf_53 : decode cX0_coughersOf 53 = .ok (.istore_n 2, 1) := by decide +kernel
theorem dX0_coughersOf_54 : decode cX0_coughersOf 54 = .ok (.iinc 3 1, 3) := by decide +kernel
theorem dX0_coughersOf_57 : decode cX0_coughersOf 57 = .ok (.goto (-53), 3) := by decide +kernel
theorem dX0_coughersOf_60 : decode cX0_coughersOf 60 = .ok (.iload_n 2, 1) := by decide +kernel
theorem dX0_coughersOf_61 : decode cX0_coughersOf 61 = .ok (.ireturn, 1) := by decide +kernel
theorem wd_181 : (Jvm.Cond.fieldLink "SilentSale$Clerk" (116 : Nat) "SilentSale$Terms" "longest" "I") ∈ tb_L := tb_in (i := 181) (by decide +kernel) (by decide +kernel)
theorem wd_263 : (Jvm.Cond.fieldLink "SilentSale$Clerk" (57 : Nat) "SilentSale$State" "silentAt" "[I") ∈ tb_L := tb_in (i := 263) (by decide +kernel) (by decide +kernel)
theorem wd_925 : (Jvm.Cond.code ({ cls := "SilentSale$Clerk", name := "settle", desc := "(LSilentSale$State;I)V" } : Jvm.MethodName) prog_2_method_12_code (5 : Nat) (Option.none : Option Jvm.ClassFile.FieldType)) ∈ tb_L := tb_in (i := 925) (by decide +kernel) (by decide +kernel)
theorem wd_926 : (Jvm.Cond.methodLink "SilentSale$Clerk" (101 : Nat) ({ cls := "java/lang/Integer", name := "bitCount", desc := "(I)I" } : Jvm.MethodName)) ∈ tb_L := tb_in (i := 926) (by decide +kernel) (by decide +kernel)
theorem wd_930 : (Jvm.Cond.methodLink "SilentSale$Clerk" (109 : Nat) ({ cls := "java/lang/Math", name := "min", desc := "(II)I" } : Jvm.MethodName)) ∈ tb_L := tb_in (i := 930) (by decide +kernel) (by decide +kernel)
theorem wd_931 : (Jvm.Cond.methodLink "SilentSale$Clerk" (112 : Nat) ({ cls := "SilentSale$State", name := "finish", desc := "(III)V" } : Jvm.MethodName)) ∈ tb_L := tb_in (i := 931) (by decide +kernel) (by decide +kernel)
theorem dX0_settle_0 : decode cX0_settle 0 = .ok (.aload_n 1, 1) := by decide +kernel
theorem dX0_settle_1 : decode cX0_settle 1 = .ok (.getfield 57, 3) := by decide +kernel
theorem dX0_settle_4 : decode cX0_settle 4 = .ok (.iload_n 2, 1) := by decide +kernel
theorem dX0_settle_5 : decode cX0_settle 5 = .ok (.iaload, 1) := by decide +kernel
theorem dX0_settle_6 : decode cX0_settle 6 = .ok (.istore_n 3, 1) := by decide +kernel
theorem dX0_settle_7 : decode cX0_settle 7 = .ok (.iload_n 3, 1) := by decide +kernel
theorem dX0_settle_8 : decode cX0_settle 8 = .ok (.invokestatic 101, 3) := by decide +kernel
theorem dX0_settle_11 : decode cX0_settle 11 = .ok (.iconst 1, 1) := by decide +kernel
theorem dX0_settle_12 : decode cX0_settle 12 = .ok (.if_icmp .ne 35, 3) := by decide +kernel
theorem dX0_settle_15 : decode cX0_settle 15 = .ok (.iload_n 3, 1) := by decide +kernel
theorem dX0_settle_16 : decode cX0_settle 16 = .ok (.invokestatic 106, 3) := by decide +kernel
theorem dX0_settle_19 : decode cX0_settle 19 = .ok (.istore 4, 2) := by decide +kernel
theorem dX0_settle_21 : decode cX0_settle 21 = .ok (.aload_n 1, 1) := by decide +kernel
theorem dX0_settle_22 : decode cX0_settle 22 = .ok (.iload_n 2, 1) := by decide +kernel
theorem dX0_settle_23 : decode cX0_settle 23 = .ok (.iload 4, 2) := by decide +kernel
theorem dX0_settle_25 : decode cX0_settle 25 = .ok (.aload_n 1, 1) := by decide +kernel
theorem dX0_settle_26 : decode cX0_settle 26 = .ok (.getfield 79, 3) := by decide +kernel
theorem dX0_settle_29 : decode cX0_settle 29 = .ok (.iload_n 2, 1) := by decide +kernel
theorem dX0_settle_30 : decode cX0_settle 30 = .ok (.iaload, 1) := by decide +kernel
theorem dX0_settle_31 : decode cX0_settle 31 = .ok (.aload_n 1, 1) := by decide +kernel
theorem dX0_settle_32 : decode cX0_settle 32 = .ok (.getfield 90, 3) := by decide +kernel
theorem dX0_settle_35 : decode cX0_settle 35 = .ok (.iload 4, 2) := by decide +kernel
theorem dX0_settle_37 : decode cX0_settle 37 = .ok (.iaload, 1) := by decide +kernel
theorem dX0_settle_38 : decode cX0_settle 38 = .ok (.invokestatic 109, 3) := by decide +kernel
theorem dX0_settle_41 : decode cX0_settle 41 = .ok (.invokevirtual 112, 3) := by decide +kernel
theorem dX0_settle_44 : decode cX0_settle 44 = .ok (.goto 30, 3) := by decide +kernel
theorem dX0_settle_47 : decode cX0_settle 47 = .ok (.iload_n 3, 1) := by decide +kernel
theorem dX0_settle_48 : decode cX0_settle 48 = .ok (.ifCond .eq 19, 3) := by decide +kernel
theorem dX0_settle_51 : decode cX0_settle 51 = .ok (.aload_n 1, 1) := by decide +kernel
theorem dX0_settle_52 : decode cX0_settle 52 = .ok (.getfield 79, 3) := by decide +kernel
theorem dX0_settle_55 : decode cX0_settle 55 = .ok (.iload_n 2, 1) := by decide +kernel
theorem dX0_settle_56 : decode cX0_settle 56 = .ok (.iaload, 1) := by decide +kernel
theorem dX0_settle_57 : decode cX0_settle 57 = .ok (.aload_n 0, 1) := by decide +kernel
theorem dX0_settle_58 : decode cX0_settle 58 = .ok (.getfield 12, 3) := by decide +kernel
theorem dX0_settle_61 : decode cX0_settle 61 = .ok (.getfield 116, 3) := by decide +kernel
theorem dX0_settle_64 : decode cX0_settle 64 = .ok (.if_icmp .lt 10, 3) := by decide +kernel
theorem dX0_settle_67 : decode cX0_settle 67 = .ok (.aload_n 1, 1) := by decide +kernel
theorem dX0_settle_68 : decode cX0_settle 68 = .ok (.iload_n 2, 1) := by decide +kernel
theorem dX0_settle_69 : decode cX0_settle 69 = .ok (.iconst (-1), 1) := by decide +kernel
theorem dX0_settle_70 : decode cX0_settle 70 = .ok (.iconst 0, 1) := by decide +kernel
theorem dX0_settle_71 : decode cX0_settle 71 = .ok (.invokevirtual 112, 3) := by decide +kernel
theorem dX0_settle_74 : decode cX0_settle 74 = .ok (.return_, 1) := by decide +kernel
theorem wd_18 : (Jvm.Cond.selects "SilentSale$Clerk" ({ cls := "SilentSale$Clerk", name := "unwillingOf", desc := "(IILSilentSale$State;)I" } : Jvm.MethodName) ({ cls := "SilentSale$Clerk", name := "unwillingOf", desc := "(IILSilentSale$State;)I" } : Jvm.MethodName)) ∈ tb_L := tb_in (i := 18) (by decide +kernel) (by decide +kernel)
theorem wd_20 : (Jvm.Cond.selects "SilentSale$Clerk" ({ cls := "SilentSale$Clerk", name := "settle", desc := "(LSilentSale$State;I)V" } : Jvm.MethodName) ({ cls := "SilentSale$Clerk", name := "settle", desc := "(LSilentSale$State;I)V" } : Jvm.MethodName)) ∈ tb_L := tb_in (i := 20) (by decide +kernel) (by decide +kernel)
theorem wd_130 : (Jvm.Cond.initialized "SilentSale$Clerk") ∈ tb_L := tb_in (i := 130) (by decide +kernel) (by decide +kernel)
theorem wd_248 : (Jvm.Cond.fieldLink "SilentSale$Clerk" (53 : Nat) "SilentSale$State" "stage" "[I") ∈ tb_L := tb_in (i := 248) (by decide +kernel) (by decide +kernel)
theorem wd_883 : (Jvm.Cond.code ({ cls := "SilentSale$Clerk", name := "passLot", desc := "(LSilentSale$State;II)I" } : Jvm.MethodName) prog_2_method_9_code (7 : Nat) (Option.some Jvm.ClassFile.FieldType.int)) ∈ tb_L := tb_in (i := 883) (by decide +kernel) (by decide +kernel)
theorem wd_884 : (Jvm.Cond.methodLink "SilentSale$Clerk" (67 : Nat) ({ cls := "SilentSale$Clerk", name := "unwillingOf", desc := "(IILSilentSale$State;)I" } : Jvm.MethodName)) ∈ tb_L := tb_in (i := 884) (by decide +kernel) (by decide +kernel)
theorem wd_886 : (Jvm.Cond.instanceMethod ({ cls := "SilentSale$Clerk", name := "unwillingOf", desc := "(IILSilentSale$State;)I" } : Jvm.MethodName)) ∈ tb_L := tb_in (i := 886) (by decide +kernel) (by decide +kernel)
theorem wd_890 : (Jvm.Cond.methodLink "SilentSale$Clerk" (71 : Nat) ({ cls := "SilentSale$Rule", name := "speakersOf", desc := "(IILSilentSale$Terms;LSilentSale$State;)I" } : Jvm.MethodName)) ∈ tb_L := tb_in (i := 890) (by decide +kernel) (by decide +kernel)
theorem wd_891 : (Jvm.Cond.instanceMethod ({ cls := "SilentSale$Rule", name := "speakersOf", desc := "(IILSilentSale$Terms;LSilentSale$State;)I" } : Jvm.MethodName)) ∈ tb_L := tb_in (i := 891) (by decide +kernel) (by decide +kernel)
theorem wd_892 : (Jvm.Cond.selects "SilentSale$Rule" ({ cls := "SilentSale$Rule", name := "speakersOf", desc := "(IILSilentSale$Terms;LSilentSale$State;)I" } : Jvm.MethodName) ({ cls := "SilentSale$Rule", name := "speakersOf", desc := "(IILSilentSale$Terms;LSilentSale$State;)I" } : Jvm.MethodName)) ∈ tb_L := tb_in (i := 892) (by decide +kernel) (by decide +kernel)
theorem wd_918 : (Jvm.Cond.methodLink "SilentSale$Clerk" (75 : Nat) ({ cls := "SilentSale$Clerk", name := "coughersOf", desc := "(ILSilentSale$State;)I" } : Jvm.MethodName)) ∈ tb_L := tb_in (i := 918) (by decide +kernel) (by decide +kernel)
theorem wd_919 : (Jvm.Cond.static ({ cls := "SilentSale$Clerk", name := "coughersOf", desc := "(ILSilentSale$State;)I" } : Jvm.MethodName)) ∈ tb_L := tb_in (i := 919) (by decide +kernel) (by decide +kernel)
theorem wd_922 : (Jvm.Cond.methodLink "SilentSale$Clerk" (82 : Nat) ({ cls := "SilentSale$Clerk", name := "settle", desc := "(LSilentSale$State;I)V" } : Jvm.MethodName)) ∈ tb_L := tb_in (i := 922) (by decide +kernel) (by decide +kernel)
theorem wd_924 : (Jvm.Cond.instanceMethod ({ cls := "SilentSale$Clerk", name := "settle", desc := "(LSilentSale$State;I)V" } : Jvm.MethodName)) ∈ tb_L := tb_in (i := 924) (by decide +kernel) (by decide +kernel)
theorem dX0_passLot_0 : decode cX0_passLot 0 = .ok (.aload_n 1, 1) := by decide +kernel
theorem dX0_passLot_1 : decode cX0_passLot 1 = .ok (.getfield 53, 3) := by decide +kernel
theorem dX0_passLot_4 : decode cX0_passLot 4 = .ok (.iload_n 2, 1) := by decide +kernel
theorem dX0_passLot_5 : decode cX0_passLot 5 = .ok (.iaload, 1) := by decide +kernel
theorem dX0_passLot_6 : decode cX0_passLot 6 = .ok (.iconst 1, 1) := by decide +kernel
theorem dX0_passLot_7 : decode cX0_passLot 7 = .ok (.if_icmp .eq 5, 3) := by decide +kernel
theorem dX0_passLot_10 : decode cX0_passLot 10 = .ok (.iconst 0, 1) := by decide +kernel
theorem dX0_passLot_11 : decode cX0_passLot 11 = .ok (.ireturn, 1) := by decide +kernel
theorem dX0_passLot_12 : decode cX0_passLot 12 = .ok (.aload_n 1, 1) := by decide +kernel
theorem dX0_passLot_13 : decode cX0_passLot 13 = .ok (.getfield 57, 3) := by decide +kernel
theorem dX0_passLot_16 : decode cX0_passLot 16 = .ok (.iload_n 2, 1) := by decide +kernel
theorem dX0_passLot_17 : decode cX0_passLot 17 = .ok (.iaload, 1) := by decide +kernel
theorem dX0_passLot_18 : decode cX0_passLot 18 = .ok (.istore 4, 2) := by decide +kernel
theorem dX0_passLot_20 : decode cX0_passLot 20 = .ok (.iload 4, 2) := by decide +kernel
theorem dX0_passLot_22 : decode cX0_passLot 22 = .ok (.iload_n 3, 1) := by decide +kernel
theorem dX0_passLot_23 : decode cX0_passLot 23 = .ok (.iconst (-1), 1) := by decide +kernel
theorem dX0_passLot_24 : decode cX0_passLot 24 = .ok (.ixor, 1) := by decide +kernel
theorem dX0_passLot_25 : decode cX0_passLot 25 = .ok (.iand, 1) := by decide +kernel
theorem dX0_passLot_26 : decode cX0_passLot 26 = .ok (.aload_n 0, 1) := by decide +kernel
theorem dX0_passLot_27 : decode cX0_passLot 27 = .ok (.getfield 22, 3) := by decide +kernel
theorem dX0_passLot_30 : decode cX0_passLot 30 = .ok (.iconst (-1), 1) := by decide +kernel
theorem dX0_passLot_31 : decode cX0_passLot 31 = .ok (.ixor, 1) := by decide +kernel
theorem dX0_passLot_32 : decode cX0_passLot 32 = .ok (.iand, 1) := by decide +kernel
theorem dX0_passLot_33 : decode cX0_passLot 33 = .ok (.istore 5, 2) := by decide +kernel
theorem dX0_passLot_35 : decode cX0_passLot 35 = .ok (.iload 4, 2) := by decide +kernel
theorem dX0_passLot_37 : decode cX0_passLot 37 = .ok (.iload_n 3, 1) := by decide +kernel
theorem dX0_passLot_38 : decode cX0_passLot 38 = .ok (.iand, 1) := by decide +kernel
theorem dX0_passLot_39 : decode cX0_passLot 39 = .ok (.istore 6, 2) := by decide +kernel
theorem dX0_passLot_41 : decode cX0_passLot 41 = .ok (.iload 6, 2) := by decide +kernel
theorem dX0_passLot_43 : decode cX0_passLot 43 = .ok (.aload_n 0, 1) := by decide +kernel
theorem dX0_passLot_44 : decode cX0_passLot 44 = .ok (.getfield 18, 3) := by decide +kernel
theorem dX0_passLot_47 : decode cX0_passLot 47 = .ok (.ifnonnull 14, 3) := by decide +kernel
theorem dX0_passLot_50 : decode cX0_passLot 50 = .ok (.aload_n 0, 1) := by decide +kernel
theorem dX0_passLot_51 : decode cX0_passLot 51 = .ok (.iload 5, 2) := by decide +kernel
theorem dX0_passLot_53 : decode cX0_passLot 53 = .ok (.iload_n 2, 1) := by decide +kernel
theorem dX0_passLot_54 : decode cX0_passLot 54 = .ok (.aload_n 1, 1) := by decide +kernel
theorem dX0_passLot_55 : decode cX0_passLot 55 = .ok (.invokevirtual 67, 3) := by decide +kernel
theorem dX0_passLot_58 : decode cX0_passLot 58 = .ok (.goto 18, 3) := by decide +kernel
theorem dX0_passLot_61 : decode cX0_passLot 61 = .ok (.aload_n 0, 1) := by decide +kernel
theorem dX0_passLot_62 : decode cX0_passLot 62 = .ok (.getfield 18, 3) := by decide +kernel
theorem dX0_passLot_65 : decode cX0_passLot 65 = .ok (.iload 5, 2) := by decide +kernel
theorem dX0_passLot_67 : decode cX0_passLot 67 = .ok (.iload_n 2, 1) := by decide +kernel
theorem dX0_passLot_68 : decode cX0_passLot 68 = .ok (.aload_n 0, 1) := by decide +kernel
theorem dX0_passLot_69 : decode cX0_passLot 69 = .ok (.getfield 12, 3) := by decide +kernel
theorem dX0_passLot_72 : decode cX0_passLot 72 = .ok (.aload_n 1, 1) := by decide +kernel
theorem dX0_passLot_73 : decode cX0_passLot 73 = .ok (.invokevirtual 71, 3) := by decide +kernel
theorem dX0_passLot_76 : decode cX0_passLot 76 = .ok (.ior, 1) := by decide +kernel
theorem dX0_passLot_77 : decode cX0_passLot 77 = .ok (.istore 6, 2) := by decide +kernel
theorem dX0_passLot_79 : decode cX0_passLot 79 = .ok (.iload 6, 2) := by decide +kernel
theorem dX0_passLot_81 : decode cX0_passLot 81 = .ok (.iload 4, 2) := by decide +kernel
theorem dX0_passLot_83 : decode cX0_passLot 83 = .ok (.iload 6, 2) := by decide +kernel
theorem dX0_passLot_85 : decode cX0_passLot 85 = .ok (.iconst (-1), 1) := by decide +kernel
theorem dX0_passLot_86 : decode cX0_passLot 86 = .ok (.ixor, 1) := by decide +kernel
theorem dX0_passLot_87 : decode cX0_passLot 87 = .ok (.iand, 1) := by decide +kernel
theorem dX0_passLot_88 : decode cX0_passLot 88 = .ok (.aload_n 1, 1) := by decide +kernel
theorem dX0_passLot_89 : decode cX0_passLot 89 = .ok (.invokestatic 75, 3) := by decide +kernel
theorem dX0_passLot_92 : decode cX0_passLot 92 = .ok (.ior, 1) := by decide +kernel
theorem dX0_passLot_93 : decode cX0_passLot 93 = .ok (.istore 6, 2) := by decide +kernel
theorem dX0_passLot_95 : decode cX0_passLot 95 = .ok (.aload_n 1, 1) := by decide +kernel
theorem dX0_passLot_96 : decode cX0_passLot 96 = .ok (.getfield 57, 3) := by decide +kernel
theorem dX0_passLot_99 : decode cX0_passLot 99 = .ok (.iload_n 2, 1) := by decide +kernel
theorem dX0_passLot_100 : decode cX0_passLot 100 = .ok (.iload 4, 2) := by decide +kernel
theorem dX0_passLot_102 : decode cX0_passLot 102 = .ok (.iload 6, 2) := by decide +kernel
theorem dX0_passLot_104 : decode cX0_passLot 104 = .ok (.iconst (-1), 1) := by decide +kernel
theorem dX0_passLot_105 : decode cX0_passLot 105 = .ok (.ixor, 1) := by decide +kernel
theorem dX0_passLot_106 : decode cX0_passLot 106 = .ok (.iand, 1) := by decide +kernel
theorem dX0_passLot_107 : decode cX0_passLot 107 = .ok (.iastore, 1) := by decide +kernel
theorem dX0_passLot_108 : decode cX0_passLot 108 = .ok (.aload_n 1, 1) := by decide +kernel
theorem dX0_passLot_109 : decode cX0_passLot 109 = .ok (.getfield 79, 3) := by decide +kernel
theorem dX0_passLot_112 : decode cX0_passLot 112 = .ok (.iload_n 2, 1) := by decide +kernel
theorem dX0_passLot_113 : decode cX0_passLot 113 = .ok (.dup2, 1) := by decide +kernel
theorem dX0_passLot_114 : decode cX0_passLot 114 = .ok (.iaload, 1) := by decide +kernel
theorem dX0_passLot_115 : decode cX0_passLot 115 = .ok (.iconst 1, 1) := by decide +kernel
theorem dX0_passLot_116 : decode cX0_passLot 116 = .ok (.iadd, 1) := by decide +kernel
theorem dX0_passLot_117 : decode cX0_passLot 117 = .ok (.iastore, 1) := by decide +kernel
theorem dX0_passLot_118 : decode cX0_passLot 118 = .ok (.aload_n 0, 1) := by decide +kernel
theorem dX0_passLot_119 : decode cX0_passLot 119 = .ok (.aload_n 1, 1) := by decide +kernel
theorem dX0_passLot_120 : decode cX0_passLot 120 = .ok (.iload_n 2, 1) := by decide +kernel
theorem dX0_passLot_121 : decode cX0_passLot 121 = .ok (.invokevirtual 82, 3) := by decide +kernel
theorem dX0_passLot_124 : decode cX0_passLot 124 = .ok (.iload 6, 2) := by decide +kernel
theorem dX0_passLot_126 : decode cX0_passLot 126 = .ok (.ireturn, 1) := by decide +kernel
theorem wd_267 : (Jvm.Cond.fieldLink "SilentSale$Clerk" (40 : Nat) "SilentSale$State" "minutes" "I") ∈ tb_L := tb_in (i := 267) (by decide +kernel) (by decide +kernel)
theorem wd_879 : (Jvm.Cond.code ({ cls := "SilentSale$Clerk", name := "pass", desc := "(LSilentSale$State;I)I" } : Jvm.MethodName) prog_2_method_5_code (5 : Nat) (Option.some Jvm.ClassFile.FieldType.int)) ∈ tb_L := tb_in (i := 879) (by decide +kernel) (by decide +kernel)
theorem wd_880 : (Jvm.Cond.methodLink "SilentSale$Clerk" (36 : Nat) ({ cls := "SilentSale$Clerk", name := "passLot", desc := "(LSilentSale$State;II)I" } : Jvm.MethodName)) ∈ tb_L := tb_in (i := 880) (by decide +kernel) (by decide +kernel)
theorem wd_881 : (Jvm.Cond.instanceMethod ({ cls := "SilentSale$Clerk", name := "passLot", desc := "(LSilentSale$State;II)I" } : Jvm.MethodName)) ∈ tb_L := tb_in (i := 881) (by decide +kernel) (by decide +kernel)
theorem wd_882 : (Jvm.Cond.selects "SilentSale$Clerk" ({ cls := "SilentSale$Clerk", name := "passLot", desc := "(LSilentSale$State;II)I" } : Jvm.MethodName) ({ cls := "SilentSale$Clerk", name := "passLot", desc := "(LSilentSale$State;II)I" } : Jvm.MethodName)) ∈ tb_L := tb_in (i := 882) (by decide +kernel) (by decide +kernel)
theorem dX0_pass_0 : decode cX0_pass 0 = .ok (.iconst 0, 1) := by decide +kernel
theorem dX0_pass_1 : decode cX0_pass 1 = .ok (.istore_n 3, 1) := by decide +kernel
theorem dX0_pass_2 : decode cX0_pass 2 = .ok (.iconst 0, 1) := by decide +kernel
theorem dX0_pass_3 : decode cX0_pass 3 = .ok (.istore 4, 2) := by decide +kernel
theorem dX0_pass_5 : decode cX0_pass 5 = .ok (.iload 4, 2) := by decide +kernel
theorem dX0_pass_7 : decode cX0_pass 7 = .ok (.iconst 3, 1) := by decide +kernel
theorem dX0_pass_8 : decode cX0_pass 8 = .ok (.if_icmp .ge 20, 3) := by decide +kernel
theorem dX0_pass_11 : decode cX0_pass 11 = .ok (.iload_n 3, 1) := by decide +kernel
theorem dX0_pass_12 : decode cX0_pass 12 = .ok (.aload_n 0, 1) := by decide +kernel
theorem dX0_pass_13 : decode cX0_pass 13 = .ok (.aload_n 1, 1) := by decide +kernel
theorem dX0_pass_14 : decode cX0_pass 14 = .ok (.iload 4, 2) := by decide +kernel
theorem dX0_pass_16 : decode cX0_pass 16 = .ok (.iload_n 2, 1) := by decide +kernel
theorem dX0_pass_17 : decode cX0_pass 17 = .ok (.invokevirtual 36, 3) := by decide +kernel
theorem dX0_pass_20 : decode cX0_pass 20 = .ok (.ior, 1) := by decide +kernel
theorem dX0_pass_21 : decode cX0_pass 21 = .ok (.istore_n 3, 1) := by decide +kernel
theorem dX0_pass_22 : decode cX0_pass 22 = .ok (.iinc 4 1, 3) := by decide +kernel
theorem dX0_pass_25 : decode cX0_pass 25 = .ok (.goto (-20), 3) := by decide +kernel
theorem dX0_pass_28 : decode cX0_pass 28 = .ok (.aload_n 1, 1) := by decide +kernel
theorem dX0_pass_29 : decode cX0_pass 29 = .ok (.dup, 1) := by decide +kernel
theorem dX0_pass_30 : decode cX0_pass 30 = .ok (.getfield 40, 3) := by decide +kernel
theorem dX0_pass_33 : decode cX0_pass 33 = .ok (.iconst 1, 1) := by decide +kernel
theorem dX0_pass_34 : decode cX0_pass 34 = .ok (.iadd, 1) := by decide +kernel
theorem dX0_pass_35 : decode cX0_pass 35 = .ok (.putfield 40, 3) := by decide +kernel
theorem dX0_pass_38 : decode cX0_pass 38 = .ok (.iload_n 3, 1) := by decide +kernel
theorem dX0_pass_39 : decode cX0_pass 39 = .ok (.ireturn, 1) := by decide +kernel
theorem wd_877 : (Jvm.Cond.instanceMethod ({ cls := "SilentSale$Clerk", name := "pass", desc := "(LSilentSale$State;I)I" } : Jvm.MethodName)) ∈ tb_L := tb_in (i := 877) (by decide +kernel) (by decide +kernel)
theorem wd_878 : (Jvm.Cond.selects "SilentSale$Clerk" ({ cls := "SilentSale$Clerk", name := "pass", desc := "(LSilentSale$State;I)I" } : Jvm.MethodName) ({ cls := "SilentSale$Clerk", name := "pass", desc := "(LSilentSale$State;I)I" } : Jvm.MethodName)) ∈ tb_L := tb_in (i := 878) (by decide +kernel) (by decide +kernel)
theorem wd_996 : (Jvm.Cond.code ({ cls := "SilentSale$Clerk", name := "passMany", desc := "(LSilentSale$State;I)V" } : Jvm.MethodName) prog_2_method_6_code (4 : Nat) (Option.none : Option Jvm.ClassFile.FieldType)) ∈ tb_L := tb_in (i := 996) (by decide +kernel) (by decide +kernel)
theorem wd_997 : (Jvm.Cond.methodLink "SilentSale$Clerk" (45 : Nat) ({ cls := "SilentSale$State", name := "lotsAt", desc := "(I)I" } : Jvm.MethodName)) ∈ tb_L := tb_in (i := 997) (by decide +kernel) (by decide +kernel)
theorem wd_998 : (Jvm.Cond.methodLink "SilentSale$Clerk" (49 : Nat) ({ cls := "SilentSale$Clerk", name := "pass", desc := "(LSilentSale$State;I)I" } : Jvm.MethodName)) ∈ tb_L := tb_in (i := 998) (by decide +kernel) (by decide +kernel)
theorem dX0_passMany_0 : decode cX0_passMany 0 = .ok (.iconst 0, 1) := by decide +kernel
theorem dX0_passMany_1 : decode cX0_passMany 1 = .ok (.istore_n 3, 1) := by decide +kernel
theorem dX0_passMany_2 : decode cX0_passMany 2 = .ok (.iload_n 3, 1) := by decide +kernel
theorem dX0_passMany_3 : decode cX0_passMany 3 = .ok (.iload_n 2, 1) := by decide +kernel
theorem dX0_passMany_4 : decode cX0_passMany 4 = .ok (.if_icmp .ge 24, 3) := by decide +kernel
theorem dX0_passMany_7 : decode cX0_passMany 7 = .ok (.aload_n 1, 1) := by decide +kernel
theorem dX0_passMany_8 : decode cX0_passMany 8 = .ok (.iconst 1, 1) := by decide +kernel
theorem dX0_passMany_9 : decode cX0_passMany 9 = .ok (.invokevirtual 45, 3) := by decide +kernel
theorem dX0_passMany_12 : decode cX0_passMany 12 = .ok (.ifCond .eq 16, 3) := by decide +kernel
theorem dX0_passMany_15 : decode cX0_passMany 15 = .ok (.aload_n 0, 1) := by decide +kernel
theorem dX0_passMany_16 : decode cX0_passMany 16 = .ok (.aload_n 1, 1) := by decide +kernel
theorem dX0_passMany_17 : decode cX0_passMany 17 = .ok (.iconst 0, 1) := by decide +kernel
theorem dX0_passMany_18 : decode cX0_passMany 18 = .ok (.invokevirtual 49, 3) := by decide +kernel
theorem dX0_passMany_21 : decode cX0_passMany 21 = .ok (.pop, 1) := by decide +kernel
theorem dX0_passMany_22 : decode cX0_passMany 22 = .ok (.iinc 3 1, 3) := by decide +kernel
theorem dX0_passMany_25 : decode cX0_passMany 25 = .ok (.goto (-23), 3) := by decide +kernel
theorem dX0_passMany_28 : decode cX0_passMany 28 = .ok (.return_, 1) := by decide +kernel
theorem wd_1006 : (Jvm.Cond.code ({ cls := "SilentSale$Clerk", name := "passTillOver", desc := "(LSilentSale$State;I)V" } : Jvm.MethodName) prog_2_method_7_code (4 : Nat) (Option.none : Option Jvm.ClassFile.FieldType)) ∈ tb_L := tb_in (i := 1006) (by decide +kernel) (by decide +kernel)
theorem dX0_passTillOver_0 : decode cX0_passTillOver 0 = .ok (.iconst 0, 1) := by decide +kernel
theorem dX0_passTillOver_1 : decode cX0_passTillOver 1 = .ok (.istore_n 3, 1) := by decide +kernel
theorem dX0_passTillOver_2 : decode cX0_passTillOver 2 = .ok (.iload_n 3, 1) := by decide +kernel
theorem dX0_passTillOver_3 : decode cX0_passTillOver 3 = .ok (.sipush 300, 3) := by decide +kernel
theorem dX0_passTillOver_6 : decode cX0_passTillOver 6 = .ok (.if_icmp .ge 26, 3) := by decide +kernel
theorem dX0_passTillOver_9 : decode cX0_passTillOver 9 = .ok (.aload_n 1, 1) := by decide +kernel
theorem dX0_passTillOver_10 : decode cX0_passTillOver 10 = .ok (.getfield 53, 3) := by decide +kernel
theorem dX0_passTillOver_13 : decode cX0_passTillOver 13 = .ok (.iload_n 2, 1) := by decide +kernel
theorem dX0_passTillOver_14 : decode cX0_passTillOver 14 = .ok (.iaload, 1) := by decide +kernel
theorem dX0_passTillOver_15 : decode cX0_passTillOver 15 = .ok (.iconst 1, 1) := by decide +kernel
theorem dX0_passTillOver_16 : decode cX0_passTillOver 16 = .ok (.if_icmp .ne 16, 3) := by decide +kernel
theorem dX0_passTillOver_19 : decode cX0_passTillOver 19 = .ok (.aload_n 0, 1) := by decide +kernel
theorem dX0_passTillOver_20 : decode cX0_passTillOver 20 = .ok (.aload_n 1, 1) := by decide +kernel
theorem dX0_passTillOver_21 : decode cX0_passTillOver 21 = .ok (.iconst 0, 1) := by decide +kernel
theorem dX0_passTillOver_22 : decode cX0_passTillOver 22 = .ok (.invokevirtual 49, 3) := by decide +kernel
theorem dX0_passTillOver_25 : decode cX0_passTillOver 25 = .ok (.pop, 1) := by decide +kernel
theorem dX0_passTillOver_26 : decode cX0_passTillOver 26 = .ok (.iinc 3 1, 3) := by decide +kernel
theorem dX0_passTillOver_29 : decode cX0_passTillOver 29 = .ok (.goto (-27), 3) := by decide +kernel
theorem dX0_passTillOver_32 : decode cX0_passTillOver 32 = .ok (.return_, 1) := by decide +kernel
theorem wd_256 : (Jvm.Cond.fieldLink "SilentSale$Clerk" (64 : Nat) "SilentSale$State" "owner" "[I") ∈ tb_L := tb_in (i := 256) (by decide +kernel) (by decide +kernel)
theorem wd_1122 : (Jvm.Cond.code ({ cls := "SilentSale$Clerk", name := "passTillDecided", desc := "(LSilentSale$State;II)Z" } : Jvm.MethodName) prog_2_method_8_code (5 : Nat) (Option.some Jvm.ClassFile.FieldType.boolean)) ∈ tb_L := tb_in (i := 1122) (by decide +kernel) (by decide +kernel)
theorem dX0_passTillDecided_0 : decode cX0_passTillDecided 0 = .ok (.iconst 0, 1) := by decide +kernel
theorem dX0_passTillDecided_1 : decode cX0_passTillDecided 1 = .ok (.istore 4, 2) := by decide +kernel
theorem dX0_passTillDecided_3 : decode cX0_passTillDecided 3 = .ok (.iload 4, 2) := by decide +kernel
theorem dX0_passTillDecided_5 : decode cX0_passTillDecided 5 = .ok (.sipush 300, 3) := by decide +kernel
theorem dX0_passTillDecided_8 : decode cX0_passTillDecided 8 = .ok (.if_icmp .ge 29, 3) := by decide +kernel
theorem dX0_passTillDecided_11 : decode cX0_passTillDecided 11 = .ok (.iload_n 3, 1) := by decide +kernel
theorem dX0_passTillDecided_12 : decode cX0_passTillDecided 12 = .ok (.aload_n 1, 1) := by decide +kernel
theorem dX0_passTillDecided_13 : decode cX0_passTillDecided 13 = .ok (.getfield 57, 3) := by decide +kernel
theorem dX0_passTillDecided_16 : decode cX0_passTillDecided 16 = .ok (.iload_n 2, 1) := by decide +kernel
theorem dX0_passTillDecided_17 : decode cX0_passTillDecided 17 = .ok (.iaload, 1) := by decide +kernel
theorem dX0_passTillDecided_18 : decode cX0_passTillDecided 18 = .ok (.invokestatic 60, 3) := by decide +kernel
theorem dX0_passTillDecided_21 : decode cX0_passTillDecided 21 = .ok (.ifCond .eq 16, 3) := by decide +kernel
theorem dX0_passTillDecided_24 : decode cX0_passTillDecided 24 = .ok (.aload_n 0, 1) := by decide +kernel
theorem dX0_passTillDecided_25 : decode cX0_passTillDecided 25 = .ok (.aload_n 1, 1) := by decide +kernel
theorem dX0_passTillDecided_26 : decode cX0_passTillDecided 26 = .ok (.iconst 0, 1) := by decide +kernel
theorem dX0_passTillDecided_27 : decode cX0_passTillDecided 27 = .ok (.invokevirtual 49, 3) := by decide +kernel
theorem dX0_passTillDecided_30 : decode cX0_passTillDecided 30 = .ok (.pop, 1) := by decide +kernel
theorem dX0_passTillDecided_31 : decode cX0_passTillDecided 31 = .ok (.iinc 4 1, 3) := by decide +kernel
theorem dX0_passTillDecided_34 : decode cX0_passTillDecided 34 = .ok (.goto (-31), 3) := by decide +kernel
theorem dX0_passTillDecided_37 : decode cX0_passTillDecided 37 = .ok (.aload_n 1, 1) := by decide +kernel
theorem dX0_passTillDecided_38 : decode cX0_passTillDecided 38 = .ok (.getfield 64, 3) := by decide +kernel
theorem dX0_passTillDecided_41 : decode cX0_passTillDecided 41 = .ok (.iload_n 2, 1) := by decide +kernel
theorem dX0_passTillDecided_42 : decode cX0_passTillDecided 42 = .ok (.iaload, 1) := by decide +kernel
theorem dX0_passTillDecided_43 : decode cX0_passTillDecided 43 = .ok (.iload_n 3, 1) := by decide +kernel
theorem dX0_passTillDecided_44 : decode cX0_passTillDecided 44 = .ok (.if_icmp .ne 7, 3) := by decide +kernel
theorem dX0_passTillDecided_47 : decode cX0_passTillDecided 47 = .ok (.iconst 1, 1) := by decide +kernel
theorem dX0_passTillDecided_48 : decode cX0_passTillDecided 48 = .ok (.goto 4, 3) := by decide +kernel
theorem dX0_passTillDecided_51 : decode cX0_passTillDecided 51 = .ok (.iconst 0, 1) := by decide +kernel
theorem dX0_passTillDecided_52 : decode cX0_passTillDecided 52 = .ok (.ireturn, 1) := by decide +kernel
theorem wd_412 : (Jvm.Cond.fieldLink "SilentSale$Clerk" (26 : Nat) "SilentSale$Clerk" "drawn" "J") ∈ tb_L := tb_in (i := 412) (by decide +kernel) (by decide +kernel)
theorem wd_1208 : (Jvm.Cond.code ({ cls := "SilentSale$Clerk", name := "drawFrom", desc := "(I)V" } : Jvm.MethodName) prog_2_method_13_code (2 : Nat) (Option.none : Option Jvm.ClassFile.FieldType)) ∈ tb_L := tb_in (i := 1208) (by decide +kernel) (by decide +kernel)
theorem dX0_drawFrom_0 : decode cX0_drawFrom 0 = .ok (.aload_n 0, 1) := by decide +kernel
theorem dX0_drawFrom_1 : decode cX0_drawFrom 1 = .ok (.iload_n 1, 1) := by decide +kernel
theorem dX0_drawFrom_2 : decode cX0_drawFrom 2 = .ok (.i2l, 1) := by decide +kernel
theorem dX0_drawFrom_3 : decode cX0_drawFrom 3 = .ok (.putfield 26, 3) := by decide +kernel
theorem dX0_drawFrom_6 : decode cX0_drawFrom 6 = .ok (.return_, 1) := by decide +kernel
theorem wd_1212 : (Jvm.Cond.code ({ cls := "SilentSale$Clerk", name := "drawCoughs", desc := "(LSilentSale$State;I)I" } : Jvm.MethodName) prog_2_method_14_code (6 : Nat) (Option.some Jvm.ClassFile.FieldType.int)) ∈ tb_L := tb_in (i := 1212) (by decide +kernel) (by decide +kernel)
theorem wd_1213 : (Jvm.Cond.methodLink "SilentSale$Clerk" (119 : Nat) ({ cls := "SilentSale$State", name := "silentOnes", desc := "()I" } : Jvm.MethodName)) ∈ tb_L := tb_in (i := 1213) (by decide +kernel) (by decide +kernel)
theorem wd_1214 : (Jvm.Cond.constantLong "SilentSale$Clerk" (123 : Nat) (1103515245 : Int64)) ∈ tb_L := tb_in (i := 1214) (by decide +kernel) (by decide +kernel)
theorem wd_1215 : (Jvm.Cond.constantLong "SilentSale$Clerk" (125 : Nat) (12345 : Int64)) ∈ tb_L := tb_in (i := 1215) (by decide +kernel) (by decide +kernel)
theorem wd_1216 : (Jvm.Cond.constantLong "SilentSale$Clerk" (127 : Nat) (2147483648 : Int64)) ∈ tb_L := tb_in (i := 1216) (by decide +kernel) (by decide +kernel)
theorem wd_1217 : (Jvm.Cond.constantLong "SilentSale$Clerk" (129 : Nat) (65536 : Int64)) ∈ tb_L := tb_in (i := 1217) (by decide +kernel) (by decide +kernel)
theorem wd_1218 : (Jvm.Cond.constantLong "SilentSale$Clerk" (131 : Nat) (100 : Int64)) ∈ tb_L := tb_in (i := 1218) (by decide +kernel) (by decide +kernel)
theorem dX0_drawCoughs_0 : decode cX0_drawCoughs 0 = .ok (.iconst 0, 1) := by decide +kernel
theorem dX0_drawCoughs_1 : decode cX0_drawCoughs 1 = .ok (.istore_n 3, 1) := by decide +kernel
theorem dX0_drawCoughs_2 : decode cX0_drawCoughs 2 = .ok (.aload_n 1, 1) := by decide +kernel
theorem dX0_drawCoughs_3 : decode cX0_drawCoughs 3 = .ok (.invokevirtual 119, 3) := by decide +kernel
theorem dX0_drawCoughs_6 : decode cX0_drawCoughs 6 = .ok (.istore 4, 2) := by decide +kernel
theorem dX0_drawCoughs_8 : decode cX0_drawCoughs 8 = .ok (.iconst 0, 1) := by decide +kernel
theorem dX0_drawCoughs_9 : decode cX0_drawCoughs 9 = .ok (.istore 5, 2) := by decide +kernel
theorem dX0_drawCoughs_11 : decode cX0_drawCoughs 11 = .ok (.iload 5, 2) := by decide +kernel
theorem dX0_drawCoughs_13 : decode cX0_drawCoughs 13 = .ok (.iconst 5, 1) := by decide +kernel
theorem dX0_drawCoughs_14 : decode cX0_drawCoughs 14 = .ok (.if_icmp .ge 68, 3) := by decide +kernel
theorem dX0_drawCoughs_17 : decode cX0_drawCoughs 17 = .ok (.iload 5, 2) := by decide +kernel
theorem dX0_drawCoughs_19 : decode cX0_drawCoughs 19 = .ok (.iload 4, 2) := by decide +kernel
theorem dX0_drawCoughs_21 : decode cX0_drawCoughs 21 = .ok (.invokestatic 60, 3) := by decide +kernel
theorem dX0_drawCoughs_24 : decode cX0_drawCoughs 24 = .ok (.ifCond .eq 52, 3) := by decide +kernel
theorem dX0_drawCoughs_27 : decode cX0_drawCoughs 27 = .ok (.aload_n 0, 1) := by decide +kernel
theorem dX0_drawCoughs_28 : decode cX0_drawCoughs 28 = .ok (.aload_n 0, 1) := by decide +kernel
theorem dX0_drawCoughs_29 : decode cX0_drawCoughs 29 = .ok (.getfield 26, 3) := by decide +kernel
theorem dX0_drawCoughs_32 : decode cX0_drawCoughs 32 = .ok (.ldc2_w 123, 3) := by decide +kernel
theorem dX0_drawCoughs_35 : decode cX0_drawCoughs 35 = .ok (.lmul, 1) := by decide +kernel
theorem dX0_drawCoughs_36 : decode cX0_drawCoughs 36 = .ok (.ldc2_w 125, 3) := by decide +kernel
theorem dX0_drawCoughs_39 : decode cX0_drawCoughs 39 = .ok (.ladd, 1) := by decide +kernel
theorem dX0_drawCoughs_40 : decode cX0_drawCoughs 40 = .ok (.ldc2_w 127, 3) := by decide +kernel
theorem dX0_drawCoughs_43 : decode cX0_drawCoughs 43 = .ok (.lrem, 1) := by decide +kernel
theorem dX0_drawCoughs_44 : decode cX0_drawCoughs 44 = .ok (.putfield 26, 3) := by decide +kernel
theorem dX0_drawCoughs_47 : decode cX0_drawCoughs 47 = .ok (.iload_n 3, 1) := by decide +kernel
theorem dX0_drawCoughs_48 : decode cX0_drawCoughs 48 = .ok (.aload_n 0, 1) := by decide +kernel
theorem dX0_drawCoughs_49 : decode cX0_drawCoughs 49 = .ok (.getfield 26, 3) := by decide +kernel
theorem dX0_drawCoughs_52 : decode cX0_drawCoughs 52 = .ok (.ldc2_w 129, 3) := by decide +kernel
theorem dX0_drawCoughs_55 : decode cX0_drawCoughs 55 = .ok (.ldiv, 1) := by decide +kernel
theorem dX0_drawCoughs_56 : decode cX0_drawCoughs 56 = .ok (.ldc2_w 131, 3) := by decide +kernel
theorem dX0_drawCoughs_59 : decode cX0_drawCoughs 59 = .ok (.lrem, 1) := by decide +kernel
theorem dX0_drawCoughs_60 : decode cX0_drawCoughs 60 = .ok (.iload_n 2, 1) := by decide +kernel
theorem dX0_drawCoughs_61 : decode cX0_drawCoughs 61 = .ok (.i2l, 1) := by decide +kernel
theorem dX0_drawCoughs_62 : decode cX0_drawCoughs 62 = .ok (.lcmp, 1) := by decide +kernel
theorem dX0_drawCoughs_63 : decode cX0_drawCoughs 63 = .ok (.ifCond .ge 10, 3) := by decide +kernel
theorem dX0_drawCoughs_66 : decode cX0_drawCoughs 66 = .ok (.iconst 1, 1) := by decide +kernel
theorem dX0_drawCoughs_67 : decode cX0_drawCoughs 67 = .ok (.iload 5, 2) := by decide +kernel
theorem dX0_drawCoughs_69 : decode cX0_drawCoughs 69 = .ok (.ishl, 1) := by decide +kernel
theorem dX0_drawCoughs_70 : decode cX0_drawCoughs 70 = .ok (.goto 4, 3) := by decide +kernel
theorem dX0_drawCoughs_73 : decode cX0_drawCoughs 73 = .ok (.iconst 0, 1) := by decide +kernel
theorem dX0_drawCoughs_74 : decode cX0_drawCoughs 74 = .ok (.ior, 1) := by decide +kernel
theorem dX0_drawCoughs_75 : decode cX0_drawCoughs 75 = .ok (.istore_n 3, 1) := by decide +kernel
theorem dX0_drawCoughs_76 : decode cX0_drawCoughs 76 = .ok (.iinc 5 1, 3) := by decide +kernel
theorem dX0_drawCoughs_79 : decode cX0_drawCoughs 79 = .ok (.goto (-68), 3) := by decide +kernel
theorem dX0_drawCoughs_82 : decode cX0_drawCoughs 82 = .ok (.iload_n 3, 1) := by decide +kernel
theorem dX0_drawCoughs_83 : decode cX0_drawCoughs 83 = .ok (.ireturn, 1) := by decide +kernel
set_option maxHeartbeats 4000000 in
set_option maxRecDepth 100000 in
theorem d_join (l : Launch) (G : gg_T) (Γ : Nat → Nat) (sz : Nat) (wt : va_W) (hT : tk_ty G Γ wt) (a : Int32) (x : Int64) (y : Int64) : Met l yX4_join (ts_L yX4_join cX4_join 5 (some .long)) ({ frames := 0, cells := 0, slots := 0, locals := 0 }) (gc_P G wt sz [.int a, .long x, .long y]) (gc_J G (va_A wt sz) (fun r (u : va_W) => tk_ty G Γ u ∧ tk_kp [] wt u) (fun u => u)) 0 0 (va_A wt sz) := by
  refine Met.ofW (cc := cX4_join) (maxL := 5) (ret := (some .long)) (by decide) rfl ?_
  intro p e s m args below meth c s₁ B hml hv
  obtain ⟨rfl, hsz, hP, hK, hD0⟩ := hv
  have hx := B.exec
  have hb := B.bytes
  have hr := B.returns
  have ht := ts_ht (atoms_spec (ws := ts_L yX4_join cX4_join 5 (some .long)) B.pre)
  have hown : s.vm.findClass RX4 = some m.cls := findClass_of_methodNamed B.named
  have hlocks := B.notSynchronized
  subst hsz
  have hD := hD0.self (sz := s.heap.size)
  generalize hAe : va_A wt s.heap.size = A at hD ⊢
  have hA : ∀ q : Nat, s.heap.size ≤ q → A q := fun q h => by rw [← hAe]; exact Or.inr h
  clear hAe hD0
  have hS : va_S A s.heap s.heap [] := va_S.rf
  obtain ⟨w0, hw0⟩ : ∃ z, z = wt := ⟨_, rfl⟩
  have hW : tk_kp [] w0 wt := by rw [hw0]; exact tk_kp.rf
  rw [← hw0]
  clear hw0
  have hP : va_P (gg_D G) classes ([] ++ wt) s.heap := hP
  have hD : va_D A ([] ++ wt) := hD
  have hl := lv_entry ([.int a, .long x, .long y]) (n := 5) (Nat.le_of_ble_eq_true rfl)
  rw [lg_entry_eq]
  generalize (lg_sl ([.int a, .long x, .long y]) ++ List.replicate (5 - (lg_sl ([.int a, .long x, .long y])).length) Slot.unset).toArray = ls at hl ⊢
  have hl : lv_has ls 5 [(0, .int a), (1, .long x), (3, .long y)] := hl
  have l0 : (0 : Int32).toInt = 0 := by decide +kernel
  have l10 : (10 : Int32).toInt = 10 := by decide +kernel
  have l11 : (11 : Int32).toInt = 11 := by decide +kernel
  have l12 : (12 : Int32).toInt = 12 := by decide +kernel
  have l13 : (13 : Int32).toInt = 13 := by decide +kernel
  have l14 : (14 : Int32).toInt = 14 := by decide +kernel
  have l15 : (15 : Int32).toInt = 15 := by decide +kernel
  have l16 : (16 : Int32).toInt = 16 := by decide +kernel
  have l17 : (17 : Int32).toInt = 17 := by decide +kernel
  have l18 : (18 : Int32).toInt = 18 := by decide +kernel
  have l19 : (19 : Int32).toInt = 19 := by decide +kernel
  have l20 : (20 : Int32).toInt = 20 := by decide +kernel
  refine lv_iload_n hx hb dX4_join_0 rfl (lv_at hl 0 rfl) ?_
  by_cases c_1 : a = 10
  · refine lv_tableIn (x := a) (off := 59) (tgt := 60) hx hb dX4_join_1 (by rw [c_1]; decide +kernel) (by rw [c_1]; decide +kernel) (by rw [c_1]; decide +kernel) (by decide) ?_
    rw [← Int32.toInt_inj] at c_1
    refine lv_lload_n hx hb dX4_join_60 rfl (lv_at hl 1 rfl) ?_
    refine lv_lload_n hx hb dX4_join_61 rfl (lv_at hl 2 rfl) ?_
    refine lv_ladd hx hb dX4_join_62 ?_
    refine lv_topl (fun m_2 em_2 => ?_)
    clear em_2
    exact W.lret (v := m_2) hx hb hr (gq_endJ wt ⟨hT, hW⟩ (tw_right hP) (tw_rightD hD) hS) hS.2.2 dX4_join_63
  by_cases c_3 : a = 11
  · refine lv_tableIn (x := a) (off := 63) (tgt := 64) hx hb dX4_join_1 (by rw [c_3]; decide +kernel) (by rw [c_3]; decide +kernel) (by rw [c_3]; decide +kernel) (by decide) ?_
    rw [← Int32.toInt_inj] at c_3
    refine lv_lload_n hx hb dX4_join_64 rfl (lv_at hl 1 rfl) ?_
    refine lv_lload_n hx hb dX4_join_65 rfl (lv_at hl 2 rfl) ?_
    refine lv_lsub hx hb dX4_join_66 ?_
    refine lv_topl (fun m_4 em_4 => ?_)
    clear em_4
    exact W.lret (v := m_4) hx hb hr (gq_endJ wt ⟨hT, hW⟩ (tw_right hP) (tw_rightD hD) hS) hS.2.2 dX4_join_67
  by_cases c_5 : a = 12
  · refine lv_tableIn (x := a) (off := 67) (tgt := 68) hx hb dX4_join_1 (by rw [c_5]; decide +kernel) (by rw [c_5]; decide +kernel) (by rw [c_5]; decide +kernel) (by decide) ?_
    rw [← Int32.toInt_inj] at c_5
    refine lv_lload_n hx hb dX4_join_68 rfl (lv_at hl 1 rfl) ?_
    refine lv_lload_n hx hb dX4_join_69 rfl (lv_at hl 2 rfl) ?_
    refine lv_lmul hx hb dX4_join_70 ?_
    refine lv_topl (fun m_6 em_6 => ?_)
    clear em_6
    exact W.lret (v := m_6) hx hb hr (gq_endJ wt ⟨hT, hW⟩ (tw_right hP) (tw_rightD hD) hS) hS.2.2 dX4_join_71
  by_cases c_7 : a = 13
  · refine lv_tableIn (x := a) (off := 71) (tgt := 72) hx hb dX4_join_1 (by rw [c_7]; decide +kernel) (by rw [c_7]; decide +kernel) (by rw [c_7]; decide +kernel) (by decide) ?_
    rw [← Int32.toInt_inj] at c_7
    refine lv_lload_n hx hb dX4_join_72 rfl (lv_at hl 2 rfl) ?_
    refine lv_lconst (v := 0) hx hb dX4_join_73 (by decide +kernel) ?_
    obtain ⟨t_8, et_8⟩ : ∃ zz_ : Int32, lg_cmp y 0 = zz_ := ⟨_, rfl⟩
    refine gq_lcmp hx hb t_8 et_8 dX4_join_74 ?_
    refine lv_if_ne (tgt := 82) hx hb dX4_join_75 (by decide) (fun c_9 => ?_) (fun c_9 => ?_)
    · rw [← Int32.toInt_inj] at c_9
      have zc_9 := il_ne et_8 c_9
      refine lv_lload_n hx hb dX4_join_82 rfl (lv_at hl 1 rfl) ?_
      refine lv_lload_n hx hb dX4_join_83 rfl (lv_at hl 2 rfl) ?_
      refine lv_ldiv hx hb dX4_join_84 zc_9 ?_
      refine lv_topl (fun m_10 em_10 => ?_)
      clear em_10
      exact W.lret (v := m_10) hx hb hr (gq_endJ wt ⟨hT, hW⟩ (tw_right hP) (tw_rightD hD) hS) hS.2.2 dX4_join_85
    · rw [← Int32.toInt_inj] at c_9
      refine lv_lconst (v := 0) hx hb dX4_join_78 (by decide +kernel) ?_
      refine lv_goto (tgt := 85) hx hb dX4_join_79 (by decide) ?_
      exact W.lret (v := 0) hx hb hr (gq_endJ wt ⟨hT, hW⟩ (tw_right hP) (tw_rightD hD) hS) hS.2.2 dX4_join_85
  by_cases c_11 : a = 14
  · refine lv_tableIn (x := a) (off := 85) (tgt := 86) hx hb dX4_join_1 (by rw [c_11]; decide +kernel) (by rw [c_11]; decide +kernel) (by rw [c_11]; decide +kernel) (by decide) ?_
    rw [← Int32.toInt_inj] at c_11
    refine lv_lload_n hx hb dX4_join_86 rfl (lv_at hl 2 rfl) ?_
    refine lv_lconst (v := 0) hx hb dX4_join_87 (by decide +kernel) ?_
    obtain ⟨t_12, et_12⟩ : ∃ zz_ : Int32, lg_cmp y 0 = zz_ := ⟨_, rfl⟩
    refine gq_lcmp hx hb t_12 et_12 dX4_join_88 ?_
    refine lv_if_ne (tgt := 96) hx hb dX4_join_89 (by decide) (fun c_13 => ?_) (fun c_13 => ?_)
    · rw [← Int32.toInt_inj] at c_13
      have zc_13 := il_ne et_12 c_13
      refine lv_lload_n hx hb dX4_join_96 rfl (lv_at hl 1 rfl) ?_
      refine lv_lload_n hx hb dX4_join_97 rfl (lv_at hl 2 rfl) ?_
      refine lv_lrem hx hb dX4_join_98 zc_13 ?_
      refine lv_topl (fun m_14 em_14 => ?_)
      clear em_14
      exact W.lret (v := m_14) hx hb hr (gq_endJ wt ⟨hT, hW⟩ (tw_right hP) (tw_rightD hD) hS) hS.2.2 dX4_join_99
    · rw [← Int32.toInt_inj] at c_13
      refine lv_lconst (v := 0) hx hb dX4_join_92 (by decide +kernel) ?_
      refine lv_goto (tgt := 99) hx hb dX4_join_93 (by decide) ?_
      exact W.lret (v := 0) hx hb hr (gq_endJ wt ⟨hT, hW⟩ (tw_right hP) (tw_rightD hD) hS) hS.2.2 dX4_join_99
  by_cases c_15 : a = 15
  · refine lv_tableIn (x := a) (off := 99) (tgt := 100) hx hb dX4_join_1 (by rw [c_15]; decide +kernel) (by rw [c_15]; decide +kernel) (by rw [c_15]; decide +kernel) (by decide) ?_
    rw [← Int32.toInt_inj] at c_15
    refine lv_lload_n hx hb dX4_join_100 rfl (lv_at hl 1 rfl) ?_
    refine lv_lload_n hx hb dX4_join_101 rfl (lv_at hl 2 rfl) ?_
    obtain ⟨t_16, et_16⟩ : ∃ zz_ : Int32, lg_cmp x y = zz_ := ⟨_, rfl⟩
    refine gq_lcmp hx hb t_16 et_16 dX4_join_102 ?_
    refine lv_if_ge (tgt := 110) hx hb dX4_join_103 (by decide) (fun c_17 => ?_) (fun c_17 => ?_)
    · rw [Int32.le_iff_toInt_le] at c_17
      refine lv_lconst (v := 0) hx hb dX4_join_110 (by decide +kernel) ?_
      exact W.lret (v := 0) hx hb hr (gq_endJ wt ⟨hT, hW⟩ (tw_right hP) (tw_rightD hD) hS) hS.2.2 dX4_join_111
    · rw [Int32.le_iff_toInt_le] at c_17
      refine lv_lconst (v := 1) hx hb dX4_join_106 (by decide +kernel) ?_
      refine lv_goto (tgt := 111) hx hb dX4_join_107 (by decide) ?_
      exact W.lret (v := 1) hx hb hr (gq_endJ wt ⟨hT, hW⟩ (tw_right hP) (tw_rightD hD) hS) hS.2.2 dX4_join_111
  by_cases c_18 : a = 16
  · refine lv_tableIn (x := a) (off := 111) (tgt := 112) hx hb dX4_join_1 (by rw [c_18]; decide +kernel) (by rw [c_18]; decide +kernel) (by rw [c_18]; decide +kernel) (by decide) ?_
    rw [← Int32.toInt_inj] at c_18
    refine lv_lload_n hx hb dX4_join_112 rfl (lv_at hl 1 rfl) ?_
    refine lv_lload_n hx hb dX4_join_113 rfl (lv_at hl 2 rfl) ?_
    obtain ⟨t_19, et_19⟩ : ∃ zz_ : Int32, lg_cmp x y = zz_ := ⟨_, rfl⟩
    refine gq_lcmp hx hb t_19 et_19 dX4_join_114 ?_
    refine lv_if_gt (tgt := 122) hx hb dX4_join_115 (by decide) (fun c_20 => ?_) (fun c_20 => ?_)
    · rw [Int32.lt_iff_toInt_lt] at c_20
      refine lv_lconst (v := 0) hx hb dX4_join_122 (by decide +kernel) ?_
      exact W.lret (v := 0) hx hb hr (gq_endJ wt ⟨hT, hW⟩ (tw_right hP) (tw_rightD hD) hS) hS.2.2 dX4_join_123
    · rw [Int32.lt_iff_toInt_lt] at c_20
      refine lv_lconst (v := 1) hx hb dX4_join_118 (by decide +kernel) ?_
      refine lv_goto (tgt := 123) hx hb dX4_join_119 (by decide) ?_
      exact W.lret (v := 1) hx hb hr (gq_endJ wt ⟨hT, hW⟩ (tw_right hP) (tw_rightD hD) hS) hS.2.2 dX4_join_123
  by_cases c_21 : a = 17
  · refine lv_tableIn (x := a) (off := 123) (tgt := 124) hx hb dX4_join_1 (by rw [c_21]; decide +kernel) (by rw [c_21]; decide +kernel) (by rw [c_21]; decide +kernel) (by decide) ?_
    rw [← Int32.toInt_inj] at c_21
    refine lv_lload_n hx hb dX4_join_124 rfl (lv_at hl 1 rfl) ?_
    refine lv_lload_n hx hb dX4_join_125 rfl (lv_at hl 2 rfl) ?_
    obtain ⟨t_22, et_22⟩ : ∃ zz_ : Int32, lg_cmp x y = zz_ := ⟨_, rfl⟩
    refine gq_lcmp hx hb t_22 et_22 dX4_join_126 ?_
    refine lv_if_ne (tgt := 134) hx hb dX4_join_127 (by decide) (fun c_23 => ?_) (fun c_23 => ?_)
    · rw [← Int32.toInt_inj] at c_23
      refine lv_lconst (v := 0) hx hb dX4_join_134 (by decide +kernel) ?_
      exact W.lret (v := 0) hx hb hr (gq_endJ wt ⟨hT, hW⟩ (tw_right hP) (tw_rightD hD) hS) hS.2.2 dX4_join_135
    · rw [← Int32.toInt_inj] at c_23
      refine lv_lconst (v := 1) hx hb dX4_join_130 (by decide +kernel) ?_
      refine lv_goto (tgt := 135) hx hb dX4_join_131 (by decide) ?_
      exact W.lret (v := 1) hx hb hr (gq_endJ wt ⟨hT, hW⟩ (tw_right hP) (tw_rightD hD) hS) hS.2.2 dX4_join_135
  by_cases c_24 : a = 18
  · refine lv_tableIn (x := a) (off := 135) (tgt := 136) hx hb dX4_join_1 (by rw [c_24]; decide +kernel) (by rw [c_24]; decide +kernel) (by rw [c_24]; decide +kernel) (by decide) ?_
    rw [← Int32.toInt_inj] at c_24
    refine lv_lload_n hx hb dX4_join_136 rfl (lv_at hl 1 rfl) ?_
    refine lv_lload_n hx hb dX4_join_137 rfl (lv_at hl 2 rfl) ?_
    obtain ⟨t_25, et_25⟩ : ∃ zz_ : Int32, lg_cmp x y = zz_ := ⟨_, rfl⟩
    refine gq_lcmp hx hb t_25 et_25 dX4_join_138 ?_
    refine lv_if_lt (tgt := 146) hx hb dX4_join_139 (by decide) (fun c_26 => ?_) (fun c_26 => ?_)
    · rw [Int32.lt_iff_toInt_lt] at c_26
      refine lv_lconst (v := 0) hx hb dX4_join_146 (by decide +kernel) ?_
      exact W.lret (v := 0) hx hb hr (gq_endJ wt ⟨hT, hW⟩ (tw_right hP) (tw_rightD hD) hS) hS.2.2 dX4_join_147
    · rw [Int32.lt_iff_toInt_lt] at c_26
      refine lv_lconst (v := 1) hx hb dX4_join_142 (by decide +kernel) ?_
      refine lv_goto (tgt := 147) hx hb dX4_join_143 (by decide) ?_
      exact W.lret (v := 1) hx hb hr (gq_endJ wt ⟨hT, hW⟩ (tw_right hP) (tw_rightD hD) hS) hS.2.2 dX4_join_147
  by_cases c_27 : a = 19
  · refine lv_tableIn (x := a) (off := 147) (tgt := 148) hx hb dX4_join_1 (by rw [c_27]; decide +kernel) (by rw [c_27]; decide +kernel) (by rw [c_27]; decide +kernel) (by decide) ?_
    rw [← Int32.toInt_inj] at c_27
    refine lv_lload_n hx hb dX4_join_148 rfl (lv_at hl 1 rfl) ?_
    refine lv_lload_n hx hb dX4_join_149 rfl (lv_at hl 2 rfl) ?_
    obtain ⟨t_28, et_28⟩ : ∃ zz_ : Int32, lg_cmp x y = zz_ := ⟨_, rfl⟩
    refine gq_lcmp hx hb t_28 et_28 dX4_join_150 ?_
    refine lv_if_le (tgt := 158) hx hb dX4_join_151 (by decide) (fun c_29 => ?_) (fun c_29 => ?_)
    · rw [Int32.le_iff_toInt_le] at c_29
      refine lv_lconst (v := 0) hx hb dX4_join_158 (by decide +kernel) ?_
      exact W.lret (v := 0) hx hb hr (gq_endJ wt ⟨hT, hW⟩ (tw_right hP) (tw_rightD hD) hS) hS.2.2 dX4_join_159
    · rw [Int32.le_iff_toInt_le] at c_29
      refine lv_lconst (v := 1) hx hb dX4_join_154 (by decide +kernel) ?_
      refine lv_goto (tgt := 159) hx hb dX4_join_155 (by decide) ?_
      exact W.lret (v := 1) hx hb hr (gq_endJ wt ⟨hT, hW⟩ (tw_right hP) (tw_rightD hD) hS) hS.2.2 dX4_join_159
  by_cases c_30 : a = 20
  · refine lv_tableIn (x := a) (off := 159) (tgt := 160) hx hb dX4_join_1 (by rw [c_30]; decide +kernel) (by rw [c_30]; decide +kernel) (by rw [c_30]; decide +kernel) (by decide) ?_
    rw [← Int32.toInt_inj] at c_30
    refine lv_lload_n hx hb dX4_join_160 rfl (lv_at hl 1 rfl) ?_
    refine lv_lload_n hx hb dX4_join_161 rfl (lv_at hl 2 rfl) ?_
    refine lv_land hx hb dX4_join_162 ?_
    refine lv_topl (fun m_31 em_31 => ?_)
    clear em_31
    exact W.lret (v := m_31) hx hb hr (gq_endJ wt ⟨hT, hW⟩ (tw_right hP) (tw_rightD hD) hS) hS.2.2 dX4_join_163
  rw [← Int32.toInt_inj] at c_1 c_3 c_5 c_7 c_11 c_15 c_18 c_21 c_24 c_27 c_30
  refine lv_tableOut (x := a) (tgt := 164) hx hb dX4_join_1 (by omega) (by decide) ?_
  refine lv_lload_n hx hb dX4_join_164 rfl (lv_at hl 1 rfl) ?_
  refine lv_lload_n hx hb dX4_join_165 rfl (lv_at hl 2 rfl) ?_
  refine lv_lor hx hb dX4_join_166 ?_
  refine lv_topl (fun m_32 em_32 => ?_)
  clear em_32
  exact W.lret (v := m_32) hx hb hr (gq_endJ wt ⟨hT, hW⟩ (tw_right hP) (tw_rightD hD) hS) hS.2.2 dX4_join_167
set_option maxHeartbeats 4000000 in
set_option maxRecDepth 100000 in
theorem d_workOut (l : Launch) (G : gg_T) (Γ : Nat → Nat) (sz : Nat) (wt : va_W) (hT : tk_ty G Γ wt) (t : Nat) (k_t : Γ t = 5) : Met l yX4_workOut (ts_L yX4_workOut cX4_workOut 4 (some .long)) ({ frames := 1, cells := 0, slots := 0, locals := 24 }) (gc_P G wt sz [.ref t]) (gc_J G (va_A wt sz) (fun r (u : va_W) => tk_ty G Γ u ∧ tk_kp [] wt u) (fun u => u)) 0 0 (va_A wt sz) := by
  refine Met.ofW (cc := cX4_workOut) (maxL := 4) (ret := (some .long)) (by decide) rfl ?_
  intro p e s m args below meth c s₁ B hml hv
  obtain ⟨rfl, hsz, hP, hK, hD0⟩ := hv
  have hx := B.exec
  have hb := B.bytes
  have hr := B.returns
  have ht := ts_ht (atoms_spec (ws := ts_L yX4_workOut cX4_workOut 4 (some .long)) B.pre)
  have hown : s.vm.findClass RX4 = some m.cls := findClass_of_methodNamed B.named
  have hlocks := B.notSynchronized
  subst hsz
  have hD := hD0.self (sz := s.heap.size)
  generalize hAe : va_A wt s.heap.size = A at hD ⊢
  have hA : ∀ q : Nat, s.heap.size ≤ q → A q := fun q h => by rw [← hAe]; exact Or.inr h
  clear hAe hD0
  have hS : va_S A s.heap s.heap [] := va_S.rf
  obtain ⟨w0, hw0⟩ : ∃ z, z = wt := ⟨_, rfl⟩
  have hW : tk_kp [] w0 wt := by rw [hw0]; exact tk_kp.rf
  rw [← hw0]
  clear hw0
  have hP : va_P (gg_D G) classes ([] ++ wt) s.heap := hP
  have hD : va_D A ([] ++ wt) := hD
  have hl := lv_entry ([.ref t]) (n := 4) (Nat.le_of_ble_eq_true rfl)
  rw [lg_entry_eq]
  generalize (lg_sl ([.ref t]) ++ List.replicate (4 - (lg_sl ([.ref t])).length) Slot.unset).toArray = ls at hl ⊢
  have hl : lv_has ls 4 [(0, .ref t)] := hl
  have lm1 : ((-1) : Int32).toInt = -1 := by decide +kernel
  have l0 : (0 : Int32).toInt = 0 := by decide +kernel
  have l1 : (1 : Int32).toInt = 1 := by decide +kernel
  have l2 : (2 : Int32).toInt = 2 := by decide +kernel
  have l9 : (9 : Int32).toInt = 9 := by decide +kernel
  have l22 : (22 : Int32).toInt = 22 := by decide +kernel
  have l23 : (23 : Int32).toInt = 23 := by decide +kernel
  have l24 : (24 : Int32).toInt = 24 := by decide +kernel
  have l60 : (60 : Int32).toInt = 60 := by decide +kernel
  have l100 : (100 : Int32).toInt = 100 := by decide +kernel
  refine lv_iconst (v := 0) hx hb dX4_workOut_0 (by decide +kernel) ?_
  refine lv_istore_n (lv' := [(1, .int 0), (0, .ref t)]) hx hb dX4_workOut_1 rfl hl (by decide) rfl (fun ls hl => ?_)
  refine lv_iconst (v := 0) hx hb dX4_workOut_2 (by decide +kernel) ?_
  refine lv_istore_n (lv' := [(2, .int 0), (1, .int 0), (0, .ref t)]) hx hb dX4_workOut_3 rfl hl (by decide) rfl (fun ls hl => ?_)
  refine tl_loopE (Γ := Γ) (nL := 4) (fun (zz_ : Int32 × Int32) => match zz_ with | (x4_0, x4_1) => 0 ≤ x4_0.toInt ∧ x4_0.toInt ≤ 400 ∧ 0 ≤ x4_1.toInt ∧ x4_1.toInt ≤ 60) (fun (zz_ : Int32 × Int32) => match zz_ with | (x4_0, x4_1) => (400 - x4_0.toInt).toNat) (fun (zz_ : Int32 × Int32) => match zz_ with | (x4_0, x4_1) => [(2, .int x4_0), (1, .int x4_1), (0, .ref t)]) (fun (zz_ : Int32 × Int32) => match zz_ with | (x4_0, x4_1) => []) (fun (zz_ : Int32 × Int32) (w : va_W) => match zz_ with | (x4_0, x4_1) => tk_kp [] w0 w) (fun zz_ hI H locs wt ls hT hW hP hD hS hl ih4 => ?_) (0, 0) (show 0 ≤ (0 : Int32).toInt ∧ (0 : Int32).toInt ≤ 400 ∧ 0 ≤ (0 : Int32).toInt ∧ (0 : Int32).toInt ≤ 60 from ⟨by omega, by omega, by omega, by omega⟩) _ _ wt ls hT hW hP hD hS hl
  obtain ⟨x4_0, x4_1⟩ := zz_
  have hW : tk_kp [] w0 wt := hW
  have hI : 0 ≤ x4_0.toInt ∧ x4_0.toInt ≤ 400 ∧ 0 ≤ x4_1.toInt ∧ x4_1.toInt ≤ 60 := hI
  obtain ⟨j4_0, j4_1, j4_2, j4_3⟩ := hI
  have hl : lv_has ls 4 [(2, .int x4_0), (1, .int x4_1), (0, .ref t)] := hl
  have hP : va_P (gg_D G) classes ([] ++ wt) H := hP
  have hD : va_D A ([] ++ wt) := hD
  refine lv_iload_n hx hb dX4_workOut_4 rfl (lv_at hl 0 rfl) ?_
  refine lv_aload_n hx hb dX4_workOut_5 rfl (lv_at hl 2 rfl) ?_
  refine tr_get (ci := 4) hx hb ht hown hK hT hP k_t (by decide) i_X4 rfl 6 (by decide) wd_343 rfl dX4_workOut_6 (fun v hv hf_1 => ?_)
  obtain ⟨n_2, rfl, lo_n_2, hi_n_2⟩ := hv
  refine lv_icmp_ge (tgt := 191) hx hb dX4_workOut_9 (by decide) (fun c_3 => ?_) (fun c_3 => ?_)
  · rw [Int32.le_iff_toInt_le] at c_3
    refine lv_lconst (v := 0) hx hb dX4_workOut_191 (by decide +kernel) ?_
    exact W.lret (v := 0) hx hb hr (gq_endJ wt ⟨hT, hW⟩ (tw_right hP) (tw_rightD hD) hS) hS.2.2 dX4_workOut_192
  · rw [Int32.le_iff_toInt_le] at c_3
    refine lv_aload_n hx hb dX4_workOut_12 rfl (lv_at hl 2 rfl) ?_
    refine tr_get (ci := 4) hx hb ht hown hK hT hP k_t (by decide) i_X4 rfl 0 (by decide) wd_337 rfl dX4_workOut_13 (fun v hv hf_4 => ?_)
    obtain ⟨q_5, rfl, hq_5⟩ := hv
    refine lv_iload_n hx hb dX4_workOut_16 rfl (lv_at hl 0 rfl) ?_
    refine tr_iald hx hb hK hT hP 25 hq_5 (by decide) (by decide) (show vp_in _ (tk_len 25) from ia_in (n := 400) (by omega) (by omega)) dX4_workOut_17 (fun n_6 hn_6 => ?_)
    have hn_6 : 0 ≤ n_6.toInt := hn_6
    refine lv_istore_n (lv' := [(3, .int n_6), (2, .int x4_0), (1, .int x4_1), (0, .ref t)]) hx hb dX4_workOut_18 rfl hl (by decide) rfl (fun ls hl => ?_)
    refine lv_iload_n hx hb dX4_workOut_19 rfl (lv_at hl 0 rfl) ?_
    refine lv_bipush (v := 9) hx hb dX4_workOut_20 (by decide +kernel) ?_
    refine lv_icmp_le (tgt := 31) hx hb dX4_workOut_22 (by decide) (fun c_7 => ?_) (fun c_7 => ?_)
    · rw [Int32.le_iff_toInt_le] at c_7
      refine lv_iload_n hx hb dX4_workOut_31 rfl (lv_at hl 2 rfl) ?_
      refine lv_bipush (v := 60) hx hb dX4_workOut_32 (by decide +kernel) ?_
      refine lv_icmp_lt (tgt := 39) hx hb dX4_workOut_34 (by decide) (fun c_8 => ?_) (fun c_8 => ?_)
      · rw [Int32.lt_iff_toInt_lt] at c_8
        refine lv_aload_n hx hb dX4_workOut_39 rfl (lv_at hl 3 rfl) ?_
        refine tr_get (ci := 4) hx hb ht hown hK hT hP k_t (by decide) i_X4 rfl 2 (by decide) wd_339 rfl dX4_workOut_40 (fun v hv hf_9 => ?_)
        obtain ⟨q_10, rfl, hq_10⟩ := hv
        refine lv_iload_n hx hb dX4_workOut_43 rfl (lv_at hl 2 rfl) ?_
        refine lv_iload_n hx hb dX4_workOut_44 rfl (lv_at hl 0 rfl) ?_
        refine lv_bipush (v := 9) hx hb dX4_workOut_45 (by decide +kernel) ?_
        refine lv_icmp_gt (tgt := 59) hx hb dX4_workOut_47 (by decide) (fun c0 => False.elim (by rw [Int32.lt_iff_toInt_lt] at c0; omega)) (fun _ => ?_)
        refine lv_aload_n hx hb dX4_workOut_50 rfl (lv_at hl 3 rfl) ?_
        refine tr_get (ci := 4) hx hb ht hown hK hT hP k_t (by decide) i_X4 rfl 1 (by decide) wd_338 rfl dX4_workOut_51 (fun v hv hf_11 => ?_)
        obtain ⟨q_12, rfl, hq_12⟩ := hv
        refine lv_iload_n hx hb dX4_workOut_54 rfl (lv_at hl 0 rfl) ?_
        refine tr_lald hx hb hK hT hP 30 hq_12 (by decide) (by decide) (show vp_in _ (tk_len 30) from ia_in (n := 10) (by omega) (by omega)) dX4_workOut_55 (fun m_13 => ?_)
        refine lv_goto (tgt := 64) hx hb dX4_workOut_56 (by decide) ?_
        refine tr_last hx hb hK hT hP hD hS 31 hq_10 (by decide) (by decide) (show vp_in _ (tk_len 31) from ia_in (n := 60) (by omega) (by omega)) dX4_workOut_64 (fun H locs wt hT hfl hP hD hS => ?_)
        have hW := hW.arr hfl
        have hf_1 := hfl _ _ _ _ hf_1
        obtain ⟨t_14, et_14⟩ : ∃ zz_ : Int32, x4_1 + Int32.ofInt (1) = zz_ := ⟨_, rfl⟩
        have ft_14 : t_14.toInt = x4_1.toInt + (1 : Int32).toInt := ia_add (y := 1) et_14 (by omega) (by omega)
        refine lv_iinc (v := t_14) (lv' := [(1, .int t_14), (3, .int n_6), (2, .int x4_0), (0, .ref t)]) hx hb dX4_workOut_65 hl (k := 2) rfl et_14 (by decide) rfl (fun ls hl => ?_)
        refine lv_goto (tgt := 185) hx hb dX4_workOut_68 (by decide) ?_
        obtain ⟨t_15, et_15⟩ : ∃ zz_ : Int32, x4_0 + Int32.ofInt (1) = zz_ := ⟨_, rfl⟩
        have ft_15 : t_15.toInt = x4_0.toInt + (1 : Int32).toInt := ia_add (y := 1) et_15 (by omega) (by omega)
        refine lv_iinc (v := t_15) (lv' := [(2, .int t_15), (1, .int t_14), (3, .int n_6), (0, .ref t)]) hx hb dX4_workOut_185 hl (k := 2) rfl et_15 (by decide) rfl (fun ls hl => ?_)
        refine lv_goto (tgt := 4) hx hb dX4_workOut_188 (by decide) ?_
        exact ih4 (t_15, t_14) (show 0 ≤ t_15.toInt ∧ t_15.toInt ≤ 400 ∧ 0 ≤ t_14.toInt ∧ t_14.toInt ≤ 60 from ⟨by omega, by omega, by omega, by omega⟩) (show (400 - t_15.toInt).toNat < (400 - x4_0.toInt).toNat by omega) H locs wt ls hT hW hP hD hS (lv_sub hl [0, 1, 3] rfl)
      · rw [Int32.lt_iff_toInt_lt] at c_8
        refine lv_lconst (v := 0) hx hb dX4_workOut_37 (by decide +kernel) ?_
        exact W.lret (v := 0) hx hb hr (gq_endJ wt ⟨hT, hW⟩ (tw_right hP) (tw_rightD hD) hS) hS.2.2 dX4_workOut_38
    · rw [Int32.le_iff_toInt_le] at c_7
      refine lv_iload_n hx hb dX4_workOut_25 rfl (lv_at hl 0 rfl) ?_
      refine lv_bipush (v := 100) hx hb dX4_workOut_26 (by decide +kernel) ?_
      refine lv_icmp_lt (tgt := 71) hx hb dX4_workOut_28 (by decide) (fun c_16 => ?_) (fun c_16 => ?_)
      · rw [Int32.lt_iff_toInt_lt] at c_16
        refine lv_iload_n hx hb dX4_workOut_71 rfl (lv_at hl 2 rfl) ?_
        refine lv_iconst (v := 1) hx hb dX4_workOut_72 (by decide +kernel) ?_
        refine lv_icmp_ge (tgt := 78) hx hb dX4_workOut_73 (by decide) (fun c_17 => ?_) (fun c_17 => ?_)
        · rw [Int32.le_iff_toInt_le] at c_17
          refine lv_iload_n hx hb dX4_workOut_78 rfl (lv_at hl 0 rfl) ?_
          refine lv_bipush (v := 22) hx hb dX4_workOut_79 (by decide +kernel) ?_
          refine lv_icmp_ne (tgt := 105) hx hb dX4_workOut_81 (by decide) (fun c_18 => ?_) (fun c_18 => ?_)
          · rw [← Int32.toInt_inj] at c_18
            refine lv_iload_n hx hb dX4_workOut_105 rfl (lv_at hl 0 rfl) ?_
            refine lv_bipush (v := 23) hx hb dX4_workOut_106 (by decide +kernel) ?_
            refine lv_icmp_ne (tgt := 118) hx hb dX4_workOut_108 (by decide) (fun c_19 => ?_) (fun c_19 => ?_)
            · rw [← Int32.toInt_inj] at c_19
              refine lv_iload_n hx hb dX4_workOut_118 rfl (lv_at hl 0 rfl) ?_
              refine lv_bipush (v := 24) hx hb dX4_workOut_119 (by decide +kernel) ?_
              refine lv_icmp_ne (tgt := 149) hx hb dX4_workOut_121 (by decide) (fun c_20 => ?_) (fun c_20 => ?_)
              · rw [← Int32.toInt_inj] at c_20
                refine lv_iload_n hx hb dX4_workOut_149 rfl (lv_at hl 2 rfl) ?_
                refine lv_iconst (v := 2) hx hb dX4_workOut_150 (by decide +kernel) ?_
                refine lv_icmp_ge (tgt := 156) hx hb dX4_workOut_151 (by decide) (fun c_21 => ?_) (fun c_21 => ?_)
                · rw [Int32.le_iff_toInt_le] at c_21
                  obtain ⟨t_22, et_22⟩ : ∃ zz_ : Int32, x4_1 + Int32.ofInt (-1) = zz_ := ⟨_, rfl⟩
                  have ft_22 : t_22.toInt = x4_1.toInt + ((-1) : Int32).toInt := ia_add (y := (-1)) et_22 (by omega) (by omega)
                  refine lv_iinc (v := t_22) (lv' := [(1, .int t_22), (3, .int n_6), (2, .int x4_0), (0, .ref t)]) hx hb dX4_workOut_156 hl (k := 2) rfl et_22 (by decide) rfl (fun ls hl => ?_)
                  refine lv_aload_n hx hb dX4_workOut_159 rfl (lv_at hl 3 rfl) ?_
                  refine tr_get (ci := 4) hx hb ht hown hK hT hP k_t (by decide) i_X4 rfl 2 (by decide) wd_339 rfl dX4_workOut_160 (fun v hv hf_23 => ?_)
                  obtain ⟨q_24, rfl, hq_24⟩ := hv
                  refine lv_iload_n hx hb dX4_workOut_163 rfl (lv_at hl 0 rfl) ?_
                  refine lv_iconst (v := 1) hx hb dX4_workOut_164 (by decide +kernel) ?_
                  obtain ⟨t_25, et_25⟩ : ∃ zz_ : Int32, t_22 - 1 = zz_ := ⟨_, rfl⟩
                  refine gq_isub hx hb t_25 et_25 dX4_workOut_165 ?_
                  have ft_25 := ia_sub et_25 (by omega) (by omega)
                  refine lv_iload_n hx hb dX4_workOut_166 rfl (lv_at hl 1 rfl) ?_
                  refine lv_aload_n hx hb dX4_workOut_167 rfl (lv_at hl 3 rfl) ?_
                  refine tr_get (ci := 4) hx hb ht hown hK hT hP k_t (by decide) i_X4 rfl 2 (by decide) wd_339 rfl dX4_workOut_168 (fun v hv hf_26 => ?_)
                  obtain ⟨q_27, rfl, hq_27⟩ := hv
                  refine lv_iload_n hx hb dX4_workOut_171 rfl (lv_at hl 0 rfl) ?_
                  refine lv_iconst (v := 1) hx hb dX4_workOut_172 (by decide +kernel) ?_
                  refine gq_isub hx hb t_25 et_25 dX4_workOut_173 ?_
                  refine tr_lald hx hb hK hT hP 31 hq_27 (by decide) (by decide) (show vp_in _ (tk_len 31) from ia_in (n := 60) (by omega) (by omega)) dX4_workOut_174 (fun m_28 => ?_)
                  refine lv_aload_n hx hb dX4_workOut_175 rfl (lv_at hl 3 rfl) ?_
                  refine tr_get (ci := 4) hx hb ht hown hK hT hP k_t (by decide) i_X4 rfl 2 (by decide) wd_339 rfl dX4_workOut_176 (fun v hv hf_29 => ?_)
                  obtain ⟨q_30, rfl, hq_30⟩ := hv
                  refine lv_iload_n hx hb dX4_workOut_179 rfl (lv_at hl 0 rfl) ?_
                  refine tr_lald hx hb hK hT hP 31 hq_30 (by decide) (by decide) (show vp_in _ (tk_len 31) from ia_in (n := 60) (by omega) (by omega)) dX4_workOut_180 (fun m_31 => ?_)
                  refine gt_callJ (wr := []) (va_runS (As := [.int n_6, .long m_28, .long m_31]) (rest := [.int t_25, .ref q_24]) ⟨hx, hb, hml, hown, ht⟩ (d_join l G Γ H.size wt hT n_6 m_28 m_31) (va_cwS 3 ht (ts_gS wd_915 wd_916 wd_128 wd_917) rfl rfl rfl (by decide +kernel) ⟨Nat.le_of_ble_eq_true rfl, Nat.le_of_ble_eq_true rfl⟩) (gc_preS hK (tw_right hP) (tw_rightD hD)) rfl rfl hl.1 rfl (lv_room (Nat.le_of_ble_eq_true rfl)) dX4_workOut_181 ⟨Nat.le_of_ble_eq_true rfl, Nat.le_of_ble_eq_true rfl⟩) hP hD hS hA (fun m_32 wt H locs hw hP hD hS => ?_)
                  obtain ⟨hT, hkp⟩ := hw
                  have hW := hW.call (show ∀ x ∈ [], x ∈ [] by decide) hkp
                  have hf_1 := hkp _ _ _ _ (by decide) (by decide) hf_1
                  refine tr_last hx hb hK hT hP hD hS 31 hq_24 (by decide) (by decide) (show vp_in _ (tk_len 31) from ia_in (n := 60) (by omega) (by omega)) dX4_workOut_184 (fun H locs wt hT hfl hP hD hS => ?_)
                  have hW := hW.arr hfl
                  have hf_1 := hfl _ _ _ _ hf_1
                  obtain ⟨t_33, et_33⟩ : ∃ zz_ : Int32, x4_0 + Int32.ofInt (1) = zz_ := ⟨_, rfl⟩
                  have ft_33 : t_33.toInt = x4_0.toInt + (1 : Int32).toInt := ia_add (y := 1) et_33 (by omega) (by omega)
                  refine lv_iinc (v := t_33) (lv' := [(2, .int t_33), (1, .int t_22), (3, .int n_6), (0, .ref t)]) hx hb dX4_workOut_185 hl (k := 2) rfl et_33 (by decide) rfl (fun ls hl => ?_)
                  refine lv_goto (tgt := 4) hx hb dX4_workOut_188 (by decide) ?_
                  exact ih4 (t_33, t_22) (show 0 ≤ t_33.toInt ∧ t_33.toInt ≤ 400 ∧ 0 ≤ t_22.toInt ∧ t_22.toInt ≤ 60 from ⟨by omega, by omega, by omega, by omega⟩) (show (400 - t_33.toInt).toNat < (400 - x4_0.toInt).toNat by omega) H locs wt ls hT hW hP hD hS (lv_sub hl [0, 1, 3] rfl)
                · rw [Int32.le_iff_toInt_le] at c_21
                  refine lv_lconst (v := 0) hx hb dX4_workOut_154 (by decide +kernel) ?_
                  exact W.lret (v := 0) hx hb hr (gq_endJ wt ⟨hT, hW⟩ (tw_right hP) (tw_rightD hD) hS) hS.2.2 dX4_workOut_155
              · rw [← Int32.toInt_inj] at c_20
                refine lv_aload_n hx hb dX4_workOut_124 rfl (lv_at hl 3 rfl) ?_
                refine tr_get (ci := 4) hx hb ht hown hK hT hP k_t (by decide) i_X4 rfl 2 (by decide) wd_339 rfl dX4_workOut_125 (fun v hv hf_34 => ?_)
                obtain ⟨q_35, rfl, hq_35⟩ := hv
                refine lv_iload_n hx hb dX4_workOut_128 rfl (lv_at hl 2 rfl) ?_
                refine lv_iconst (v := 1) hx hb dX4_workOut_129 (by decide +kernel) ?_
                obtain ⟨t_36, et_36⟩ : ∃ zz_ : Int32, x4_1 - 1 = zz_ := ⟨_, rfl⟩
                refine gq_isub hx hb t_36 et_36 dX4_workOut_130 ?_
                have ft_36 := ia_sub et_36 (by omega) (by omega)
                refine tr_lald hx hb hK hT hP 31 hq_35 (by decide) (by decide) (show vp_in _ (tk_len 31) from ia_in (n := 60) (by omega) (by omega)) dX4_workOut_131 (fun m_37 => ?_)
                refine lv_lconst (v := 0) hx hb dX4_workOut_132 (by decide +kernel) ?_
                obtain ⟨t_38, et_38⟩ : ∃ zz_ : Int32, lg_cmp m_37 0 = zz_ := ⟨_, rfl⟩
                refine gq_lcmp hx hb t_38 et_38 dX4_workOut_133 ?_
                refine lv_if_eq (tgt := 144) hx hb dX4_workOut_134 (by decide) (fun c_39 => ?_) (fun c_39 => ?_)
                · rw [← Int32.toInt_inj] at c_39
                  refine lv_iconst (v := 0) hx hb dX4_workOut_144 (by decide +kernel) ?_
                  refine lv_istore_n (lv' := [(1, .int 0), (3, .int n_6), (2, .int x4_0), (0, .ref t)]) hx hb dX4_workOut_145 rfl hl (by decide) rfl (fun ls hl => ?_)
                  refine lv_goto (tgt := 185) hx hb dX4_workOut_146 (by decide) ?_
                  obtain ⟨t_40, et_40⟩ : ∃ zz_ : Int32, x4_0 + Int32.ofInt (1) = zz_ := ⟨_, rfl⟩
                  have ft_40 : t_40.toInt = x4_0.toInt + (1 : Int32).toInt := ia_add (y := 1) et_40 (by omega) (by omega)
                  refine lv_iinc (v := t_40) (lv' := [(2, .int t_40), (1, .int 0), (3, .int n_6), (0, .ref t)]) hx hb dX4_workOut_185 hl (k := 2) rfl et_40 (by decide) rfl (fun ls hl => ?_)
                  refine lv_goto (tgt := 4) hx hb dX4_workOut_188 (by decide) ?_
                  exact ih4 (t_40, 0) (show 0 ≤ t_40.toInt ∧ t_40.toInt ≤ 400 ∧ 0 ≤ (0 : Int32).toInt ∧ (0 : Int32).toInt ≤ 60 from ⟨by omega, by omega, by omega, by omega⟩) (show (400 - t_40.toInt).toNat < (400 - x4_0.toInt).toNat by omega) H locs wt ls hT hW hP hD hS (lv_sub hl [0, 1, 3] rfl)
                · rw [← Int32.toInt_inj] at c_39
                  have zc_39 := il_ne et_38 c_39
                  refine lv_aload_n hx hb dX4_workOut_137 rfl (lv_at hl 3 rfl) ?_
                  refine tr_get (ci := 4) hx hb ht hown hK hT hP k_t (by decide) i_X4 rfl 2 (by decide) wd_339 rfl dX4_workOut_138 (fun v hv hf_41 => ?_)
                  obtain ⟨q_42, rfl, hq_42⟩ := hv
                  refine lv_iconst (v := 0) hx hb dX4_workOut_141 (by decide +kernel) ?_
                  refine tr_lald hx hb hK hT hP 31 hq_42 (by decide) (by decide) (show vp_in _ (tk_len 31) from ia_in (n := 60) (by omega) (by omega)) dX4_workOut_142 (fun m_43 => ?_)
                  exact W.lret (v := m_43) hx hb hr (gq_endJ wt ⟨hT, hW⟩ (tw_right hP) (tw_rightD hD) hS) hS.2.2 dX4_workOut_143
            · rw [← Int32.toInt_inj] at c_19
              refine lv_aload_n hx hb dX4_workOut_111 rfl (lv_at hl 3 rfl) ?_
              refine tr_get (ci := 4) hx hb ht hown hK hT hP k_t (by decide) i_X4 rfl 2 (by decide) wd_339 rfl dX4_workOut_112 (fun v hv hf_44 => ?_)
              obtain ⟨q_45, rfl, hq_45⟩ := hv
              refine lv_iconst (v := 0) hx hb dX4_workOut_115 (by decide +kernel) ?_
              refine tr_lald hx hb hK hT hP 31 hq_45 (by decide) (by decide) (show vp_in _ (tk_len 31) from ia_in (n := 60) (by omega) (by omega)) dX4_workOut_116 (fun m_46 => ?_)
              exact W.lret (v := m_46) hx hb hr (gq_endJ wt ⟨hT, hW⟩ (tw_right hP) (tw_rightD hD) hS) hS.2.2 dX4_workOut_117
          · rw [← Int32.toInt_inj] at c_18
            refine lv_aload_n hx hb dX4_workOut_84 rfl (lv_at hl 3 rfl) ?_
            refine tr_get (ci := 4) hx hb ht hown hK hT hP k_t (by decide) i_X4 rfl 2 (by decide) wd_339 rfl dX4_workOut_85 (fun v hv hf_47 => ?_)
            obtain ⟨q_48, rfl, hq_48⟩ := hv
            refine lv_iload_n hx hb dX4_workOut_88 rfl (lv_at hl 2 rfl) ?_
            refine lv_iconst (v := 1) hx hb dX4_workOut_89 (by decide +kernel) ?_
            obtain ⟨t_49, et_49⟩ : ∃ zz_ : Int32, x4_1 - 1 = zz_ := ⟨_, rfl⟩
            refine gq_isub hx hb t_49 et_49 dX4_workOut_90 ?_
            have ft_49 := ia_sub et_49 (by omega) (by omega)
            refine lv_lconst (v := 1) hx hb dX4_workOut_91 (by decide +kernel) ?_
            refine lv_aload_n hx hb dX4_workOut_92 rfl (lv_at hl 3 rfl) ?_
            refine tr_get (ci := 4) hx hb ht hown hK hT hP k_t (by decide) i_X4 rfl 2 (by decide) wd_339 rfl dX4_workOut_93 (fun v hv hf_50 => ?_)
            obtain ⟨q_51, rfl, hq_51⟩ := hv
            refine lv_iload_n hx hb dX4_workOut_96 rfl (lv_at hl 2 rfl) ?_
            refine lv_iconst (v := 1) hx hb dX4_workOut_97 (by decide +kernel) ?_
            refine gq_isub hx hb t_49 et_49 dX4_workOut_98 ?_
            refine tr_lald hx hb hK hT hP 31 hq_51 (by decide) (by decide) (show vp_in _ (tk_len 31) from ia_in (n := 60) (by omega) (by omega)) dX4_workOut_99 (fun m_52 => ?_)
            refine lv_lsub hx hb dX4_workOut_100 ?_
            refine lv_topl (fun m_53 em_53 => ?_)
            clear em_53
            refine tr_last hx hb hK hT hP hD hS 31 hq_48 (by decide) (by decide) (show vp_in _ (tk_len 31) from ia_in (n := 60) (by omega) (by omega)) dX4_workOut_101 (fun H locs wt hT hfl hP hD hS => ?_)
            have hW := hW.arr hfl
            have hf_1 := hfl _ _ _ _ hf_1
            refine lv_goto (tgt := 185) hx hb dX4_workOut_102 (by decide) ?_
            obtain ⟨t_54, et_54⟩ : ∃ zz_ : Int32, x4_0 + Int32.ofInt (1) = zz_ := ⟨_, rfl⟩
            have ft_54 : t_54.toInt = x4_0.toInt + (1 : Int32).toInt := ia_add (y := 1) et_54 (by omega) (by omega)
            refine lv_iinc (v := t_54) (lv' := [(2, .int t_54), (3, .int n_6), (1, .int x4_1), (0, .ref t)]) hx hb dX4_workOut_185 hl (k := 1) rfl et_54 (by decide) rfl (fun ls hl => ?_)
            refine lv_goto (tgt := 4) hx hb dX4_workOut_188 (by decide) ?_
            exact ih4 (t_54, x4_1) (show 0 ≤ t_54.toInt ∧ t_54.toInt ≤ 400 ∧ 0 ≤ x4_1.toInt ∧ x4_1.toInt ≤ 60 from ⟨by omega, by omega, by omega, by omega⟩) (show (400 - t_54.toInt).toNat < (400 - x4_0.toInt).toNat by omega) H locs wt ls hT hW hP hD hS (lv_sub hl [0, 2, 3] rfl)
        · rw [Int32.le_iff_toInt_le] at c_17
          refine lv_lconst (v := 0) hx hb dX4_workOut_76 (by decide +kernel) ?_
          exact W.lret (v := 0) hx hb hr (gq_endJ wt ⟨hT, hW⟩ (tw_right hP) (tw_rightD hD) hS) hS.2.2 dX4_workOut_77
      · rw [Int32.lt_iff_toInt_lt] at c_16
        refine lv_iload_n hx hb dX4_workOut_31 rfl (lv_at hl 2 rfl) ?_
        refine lv_bipush (v := 60) hx hb dX4_workOut_32 (by decide +kernel) ?_
        refine lv_icmp_lt (tgt := 39) hx hb dX4_workOut_34 (by decide) (fun c_55 => ?_) (fun c_55 => ?_)
        · rw [Int32.lt_iff_toInt_lt] at c_55
          refine lv_aload_n hx hb dX4_workOut_39 rfl (lv_at hl 3 rfl) ?_
          refine tr_get (ci := 4) hx hb ht hown hK hT hP k_t (by decide) i_X4 rfl 2 (by decide) wd_339 rfl dX4_workOut_40 (fun v hv hf_56 => ?_)
          obtain ⟨q_57, rfl, hq_57⟩ := hv
          refine lv_iload_n hx hb dX4_workOut_43 rfl (lv_at hl 2 rfl) ?_
          refine lv_iload_n hx hb dX4_workOut_44 rfl (lv_at hl 0 rfl) ?_
          refine lv_bipush (v := 9) hx hb dX4_workOut_45 (by decide +kernel) ?_
          refine lv_icmp_gt (tgt := 59) hx hb dX4_workOut_47 (by decide) (fun _ => ?_) (fun c0 => False.elim (by rw [Int32.lt_iff_toInt_lt] at c0; omega))
          refine lv_iload_n hx hb dX4_workOut_59 rfl (lv_at hl 0 rfl) ?_
          refine lv_bipush (v := 100) hx hb dX4_workOut_60 (by decide +kernel) ?_
          obtain ⟨t_58, et_58⟩ : ∃ zz_ : Int32, n_6 - 100 = zz_ := ⟨_, rfl⟩
          refine gq_isub hx hb t_58 et_58 dX4_workOut_62 ?_
          have bd_n_6 := ia_bd n_6
          have ft_58 := ia_sub et_58 (by omega) (by omega)
          refine lv_i2l hx hb dX4_workOut_63 rfl ?_
          refine lv_topl (fun m_59 em_59 => ?_)
          clear em_59
          refine tr_last hx hb hK hT hP hD hS 31 hq_57 (by decide) (by decide) (show vp_in _ (tk_len 31) from ia_in (n := 60) (by omega) (by omega)) dX4_workOut_64 (fun H locs wt hT hfl hP hD hS => ?_)
          have hW := hW.arr hfl
          have hf_1 := hfl _ _ _ _ hf_1
          obtain ⟨t_60, et_60⟩ : ∃ zz_ : Int32, x4_1 + Int32.ofInt (1) = zz_ := ⟨_, rfl⟩
          have ft_60 : t_60.toInt = x4_1.toInt + (1 : Int32).toInt := ia_add (y := 1) et_60 (by omega) (by omega)
          refine lv_iinc (v := t_60) (lv' := [(1, .int t_60), (3, .int n_6), (2, .int x4_0), (0, .ref t)]) hx hb dX4_workOut_65 hl (k := 2) rfl et_60 (by decide) rfl (fun ls hl => ?_)
          refine lv_goto (tgt := 185) hx hb dX4_workOut_68 (by decide) ?_
          obtain ⟨t_61, et_61⟩ : ∃ zz_ : Int32, x4_0 + Int32.ofInt (1) = zz_ := ⟨_, rfl⟩
          have ft_61 : t_61.toInt = x4_0.toInt + (1 : Int32).toInt := ia_add (y := 1) et_61 (by omega) (by omega)
          refine lv_iinc (v := t_61) (lv' := [(2, .int t_61), (1, .int t_60), (3, .int n_6), (0, .ref t)]) hx hb dX4_workOut_185 hl (k := 2) rfl et_61 (by decide) rfl (fun ls hl => ?_)
          refine lv_goto (tgt := 4) hx hb dX4_workOut_188 (by decide) ?_
          exact ih4 (t_61, t_60) (show 0 ≤ t_61.toInt ∧ t_61.toInt ≤ 400 ∧ 0 ≤ t_60.toInt ∧ t_60.toInt ≤ 60 from ⟨by omega, by omega, by omega, by omega⟩) (show (400 - t_61.toInt).toNat < (400 - x4_0.toInt).toNat by omega) H locs wt ls hT hW hP hD hS (lv_sub hl [0, 1, 3] rfl)
        · rw [Int32.lt_iff_toInt_lt] at c_55
          refine lv_lconst (v := 0) hx hb dX4_workOut_37 (by decide +kernel) ?_
          exact W.lret (v := 0) hx hb hr (gq_endJ wt ⟨hT, hW⟩ (tw_right hP) (tw_rightD hD) hS) hS.2.2 dX4_workOut_38
set_option maxHeartbeats 4000000 in
set_option maxRecDepth 100000 in
theorem d_usesRooms (l : Launch) (G : gg_T) (Γ : Nat → Nat) (sz : Nat) (wt : va_W) (hT : tk_ty G Γ wt) (t : Nat) (k_t : Γ t = 5) : Met l yX4_usesRooms (ts_L yX4_usesRooms cX4_usesRooms 1 (some .boolean)) ({ frames := 1, cells := 0, slots := 0, locals := 21 }) (gc_P G wt sz [.ref t]) (gc_I G (va_A wt sz) (fun r (u : va_W) => tk_ty G Γ u ∧ tk_kp [] wt u ∧ 0 ≤ r.toInt ∧ r.toInt ≤ 1) (fun u => u)) 0 0 (va_A wt sz) := by
  refine Met.ofW (cc := cX4_usesRooms) (maxL := 1) (ret := (some .boolean)) (by decide) rfl ?_
  intro p e s m args below meth c s₁ B hml hv
  obtain ⟨rfl, hsz, hP, hK, hD0⟩ := hv
  have hx := B.exec
  have hb := B.bytes
  have hr := B.returns
  have ht := ts_ht (atoms_spec (ws := ts_L yX4_usesRooms cX4_usesRooms 1 (some .boolean)) B.pre)
  have hown : s.vm.findClass RX4 = some m.cls := findClass_of_methodNamed B.named
  have hlocks := B.notSynchronized
  subst hsz
  have hD := hD0.self (sz := s.heap.size)
  generalize hAe : va_A wt s.heap.size = A at hD ⊢
  have hA : ∀ q : Nat, s.heap.size ≤ q → A q := fun q h => by rw [← hAe]; exact Or.inr h
  clear hAe hD0
  have hS : va_S A s.heap s.heap [] := va_S.rf
  obtain ⟨w0, hw0⟩ : ∃ z, z = wt := ⟨_, rfl⟩
  have hW : tk_kp [] w0 wt := by rw [hw0]; exact tk_kp.rf
  rw [← hw0]
  clear hw0
  have hP : va_P (gg_D G) classes ([] ++ wt) s.heap := hP
  have hD : va_D A ([] ++ wt) := hD
  have hl := lv_entry ([.ref t]) (n := 1) (Nat.le_of_ble_eq_true rfl)
  rw [lg_entry_eq]
  generalize (lg_sl ([.ref t]) ++ List.replicate (1 - (lg_sl ([.ref t])).length) Slot.unset).toArray = ls at hl ⊢
  have hl : lv_has ls 1 [(0, .ref t)] := hl
  have l9 : (9 : Int32).toInt = 9 := by decide +kernel
  refine lv_bipush (v := 9) hx hb dX4_usesRooms_0 (by decide +kernel) ?_
  refine lv_aload_n hx hb dX4_usesRooms_2 rfl (lv_at hl 0 rfl) ?_
  refine tr_get (ci := 4) hx hb ht hown hK hT hP k_t (by decide) i_X4 rfl 8 (by decide) wd_345 rfl dX4_usesRooms_3 (fun v hv hf_1 => ?_)
  obtain ⟨n_2, rfl⟩ := hv
  refine gt_callI (wr := []) (va_runSN (As := [.int 9, .int n_2]) (rest := []) ⟨hx, hb, hml, hown, ht⟩ (d_isIn l G Γ s.heap.size wt hT 9 n_2) ⟨va_cnB 2 ht (tb_good (ts_good wd_803)) rfl rfl rfl (hK.2.1 _ wn_901 rfl) (ht _ wd_122) (by decide +kernel) ⟨Nat.le_of_ble_eq_true rfl, Nat.le_of_ble_eq_true rfl⟩, ht _ wd_802, trivial⟩ (gc_preS hK (tw_right hP) (tw_rightD hD)) rfl rfl hl.1 rfl (lv_room (Nat.le_of_ble_eq_true rfl)) dX4_usesRooms_6 ⟨Nat.le_of_ble_eq_true rfl, Nat.le_of_ble_eq_true rfl⟩) hP hD hS hA (fun r_3 wt H locs hw hP hD hS => ?_)
  obtain ⟨hT, hkp, lo_r_3, hi_r_3⟩ := hw
  have hW := hW.call (show ∀ x ∈ [], x ∈ [] by decide) hkp
  have hf_1 := hkp _ _ _ _ (by decide) (by decide) hf_1
  have hP9 := tw_right hP
  have hD9 := tw_rightD hD
  exact W.zret (v := r_3) hx hb hr (ia_bool (by omega) (by omega)) (gq_endI wt ⟨hT, hW, (by omega), (by omega)⟩ hP9 hD9 hS) hS.2.2 dX4_usesRooms_9
set_option maxHeartbeats 4000000 in
set_option maxRecDepth 100000 in
theorem d_speakersOf (l : Launch) (G : gg_T) (Γ : Nat → Nat) (sz : Nat) (wt : va_W) (hT : tk_ty G Γ wt) (t : Nat) (b : Int32) (w : Int32) (tm : Nat) (v : Nat) (k_t : Γ t = 5) (lo_w : 0 ≤ w.toInt) (hi_w : w.toInt ≤ 2) (k_tm : Γ tm = 10) (k_v : Γ v = 8) : Met l yX4_speakersOf (ts_L yX4_speakersOf cX4_speakersOf 7 (some .int)) ({ frames := 2, cells := 0, slots := 0, locals := 47 }) (gc_P G wt sz [.ref t, .int b, .int w, .ref tm, .ref v]) (gc_I G (va_A wt sz) (fun r (u : va_W) => tk_ty G Γ u ∧ tk_kp [] wt u) (fun u => u)) 0 0 (va_A wt sz) := by
  refine Met.ofW (cc := cX4_speakersOf) (maxL := 7) (ret := (some .int)) (by decide) rfl ?_
  intro p e s m args below meth c s₁ B hml hv
  obtain ⟨rfl, hsz, hP, hK, hD0⟩ := hv
  have hx := B.exec
  have hb := B.bytes
  have hr := B.returns
  have ht := ts_ht (atoms_spec (ws := ts_L yX4_speakersOf cX4_speakersOf 7 (some .int)) B.pre)
  have hown : s.vm.findClass RX4 = some m.cls := findClass_of_methodNamed B.named
  have hlocks := B.notSynchronized
  subst hsz
  have hD := hD0.self (sz := s.heap.size)
  generalize hAe : va_A wt s.heap.size = A at hD ⊢
  have hA : ∀ q : Nat, s.heap.size ≤ q → A q := fun q h => by rw [← hAe]; exact Or.inr h
  clear hAe hD0
  have hS : va_S A s.heap s.heap [] := va_S.rf
  obtain ⟨w0, hw0⟩ : ∃ z, z = wt := ⟨_, rfl⟩
  have hW : tk_kp [] w0 wt := by rw [hw0]; exact tk_kp.rf
  rw [← hw0]
  clear hw0
  have hP : va_P (gg_D G) classes ([] ++ wt) s.heap := hP
  have hD : va_D A ([] ++ wt) := hD
  have hl := lv_entry ([.ref t, .int b, .int w, .ref tm, .ref v]) (n := 7) (Nat.le_of_ble_eq_true rfl)
  rw [lg_entry_eq]
  generalize (lg_sl ([.ref t, .int b, .int w, .ref tm, .ref v]) ++ List.replicate (7 - (lg_sl ([.ref t, .int b, .int w, .ref tm, .ref v])).length) Slot.unset).toArray = ls at hl ⊢
  have hl : lv_has ls 7 [(0, .ref t), (1, .int b), (2, .int w), (3, .ref tm), (4, .ref v)] := hl
  have l0 : (0 : Int32).toInt = 0 := by decide +kernel
  have l1 : (1 : Int32).toInt = 1 := by decide +kernel
  have l2 : (2 : Int32).toInt = 2 := by decide +kernel
  have l3 : (3 : Int32).toInt = 3 := by decide +kernel
  have l4 : (4 : Int32).toInt = 4 := by decide +kernel
  have l5 : (5 : Int32).toInt = 5 := by decide +kernel
  have l6 : (6 : Int32).toInt = 6 := by decide +kernel
  have l7 : (7 : Int32).toInt = 7 := by decide +kernel
  have l8 : (8 : Int32).toInt = 8 := by decide +kernel
  have l9 : (9 : Int32).toInt = 9 := by decide +kernel
  refine lv_aload_n hx hb dX4_speakersOf_0 rfl (lv_at hl 0 rfl) ?_
  refine tr_get (ci := 4) hx hb ht hown hK hT hP k_t (by decide) i_X4 rfl 1 (by decide) wd_338 rfl dX4_speakersOf_1 (fun v hv hf_1 => ?_)
  obtain ⟨q_2, rfl, hq_2⟩ := hv
  refine lv_iconst (v := 1) hx hb dX4_speakersOf_4 (by decide +kernel) ?_
  refine lv_iload_n hx hb dX4_speakersOf_5 rfl (lv_at hl 2 rfl) ?_
  refine lv_i2l hx hb dX4_speakersOf_6 rfl ?_
  refine lv_topl (fun m_3 em_3 => ?_)
  clear em_3
  refine tr_last hx hb hK hT hP hD hS 30 hq_2 (by decide) (by decide) (show vp_in _ (tk_len 30) from ia_in (n := 10) (by omega) (by omega)) dX4_speakersOf_7 (fun H locs wt hT hfl hP hD hS => ?_)
  have hW := hW.arr hfl
  refine lv_aload_n hx hb dX4_speakersOf_8 rfl (lv_at hl 0 rfl) ?_
  refine tr_get (ci := 4) hx hb ht hown hK hT hP k_t (by decide) i_X4 rfl 1 (by decide) wd_338 rfl dX4_speakersOf_9 (fun v hv hf_4 => ?_)
  obtain ⟨q_5, rfl, hq_5⟩ := hv
  refine lv_iconst (v := 5) hx hb dX4_speakersOf_12 (by decide +kernel) ?_
  refine lv_aload hx hb dX4_speakersOf_13 (lv_at hl 4 rfl) ?_
  refine tr_get (ci := 7) hx hb ht hown hK hT hP k_v (by decide) i_X7 rfl 5 (by decide) wd_253 rfl dX4_speakersOf_15 (fun v hv hf_6 => ?_)
  obtain ⟨q_7, rfl, hq_7⟩ := hv
  refine lv_iload_n hx hb dX4_speakersOf_18 rfl (lv_at hl 2 rfl) ?_
  refine tr_iald hx hb hK hT hP 21 hq_7 (by decide) (by decide) (show vp_in _ (tk_len 21) from ia_in (n := 3) (by omega) (by omega)) dX4_speakersOf_19 (fun n_8 hn_8 => ?_)
  clear hn_8
  refine lv_i2l hx hb dX4_speakersOf_20 rfl ?_
  refine lv_topl (fun m_9 em_9 => ?_)
  clear em_9
  refine tr_last hx hb hK hT hP hD hS 30 hq_5 (by decide) (by decide) (show vp_in _ (tk_len 30) from ia_in (n := 10) (by omega) (by omega)) dX4_speakersOf_21 (fun H locs wt hT hfl hP hD hS => ?_)
  have hW := hW.arr hfl
  refine lv_aload_n hx hb dX4_speakersOf_22 rfl (lv_at hl 0 rfl) ?_
  refine tr_get (ci := 4) hx hb ht hown hK hT hP k_t (by decide) i_X4 rfl 1 (by decide) wd_338 rfl dX4_speakersOf_23 (fun v hv hf_10 => ?_)
  obtain ⟨q_11, rfl, hq_11⟩ := hv
  refine lv_bipush (v := 6) hx hb dX4_speakersOf_26 (by decide +kernel) ?_
  refine lv_aload hx hb dX4_speakersOf_28 (lv_at hl 4 rfl) ?_
  refine tr_get (ci := 7) hx hb ht hown hK hT hP k_v (by decide) i_X7 rfl 8 (by decide) wd_265 rfl dX4_speakersOf_30 (fun v hv hf_12 => ?_)
  obtain ⟨q_13, rfl, hq_13⟩ := hv
  refine lv_iload_n hx hb dX4_speakersOf_33 rfl (lv_at hl 2 rfl) ?_
  refine tr_iald hx hb hK hT hP 22 hq_13 (by decide) (by decide) (show vp_in _ (tk_len 22) from ia_in (n := 3) (by omega) (by omega)) dX4_speakersOf_34 (fun n_14 hn_14 => ?_)
  have hn_14 : 0 ≤ n_14.toInt ∧ n_14.toInt ≤ 31 := hn_14
  refine gt_callI (wr := []) (va_runS (As := [.int n_14]) (rest := [.int 6, .ref q_11]) ⟨hx, hb, hml, hown, ht⟩ (d_bitCount l G Γ H.size wt hT n_14) (va_cwS 1 ht (ts_gS wd_894 wd_895 wd_141 wd_896) rfl rfl rfl (by decide +kernel) ⟨Nat.le_of_ble_eq_true rfl, Nat.le_of_ble_eq_true rfl⟩) (gc_preS hK (tw_right hP) (tw_rightD hD)) rfl rfl hl.1 rfl (lv_room (Nat.le_of_ble_eq_true rfl)) dX4_speakersOf_35 ⟨Nat.le_of_ble_eq_true rfl, Nat.le_of_ble_eq_true rfl⟩) hP hD hS hA (fun r_15 wt H locs hw hP hD hS => ?_)
  obtain ⟨hT, hkp⟩ := hw
  have hW := hW.call (show ∀ x ∈ [], x ∈ [] by decide) hkp
  refine lv_iconst (v := 1) hx hb dX4_speakersOf_38 (by decide +kernel) ?_
  obtain ⟨t_16, et_16⟩ : ∃ zz_ : Int32, r_15 - 1 = zz_ := ⟨_, rfl⟩
  refine gq_isub hx hb t_16 et_16 dX4_speakersOf_39 ?_
  refine lv_i2l hx hb dX4_speakersOf_40 rfl ?_
  refine lv_topl (fun m_17 em_17 => ?_)
  clear em_17
  refine tr_last hx hb hK hT hP hD hS 30 hq_11 (by decide) (by decide) (show vp_in _ (tk_len 30) from ia_in (n := 10) (by omega) (by omega)) dX4_speakersOf_41 (fun H locs wt hT hfl hP hD hS => ?_)
  have hW := hW.arr hfl
  refine lv_aload_n hx hb dX4_speakersOf_42 rfl (lv_at hl 0 rfl) ?_
  refine tr_get (ci := 4) hx hb ht hown hK hT hP k_t (by decide) i_X4 rfl 1 (by decide) wd_338 rfl dX4_speakersOf_43 (fun v hv hf_18 => ?_)
  obtain ⟨q_19, rfl, hq_19⟩ := hv
  refine lv_bipush (v := 9) hx hb dX4_speakersOf_46 (by decide +kernel) ?_
  refine lv_aload hx hb dX4_speakersOf_48 (lv_at hl 4 rfl) ?_
  refine lv_iconst (v := 1) hx hb dX4_speakersOf_50 (by decide +kernel) ?_
  refine gt_callI (wr := []) (va_runV (As := [.int 1]) (rest := [.int 9, .ref q_19]) ⟨hx, hb, hml, hown, ht⟩ (d_lotsAt l G Γ H.size wt hT v 1 k_v) (cwV 1 ht (ts_gV wd_900 wd_847 wd_848 wd_125 wd_849) rfl rfl rfl (by decide +kernel) ⟨Nat.le_of_ble_eq_true rfl, Nat.le_of_ble_eq_true rfl⟩) (gt_preW (ci := 7) hK hT (tw_right hP) (tw_rightD hD) k_v (by decide) rfl) rfl rfl hl.1 rfl (lv_room (Nat.le_of_ble_eq_true rfl)) dX4_speakersOf_51 ⟨Nat.le_of_ble_eq_true rfl, Nat.le_of_ble_eq_true rfl⟩) hP hD hS hA (fun r_20 wt H locs hw hP hD hS => ?_)
  obtain ⟨hT, hkp, lo_r_20, hi_r_20⟩ := hw
  have hW := hW.call (show ∀ x ∈ [], x ∈ [] by decide) hkp
  refine gt_callI (wr := []) (va_runS (As := [.int r_20]) (rest := [.int 9, .ref q_19]) ⟨hx, hb, hml, hown, ht⟩ (d_bitCount l G Γ H.size wt hT r_20) (va_cwS 1 ht (ts_gS wd_894 wd_895 wd_141 wd_896) rfl rfl rfl (by decide +kernel) ⟨Nat.le_of_ble_eq_true rfl, Nat.le_of_ble_eq_true rfl⟩) (gc_preS hK (tw_right hP) (tw_rightD hD)) rfl rfl hl.1 rfl (lv_room (Nat.le_of_ble_eq_true rfl)) dX4_speakersOf_54 ⟨Nat.le_of_ble_eq_true rfl, Nat.le_of_ble_eq_true rfl⟩) hP hD hS hA (fun r_21 wt H locs hw hP hD hS => ?_)
  obtain ⟨hT, hkp⟩ := hw
  have hW := hW.call (show ∀ x ∈ [], x ∈ [] by decide) hkp
  refine lv_i2l hx hb dX4_speakersOf_57 rfl ?_
  refine lv_topl (fun m_22 em_22 => ?_)
  clear em_22
  refine tr_last hx hb hK hT hP hD hS 30 hq_19 (by decide) (by decide) (show vp_in _ (tk_len 30) from ia_in (n := 10) (by omega) (by omega)) dX4_speakersOf_58 (fun H locs wt hT hfl hP hD hS => ?_)
  have hW := hW.arr hfl
  refine lv_iconst (v := 0) hx hb dX4_speakersOf_59 (by decide +kernel) ?_
  refine lv_istore (lv' := [(5, .int 0), (0, .ref t), (1, .int b), (2, .int w), (3, .ref tm), (4, .ref v)]) hx hb dX4_speakersOf_60 hl (by decide) rfl (fun ls hl => ?_)
  refine lv_iconst (v := 0) hx hb dX4_speakersOf_62 (by decide +kernel) ?_
  refine lv_istore (lv' := [(6, .int 0), (5, .int 0), (0, .ref t), (1, .int b), (2, .int w), (3, .ref tm), (4, .ref v)]) hx hb dX4_speakersOf_63 hl (by decide) rfl (fun ls hl => ?_)
  refine tl_loopE (Γ := Γ) (nL := 7) (fun (zz_ : Int32 × Int32) => match zz_ with | (x65_0, x65_1) => 0 ≤ x65_0.toInt ∧ x65_0.toInt ≤ 5) (fun (zz_ : Int32 × Int32) => match zz_ with | (x65_0, x65_1) => (5 - x65_0.toInt).toNat) (fun (zz_ : Int32 × Int32) => match zz_ with | (x65_0, x65_1) => [(6, .int x65_0), (5, .int x65_1), (0, .ref t), (1, .int b), (2, .int w), (3, .ref tm), (4, .ref v)]) (fun (zz_ : Int32 × Int32) => match zz_ with | (x65_0, x65_1) => []) (fun (zz_ : Int32 × Int32) (w : va_W) => match zz_ with | (x65_0, x65_1) => tk_kp [] w0 w) (fun zz_ hI H locs wt ls hT hW hP hD hS hl ih65 => ?_) (0, 0) (show 0 ≤ (0 : Int32).toInt ∧ (0 : Int32).toInt ≤ 5 from ⟨by omega, by omega⟩) _ _ wt ls hT hW hP hD hS hl
  obtain ⟨x65_0, x65_1⟩ := zz_
  have hW : tk_kp [] w0 wt := hW
  have hI : 0 ≤ x65_0.toInt ∧ x65_0.toInt ≤ 5 := hI
  obtain ⟨j65_0, j65_1⟩ := hI
  have hl : lv_has ls 7 [(6, .int x65_0), (5, .int x65_1), (0, .ref t), (1, .int b), (2, .int w), (3, .ref tm), (4, .ref v)] := hl
  have hP : va_P (gg_D G) classes ([] ++ wt) H := hP
  have hD : va_D A ([] ++ wt) := hD
  refine lv_iload hx hb dX4_speakersOf_65 (lv_at hl 0 rfl) ?_
  refine lv_iconst (v := 5) hx hb dX4_speakersOf_67 (by decide +kernel) ?_
  refine lv_icmp_ge (tgt := 220) hx hb dX4_speakersOf_68 (by decide) (fun c_23 => ?_) (fun c_23 => ?_)
  · rw [Int32.le_iff_toInt_le] at c_23
    refine lv_iload hx hb dX4_speakersOf_220 (lv_at hl 1 rfl) ?_
    have hP9 := tw_right hP
    have hD9 := tw_rightD hD
    exact W.iret (v := x65_1) hx hb hr (gq_endI wt ⟨hT, hW⟩ hP9 hD9 hS) hS.2.2 dX4_speakersOf_222
  · rw [Int32.le_iff_toInt_le] at c_23
    refine lv_iload hx hb dX4_speakersOf_71 (lv_at hl 0 rfl) ?_
    refine lv_iload_n hx hb dX4_speakersOf_73 rfl (lv_at hl 3 rfl) ?_
    refine gt_callI (wr := []) (va_runSN (As := [.int x65_0, .int b]) (rest := []) ⟨hx, hb, hml, hown, ht⟩ (d_isIn l G Γ H.size wt hT x65_0 b) ⟨va_cnB 2 ht (tb_good (ts_good wd_803)) rfl rfl rfl (hK.2.1 _ wn_901 rfl) (ht _ wd_122) (by decide +kernel) ⟨Nat.le_of_ble_eq_true rfl, Nat.le_of_ble_eq_true rfl⟩, ht _ wd_802, trivial⟩ (gc_preS hK (tw_right hP) (tw_rightD hD)) rfl rfl hl.1 rfl (lv_room (Nat.le_of_ble_eq_true rfl)) dX4_speakersOf_74 ⟨Nat.le_of_ble_eq_true rfl, Nat.le_of_ble_eq_true rfl⟩) hP hD hS hA (fun r_24 wt H locs hw hP hD hS => ?_)
    obtain ⟨hT, hkp, lo_r_24, hi_r_24⟩ := hw
    have hW := hW.call (show ∀ x ∈ [], x ∈ [] by decide) hkp
    refine lv_if_eq (tgt := 214) hx hb dX4_speakersOf_77 (by decide) (fun c_25 => ?_) (fun c_25 => ?_)
    · rw [← Int32.toInt_inj] at c_25
      obtain ⟨t_26, et_26⟩ : ∃ zz_ : Int32, x65_0 + Int32.ofInt (1) = zz_ := ⟨_, rfl⟩
      have ft_26 : t_26.toInt = x65_0.toInt + (1 : Int32).toInt := ia_add (y := 1) et_26 (by omega) (by omega)
      refine lv_iinc (v := t_26) (lv' := [(6, .int t_26), (5, .int x65_1), (0, .ref t), (1, .int b), (2, .int w), (3, .ref tm), (4, .ref v)]) hx hb dX4_speakersOf_214 hl (k := 0) rfl et_26 (by decide) rfl (fun ls hl => ?_)
      refine lv_goto (tgt := 65) hx hb dX4_speakersOf_217 (by decide) ?_
      exact ih65 (t_26, x65_1) (show 0 ≤ t_26.toInt ∧ t_26.toInt ≤ 5 from ⟨by omega, by omega⟩) (show (5 - t_26.toInt).toNat < (5 - x65_0.toInt).toNat by omega) H locs wt ls hT hW hP hD hS (lv_sub hl [0, 1, 2, 3, 4, 5, 6] rfl)
    · rw [← Int32.toInt_inj] at c_25
      refine lv_aload_n hx hb dX4_speakersOf_80 rfl (lv_at hl 2 rfl) ?_
      refine tr_get (ci := 4) hx hb ht hown hK hT hP k_t (by decide) i_X4 rfl 1 (by decide) wd_338 rfl dX4_speakersOf_81 (fun v hv hf_27 => ?_)
      obtain ⟨q_28, rfl, hq_28⟩ := hv
      refine lv_iconst (v := 0) hx hb dX4_speakersOf_84 (by decide +kernel) ?_
      refine lv_iload hx hb dX4_speakersOf_85 (lv_at hl 0 rfl) ?_
      refine lv_i2l hx hb dX4_speakersOf_87 rfl ?_
      refine lv_topl (fun m_29 em_29 => ?_)
      clear em_29
      refine tr_last hx hb hK hT hP hD hS 30 hq_28 (by decide) (by decide) (show vp_in _ (tk_len 30) from ia_in (n := 10) (by omega) (by omega)) dX4_speakersOf_88 (fun H locs wt hT hfl hP hD hS => ?_)
      have hW := hW.arr hfl
      refine lv_aload_n hx hb dX4_speakersOf_89 rfl (lv_at hl 2 rfl) ?_
      refine tr_get (ci := 4) hx hb ht hown hK hT hP k_t (by decide) i_X4 rfl 1 (by decide) wd_338 rfl dX4_speakersOf_90 (fun v hv hf_30 => ?_)
      obtain ⟨q_31, rfl, hq_31⟩ := hv
      refine lv_iconst (v := 2) hx hb dX4_speakersOf_93 (by decide +kernel) ?_
      refine lv_aload_n hx hb dX4_speakersOf_94 rfl (lv_at hl 5 rfl) ?_
      refine lv_iload hx hb dX4_speakersOf_95 (lv_at hl 0 rfl) ?_
      refine lv_iload_n hx hb dX4_speakersOf_97 rfl (lv_at hl 4 rfl) ?_
      refine gt_callI (wr := []) (va_runV (As := [.int x65_0, .int w]) (rest := [.int 2, .ref q_31]) ⟨hx, hb, hml, hown, ht⟩ (d_worthTo l G Γ H.size wt hT tm x65_0 w k_tm (by omega) (by omega) (by omega) (by omega)) (cwV 2 ht (ts_gV wd_902 wd_813 wd_814 wd_124 wd_815) rfl rfl rfl (by decide +kernel) ⟨Nat.le_of_ble_eq_true rfl, Nat.le_of_ble_eq_true rfl⟩) (gt_preW (ci := 9) hK hT (tw_right hP) (tw_rightD hD) k_tm (by decide) rfl) rfl rfl hl.1 rfl (lv_room (Nat.le_of_ble_eq_true rfl)) dX4_speakersOf_98 ⟨Nat.le_of_ble_eq_true rfl, Nat.le_of_ble_eq_true rfl⟩) hP hD hS hA (fun r_32 wt H locs hw hP hD hS => ?_)
      obtain ⟨hT, hkp⟩ := hw
      have hW := hW.call (show ∀ x ∈ [], x ∈ [] by decide) hkp
      refine lv_i2l hx hb dX4_speakersOf_101 rfl ?_
      refine lv_topl (fun m_33 em_33 => ?_)
      clear em_33
      refine tr_last hx hb hK hT hP hD hS 30 hq_31 (by decide) (by decide) (show vp_in _ (tk_len 30) from ia_in (n := 10) (by omega) (by omega)) dX4_speakersOf_102 (fun H locs wt hT hfl hP hD hS => ?_)
      have hW := hW.arr hfl
      refine lv_aload_n hx hb dX4_speakersOf_103 rfl (lv_at hl 2 rfl) ?_
      refine tr_get (ci := 4) hx hb ht hown hK hT hP k_t (by decide) i_X4 rfl 1 (by decide) wd_338 rfl dX4_speakersOf_104 (fun v hv hf_34 => ?_)
      obtain ⟨q_35, rfl, hq_35⟩ := hv
      refine lv_iconst (v := 3) hx hb dX4_speakersOf_107 (by decide +kernel) ?_
      refine lv_aload hx hb dX4_speakersOf_108 (lv_at hl 6 rfl) ?_
      refine tr_get (ci := 7) hx hb ht hown hK hT hP k_v (by decide) i_X7 rfl 0 (by decide) wd_234 rfl dX4_speakersOf_110 (fun v hv hf_36 => ?_)
      obtain ⟨q_37, rfl, hq_37⟩ := hv
      refine lv_iload hx hb dX4_speakersOf_113 (lv_at hl 0 rfl) ?_
      refine tr_iald hx hb hK hT hP 20 hq_37 (by decide) (by decide) (show vp_in _ (tk_len 20) from ia_in (n := 5) (by omega) (by omega)) dX4_speakersOf_115 (fun n_38 hn_38 => ?_)
      clear hn_38
      refine lv_i2l hx hb dX4_speakersOf_116 rfl ?_
      refine lv_topl (fun m_39 em_39 => ?_)
      clear em_39
      refine tr_last hx hb hK hT hP hD hS 30 hq_35 (by decide) (by decide) (show vp_in _ (tk_len 30) from ia_in (n := 10) (by omega) (by omega)) dX4_speakersOf_117 (fun H locs wt hT hfl hP hD hS => ?_)
      have hW := hW.arr hfl
      refine lv_aload_n hx hb dX4_speakersOf_118 rfl (lv_at hl 2 rfl) ?_
      refine tr_get (ci := 4) hx hb ht hown hK hT hP k_t (by decide) i_X4 rfl 1 (by decide) wd_338 rfl dX4_speakersOf_119 (fun v hv hf_40 => ?_)
      obtain ⟨q_41, rfl, hq_41⟩ := hv
      refine lv_iconst (v := 4) hx hb dX4_speakersOf_122 (by decide +kernel) ?_
      refine lv_aload hx hb dX4_speakersOf_123 (lv_at hl 6 rfl) ?_
      refine tr_get (ci := 7) hx hb ht hown hK hT hP k_v (by decide) i_X7 rfl 1 (by decide) wd_238 rfl dX4_speakersOf_125 (fun v hv hf_42 => ?_)
      obtain ⟨q_43, rfl, hq_43⟩ := hv
      refine lv_iload hx hb dX4_speakersOf_128 (lv_at hl 0 rfl) ?_
      refine tr_iald hx hb hK hT hP 20 hq_43 (by decide) (by decide) (show vp_in _ (tk_len 20) from ia_in (n := 5) (by omega) (by omega)) dX4_speakersOf_130 (fun n_44 hn_44 => ?_)
      clear hn_44
      refine lv_i2l hx hb dX4_speakersOf_131 rfl ?_
      refine lv_topl (fun m_45 em_45 => ?_)
      clear em_45
      refine tr_last hx hb hK hT hP hD hS 30 hq_41 (by decide) (by decide) (show vp_in _ (tk_len 30) from ia_in (n := 10) (by omega) (by omega)) dX4_speakersOf_132 (fun H locs wt hT hfl hP hD hS => ?_)
      have hW := hW.arr hfl
      refine lv_aload_n hx hb dX4_speakersOf_133 rfl (lv_at hl 2 rfl) ?_
      refine tr_get (ci := 4) hx hb ht hown hK hT hP k_t (by decide) i_X4 rfl 1 (by decide) wd_338 rfl dX4_speakersOf_134 (fun v hv hf_46 => ?_)
      obtain ⟨q_47, rfl, hq_47⟩ := hv
      refine lv_bipush (v := 7) hx hb dX4_speakersOf_137 (by decide +kernel) ?_
      refine lv_aload hx hb dX4_speakersOf_139 (lv_at hl 6 rfl) ?_
      refine tr_get (ci := 7) hx hb ht hown hK hT hP k_v (by decide) i_X7 rfl 3 (by decide) wd_245 rfl dX4_speakersOf_141 (fun v hv hf_48 => ?_)
      obtain ⟨q_49, rfl, hq_49⟩ := hv
      refine lv_iload hx hb dX4_speakersOf_144 (lv_at hl 0 rfl) ?_
      refine tr_iald hx hb hK hT hP 20 hq_49 (by decide) (by decide) (show vp_in _ (tk_len 20) from ia_in (n := 5) (by omega) (by omega)) dX4_speakersOf_146 (fun n_50 hn_50 => ?_)
      clear hn_50
      refine lv_i2l hx hb dX4_speakersOf_147 rfl ?_
      refine lv_topl (fun m_51 em_51 => ?_)
      clear em_51
      refine tr_last hx hb hK hT hP hD hS 30 hq_47 (by decide) (by decide) (show vp_in _ (tk_len 30) from ia_in (n := 10) (by omega) (by omega)) dX4_speakersOf_148 (fun H locs wt hT hfl hP hD hS => ?_)
      have hW := hW.arr hfl
      refine lv_aload_n hx hb dX4_speakersOf_149 rfl (lv_at hl 2 rfl) ?_
      refine tr_get (ci := 4) hx hb ht hown hK hT hP k_t (by decide) i_X4 rfl 1 (by decide) wd_338 rfl dX4_speakersOf_150 (fun v hv hf_52 => ?_)
      obtain ⟨q_53, rfl, hq_53⟩ := hv
      refine lv_bipush (v := 8) hx hb dX4_speakersOf_153 (by decide +kernel) ?_
      refine lv_bipush (v := 8) hx hb dX4_speakersOf_155 (by decide +kernel) ?_
      refine lv_aload_n hx hb dX4_speakersOf_157 rfl (lv_at hl 2 rfl) ?_
      refine tr_get (ci := 4) hx hb ht hown hK hT hP k_t (by decide) i_X4 rfl 8 (by decide) wd_345 rfl dX4_speakersOf_158 (fun v hv hf_54 => ?_)
      obtain ⟨n_55, rfl⟩ := hv
      refine gt_callI (wr := []) (va_runSN (As := [.int 8, .int n_55]) (rest := [.int 8, .ref q_53]) ⟨hx, hb, hml, hown, ht⟩ (d_isIn l G Γ H.size wt hT 8 n_55) ⟨va_cnB 2 ht (tb_good (ts_good wd_803)) rfl rfl rfl (hK.2.1 _ wn_901 rfl) (ht _ wd_122) (by decide +kernel) ⟨Nat.le_of_ble_eq_true rfl, Nat.le_of_ble_eq_true rfl⟩, ht _ wd_802, trivial⟩ (gc_preS hK (tw_right hP) (tw_rightD hD)) rfl rfl hl.1 rfl (lv_room (Nat.le_of_ble_eq_true rfl)) dX4_speakersOf_161 ⟨Nat.le_of_ble_eq_true rfl, Nat.le_of_ble_eq_true rfl⟩) hP hD hS hA (fun r_56 wt H locs hw hP hD hS => ?_)
      obtain ⟨hT, hkp, lo_r_56, hi_r_56⟩ := hw
      have hW := hW.call (show ∀ x ∈ [], x ∈ [] by decide) hkp
      have hf_54 := hkp _ _ _ _ (by decide) (by decide) hf_54
      refine lv_if_eq (tgt := 190) hx hb dX4_speakersOf_164 (by decide) (fun c_57 => ?_) (fun c_57 => ?_)
      · rw [← Int32.toInt_inj] at c_57
        refine lv_lconst (v := 0) hx hb dX4_speakersOf_190 (by decide +kernel) ?_
        refine tr_last hx hb hK hT hP hD hS 30 hq_53 (by decide) (by decide) (show vp_in _ (tk_len 30) from ia_in (n := 10) (by omega) (by omega)) dX4_speakersOf_191 (fun H locs wt hT hfl hP hD hS => ?_)
        have hW := hW.arr hfl
        have hf_54 := hfl _ _ _ _ hf_54
        refine lv_iload hx hb dX4_speakersOf_192 (lv_at hl 1 rfl) ?_
        refine lv_aload_n hx hb dX4_speakersOf_194 rfl (lv_at hl 2 rfl) ?_
        refine gt_callJ (wr := []) (va_runV (As := []) (rest := [.int x65_1]) ⟨hx, hb, hml, hown, ht⟩ (d_workOut l G Γ H.size wt hT t k_t) (cwV 0 ht (ts_gV wd_911 wd_913 wd_19 wd_128 wd_914) rfl rfl rfl (by decide +kernel) ⟨Nat.le_of_ble_eq_true rfl, Nat.le_of_ble_eq_true rfl⟩) (gt_preW (ci := 4) hK hT (tw_right hP) (tw_rightD hD) k_t (by decide) rfl) rfl rfl hl.1 rfl (lv_room (Nat.le_of_ble_eq_true rfl)) dX4_speakersOf_195 ⟨Nat.le_of_ble_eq_true rfl, Nat.le_of_ble_eq_true rfl⟩) hP hD hS hA (fun m_58 wt H locs hw hP hD hS => ?_)
        obtain ⟨hT, hkp⟩ := hw
        have hW := hW.call (show ∀ x ∈ [], x ∈ [] by decide) hkp
        have hf_54 := hkp _ _ _ _ (by decide) (by decide) hf_54
        refine lv_lconst (v := 0) hx hb dX4_speakersOf_198 (by decide +kernel) ?_
        obtain ⟨t_59, et_59⟩ : ∃ zz_ : Int32, lg_cmp m_58 0 = zz_ := ⟨_, rfl⟩
        refine gq_lcmp hx hb t_59 et_59 dX4_speakersOf_199 ?_
        refine lv_if_le (tgt := 210) hx hb dX4_speakersOf_200 (by decide) (fun c_60 => ?_) (fun c_60 => ?_)
        · rw [Int32.le_iff_toInt_le] at c_60
          refine lv_iconst (v := 0) hx hb dX4_speakersOf_210 (by decide +kernel) ?_
          obtain ⟨t_61, et_61⟩ : ∃ zz_ : Int32, x65_1 ||| 0 = zz_ := ⟨_, rfl⟩
          refine gq_ior hx hb t_61 et_61 dX4_speakersOf_211 ?_
          refine lv_istore (lv' := [(5, .int t_61), (6, .int x65_0), (0, .ref t), (1, .int b), (2, .int w), (3, .ref tm), (4, .ref v)]) hx hb dX4_speakersOf_212 hl (by decide) rfl (fun ls hl => ?_)
          obtain ⟨t_62, et_62⟩ : ∃ zz_ : Int32, x65_0 + Int32.ofInt (1) = zz_ := ⟨_, rfl⟩
          have ft_62 : t_62.toInt = x65_0.toInt + (1 : Int32).toInt := ia_add (y := 1) et_62 (by omega) (by omega)
          refine lv_iinc (v := t_62) (lv' := [(6, .int t_62), (5, .int t_61), (0, .ref t), (1, .int b), (2, .int w), (3, .ref tm), (4, .ref v)]) hx hb dX4_speakersOf_214 hl (k := 1) rfl et_62 (by decide) rfl (fun ls hl => ?_)
          refine lv_goto (tgt := 65) hx hb dX4_speakersOf_217 (by decide) ?_
          exact ih65 (t_62, t_61) (show 0 ≤ t_62.toInt ∧ t_62.toInt ≤ 5 from ⟨by omega, by omega⟩) (show (5 - t_62.toInt).toNat < (5 - x65_0.toInt).toNat by omega) H locs wt ls hT hW hP hD hS (lv_sub hl [0, 1, 2, 3, 4, 5, 6] rfl)
        · rw [Int32.le_iff_toInt_le] at c_60
          refine lv_iconst (v := 1) hx hb dX4_speakersOf_203 (by decide +kernel) ?_
          refine lv_iload hx hb dX4_speakersOf_204 (lv_at hl 0 rfl) ?_
          obtain ⟨t_63, et_63⟩ : ∃ zz_ : Int32, 1 <<< (x65_0 &&& 31) = zz_ := ⟨_, rfl⟩
          refine gq_ishl hx hb t_63 et_63 dX4_speakersOf_206 ?_
          have ft_63 := ia_bit et_63 (by omega) (by omega)
          refine lv_goto (tgt := 211) hx hb dX4_speakersOf_207 (by decide) ?_
          obtain ⟨t_64, et_64⟩ : ∃ zz_ : Int32, x65_1 ||| t_63 = zz_ := ⟨_, rfl⟩
          refine gq_ior hx hb t_64 et_64 dX4_speakersOf_211 ?_
          refine lv_istore (lv' := [(5, .int t_64), (6, .int x65_0), (0, .ref t), (1, .int b), (2, .int w), (3, .ref tm), (4, .ref v)]) hx hb dX4_speakersOf_212 hl (by decide) rfl (fun ls hl => ?_)
          obtain ⟨t_65, et_65⟩ : ∃ zz_ : Int32, x65_0 + Int32.ofInt (1) = zz_ := ⟨_, rfl⟩
          have ft_65 : t_65.toInt = x65_0.toInt + (1 : Int32).toInt := ia_add (y := 1) et_65 (by omega) (by omega)
          refine lv_iinc (v := t_65) (lv' := [(6, .int t_65), (5, .int t_64), (0, .ref t), (1, .int b), (2, .int w), (3, .ref tm), (4, .ref v)]) hx hb dX4_speakersOf_214 hl (k := 1) rfl et_65 (by decide) rfl (fun ls hl => ?_)
          refine lv_goto (tgt := 65) hx hb dX4_speakersOf_217 (by decide) ?_
          exact ih65 (t_65, t_64) (show 0 ≤ t_65.toInt ∧ t_65.toInt ≤ 5 from ⟨by omega, by omega⟩) (show (5 - t_65.toInt).toNat < (5 - x65_0.toInt).toNat by omega) H locs wt ls hT hW hP hD hS (lv_sub hl [0, 1, 2, 3, 4, 5, 6] rfl)
      · rw [← Int32.toInt_inj] at c_57
        refine lv_aload_n hx hb dX4_speakersOf_167 rfl (lv_at hl 5 rfl) ?_
        refine lv_aload hx hb dX4_speakersOf_168 (lv_at hl 6 rfl) ?_
        refine tr_get (ci := 7) hx hb ht hown hK hT hP k_v (by decide) i_X7 rfl 8 (by decide) wd_265 rfl dX4_speakersOf_170 (fun v hv hf_66 => ?_)
        obtain ⟨q_67, rfl, hq_67⟩ := hv
        refine lv_iload_n hx hb dX4_speakersOf_173 rfl (lv_at hl 4 rfl) ?_
        refine tr_iald hx hb hK hT hP 22 hq_67 (by decide) (by decide) (show vp_in _ (tk_len 22) from ia_in (n := 3) (by omega) (by omega)) dX4_speakersOf_174 (fun n_68 hn_68 => ?_)
        have hn_68 : 0 ≤ n_68.toInt ∧ n_68.toInt ≤ 31 := hn_68
        refine lv_iconst (v := 1) hx hb dX4_speakersOf_175 (by decide +kernel) ?_
        refine lv_iload hx hb dX4_speakersOf_176 (lv_at hl 0 rfl) ?_
        obtain ⟨t_69, et_69⟩ : ∃ zz_ : Int32, 1 <<< (x65_0 &&& 31) = zz_ := ⟨_, rfl⟩
        refine gq_ishl hx hb t_69 et_69 dX4_speakersOf_178 ?_
        have ft_69 := ia_bit et_69 (by omega) (by omega)
        refine lv_iconst (v := (-1)) hx hb dX4_speakersOf_179 (by decide +kernel) ?_
        refine lv_ixor hx hb dX4_speakersOf_180 ?_
        refine lv_topi (fun t_70 et_70 => ?_)
        obtain ⟨t_71, et_71⟩ : ∃ zz_ : Int32, n_68 &&& t_70 = zz_ := ⟨_, rfl⟩
        refine gq_iand hx hb t_71 et_71 dX4_speakersOf_181 ?_
        have ft_71 := ia_and1 et_71 (by omega)
        refine lv_iload_n hx hb dX4_speakersOf_182 rfl (lv_at hl 4 rfl) ?_
        refine gt_callI (wr := []) (va_runV (As := [.int t_71, .int w]) (rest := [.int 8, .ref q_53]) ⟨hx, hb, hml, hown, ht⟩ (d_mostWorth l G Γ H.size wt hT tm t_71 w k_tm (by omega) (by omega)) (cwV 2 ht (ts_gV wd_903 wd_904 wd_905 wd_124 wd_906) rfl rfl rfl (by decide +kernel) ⟨Nat.le_of_ble_eq_true rfl, Nat.le_of_ble_eq_true rfl⟩) (gt_preW (ci := 9) hK hT (tw_right hP) (tw_rightD hD) k_tm (by decide) rfl) rfl rfl hl.1 rfl (lv_room (Nat.le_of_ble_eq_true rfl)) dX4_speakersOf_183 ⟨Nat.le_of_ble_eq_true rfl, Nat.le_of_ble_eq_true rfl⟩) hP hD hS hA (fun r_72 wt H locs hw hP hD hS => ?_)
        obtain ⟨hT, hkp⟩ := hw
        have hW := hW.call (show ∀ x ∈ [], x ∈ [] by decide) hkp
        have hf_54 := hkp _ _ _ _ (by decide) (by decide) hf_54
        refine lv_i2l hx hb dX4_speakersOf_186 rfl ?_
        refine lv_topl (fun m_73 em_73 => ?_)
        clear em_73
        refine lv_goto (tgt := 191) hx hb dX4_speakersOf_187 (by decide) ?_
        refine tr_last hx hb hK hT hP hD hS 30 hq_53 (by decide) (by decide) (show vp_in _ (tk_len 30) from ia_in (n := 10) (by omega) (by omega)) dX4_speakersOf_191 (fun H locs wt hT hfl hP hD hS => ?_)
        have hW := hW.arr hfl
        have hf_54 := hfl _ _ _ _ hf_54
        refine lv_iload hx hb dX4_speakersOf_192 (lv_at hl 1 rfl) ?_
        refine lv_aload_n hx hb dX4_speakersOf_194 rfl (lv_at hl 2 rfl) ?_
        refine gt_callJ (wr := []) (va_runV (As := []) (rest := [.int x65_1]) ⟨hx, hb, hml, hown, ht⟩ (d_workOut l G Γ H.size wt hT t k_t) (cwV 0 ht (ts_gV wd_911 wd_913 wd_19 wd_128 wd_914) rfl rfl rfl (by decide +kernel) ⟨Nat.le_of_ble_eq_true rfl, Nat.le_of_ble_eq_true rfl⟩) (gt_preW (ci := 4) hK hT (tw_right hP) (tw_rightD hD) k_t (by decide) rfl) rfl rfl hl.1 rfl (lv_room (Nat.le_of_ble_eq_true rfl)) dX4_speakersOf_195 ⟨Nat.le_of_ble_eq_true rfl, Nat.le_of_ble_eq_true rfl⟩) hP hD hS hA (fun m_74 wt H locs hw hP hD hS => ?_)
        obtain ⟨hT, hkp⟩ := hw
        have hW := hW.call (show ∀ x ∈ [], x ∈ [] by decide) hkp
        have hf_54 := hkp _ _ _ _ (by decide) (by decide) hf_54
        refine lv_lconst (v := 0) hx hb dX4_speakersOf_198 (by decide +kernel) ?_
        obtain ⟨t_75, et_75⟩ : ∃ zz_ : Int32, lg_cmp m_74 0 = zz_ := ⟨_, rfl⟩
        refine gq_lcmp hx hb t_75 et_75 dX4_speakersOf_199 ?_
        refine lv_if_le (tgt := 210) hx hb dX4_speakersOf_200 (by decide) (fun c_76 => ?_) (fun c_76 => ?_)
        · rw [Int32.le_iff_toInt_le] at c_76
          refine lv_iconst (v := 0) hx hb dX4_speakersOf_210 (by decide +kernel) ?_
          obtain ⟨t_77, et_77⟩ : ∃ zz_ : Int32, x65_1 ||| 0 = zz_ := ⟨_, rfl⟩
          refine gq_ior hx hb t_77 et_77 dX4_speakersOf_211 ?_
          refine lv_istore (lv' := [(5, .int t_77), (6, .int x65_0), (0, .ref t), (1, .int b), (2, .int w), (3, .ref tm), (4, .ref v)]) hx hb dX4_speakersOf_212 hl (by decide) rfl (fun ls hl => ?_)
          obtain ⟨t_78, et_78⟩ : ∃ zz_ : Int32, x65_0 + Int32.ofInt (1) = zz_ := ⟨_, rfl⟩
          have ft_78 : t_78.toInt = x65_0.toInt + (1 : Int32).toInt := ia_add (y := 1) et_78 (by omega) (by omega)
          refine lv_iinc (v := t_78) (lv' := [(6, .int t_78), (5, .int t_77), (0, .ref t), (1, .int b), (2, .int w), (3, .ref tm), (4, .ref v)]) hx hb dX4_speakersOf_214 hl (k := 1) rfl et_78 (by decide) rfl (fun ls hl => ?_)
          refine lv_goto (tgt := 65) hx hb dX4_speakersOf_217 (by decide) ?_
          exact ih65 (t_78, t_77) (show 0 ≤ t_78.toInt ∧ t_78.toInt ≤ 5 from ⟨by omega, by omega⟩) (show (5 - t_78.toInt).toNat < (5 - x65_0.toInt).toNat by omega) H locs wt ls hT hW hP hD hS (lv_sub hl [0, 1, 2, 3, 4, 5, 6] rfl)
        · rw [Int32.le_iff_toInt_le] at c_76
          refine lv_iconst (v := 1) hx hb dX4_speakersOf_203 (by decide +kernel) ?_
          refine lv_iload hx hb dX4_speakersOf_204 (lv_at hl 0 rfl) ?_
          refine gq_ishl hx hb t_69 et_69 dX4_speakersOf_206 ?_
          refine lv_goto (tgt := 211) hx hb dX4_speakersOf_207 (by decide) ?_
          obtain ⟨t_79, et_79⟩ : ∃ zz_ : Int32, x65_1 ||| t_69 = zz_ := ⟨_, rfl⟩
          refine gq_ior hx hb t_79 et_79 dX4_speakersOf_211 ?_
          refine lv_istore (lv' := [(5, .int t_79), (6, .int x65_0), (0, .ref t), (1, .int b), (2, .int w), (3, .ref tm), (4, .ref v)]) hx hb dX4_speakersOf_212 hl (by decide) rfl (fun ls hl => ?_)
          obtain ⟨t_80, et_80⟩ : ∃ zz_ : Int32, x65_0 + Int32.ofInt (1) = zz_ := ⟨_, rfl⟩
          have ft_80 : t_80.toInt = x65_0.toInt + (1 : Int32).toInt := ia_add (y := 1) et_80 (by omega) (by omega)
          refine lv_iinc (v := t_80) (lv' := [(6, .int t_80), (5, .int t_79), (0, .ref t), (1, .int b), (2, .int w), (3, .ref tm), (4, .ref v)]) hx hb dX4_speakersOf_214 hl (k := 1) rfl et_80 (by decide) rfl (fun ls hl => ?_)
          refine lv_goto (tgt := 65) hx hb dX4_speakersOf_217 (by decide) ?_
          exact ih65 (t_80, t_79) (show 0 ≤ t_80.toInt ∧ t_80.toInt ≤ 5 from ⟨by omega, by omega⟩) (show (5 - t_80.toInt).toNat < (5 - x65_0.toInt).toNat by omega) H locs wt ls hT hW hP hD hS (lv_sub hl [0, 1, 2, 3, 4, 5, 6] rfl)
set_option maxHeartbeats 4000000 in
set_option maxRecDepth 100000 in
theorem d_serve1 (l : Launch) (G : gg_T) (Γ : Nat → Nat) (sz : Nat) (wt : va_W) (hT : tk_ty G Γ wt) (t : Nat) (tm : Nat) (v : Nat) (k_t : Γ t = 1) (k_tm : Γ tm = 10) (k_v : Γ v = 5) : Met l yX0_serve (ts_L yX0_serve cX0_serve 3 none) ({ frames := 0, cells := 0, slots := 0, locals := 0 }) (gc_P G wt sz [.ref t, .ref tm, .ref v]) (gc_V G (va_A wt sz) (fun (u : va_W) => tk_ty G Γ u ∧ tk_kp [0, 1, 2] wt u) (fun u => u)) 0 0 (va_A wt sz) := by
  refine Met.ofW (cc := cX0_serve) (maxL := 3) (ret := none) (by decide) rfl ?_
  intro p e s m args below meth c s₁ B hml hv
  obtain ⟨rfl, hsz, hP, hK, hD0⟩ := hv
  have hx := B.exec
  have hb := B.bytes
  have hr := B.returns
  have ht := ts_ht (atoms_spec (ws := ts_L yX0_serve cX0_serve 3 none) B.pre)
  have hown : s.vm.findClass RX0 = some m.cls := findClass_of_methodNamed B.named
  have hlocks := B.notSynchronized
  subst hsz
  have hD := hD0.self (sz := s.heap.size)
  generalize hAe : va_A wt s.heap.size = A at hD ⊢
  have hA : ∀ q : Nat, s.heap.size ≤ q → A q := fun q h => by rw [← hAe]; exact Or.inr h
  clear hAe hD0
  have hS : va_S A s.heap s.heap [] := va_S.rf
  obtain ⟨w0, hw0⟩ : ∃ z, z = wt := ⟨_, rfl⟩
  have hW : tk_kp [0, 1, 2] w0 wt := by rw [hw0]; exact tk_kp.rf
  rw [← hw0]
  clear hw0
  have hP : va_P (gg_D G) classes ([] ++ wt) s.heap := hP
  have hD : va_D A ([] ++ wt) := hD
  have hl := lv_entry ([.ref t, .ref tm, .ref v]) (n := 3) (Nat.le_of_ble_eq_true rfl)
  rw [lg_entry_eq]
  generalize (lg_sl ([.ref t, .ref tm, .ref v]) ++ List.replicate (3 - (lg_sl ([.ref t, .ref tm, .ref v])).length) Slot.unset).toArray = ls at hl ⊢
  have hl : lv_has ls 3 [(0, .ref t), (1, .ref tm), (2, .ref v)] := hl
  have l0 : (0 : Int32).toInt = 0 := by decide +kernel
  refine lv_aload_n hx hb dX0_serve_0 rfl (lv_at hl 0 rfl) ?_
  refine lv_aload_n hx hb dX0_serve_1 rfl (lv_at hl 1 rfl) ?_
  refine tr_put (ci := 0) hx hb ht hown hK hT hP hD hS k_t (by decide) i_X0 tyX0 tyX0_ok nmX0 rfl 0 (by decide) wd_409 rfl rfl rfl rfl ⟨_, rfl, k_tm⟩ dX0_serve_2 (fun H locs wt hT hfl hfn hP hD hS => ?_)
  have hW := hW.obj (show 0 * 100 + 0 ∈ [0, 1, 2] by decide) hfl
  have hf_1 := hfn
  refine lv_aload_n hx hb dX0_serve_5 rfl (lv_at hl 0 rfl) ?_
  refine lv_aload_n hx hb dX0_serve_6 rfl (lv_at hl 2 rfl) ?_
  refine tr_put (ci := 0) hx hb ht hown hK hT hP hD hS k_t (by decide) i_X0 tyX0 tyX0_ok nmX0 rfl 1 (by decide) wd_410 rfl rfl rfl rfl (Or.inr ⟨_, rfl, k_v⟩) dX0_serve_7 (fun H locs wt hT hfl hfn hP hD hS => ?_)
  have hW := hW.obj (show 0 * 100 + 1 ∈ [0, 1, 2] by decide) hfl
  have hf_1 := hfl _ _ _ _ (Or.inr (Or.inr (by decide))) hf_1
  have hf_2 := hfn
  refine lv_aload_n hx hb dX0_serve_10 rfl (lv_at hl 0 rfl) ?_
  refine lv_iconst (v := 0) hx hb dX0_serve_11 (by decide +kernel) ?_
  refine tr_put (ci := 0) hx hb ht hown hK hT hP hD hS k_t (by decide) i_X0 tyX0 tyX0_ok nmX0 rfl 2 (by decide) wd_411 rfl rfl rfl rfl ⟨_, rfl⟩ dX0_serve_12 (fun H locs wt hT hfl hfn hP hD hS => ?_)
  have hW := hW.obj (show 0 * 100 + 2 ∈ [0, 1, 2] by decide) hfl
  have hf_1 := hfl _ _ _ _ (Or.inr (Or.inr (by decide))) hf_1
  have hf_2 := hfl _ _ _ _ (Or.inr (Or.inr (by decide))) hf_2
  have hf_3 := hfn
  have hP9 := tw_right hP
  have hD9 := tw_rightD hD
  exact W.vret hx hb hr (gq_endV wt ⟨hT, hW⟩ hP9 hD9 hS) hS.2.2 dX0_serve_15
set_option maxHeartbeats 4000000 in
set_option maxRecDepth 100000 in
theorem d_serve0 (l : Launch) (G : gg_T) (Γ : Nat → Nat) (sz : Nat) (wt : va_W) (hT : tk_ty G Γ wt) (t : Nat) (tm : Nat) (k_t : Γ t = 1) (k_tm : Γ tm = 10) : Met l yX0_serve (ts_L yX0_serve cX0_serve 3 none) ({ frames := 0, cells := 0, slots := 0, locals := 0 }) (gc_P G wt sz [.ref t, .ref tm, .null]) (gc_V G (va_A wt sz) (fun (u : va_W) => tk_ty G Γ u ∧ tk_kp [0, 1, 2] wt u) (fun u => u)) 0 0 (va_A wt sz) := by
  refine Met.ofW (cc := cX0_serve) (maxL := 3) (ret := none) (by decide) rfl ?_
  intro p e s m args below meth c s₁ B hml hv
  obtain ⟨rfl, hsz, hP, hK, hD0⟩ := hv
  have hx := B.exec
  have hb := B.bytes
  have hr := B.returns
  have ht := ts_ht (atoms_spec (ws := ts_L yX0_serve cX0_serve 3 none) B.pre)
  have hown : s.vm.findClass RX0 = some m.cls := findClass_of_methodNamed B.named
  have hlocks := B.notSynchronized
  subst hsz
  have hD := hD0.self (sz := s.heap.size)
  generalize hAe : va_A wt s.heap.size = A at hD ⊢
  have hA : ∀ q : Nat, s.heap.size ≤ q → A q := fun q h => by rw [← hAe]; exact Or.inr h
  clear hAe hD0
  have hS : va_S A s.heap s.heap [] := va_S.rf
  obtain ⟨w0, hw0⟩ : ∃ z, z = wt := ⟨_, rfl⟩
  have hW : tk_kp [0, 1, 2] w0 wt := by rw [hw0]; exact tk_kp.rf
  rw [← hw0]
  clear hw0
  have hP : va_P (gg_D G) classes ([] ++ wt) s.heap := hP
  have hD : va_D A ([] ++ wt) := hD
  have hl := lv_entry ([.ref t, .ref tm, .null]) (n := 3) (Nat.le_of_ble_eq_true rfl)
  rw [lg_entry_eq]
  generalize (lg_sl ([.ref t, .ref tm, .null]) ++ List.replicate (3 - (lg_sl ([.ref t, .ref tm, .null])).length) Slot.unset).toArray = ls at hl ⊢
  have hl : lv_has ls 3 [(0, .ref t), (1, .ref tm), (2, .null)] := hl
  have l0 : (0 : Int32).toInt = 0 := by decide +kernel
  refine lv_aload_n hx hb dX0_serve_0 rfl (lv_at hl 0 rfl) ?_
  refine lv_aload_n hx hb dX0_serve_1 rfl (lv_at hl 1 rfl) ?_
  refine tr_put (ci := 0) hx hb ht hown hK hT hP hD hS k_t (by decide) i_X0 tyX0 tyX0_ok nmX0 rfl 0 (by decide) wd_409 rfl rfl rfl rfl ⟨_, rfl, k_tm⟩ dX0_serve_2 (fun H locs wt hT hfl hfn hP hD hS => ?_)
  have hW := hW.obj (show 0 * 100 + 0 ∈ [0, 1, 2] by decide) hfl
  have hf_1 := hfn
  refine lv_aload_n hx hb dX0_serve_5 rfl (lv_at hl 0 rfl) ?_
  refine lv_aload_nN hx hb dX0_serve_6 rfl (lv_at hl 2 rfl) ?_
  refine tr_put (ci := 0) hx hb ht hown hK hT hP hD hS k_t (by decide) i_X0 tyX0 tyX0_ok nmX0 rfl 1 (by decide) wd_410 rfl rfl rfl rfl (Or.inl rfl) dX0_serve_7 (fun H locs wt hT hfl hfn hP hD hS => ?_)
  have hW := hW.obj (show 0 * 100 + 1 ∈ [0, 1, 2] by decide) hfl
  have hf_1 := hfl _ _ _ _ (Or.inr (Or.inr (by decide))) hf_1
  have hf_2 := hfn
  refine lv_aload_n hx hb dX0_serve_10 rfl (lv_at hl 0 rfl) ?_
  refine lv_iconst (v := 0) hx hb dX0_serve_11 (by decide +kernel) ?_
  refine tr_put (ci := 0) hx hb ht hown hK hT hP hD hS k_t (by decide) i_X0 tyX0 tyX0_ok nmX0 rfl 2 (by decide) wd_411 rfl rfl rfl rfl ⟨_, rfl⟩ dX0_serve_12 (fun H locs wt hT hfl hfn hP hD hS => ?_)
  have hW := hW.obj (show 0 * 100 + 2 ∈ [0, 1, 2] by decide) hfl
  have hf_1 := hfl _ _ _ _ (Or.inr (Or.inr (by decide))) hf_1
  have hf_2 := hfl _ _ _ _ (Or.inr (Or.inr (by decide))) hf_2
  have hf_3 := hfn
  have hP9 := tw_right hP
  have hD9 := tw_rightD hD
  exact W.vret hx hb hr (gq_endV wt ⟨hT, hW⟩ hP9 hD9 hS) hS.2.2 dX0_serve_15
set_option maxHeartbeats 4000000 in
set_option maxRecDepth 100000 in
theorem d_letHold (l : Launch) (G : gg_T) (Γ : Nat → Nat) (sz : Nat) (wt : va_W) (hT : tk_ty G Γ wt) (t : Nat) (b : Int32) (k_t : Γ t = 1) : Met l yX0_letHold (ts_L yX0_letHold cX0_letHold 2 none) ({ frames := 0, cells := 0, slots := 0, locals := 0 }) (gc_P G wt sz [.ref t, .int b]) (gc_V G (va_A wt sz) (fun (u : va_W) => tk_ty G Γ u ∧ tk_kp [2] wt u) (fun u => u)) 0 0 (va_A wt sz) := by
  refine Met.ofW (cc := cX0_letHold) (maxL := 2) (ret := none) (by decide) rfl ?_
  intro p e s m args below meth c s₁ B hml hv
  obtain ⟨rfl, hsz, hP, hK, hD0⟩ := hv
  have hx := B.exec
  have hb := B.bytes
  have hr := B.returns
  have ht := ts_ht (atoms_spec (ws := ts_L yX0_letHold cX0_letHold 2 none) B.pre)
  have hown : s.vm.findClass RX0 = some m.cls := findClass_of_methodNamed B.named
  have hlocks := B.notSynchronized
  subst hsz
  have hD := hD0.self (sz := s.heap.size)
  generalize hAe : va_A wt s.heap.size = A at hD ⊢
  have hA : ∀ q : Nat, s.heap.size ≤ q → A q := fun q h => by rw [← hAe]; exact Or.inr h
  clear hAe hD0
  have hS : va_S A s.heap s.heap [] := va_S.rf
  obtain ⟨w0, hw0⟩ : ∃ z, z = wt := ⟨_, rfl⟩
  have hW : tk_kp [2] w0 wt := by rw [hw0]; exact tk_kp.rf
  rw [← hw0]
  clear hw0
  have hP : va_P (gg_D G) classes ([] ++ wt) s.heap := hP
  have hD : va_D A ([] ++ wt) := hD
  have hl := lv_entry ([.ref t, .int b]) (n := 2) (Nat.le_of_ble_eq_true rfl)
  rw [lg_entry_eq]
  generalize (lg_sl ([.ref t, .int b]) ++ List.replicate (2 - (lg_sl ([.ref t, .int b])).length) Slot.unset).toArray = ls at hl ⊢
  have hl : lv_has ls 2 [(0, .ref t), (1, .int b)] := hl
  refine lv_aload_n hx hb dX0_letHold_0 rfl (lv_at hl 0 rfl) ?_
  refine lv_iconst (v := 1) hx hb dX0_letHold_1 (by decide +kernel) ?_
  refine lv_iload_n hx hb dX0_letHold_2 rfl (lv_at hl 1 rfl) ?_
  obtain ⟨t_1, et_1⟩ : ∃ zz_ : Int32, 1 <<< (b &&& 31) = zz_ := ⟨_, rfl⟩
  refine gq_ishl hx hb t_1 et_1 dX0_letHold_3 ?_
  refine tr_put (ci := 0) hx hb ht hown hK hT hP hD hS k_t (by decide) i_X0 tyX0 tyX0_ok nmX0 rfl 2 (by decide) wd_411 rfl rfl rfl rfl ⟨_, rfl⟩ dX0_letHold_4 (fun H locs wt hT hfl hfn hP hD hS => ?_)
  have hW := hW.obj (show 0 * 100 + 2 ∈ [2] by decide) hfl
  have hf_2 := hfn
  have hP9 := tw_right hP
  have hD9 := tw_rightD hD
  exact W.vret hx hb hr (gq_endV wt ⟨hT, hW⟩ hP9 hD9 hS) hS.2.2 dX0_letHold_7
set_option maxHeartbeats 4000000 in
set_option maxRecDepth 100000 in
theorem d_mindsRooms (l : Launch) (G : gg_T) (Γ : Nat → Nat) (sz : Nat) (wt : va_W) (hT : tk_ty G Γ wt) (t : Nat) (k_t : Γ t = 1) : Met l yX0_mindsRooms (ts_L yX0_mindsRooms cX0_mindsRooms 1 (some .boolean)) ({ frames := 2, cells := 0, slots := 0, locals := 41 }) (gc_P G wt sz [.ref t]) (gc_I G (va_A wt sz) (fun r (u : va_W) => tk_ty G Γ u ∧ tk_kp [] wt u ∧ 0 ≤ r.toInt ∧ r.toInt ≤ 1) (fun u => u)) 0 0 (va_A wt sz) := by
  refine Met.ofW (cc := cX0_mindsRooms) (maxL := 1) (ret := (some .boolean)) (by decide) rfl ?_
  intro p e s m args below meth c s₁ B hml hv
  obtain ⟨rfl, hsz, hP, hK, hD0⟩ := hv
  have hx := B.exec
  have hb := B.bytes
  have hr := B.returns
  have ht := ts_ht (atoms_spec (ws := ts_L yX0_mindsRooms cX0_mindsRooms 1 (some .boolean)) B.pre)
  have hown : s.vm.findClass RX0 = some m.cls := findClass_of_methodNamed B.named
  have hlocks := B.notSynchronized
  subst hsz
  have hD := hD0.self (sz := s.heap.size)
  generalize hAe : va_A wt s.heap.size = A at hD ⊢
  have hA : ∀ q : Nat, s.heap.size ≤ q → A q := fun q h => by rw [← hAe]; exact Or.inr h
  clear hAe hD0
  have hS : va_S A s.heap s.heap [] := va_S.rf
  obtain ⟨w0, hw0⟩ : ∃ z, z = wt := ⟨_, rfl⟩
  have hW : tk_kp [] w0 wt := by rw [hw0]; exact tk_kp.rf
  rw [← hw0]
  clear hw0
  have hP : va_P (gg_D G) classes ([] ++ wt) s.heap := hP
  have hD : va_D A ([] ++ wt) := hD
  have hl := lv_entry ([.ref t]) (n := 1) (Nat.le_of_ble_eq_true rfl)
  rw [lg_entry_eq]
  generalize (lg_sl ([.ref t]) ++ List.replicate (1 - (lg_sl ([.ref t])).length) Slot.unset).toArray = ls at hl ⊢
  have hl : lv_has ls 1 [(0, .ref t)] := hl
  have l0 : (0 : Int32).toInt = 0 := by decide +kernel
  have l1 : (1 : Int32).toInt = 1 := by decide +kernel
  refine lv_aload_n hx hb dX0_mindsRooms_0 rfl (lv_at hl 0 rfl) ?_
  refine tr_get (ci := 0) hx hb ht hown hK hT hP k_t (by decide) i_X0 rfl 1 (by decide) wd_410 rfl dX0_mindsRooms_1 (fun v hv hf_1 => ?_)
  rcases hv with rfl | ⟨q_2, rfl, hq_2⟩
  · refine lv_ifnullN (tgt := 21) hx hb dX0_mindsRooms_4 (by decide) ?_
    refine lv_iconst (v := 0) hx hb dX0_mindsRooms_21 (by decide +kernel) ?_
    have hP9 := tw_right hP
    have hD9 := tw_rightD hD
    exact W.zret (v := 0) hx hb hr (by decide +kernel) (gq_endI wt ⟨hT, hW, (by omega), (by omega)⟩ hP9 hD9 hS) hS.2.2 dX0_mindsRooms_22
  · refine lv_ifnull hx hb dX0_mindsRooms_4 ?_
    refine lv_aload_n hx hb dX0_mindsRooms_7 rfl (lv_at hl 0 rfl) ?_
    refine tr_getK (ci := 0) hx hb ht hown hK hP i_X0 rfl 1 (by decide) wd_410 rfl hf_1 dX0_mindsRooms_8 ?_
    refine gt_callI (wr := []) (va_runV (As := []) (rest := []) ⟨hx, hb, hml, hown, ht⟩ (d_usesRooms l G Γ s.heap.size wt hT q_2 hq_2) (cwV 0 ht (ts_gV wd_1051 wd_1052 wd_1053 wd_128 wd_1054) rfl rfl rfl (by decide +kernel) ⟨Nat.le_of_ble_eq_true rfl, Nat.le_of_ble_eq_true rfl⟩) (gt_preW (ci := 4) hK hT (tw_right hP) (tw_rightD hD) hq_2 (by decide) rfl) rfl rfl hl.1 rfl (lv_room (Nat.le_of_ble_eq_true rfl)) dX0_mindsRooms_11 ⟨Nat.le_of_ble_eq_true rfl, Nat.le_of_ble_eq_true rfl⟩) hP hD hS hA (fun r_3 wt H locs hw hP hD hS => ?_)
    obtain ⟨hT, hkp, lo_r_3, hi_r_3⟩ := hw
    have hW := hW.call (show ∀ x ∈ [], x ∈ [] by decide) hkp
    have hf_1 := hkp _ _ _ _ (by decide) (by decide) hf_1
    refine lv_if_eq (tgt := 21) hx hb dX0_mindsRooms_14 (by decide) (fun c_4 => ?_) (fun c_4 => ?_)
    · rw [← Int32.toInt_inj] at c_4
      refine lv_iconst (v := 0) hx hb dX0_mindsRooms_21 (by decide +kernel) ?_
      have hP9 := tw_right hP
      have hD9 := tw_rightD hD
      exact W.zret (v := 0) hx hb hr (by decide +kernel) (gq_endI wt ⟨hT, hW, (by omega), (by omega)⟩ hP9 hD9 hS) hS.2.2 dX0_mindsRooms_22
    · rw [← Int32.toInt_inj] at c_4
      refine lv_iconst (v := 1) hx hb dX0_mindsRooms_17 (by decide +kernel) ?_
      refine lv_goto (tgt := 22) hx hb dX0_mindsRooms_18 (by decide) ?_
      have hP9 := tw_right hP
      have hD9 := tw_rightD hD
      exact W.zret (v := 1) hx hb hr (by decide +kernel) (gq_endI wt ⟨hT, hW, (by omega), (by omega)⟩ hP9 hD9 hS) hS.2.2 dX0_mindsRooms_22
set_option maxHeartbeats 4000000 in
set_option maxRecDepth 100000 in
theorem d_unwillingOf (l : Launch) (G : gg_T) (Γ : Nat → Nat) (sz : Nat) (wt : va_W) (hT : tk_ty G Γ wt) (t : Nat) (b : Int32) (w : Int32) (v : Nat) (k_t : Γ t = 1) (lo_w : 0 ≤ w.toInt) (hi_w : w.toInt ≤ 2) (k_v : Γ v = 8) : Met l yX0_unwillingOf (ts_L yX0_unwillingOf cX0_unwillingOf 7 (some .int)) ({ frames := 1, cells := 0, slots := 0, locals := 22 }) (gc_P G wt sz [.ref t, .int b, .int w, .ref v]) (gc_I G (va_A wt sz) (fun r (u : va_W) => tk_ty G Γ u ∧ tk_kp [] wt u) (fun u => u)) 0 0 (va_A wt sz) := by
  refine Met.ofW (cc := cX0_unwillingOf) (maxL := 7) (ret := (some .int)) (by decide) rfl ?_
  intro p e s m args below meth c s₁ B hml hv
  obtain ⟨rfl, hsz, hP, hK, hD0⟩ := hv
  have hx := B.exec
  have hb := B.bytes
  have hr := B.returns
  have ht := ts_ht (atoms_spec (ws := ts_L yX0_unwillingOf cX0_unwillingOf 7 (some .int)) B.pre)
  have hown : s.vm.findClass RX0 = some m.cls := findClass_of_methodNamed B.named
  have hlocks := B.notSynchronized
  subst hsz
  have hD := hD0.self (sz := s.heap.size)
  generalize hAe : va_A wt s.heap.size = A at hD ⊢
  have hA : ∀ q : Nat, s.heap.size ≤ q → A q := fun q h => by rw [← hAe]; exact Or.inr h
  clear hAe hD0
  have hS : va_S A s.heap s.heap [] := va_S.rf
  obtain ⟨w0, hw0⟩ : ∃ z, z = wt := ⟨_, rfl⟩
  have hW : tk_kp [] w0 wt := by rw [hw0]; exact tk_kp.rf
  rw [← hw0]
  clear hw0
  have hP : va_P (gg_D G) classes ([] ++ wt) s.heap := hP
  have hD : va_D A ([] ++ wt) := hD
  have hl := lv_entry ([.ref t, .int b, .int w, .ref v]) (n := 7) (Nat.le_of_ble_eq_true rfl)
  rw [lg_entry_eq]
  generalize (lg_sl ([.ref t, .int b, .int w, .ref v]) ++ List.replicate (7 - (lg_sl ([.ref t, .int b, .int w, .ref v])).length) Slot.unset).toArray = ls at hl ⊢
  have hl : lv_has ls 7 [(0, .ref t), (1, .int b), (2, .int w), (3, .ref v)] := hl
  have l0 : (0 : Int32).toInt = 0 := by decide +kernel
  have l1 : (1 : Int32).toInt = 1 := by decide +kernel
  have l5 : (5 : Int32).toInt = 5 := by decide +kernel
  refine lv_aload_n hx hb dX0_unwillingOf_0 rfl (lv_at hl 3 rfl) ?_
  refine tr_get (ci := 7) hx hb ht hown hK hT hP k_v (by decide) i_X7 rfl 5 (by decide) wd_252 rfl dX0_unwillingOf_1 (fun v hv hf_1 => ?_)
  obtain ⟨q_2, rfl, hq_2⟩ := hv
  refine lv_iload_n hx hb dX0_unwillingOf_4 rfl (lv_at hl 2 rfl) ?_
  refine tr_iald hx hb hK hT hP 21 hq_2 (by decide) (by decide) (show vp_in _ (tk_len 21) from ia_in (n := 3) (by omega) (by omega)) dX0_unwillingOf_5 (fun n_3 hn_3 => ?_)
  clear hn_3
  refine lv_istore (lv' := [(4, .int n_3), (0, .ref t), (1, .int b), (2, .int w), (3, .ref v)]) hx hb dX0_unwillingOf_6 hl (by decide) rfl (fun ls hl => ?_)
  refine lv_iconst (v := 0) hx hb dX0_unwillingOf_8 (by decide +kernel) ?_
  refine lv_istore (lv' := [(5, .int 0), (4, .int n_3), (0, .ref t), (1, .int b), (2, .int w), (3, .ref v)]) hx hb dX0_unwillingOf_9 hl (by decide) rfl (fun ls hl => ?_)
  refine lv_iconst (v := 0) hx hb dX0_unwillingOf_11 (by decide +kernel) ?_
  refine lv_istore (lv' := [(6, .int 0), (5, .int 0), (4, .int n_3), (0, .ref t), (1, .int b), (2, .int w), (3, .ref v)]) hx hb dX0_unwillingOf_12 hl (by decide) rfl (fun ls hl => ?_)
  refine tl_loopE (Γ := Γ) (nL := 7) (fun (zz_ : Int32 × Int32) => match zz_ with | (x14_0, x14_1) => 0 ≤ x14_0.toInt ∧ x14_0.toInt ≤ 5) (fun (zz_ : Int32 × Int32) => match zz_ with | (x14_0, x14_1) => (5 - x14_0.toInt).toNat) (fun (zz_ : Int32 × Int32) => match zz_ with | (x14_0, x14_1) => [(6, .int x14_0), (5, .int x14_1), (4, .int n_3), (0, .ref t), (1, .int b), (2, .int w), (3, .ref v)]) (fun (zz_ : Int32 × Int32) => match zz_ with | (x14_0, x14_1) => []) (fun (zz_ : Int32 × Int32) (w : va_W) => match zz_ with | (x14_0, x14_1) => tk_kp [] w0 w) (fun zz_ hI H locs wt ls hT hW hP hD hS hl ih14 => ?_) (0, 0) (show 0 ≤ (0 : Int32).toInt ∧ (0 : Int32).toInt ≤ 5 from ⟨by omega, by omega⟩) _ _ wt ls hT hW hP hD hS hl
  obtain ⟨x14_0, x14_1⟩ := zz_
  have hW : tk_kp [] w0 wt := hW
  have hI : 0 ≤ x14_0.toInt ∧ x14_0.toInt ≤ 5 := hI
  obtain ⟨j14_0, j14_1⟩ := hI
  have hl : lv_has ls 7 [(6, .int x14_0), (5, .int x14_1), (4, .int n_3), (0, .ref t), (1, .int b), (2, .int w), (3, .ref v)] := hl
  have hP : va_P (gg_D G) classes ([] ++ wt) H := hP
  have hD : va_D A ([] ++ wt) := hD
  refine lv_iload hx hb dX0_unwillingOf_14 (lv_at hl 0 rfl) ?_
  refine lv_iconst (v := 5) hx hb dX0_unwillingOf_16 (by decide +kernel) ?_
  refine lv_icmp_ge (tgt := 71) hx hb dX0_unwillingOf_17 (by decide) (fun c_4 => ?_) (fun c_4 => ?_)
  · rw [Int32.le_iff_toInt_le] at c_4
    refine lv_iload hx hb dX0_unwillingOf_71 (lv_at hl 1 rfl) ?_
    have hP9 := tw_right hP
    have hD9 := tw_rightD hD
    exact W.iret (v := x14_1) hx hb hr (gq_endI wt ⟨hT, hW⟩ hP9 hD9 hS) hS.2.2 dX0_unwillingOf_73
  · rw [Int32.le_iff_toInt_le] at c_4
    refine lv_iload hx hb dX0_unwillingOf_20 (lv_at hl 0 rfl) ?_
    refine lv_iload_n hx hb dX0_unwillingOf_22 rfl (lv_at hl 4 rfl) ?_
    refine gt_callI (wr := []) (va_runSN (As := [.int x14_0, .int b]) (rest := []) ⟨hx, hb, hml, hown, ht⟩ (d_isIn l G Γ H.size wt hT x14_0 b) ⟨va_cnB 2 ht (tb_good (ts_good wd_803)) rfl rfl rfl (hK.2.1 _ wn_888 rfl) (ht _ wd_122) (by decide +kernel) ⟨Nat.le_of_ble_eq_true rfl, Nat.le_of_ble_eq_true rfl⟩, ht _ wd_802, trivial⟩ (gc_preS hK (tw_right hP) (tw_rightD hD)) rfl rfl hl.1 rfl (lv_room (Nat.le_of_ble_eq_true rfl)) dX0_unwillingOf_23 ⟨Nat.le_of_ble_eq_true rfl, Nat.le_of_ble_eq_true rfl⟩) hP hD hS hA (fun r_5 wt H locs hw hP hD hS => ?_)
    obtain ⟨hT, hkp, lo_r_5, hi_r_5⟩ := hw
    have hW := hW.call (show ∀ x ∈ [], x ∈ [] by decide) hkp
    refine lv_if_eq (tgt := 65) hx hb dX0_unwillingOf_26 (by decide) (fun c_6 => ?_) (fun c_6 => ?_)
    · rw [← Int32.toInt_inj] at c_6
      obtain ⟨t_7, et_7⟩ : ∃ zz_ : Int32, x14_0 + Int32.ofInt (1) = zz_ := ⟨_, rfl⟩
      have ft_7 : t_7.toInt = x14_0.toInt + (1 : Int32).toInt := ia_add (y := 1) et_7 (by omega) (by omega)
      refine lv_iinc (v := t_7) (lv' := [(6, .int t_7), (5, .int x14_1), (4, .int n_3), (0, .ref t), (1, .int b), (2, .int w), (3, .ref v)]) hx hb dX0_unwillingOf_65 hl (k := 0) rfl et_7 (by decide) rfl (fun ls hl => ?_)
      refine lv_goto (tgt := 14) hx hb dX0_unwillingOf_68 (by decide) ?_
      exact ih14 (t_7, x14_1) (show 0 ≤ t_7.toInt ∧ t_7.toInt ≤ 5 from ⟨by omega, by omega⟩) (show (5 - t_7.toInt).toNat < (5 - x14_0.toInt).toNat by omega) H locs wt ls hT hW hP hD hS (lv_sub hl [0, 1, 2, 3, 4, 5, 6] rfl)
    · rw [← Int32.toInt_inj] at c_6
      refine lv_iload hx hb dX0_unwillingOf_29 (lv_at hl 2 rfl) ?_
      refine lv_aload_n hx hb dX0_unwillingOf_31 rfl (lv_at hl 3 rfl) ?_
      refine tr_get (ci := 0) hx hb ht hown hK hT hP k_t (by decide) i_X0 rfl 0 (by decide) wd_409 rfl dX0_unwillingOf_32 (fun v hv hf_8 => ?_)
      obtain ⟨q_9, rfl, hq_9⟩ := hv
      refine lv_iload hx hb dX0_unwillingOf_35 (lv_at hl 0 rfl) ?_
      refine lv_iload_n hx hb dX0_unwillingOf_37 rfl (lv_at hl 5 rfl) ?_
      refine gt_callI (wr := []) (va_runV (As := [.int x14_0, .int w]) (rest := [.int n_3]) ⟨hx, hb, hml, hown, ht⟩ (d_worthTo l G Γ H.size wt hT q_9 x14_0 w hq_9 (by omega) (by omega) (by omega) (by omega)) (cwV 2 ht (ts_gV wd_889 wd_813 wd_814 wd_124 wd_815) rfl rfl rfl (by decide +kernel) ⟨Nat.le_of_ble_eq_true rfl, Nat.le_of_ble_eq_true rfl⟩) (gt_preW (ci := 9) hK hT (tw_right hP) (tw_rightD hD) hq_9 (by decide) rfl) rfl rfl hl.1 rfl (lv_room (Nat.le_of_ble_eq_true rfl)) dX0_unwillingOf_38 ⟨Nat.le_of_ble_eq_true rfl, Nat.le_of_ble_eq_true rfl⟩) hP hD hS hA (fun r_10 wt H locs hw hP hD hS => ?_)
      obtain ⟨hT, hkp⟩ := hw
      have hW := hW.call (show ∀ x ∈ [], x ∈ [] by decide) hkp
      have hf_8 := hkp _ _ _ _ (by decide) (by decide) hf_8
      refine lv_icmp_ge (tgt := 56) hx hb dX0_unwillingOf_41 (by decide) (fun c_11 => ?_) (fun c_11 => ?_)
      · rw [Int32.le_iff_toInt_le] at c_11
        refine lv_iload hx hb dX0_unwillingOf_56 (lv_at hl 1 rfl) ?_
        refine lv_iconst (v := 1) hx hb dX0_unwillingOf_58 (by decide +kernel) ?_
        refine lv_iload hx hb dX0_unwillingOf_59 (lv_at hl 0 rfl) ?_
        obtain ⟨t_12, et_12⟩ : ∃ zz_ : Int32, 1 <<< (x14_0 &&& 31) = zz_ := ⟨_, rfl⟩
        refine gq_ishl hx hb t_12 et_12 dX0_unwillingOf_61 ?_
        have ft_12 := ia_bit et_12 (by omega) (by omega)
        obtain ⟨t_13, et_13⟩ : ∃ zz_ : Int32, x14_1 ||| t_12 = zz_ := ⟨_, rfl⟩
        refine gq_ior hx hb t_13 et_13 dX0_unwillingOf_62 ?_
        refine lv_istore (lv' := [(5, .int t_13), (6, .int x14_0), (4, .int n_3), (0, .ref t), (1, .int b), (2, .int w), (3, .ref v)]) hx hb dX0_unwillingOf_63 hl (by decide) rfl (fun ls hl => ?_)
        obtain ⟨t_14, et_14⟩ : ∃ zz_ : Int32, x14_0 + Int32.ofInt (1) = zz_ := ⟨_, rfl⟩
        have ft_14 : t_14.toInt = x14_0.toInt + (1 : Int32).toInt := ia_add (y := 1) et_14 (by omega) (by omega)
        refine lv_iinc (v := t_14) (lv' := [(6, .int t_14), (5, .int t_13), (4, .int n_3), (0, .ref t), (1, .int b), (2, .int w), (3, .ref v)]) hx hb dX0_unwillingOf_65 hl (k := 1) rfl et_14 (by decide) rfl (fun ls hl => ?_)
        refine lv_goto (tgt := 14) hx hb dX0_unwillingOf_68 (by decide) ?_
        exact ih14 (t_14, t_13) (show 0 ≤ t_14.toInt ∧ t_14.toInt ≤ 5 from ⟨by omega, by omega⟩) (show (5 - t_14.toInt).toNat < (5 - x14_0.toInt).toNat by omega) H locs wt ls hT hW hP hD hS (lv_sub hl [0, 1, 2, 3, 4, 5, 6] rfl)
      · rw [Int32.le_iff_toInt_le] at c_11
        refine lv_iload hx hb dX0_unwillingOf_44 (lv_at hl 2 rfl) ?_
        refine lv_aload_n hx hb dX0_unwillingOf_46 rfl (lv_at hl 6 rfl) ?_
        refine tr_get (ci := 7) hx hb ht hown hK hT hP k_v (by decide) i_X7 rfl 0 (by decide) wd_233 rfl dX0_unwillingOf_47 (fun v hv hf_15 => ?_)
        obtain ⟨q_16, rfl, hq_16⟩ := hv
        refine lv_iload hx hb dX0_unwillingOf_50 (lv_at hl 0 rfl) ?_
        refine tr_iald hx hb hK hT hP 20 hq_16 (by decide) (by decide) (show vp_in _ (tk_len 20) from ia_in (n := 5) (by omega) (by omega)) dX0_unwillingOf_52 (fun n_17 hn_17 => ?_)
        clear hn_17
        refine lv_icmp_lt (tgt := 65) hx hb dX0_unwillingOf_53 (by decide) (fun c_18 => ?_) (fun c_18 => ?_)
        · rw [Int32.lt_iff_toInt_lt] at c_18
          obtain ⟨t_19, et_19⟩ : ∃ zz_ : Int32, x14_0 + Int32.ofInt (1) = zz_ := ⟨_, rfl⟩
          have ft_19 : t_19.toInt = x14_0.toInt + (1 : Int32).toInt := ia_add (y := 1) et_19 (by omega) (by omega)
          refine lv_iinc (v := t_19) (lv' := [(6, .int t_19), (5, .int x14_1), (4, .int n_3), (0, .ref t), (1, .int b), (2, .int w), (3, .ref v)]) hx hb dX0_unwillingOf_65 hl (k := 0) rfl et_19 (by decide) rfl (fun ls hl => ?_)
          refine lv_goto (tgt := 14) hx hb dX0_unwillingOf_68 (by decide) ?_
          exact ih14 (t_19, x14_1) (show 0 ≤ t_19.toInt ∧ t_19.toInt ≤ 5 from ⟨by omega, by omega⟩) (show (5 - t_19.toInt).toNat < (5 - x14_0.toInt).toNat by omega) H locs wt ls hT hW hP hD hS (lv_sub hl [0, 1, 2, 3, 4, 5, 6] rfl)
        · rw [Int32.lt_iff_toInt_lt] at c_18
          refine lv_iload hx hb dX0_unwillingOf_56 (lv_at hl 1 rfl) ?_
          refine lv_iconst (v := 1) hx hb dX0_unwillingOf_58 (by decide +kernel) ?_
          refine lv_iload hx hb dX0_unwillingOf_59 (lv_at hl 0 rfl) ?_
          obtain ⟨t_20, et_20⟩ : ∃ zz_ : Int32, 1 <<< (x14_0 &&& 31) = zz_ := ⟨_, rfl⟩
          refine gq_ishl hx hb t_20 et_20 dX0_unwillingOf_61 ?_
          have ft_20 := ia_bit et_20 (by omega) (by omega)
          obtain ⟨t_21, et_21⟩ : ∃ zz_ : Int32, x14_1 ||| t_20 = zz_ := ⟨_, rfl⟩
          refine gq_ior hx hb t_21 et_21 dX0_unwillingOf_62 ?_
          refine lv_istore (lv' := [(5, .int t_21), (6, .int x14_0), (4, .int n_3), (0, .ref t), (1, .int b), (2, .int w), (3, .ref v)]) hx hb dX0_unwillingOf_63 hl (by decide) rfl (fun ls hl => ?_)
          obtain ⟨t_22, et_22⟩ : ∃ zz_ : Int32, x14_0 + Int32.ofInt (1) = zz_ := ⟨_, rfl⟩
          have ft_22 : t_22.toInt = x14_0.toInt + (1 : Int32).toInt := ia_add (y := 1) et_22 (by omega) (by omega)
          refine lv_iinc (v := t_22) (lv' := [(6, .int t_22), (5, .int t_21), (4, .int n_3), (0, .ref t), (1, .int b), (2, .int w), (3, .ref v)]) hx hb dX0_unwillingOf_65 hl (k := 1) rfl et_22 (by decide) rfl (fun ls hl => ?_)
          refine lv_goto (tgt := 14) hx hb dX0_unwillingOf_68 (by decide) ?_
          exact ih14 (t_22, t_21) (show 0 ≤ t_22.toInt ∧ t_22.toInt ≤ 5 from ⟨by omega, by omega⟩) (show (5 - t_22.toInt).toNat < (5 - x14_0.toInt).toNat by omega) H locs wt ls hT hW hP hD hS (lv_sub hl [0, 1, 2, 3, 4, 5, 6] rfl)
set_option maxHeartbeats 4000000 in
set_option maxRecDepth 100000 in
theorem d_coughersOf (l : Launch) (G : gg_T) (Γ : Nat → Nat) (sz : Nat) (wt : va_W) (hT : tk_ty G Γ wt) (b : Int32) (v : Nat) (k_v : Γ v = 8) : Met l yX0_coughersOf (ts_L yX0_coughersOf cX0_coughersOf 4 (some .int)) ({ frames := 1, cells := 0, slots := 0, locals := 21 }) (gc_P G wt sz [.int b, .ref v]) (gc_I G (va_A wt sz) (fun r (u : va_W) => tk_ty G Γ u ∧ tk_kp [] wt u) (fun u => u)) 0 0 (va_A wt sz) := by
  refine Met.ofW (cc := cX0_coughersOf) (maxL := 4) (ret := (some .int)) (by decide) rfl ?_
  intro p e s m args below meth c s₁ B hml hv
  obtain ⟨rfl, hsz, hP, hK, hD0⟩ := hv
  have hx := B.exec
  have hb := B.bytes
  have hr := B.returns
  have ht := ts_ht (atoms_spec (ws := ts_L yX0_coughersOf cX0_coughersOf 4 (some .int)) B.pre)
  have hown : s.vm.findClass RX0 = some m.cls := findClass_of_methodNamed B.named
  have hlocks := B.notSynchronized
  subst hsz
  have hD := hD0.self (sz := s.heap.size)
  generalize hAe : va_A wt s.heap.size = A at hD ⊢
  have hA : ∀ q : Nat, s.heap.size ≤ q → A q := fun q h => by rw [← hAe]; exact Or.inr h
  clear hAe hD0
  have hS : va_S A s.heap s.heap [] := va_S.rf
  obtain ⟨w0, hw0⟩ : ∃ z, z = wt := ⟨_, rfl⟩
  have hW : tk_kp [] w0 wt := by rw [hw0]; exact tk_kp.rf
  rw [← hw0]
  clear hw0
  have hP : va_P (gg_D G) classes ([] ++ wt) s.heap := hP
  have hD : va_D A ([] ++ wt) := hD
  have hl := lv_entry ([.int b, .ref v]) (n := 4) (Nat.le_of_ble_eq_true rfl)
  rw [lg_entry_eq]
  generalize (lg_sl ([.int b, .ref v]) ++ List.replicate (4 - (lg_sl ([.int b, .ref v])).length) Slot.unset).toArray = ls at hl ⊢
  have hl : lv_has ls 4 [(0, .int b), (1, .ref v)] := hl
  have l0 : (0 : Int32).toInt = 0 := by decide +kernel
  have l1 : (1 : Int32).toInt = 1 := by decide +kernel
  have l5 : (5 : Int32).toInt = 5 := by decide +kernel
  refine lv_iconst (v := 0) hx hb dX0_coughersOf_0 (by decide +kernel) ?_
  refine lv_istore_n (lv' := [(2, .int 0), (0, .int b), (1, .ref v)]) hx hb dX0_coughersOf_1 rfl hl (by decide) rfl (fun ls hl => ?_)
  refine lv_iconst (v := 0) hx hb dX0_coughersOf_2 (by decide +kernel) ?_
  refine lv_istore_n (lv' := [(3, .int 0), (2, .int 0), (0, .int b), (1, .ref v)]) hx hb dX0_coughersOf_3 rfl hl (by decide) rfl (fun ls hl => ?_)
  refine tl_loopE (Γ := Γ) (nL := 4) (fun (zz_ : Int32 × Int32) => match zz_ with | (x4_0, x4_1) => 0 ≤ x4_0.toInt ∧ x4_0.toInt ≤ 5) (fun (zz_ : Int32 × Int32) => match zz_ with | (x4_0, x4_1) => (5 - x4_0.toInt).toNat) (fun (zz_ : Int32 × Int32) => match zz_ with | (x4_0, x4_1) => [(3, .int x4_0), (2, .int x4_1), (0, .int b), (1, .ref v)]) (fun (zz_ : Int32 × Int32) => match zz_ with | (x4_0, x4_1) => []) (fun (zz_ : Int32 × Int32) (w : va_W) => match zz_ with | (x4_0, x4_1) => tk_kp [] w0 w) (fun zz_ hI H locs wt ls hT hW hP hD hS hl ih4 => ?_) (0, 0) (show 0 ≤ (0 : Int32).toInt ∧ (0 : Int32).toInt ≤ 5 from ⟨by omega, by omega⟩) _ _ wt ls hT hW hP hD hS hl
  obtain ⟨x4_0, x4_1⟩ := zz_
  have hW : tk_kp [] w0 wt := hW
  have hI : 0 ≤ x4_0.toInt ∧ x4_0.toInt ≤ 5 := hI
  obtain ⟨j4_0, j4_1⟩ := hI
  have hl : lv_has ls 4 [(3, .int x4_0), (2, .int x4_1), (0, .int b), (1, .ref v)] := hl
  have hP : va_P (gg_D G) classes ([] ++ wt) H := hP
  have hD : va_D A ([] ++ wt) := hD
  refine lv_iload_n hx hb dX0_coughersOf_4 rfl (lv_at hl 0 rfl) ?_
  refine lv_iconst (v := 5) hx hb dX0_coughersOf_5 (by decide +kernel) ?_
  refine lv_icmp_ge (tgt := 60) hx hb dX0_coughersOf_6 (by decide) (fun c_1 => ?_) (fun c_1 => ?_)
  · rw [Int32.le_iff_toInt_le] at c_1
    refine lv_iload_n hx hb dX0_coughersOf_60 rfl (lv_at hl 1 rfl) ?_
    have hP9 := tw_right hP
    have hD9 := tw_rightD hD
    exact W.iret (v := x4_1) hx hb hr (gq_endI wt ⟨hT, hW⟩ hP9 hD9 hS) hS.2.2 dX0_coughersOf_61
  · rw [Int32.le_iff_toInt_le] at c_1
    refine lv_iload_n hx hb dX0_coughersOf_9 rfl (lv_at hl 0 rfl) ?_
    refine lv_iload_n hx hb dX0_coughersOf_10 rfl (lv_at hl 2 rfl) ?_
    refine gt_callI (wr := []) (va_runSN (As := [.int x4_0, .int b]) (rest := []) ⟨hx, hb, hml, hown, ht⟩ (d_isIn l G Γ H.size wt hT x4_0 b) ⟨va_cnB 2 ht (tb_good (ts_good wd_803)) rfl rfl rfl (hK.2.1 _ wn_888 rfl) (ht _ wd_122) (by decide +kernel) ⟨Nat.le_of_ble_eq_true rfl, Nat.le_of_ble_eq_true rfl⟩, ht _ wd_802, trivial⟩ (gc_preS hK (tw_right hP) (tw_rightD hD)) rfl rfl hl.1 rfl (lv_room (Nat.le_of_ble_eq_true rfl)) dX0_coughersOf_11 ⟨Nat.le_of_ble_eq_true rfl, Nat.le_of_ble_eq_true rfl⟩) hP hD hS hA (fun r_2 wt H locs hw hP hD hS => ?_)
    obtain ⟨hT, hkp, lo_r_2, hi_r_2⟩ := hw
    have hW := hW.call (show ∀ x ∈ [], x ∈ [] by decide) hkp
    refine lv_if_eq (tgt := 54) hx hb dX0_coughersOf_14 (by decide) (fun c_3 => ?_) (fun c_3 => ?_)
    · rw [← Int32.toInt_inj] at c_3
      obtain ⟨t_4, et_4⟩ : ∃ zz_ : Int32, x4_0 + Int32.ofInt (1) = zz_ := ⟨_, rfl⟩
      have ft_4 : t_4.toInt = x4_0.toInt + (1 : Int32).toInt := ia_add (y := 1) et_4 (by omega) (by omega)
      refine lv_iinc (v := t_4) (lv' := [(3, .int t_4), (2, .int x4_1), (0, .int b), (1, .ref v)]) hx hb dX0_coughersOf_54 hl (k := 0) rfl et_4 (by decide) rfl (fun ls hl => ?_)
      refine lv_goto (tgt := 4) hx hb dX0_coughersOf_57 (by decide) ?_
      exact ih4 (t_4, x4_1) (show 0 ≤ t_4.toInt ∧ t_4.toInt ≤ 5 from ⟨by omega, by omega⟩) (show (5 - t_4.toInt).toNat < (5 - x4_0.toInt).toNat by omega) H locs wt ls hT hW hP hD hS (lv_sub hl [0, 1, 2, 3] rfl)
    · rw [← Int32.toInt_inj] at c_3
      refine lv_aload_n hx hb dX0_coughersOf_17 rfl (lv_at hl 3 rfl) ?_
      refine tr_get (ci := 7) hx hb ht hown hK hT hP k_v (by decide) i_X7 rfl 1 (by decide) wd_237 rfl dX0_coughersOf_18 (fun v hv hf_5 => ?_)
      obtain ⟨q_6, rfl, hq_6⟩ := hv
      refine lv_iload_n hx hb dX0_coughersOf_21 rfl (lv_at hl 0 rfl) ?_
      refine lv_iconst (v := 0) hx hb dX0_coughersOf_22 (by decide +kernel) ?_
      refine lv_aload_n hx hb dX0_coughersOf_23 rfl (lv_at hl 3 rfl) ?_
      refine tr_get (ci := 7) hx hb ht hown hK hT hP k_v (by decide) i_X7 rfl 1 (by decide) wd_237 rfl dX0_coughersOf_24 (fun v hv hf_7 => ?_)
      obtain ⟨q_8, rfl, hq_8⟩ := hv
      refine lv_iload_n hx hb dX0_coughersOf_27 rfl (lv_at hl 0 rfl) ?_
      refine tr_iald hx hb hK hT hP 20 hq_8 (by decide) (by decide) (show vp_in _ (tk_len 20) from ia_in (n := 5) (by omega) (by omega)) dX0_coughersOf_28 (fun n_9 hn_9 => ?_)
      clear hn_9
      refine lv_iconst (v := 1) hx hb dX0_coughersOf_29 (by decide +kernel) ?_
      obtain ⟨t_10, et_10⟩ : ∃ zz_ : Int32, n_9 - 1 = zz_ := ⟨_, rfl⟩
      refine gq_isub hx hb t_10 et_10 dX0_coughersOf_30 ?_
      refine va_mmax hx hb (by rw [hml]; exact hl.1.symm) hown (ht _ wd_921) (ht _ wd_909) (ht _ wd_140) (ht _ wd_910) (Nat.le_of_ble_eq_true rfl) (Nat.le_of_ble_eq_true rfl) (Nat.zero_le _) (Nat.zero_le _) dX0_coughersOf_31 ?_
      refine lv_topi (fun t_11 et_11 => ?_)
      have ft_11 := ia_max et_11.symm
      refine tr_iast hx hb hK hT hP hD hS 20 hq_6 (by decide) (by decide) (show vp_in _ (tk_len 20) from ia_in (n := 5) (by omega) (by omega)) (show tk_e 20 _ from trivial) dX0_coughersOf_34 (fun H locs wt hT hfl hP hD hS => ?_)
      have hW := hW.arr hfl
      refine lv_iload_n hx hb dX0_coughersOf_35 rfl (lv_at hl 1 rfl) ?_
      refine lv_aload_n hx hb dX0_coughersOf_36 rfl (lv_at hl 3 rfl) ?_
      refine tr_get (ci := 7) hx hb ht hown hK hT hP k_v (by decide) i_X7 rfl 1 (by decide) wd_237 rfl dX0_coughersOf_37 (fun v hv hf_12 => ?_)
      obtain ⟨q_13, rfl, hq_13⟩ := hv
      refine lv_iload_n hx hb dX0_coughersOf_40 rfl (lv_at hl 0 rfl) ?_
      refine tr_iald hx hb hK hT hP 20 hq_13 (by decide) (by decide) (show vp_in _ (tk_len 20) from ia_in (n := 5) (by omega) (by omega)) dX0_coughersOf_41 (fun n_14 hn_14 => ?_)
      clear hn_14
      refine lv_if_ne (tgt := 51) hx hb dX0_coughersOf_42 (by decide) (fun c_15 => ?_) (fun c_15 => ?_)
      · rw [← Int32.toInt_inj] at c_15
        refine lv_iconst (v := 0) hx hb dX0_coughersOf_51 (by decide +kernel) ?_
        obtain ⟨t_16, et_16⟩ : ∃ zz_ : Int32, x4_1 ||| 0 = zz_ := ⟨_, rfl⟩
        refine gq_ior hx hb t_16 et_16 dX0_coughersOf_52 ?_
        refine lv_istore_n (lv' := [(2, .int t_16), (3, .int x4_0), (0, .int b), (1, .ref v)]) hx hb dX0_coughersOf_53 rfl hl (by decide) rfl (fun ls hl => ?_)
        obtain ⟨t_17, et_17⟩ : ∃ zz_ : Int32, x4_0 + Int32.ofInt (1) = zz_ := ⟨_, rfl⟩
        have ft_17 : t_17.toInt = x4_0.toInt + (1 : Int32).toInt := ia_add (y := 1) et_17 (by omega) (by omega)
        refine lv_iinc (v := t_17) (lv' := [(3, .int t_17), (2, .int t_16), (0, .int b), (1, .ref v)]) hx hb dX0_coughersOf_54 hl (k := 1) rfl et_17 (by decide) rfl (fun ls hl => ?_)
        refine lv_goto (tgt := 4) hx hb dX0_coughersOf_57 (by decide) ?_
        exact ih4 (t_17, t_16) (show 0 ≤ t_17.toInt ∧ t_17.toInt ≤ 5 from ⟨by omega, by omega⟩) (show (5 - t_17.toInt).toNat < (5 - x4_0.toInt).toNat by omega) H locs wt ls hT hW hP hD hS (lv_sub hl [0, 1, 2, 3] rfl)
      · rw [← Int32.toInt_inj] at c_15
        refine lv_iconst (v := 1) hx hb dX0_coughersOf_45 (by decide +kernel) ?_
        refine lv_iload_n hx hb dX0_coughersOf_46 rfl (lv_at hl 0 rfl) ?_
        obtain ⟨t_18, et_18⟩ : ∃ zz_ : Int32, 1 <<< (x4_0 &&& 31) = zz_ := ⟨_, rfl⟩
        refine gq_ishl hx hb t_18 et_18 dX0_coughersOf_47 ?_
        have ft_18 := ia_bit et_18 (by omega) (by omega)
        refine lv_goto (tgt := 52) hx hb dX0_coughersOf_48 (by decide) ?_
        obtain ⟨t_19, et_19⟩ : ∃ zz_ : Int32, x4_1 ||| t_18 = zz_ := ⟨_, rfl⟩
        refine gq_ior hx hb t_19 et_19 dX0_coughersOf_52 ?_
        refine lv_istore_n (lv' := [(2, .int t_19), (3, .int x4_0), (0, .int b), (1, .ref v)]) hx hb dX0_coughersOf_53 rfl hl (by decide) rfl (fun ls hl => ?_)
        obtain ⟨t_20, et_20⟩ : ∃ zz_ : Int32, x4_0 + Int32.ofInt (1) = zz_ := ⟨_, rfl⟩
        have ft_20 : t_20.toInt = x4_0.toInt + (1 : Int32).toInt := ia_add (y := 1) et_20 (by omega) (by omega)
        refine lv_iinc (v := t_20) (lv' := [(3, .int t_20), (2, .int t_19), (0, .int b), (1, .ref v)]) hx hb dX0_coughersOf_54 hl (k := 1) rfl et_20 (by decide) rfl (fun ls hl => ?_)
        refine lv_goto (tgt := 4) hx hb dX0_coughersOf_57 (by decide) ?_
        exact ih4 (t_20, t_19) (show 0 ≤ t_20.toInt ∧ t_20.toInt ≤ 5 from ⟨by omega, by omega⟩) (show (5 - t_20.toInt).toNat < (5 - x4_0.toInt).toNat by omega) H locs wt ls hT hW hP hD hS (lv_sub hl [0, 1, 2, 3] rfl)
set_option maxHeartbeats 4000000 in
set_option maxRecDepth 100000 in
theorem d_settle (l : Launch) (G : gg_T) (Γ : Nat → Nat) (sz : Nat) (wt : va_W) (hT : tk_ty G Γ wt) (t : Nat) (v : Nat) (w : Int32) (k_t : Γ t = 1) (k_v : Γ v = 8) (lo_w : 0 ≤ w.toInt) (hi_w : w.toInt ≤ 2) : Met l yX0_settle (ts_L yX0_settle cX0_settle 5 none) ({ frames := 1, cells := 0, slots := 0, locals := 24 }) (gc_P G wt sz [.ref t, .ref v, .int w]) (gc_V G (va_A wt sz) (fun (u : va_W) => tk_ty G Γ u ∧ tk_kp [] wt u) (fun u => u)) 0 0 (va_A wt sz) := by
  refine Met.ofW (cc := cX0_settle) (maxL := 5) (ret := none) (by decide) rfl ?_
  intro p e s m args below meth c s₁ B hml hv
  obtain ⟨rfl, hsz, hP, hK, hD0⟩ := hv
  have hx := B.exec
  have hb := B.bytes
  have hr := B.returns
  have ht := ts_ht (atoms_spec (ws := ts_L yX0_settle cX0_settle 5 none) B.pre)
  have hown : s.vm.findClass RX0 = some m.cls := findClass_of_methodNamed B.named
  have hlocks := B.notSynchronized
  subst hsz
  have hD := hD0.self (sz := s.heap.size)
  generalize hAe : va_A wt s.heap.size = A at hD ⊢
  have hA : ∀ q : Nat, s.heap.size ≤ q → A q := fun q h => by rw [← hAe]; exact Or.inr h
  clear hAe hD0
  have hS : va_S A s.heap s.heap [] := va_S.rf
  obtain ⟨w0, hw0⟩ : ∃ z, z = wt := ⟨_, rfl⟩
  have hW : tk_kp [] w0 wt := by rw [hw0]; exact tk_kp.rf
  rw [← hw0]
  clear hw0
  have hP : va_P (gg_D G) classes ([] ++ wt) s.heap := hP
  have hD : va_D A ([] ++ wt) := hD
  have hl := lv_entry ([.ref t, .ref v, .int w]) (n := 5) (Nat.le_of_ble_eq_true rfl)
  rw [lg_entry_eq]
  generalize (lg_sl ([.ref t, .ref v, .int w]) ++ List.replicate (5 - (lg_sl ([.ref t, .ref v, .int w])).length) Slot.unset).toArray = ls at hl ⊢
  have hl : lv_has ls 5 [(0, .ref t), (1, .ref v), (2, .int w)] := hl
  have lm1 : ((-1) : Int32).toInt = -1 := by decide +kernel
  have l0 : (0 : Int32).toInt = 0 := by decide +kernel
  have l1 : (1 : Int32).toInt = 1 := by decide +kernel
  refine lv_aload_n hx hb dX0_settle_0 rfl (lv_at hl 1 rfl) ?_
  refine tr_get (ci := 7) hx hb ht hown hK hT hP k_v (by decide) i_X7 rfl 8 (by decide) wd_263 rfl dX0_settle_1 (fun v hv hf_1 => ?_)
  obtain ⟨q_2, rfl, hq_2⟩ := hv
  refine lv_iload_n hx hb dX0_settle_4 rfl (lv_at hl 2 rfl) ?_
  refine tr_iald hx hb hK hT hP 22 hq_2 (by decide) (by decide) (show vp_in _ (tk_len 22) from ia_in (n := 3) (by omega) (by omega)) dX0_settle_5 (fun n_3 hn_3 => ?_)
  have hn_3 : 0 ≤ n_3.toInt ∧ n_3.toInt ≤ 31 := hn_3
  refine lv_istore_n (lv' := [(3, .int n_3), (0, .ref t), (1, .ref v), (2, .int w)]) hx hb dX0_settle_6 rfl hl (by decide) rfl (fun ls hl => ?_)
  refine lv_iload_n hx hb dX0_settle_7 rfl (lv_at hl 0 rfl) ?_
  refine gt_callI (wr := []) (va_runS (As := [.int n_3]) (rest := []) ⟨hx, hb, hml, hown, ht⟩ (d_bitCount l G Γ s.heap.size wt hT n_3) (va_cwS 1 ht (ts_gS wd_926 wd_895 wd_141 wd_896) rfl rfl rfl (by decide +kernel) ⟨Nat.le_of_ble_eq_true rfl, Nat.le_of_ble_eq_true rfl⟩) (gc_preS hK (tw_right hP) (tw_rightD hD)) rfl rfl hl.1 rfl (lv_room (Nat.le_of_ble_eq_true rfl)) dX0_settle_8 ⟨Nat.le_of_ble_eq_true rfl, Nat.le_of_ble_eq_true rfl⟩) hP hD hS hA (fun r_4 wt H locs hw hP hD hS => ?_)
  obtain ⟨hT, hkp⟩ := hw
  have hW := hW.call (show ∀ x ∈ [], x ∈ [] by decide) hkp
  refine lv_iconst (v := 1) hx hb dX0_settle_11 (by decide +kernel) ?_
  refine lv_icmp_ne (tgt := 47) hx hb dX0_settle_12 (by decide) (fun c_5 => ?_) (fun c_5 => ?_)
  · rw [← Int32.toInt_inj] at c_5
    refine lv_iload_n hx hb dX0_settle_47 rfl (lv_at hl 0 rfl) ?_
    refine lv_if_eq (tgt := 67) hx hb dX0_settle_48 (by decide) (fun c_6 => ?_) (fun c_6 => ?_)
    · rw [← Int32.toInt_inj] at c_6
      refine lv_aload_n hx hb dX0_settle_67 rfl (lv_at hl 2 rfl) ?_
      refine lv_iload_n hx hb dX0_settle_68 rfl (lv_at hl 3 rfl) ?_
      refine lv_iconst (v := (-1)) hx hb dX0_settle_69 (by decide +kernel) ?_
      refine lv_iconst (v := 0) hx hb dX0_settle_70 (by decide +kernel) ?_
      refine gt_callV (wr := []) (va_runV (As := [.int w, .int (-1), .int 0]) (rest := []) ⟨hx, hb, hml, hown, ht⟩ (d_finish l G Γ H.size wt hT v w (-1) 0 k_v (by omega) (by omega)) (cwV 3 ht (ts_gV wd_931 wd_932 wd_933 wd_125 wd_934) rfl rfl rfl (by decide +kernel) ⟨Nat.le_of_ble_eq_true rfl, Nat.le_of_ble_eq_true rfl⟩) (gt_preW (ci := 7) hK hT (tw_right hP) (tw_rightD hD) k_v (by decide) rfl) rfl rfl hl.1 rfl (lv_room (Nat.le_of_ble_eq_true rfl)) dX0_settle_71 ⟨Nat.le_of_ble_eq_true rfl, Nat.le_of_ble_eq_true rfl⟩) hP hD hS hA (fun wt H locs hw hP hD hS => ?_)
      obtain ⟨hT, hkp⟩ := hw
      have hW := hW.call (show ∀ x ∈ [], x ∈ [] by decide) hkp
      have hP9 := tw_right hP
      have hD9 := tw_rightD hD
      exact W.vret hx hb hr (gq_endV wt ⟨hT, hW⟩ hP9 hD9 hS) hS.2.2 dX0_settle_74
    · rw [← Int32.toInt_inj] at c_6
      refine lv_aload_n hx hb dX0_settle_51 rfl (lv_at hl 2 rfl) ?_
      refine tr_get (ci := 7) hx hb ht hown hK hT hP k_v (by decide) i_X7 rfl 5 (by decide) wd_252 rfl dX0_settle_52 (fun v hv hf_7 => ?_)
      obtain ⟨q_8, rfl, hq_8⟩ := hv
      refine lv_iload_n hx hb dX0_settle_55 rfl (lv_at hl 3 rfl) ?_
      refine tr_iald hx hb hK hT hP 21 hq_8 (by decide) (by decide) (show vp_in _ (tk_len 21) from ia_in (n := 3) (by omega) (by omega)) dX0_settle_56 (fun n_9 hn_9 => ?_)
      clear hn_9
      refine lv_aload_n hx hb dX0_settle_57 rfl (lv_at hl 1 rfl) ?_
      refine tr_get (ci := 0) hx hb ht hown hK hT hP k_t (by decide) i_X0 rfl 0 (by decide) wd_409 rfl dX0_settle_58 (fun v hv hf_10 => ?_)
      obtain ⟨q_11, rfl, hq_11⟩ := hv
      refine tr_get (ci := 9) hx hb ht hown hK hT hP hq_11 (by decide) i_X9 rfl 0 (by decide) wd_181 rfl dX0_settle_61 (fun v hv hf_12 => ?_)
      obtain ⟨n_13, rfl⟩ := hv
      refine lv_icmp_lt (tgt := 74) hx hb dX0_settle_64 (by decide) (fun c_14 => ?_) (fun c_14 => ?_)
      · rw [Int32.lt_iff_toInt_lt] at c_14
        have hP9 := tw_right hP
        have hD9 := tw_rightD hD
        exact W.vret hx hb hr (gq_endV wt ⟨hT, hW⟩ hP9 hD9 hS) hS.2.2 dX0_settle_74
      · rw [Int32.lt_iff_toInt_lt] at c_14
        refine lv_aload_n hx hb dX0_settle_67 rfl (lv_at hl 2 rfl) ?_
        refine lv_iload_n hx hb dX0_settle_68 rfl (lv_at hl 3 rfl) ?_
        refine lv_iconst (v := (-1)) hx hb dX0_settle_69 (by decide +kernel) ?_
        refine lv_iconst (v := 0) hx hb dX0_settle_70 (by decide +kernel) ?_
        refine gt_callV (wr := []) (va_runV (As := [.int w, .int (-1), .int 0]) (rest := []) ⟨hx, hb, hml, hown, ht⟩ (d_finish l G Γ H.size wt hT v w (-1) 0 k_v (by omega) (by omega)) (cwV 3 ht (ts_gV wd_931 wd_932 wd_933 wd_125 wd_934) rfl rfl rfl (by decide +kernel) ⟨Nat.le_of_ble_eq_true rfl, Nat.le_of_ble_eq_true rfl⟩) (gt_preW (ci := 7) hK hT (tw_right hP) (tw_rightD hD) k_v (by decide) rfl) rfl rfl hl.1 rfl (lv_room (Nat.le_of_ble_eq_true rfl)) dX0_settle_71 ⟨Nat.le_of_ble_eq_true rfl, Nat.le_of_ble_eq_true rfl⟩) hP hD hS hA (fun wt H locs hw hP hD hS => ?_)
        obtain ⟨hT, hkp⟩ := hw
        have hW := hW.call (show ∀ x ∈ [], x ∈ [] by decide) hkp
        have hf_10 := hkp _ _ _ _ (by decide) (by decide) hf_10
        have hf_12 := hkp _ _ _ _ (by decide) (by decide) hf_12
        have hP9 := tw_right hP
        have hD9 := tw_rightD hD
        exact W.vret hx hb hr (gq_endV wt ⟨hT, hW⟩ hP9 hD9 hS) hS.2.2 dX0_settle_74
  · rw [← Int32.toInt_inj] at c_5
    refine lv_iload_n hx hb dX0_settle_15 rfl (lv_at hl 0 rfl) ?_
    refine gt_callI (wr := []) (va_runSN (As := [.int n_3]) (rest := []) ⟨hx, hb, hml, hown, ht⟩ (d_lowest5 l G Γ H.size wt hT n_3 (by omega) (by omega)) ⟨va_cnB 1 ht (tb_good (ts_good wd_929)) rfl rfl rfl (hK.2.1 _ wn_927 rfl) (ht _ wd_122) (by decide +kernel) ⟨Nat.le_of_ble_eq_true rfl, Nat.le_of_ble_eq_true rfl⟩, ht _ wd_928, trivial⟩ (gc_preS hK (tw_right hP) (tw_rightD hD)) rfl rfl hl.1 rfl (lv_room (Nat.le_of_ble_eq_true rfl)) dX0_settle_16 ⟨Nat.le_of_ble_eq_true rfl, Nat.le_of_ble_eq_true rfl⟩) hP hD hS hA (fun r_15 wt H locs hw hP hD hS => ?_)
    obtain ⟨hT, hkp, lo_r_15, hi_r_15⟩ := hw
    have hW := hW.call (show ∀ x ∈ [], x ∈ [] by decide) hkp
    refine lv_istore (lv' := [(4, .int r_15), (3, .int n_3), (0, .ref t), (1, .ref v), (2, .int w)]) hx hb dX0_settle_19 hl (by decide) rfl (fun ls hl => ?_)
    refine lv_aload_n hx hb dX0_settle_21 rfl (lv_at hl 3 rfl) ?_
    refine lv_iload_n hx hb dX0_settle_22 rfl (lv_at hl 4 rfl) ?_
    refine lv_iload hx hb dX0_settle_23 (lv_at hl 0 rfl) ?_
    refine lv_aload_n hx hb dX0_settle_25 rfl (lv_at hl 3 rfl) ?_
    refine tr_get (ci := 7) hx hb ht hown hK hT hP k_v (by decide) i_X7 rfl 5 (by decide) wd_252 rfl dX0_settle_26 (fun v hv hf_16 => ?_)
    obtain ⟨q_17, rfl, hq_17⟩ := hv
    refine lv_iload_n hx hb dX0_settle_29 rfl (lv_at hl 4 rfl) ?_
    refine tr_iald hx hb hK hT hP 21 hq_17 (by decide) (by decide) (show vp_in _ (tk_len 21) from ia_in (n := 3) (by omega) (by omega)) dX0_settle_30 (fun n_18 hn_18 => ?_)
    clear hn_18
    refine lv_aload_n hx hb dX0_settle_31 rfl (lv_at hl 3 rfl) ?_
    refine tr_get (ci := 7) hx hb ht hown hK hT hP k_v (by decide) i_X7 rfl 0 (by decide) wd_233 rfl dX0_settle_32 (fun v hv hf_19 => ?_)
    obtain ⟨q_20, rfl, hq_20⟩ := hv
    refine lv_iload hx hb dX0_settle_35 (lv_at hl 0 rfl) ?_
    refine tr_iald hx hb hK hT hP 20 hq_20 (by decide) (by decide) (show vp_in _ (tk_len 20) from ia_in (n := 5) (by omega) (by omega)) dX0_settle_37 (fun n_21 hn_21 => ?_)
    clear hn_21
    refine va_mmin hx hb (by rw [hml]; exact hl.1.symm) hown (ht _ wd_930) (ht _ wd_746) (ht _ wd_140) (ht _ wd_747) (Nat.le_of_ble_eq_true rfl) (Nat.le_of_ble_eq_true rfl) (Nat.zero_le _) (Nat.zero_le _) dX0_settle_38 ?_
    refine lv_topi (fun t_22 et_22 => ?_)
    have ft_22 := ia_min et_22.symm
    refine gt_callV (wr := []) (va_runV (As := [.int w, .int r_15, .int t_22]) (rest := []) ⟨hx, hb, hml, hown, ht⟩ (d_finish l G Γ H.size wt hT v w r_15 t_22 k_v (by omega) (by omega)) (cwV 3 ht (ts_gV wd_931 wd_932 wd_933 wd_125 wd_934) rfl rfl rfl (by decide +kernel) ⟨Nat.le_of_ble_eq_true rfl, Nat.le_of_ble_eq_true rfl⟩) (gt_preW (ci := 7) hK hT (tw_right hP) (tw_rightD hD) k_v (by decide) rfl) rfl rfl hl.1 rfl (lv_room (Nat.le_of_ble_eq_true rfl)) dX0_settle_41 ⟨Nat.le_of_ble_eq_true rfl, Nat.le_of_ble_eq_true rfl⟩) hP hD hS hA (fun wt H locs hw hP hD hS => ?_)
    obtain ⟨hT, hkp⟩ := hw
    have hW := hW.call (show ∀ x ∈ [], x ∈ [] by decide) hkp
    refine lv_goto (tgt := 74) hx hb dX0_settle_44 (by decide) ?_
    have hP9 := tw_right hP
    have hD9 := tw_rightD hD
    exact W.vret hx hb hr (gq_endV wt ⟨hT, hW⟩ hP9 hD9 hS) hS.2.2 dX0_settle_74
set_option maxHeartbeats 4000000 in
set_option maxRecDepth 100000 in
theorem d_passLot (l : Launch) (G : gg_T) (Γ : Nat → Nat) (sz : Nat) (wt : va_W) (hT : tk_ty G Γ wt) (t : Nat) (v : Nat) (w : Int32) (z : Int32) (k_t : Γ t = 1) (k_v : Γ v = 8) (lo_w : 0 ≤ w.toInt) (hi_w : w.toInt ≤ 2) : Met l yX0_passLot (ts_L yX0_passLot cX0_passLot 7 (some .int)) ({ frames := 3, cells := 0, slots := 0, locals := 73 }) (gc_P G wt sz [.ref t, .ref v, .int w, .int z]) (gc_I G (va_A wt sz) (fun r (u : va_W) => tk_ty G Γ u ∧ tk_kp [] wt u) (fun u => u)) 0 0 (va_A wt sz) := by
  refine Met.ofW (cc := cX0_passLot) (maxL := 7) (ret := (some .int)) (by decide) rfl ?_
  intro p e s m args below meth c s₁ B hml hv
  obtain ⟨rfl, hsz, hP, hK, hD0⟩ := hv
  have hx := B.exec
  have hb := B.bytes
  have hr := B.returns
  have ht := ts_ht (atoms_spec (ws := ts_L yX0_passLot cX0_passLot 7 (some .int)) B.pre)
  have hown : s.vm.findClass RX0 = some m.cls := findClass_of_methodNamed B.named
  have hlocks := B.notSynchronized
  subst hsz
  have hD := hD0.self (sz := s.heap.size)
  generalize hAe : va_A wt s.heap.size = A at hD ⊢
  have hA : ∀ q : Nat, s.heap.size ≤ q → A q := fun q h => by rw [← hAe]; exact Or.inr h
  clear hAe hD0
  have hS : va_S A s.heap s.heap [] := va_S.rf
  obtain ⟨w0, hw0⟩ : ∃ z, z = wt := ⟨_, rfl⟩
  have hW : tk_kp [] w0 wt := by rw [hw0]; exact tk_kp.rf
  rw [← hw0]
  clear hw0
  have hP : va_P (gg_D G) classes ([] ++ wt) s.heap := hP
  have hD : va_D A ([] ++ wt) := hD
  have hl := lv_entry ([.ref t, .ref v, .int w, .int z]) (n := 7) (Nat.le_of_ble_eq_true rfl)
  rw [lg_entry_eq]
  generalize (lg_sl ([.ref t, .ref v, .int w, .int z]) ++ List.replicate (7 - (lg_sl ([.ref t, .ref v, .int w, .int z])).length) Slot.unset).toArray = ls at hl ⊢
  have hl : lv_has ls 7 [(0, .ref t), (1, .ref v), (2, .int w), (3, .int z)] := hl
  have l0 : (0 : Int32).toInt = 0 := by decide +kernel
  have l1 : (1 : Int32).toInt = 1 := by decide +kernel
  refine lv_aload_n hx hb dX0_passLot_0 rfl (lv_at hl 1 rfl) ?_
  refine tr_get (ci := 7) hx hb ht hown hK hT hP k_v (by decide) i_X7 rfl 4 (by decide) wd_248 rfl dX0_passLot_1 (fun v hv hf_1 => ?_)
  obtain ⟨q_2, rfl, hq_2⟩ := hv
  refine lv_iload_n hx hb dX0_passLot_4 rfl (lv_at hl 2 rfl) ?_
  refine tr_iald hx hb hK hT hP 21 hq_2 (by decide) (by decide) (show vp_in _ (tk_len 21) from ia_in (n := 3) (by omega) (by omega)) dX0_passLot_5 (fun n_3 hn_3 => ?_)
  clear hn_3
  refine lv_iconst (v := 1) hx hb dX0_passLot_6 (by decide +kernel) ?_
  refine lv_icmp_eq (tgt := 12) hx hb dX0_passLot_7 (by decide) (fun c_4 => ?_) (fun c_4 => ?_)
  · rw [← Int32.toInt_inj] at c_4
    refine lv_aload_n hx hb dX0_passLot_12 rfl (lv_at hl 1 rfl) ?_
    refine tr_get (ci := 7) hx hb ht hown hK hT hP k_v (by decide) i_X7 rfl 8 (by decide) wd_263 rfl dX0_passLot_13 (fun v hv hf_5 => ?_)
    obtain ⟨q_6, rfl, hq_6⟩ := hv
    refine lv_iload_n hx hb dX0_passLot_16 rfl (lv_at hl 2 rfl) ?_
    refine tr_iald hx hb hK hT hP 22 hq_6 (by decide) (by decide) (show vp_in _ (tk_len 22) from ia_in (n := 3) (by omega) (by omega)) dX0_passLot_17 (fun n_7 hn_7 => ?_)
    have hn_7 : 0 ≤ n_7.toInt ∧ n_7.toInt ≤ 31 := hn_7
    refine lv_istore (lv' := [(4, .int n_7), (0, .ref t), (1, .ref v), (2, .int w), (3, .int z)]) hx hb dX0_passLot_18 hl (by decide) rfl (fun ls hl => ?_)
    refine lv_iload hx hb dX0_passLot_20 (lv_at hl 0 rfl) ?_
    refine lv_iload_n hx hb dX0_passLot_22 rfl (lv_at hl 4 rfl) ?_
    refine lv_iconst (v := (-1)) hx hb dX0_passLot_23 (by decide +kernel) ?_
    refine lv_ixor hx hb dX0_passLot_24 ?_
    refine lv_topi (fun t_8 et_8 => ?_)
    obtain ⟨t_9, et_9⟩ : ∃ zz_ : Int32, n_7 &&& t_8 = zz_ := ⟨_, rfl⟩
    refine gq_iand hx hb t_9 et_9 dX0_passLot_25 ?_
    have ft_9 := ia_and1 et_9 (by omega)
    refine lv_aload_n hx hb dX0_passLot_26 rfl (lv_at hl 1 rfl) ?_
    refine tr_get (ci := 0) hx hb ht hown hK hT hP k_t (by decide) i_X0 rfl 2 (by decide) wd_411 rfl dX0_passLot_27 (fun v hv hf_10 => ?_)
    obtain ⟨n_11, rfl⟩ := hv
    refine lv_iconst (v := (-1)) hx hb dX0_passLot_30 (by decide +kernel) ?_
    refine lv_ixor hx hb dX0_passLot_31 ?_
    refine lv_topi (fun t_12 et_12 => ?_)
    obtain ⟨t_13, et_13⟩ : ∃ zz_ : Int32, t_9 &&& t_12 = zz_ := ⟨_, rfl⟩
    refine gq_iand hx hb t_13 et_13 dX0_passLot_32 ?_
    have ft_13 := ia_and1 et_13 (by omega)
    refine lv_istore (lv' := [(5, .int t_13), (4, .int n_7), (0, .ref t), (1, .ref v), (2, .int w), (3, .int z)]) hx hb dX0_passLot_33 hl (by decide) rfl (fun ls hl => ?_)
    refine lv_iload hx hb dX0_passLot_35 (lv_at hl 1 rfl) ?_
    refine lv_iload_n hx hb dX0_passLot_37 rfl (lv_at hl 5 rfl) ?_
    obtain ⟨t_14, et_14⟩ : ∃ zz_ : Int32, n_7 &&& z = zz_ := ⟨_, rfl⟩
    refine gq_iand hx hb t_14 et_14 dX0_passLot_38 ?_
    have ft_14 := ia_and1 et_14 (by omega)
    refine lv_istore (lv' := [(6, .int t_14), (5, .int t_13), (4, .int n_7), (0, .ref t), (1, .ref v), (2, .int w), (3, .int z)]) hx hb dX0_passLot_39 hl (by decide) rfl (fun ls hl => ?_)
    refine lv_iload hx hb dX0_passLot_41 (lv_at hl 0 rfl) ?_
    refine lv_aload_n hx hb dX0_passLot_43 rfl (lv_at hl 3 rfl) ?_
    refine tr_get (ci := 0) hx hb ht hown hK hT hP k_t (by decide) i_X0 rfl 1 (by decide) wd_410 rfl dX0_passLot_44 (fun v hv hf_15 => ?_)
    rcases hv with rfl | ⟨q_16, rfl, hq_16⟩
    · refine lv_ifnonnullN hx hb dX0_passLot_47 ?_
      refine lv_aload_n hx hb dX0_passLot_50 rfl (lv_at hl 3 rfl) ?_
      refine lv_iload hx hb dX0_passLot_51 (lv_at hl 1 rfl) ?_
      refine lv_iload_n hx hb dX0_passLot_53 rfl (lv_at hl 5 rfl) ?_
      refine lv_aload_n hx hb dX0_passLot_54 rfl (lv_at hl 4 rfl) ?_
      refine gt_callI (wr := []) (va_runV (As := [.int t_13, .int w, .ref v]) (rest := [.int t_14]) ⟨hx, hb, hml, hown, ht⟩ (d_unwillingOf l G Γ s.heap.size wt hT t t_13 w v k_t (by omega) (by omega) k_v) (cwV 3 ht (ts_gV wd_884 wd_886 wd_18 wd_130 wd_887) rfl rfl rfl (by decide +kernel) ⟨Nat.le_of_ble_eq_true rfl, Nat.le_of_ble_eq_true rfl⟩) (gt_preW (ci := 0) hK hT (tw_right hP) (tw_rightD hD) k_t (by decide) rfl) rfl rfl hl.1 rfl (lv_room (Nat.le_of_ble_eq_true rfl)) dX0_passLot_55 ⟨Nat.le_of_ble_eq_true rfl, Nat.le_of_ble_eq_true rfl⟩) hP hD hS hA (fun r_17 wt H locs hw hP hD hS => ?_)
      obtain ⟨hT, hkp⟩ := hw
      have hW := hW.call (show ∀ x ∈ [], x ∈ [] by decide) hkp
      have hf_10 := hkp _ _ _ _ (by decide) (by decide) hf_10
      have hf_15 := hkp _ _ _ _ (by decide) (by decide) hf_15
      refine lv_goto (tgt := 76) hx hb dX0_passLot_58 (by decide) ?_
      obtain ⟨t_18, et_18⟩ : ∃ zz_ : Int32, t_14 ||| r_17 = zz_ := ⟨_, rfl⟩
      refine gq_ior hx hb t_18 et_18 dX0_passLot_76 ?_
      refine lv_istore (lv' := [(6, .int t_18), (5, .int t_13), (4, .int n_7), (0, .ref t), (1, .ref v), (2, .int w), (3, .int z)]) hx hb dX0_passLot_77 hl (by decide) rfl (fun ls hl => ?_)
      refine lv_iload hx hb dX0_passLot_79 (lv_at hl 0 rfl) ?_
      refine lv_iload hx hb dX0_passLot_81 (lv_at hl 2 rfl) ?_
      refine lv_iload hx hb dX0_passLot_83 (lv_at hl 0 rfl) ?_
      refine lv_iconst (v := (-1)) hx hb dX0_passLot_85 (by decide +kernel) ?_
      refine lv_ixor hx hb dX0_passLot_86 ?_
      refine lv_topi (fun t_19 et_19 => ?_)
      obtain ⟨t_20, et_20⟩ : ∃ zz_ : Int32, n_7 &&& t_19 = zz_ := ⟨_, rfl⟩
      refine gq_iand hx hb t_20 et_20 dX0_passLot_87 ?_
      have ft_20 := ia_and1 et_20 (by omega)
      refine lv_aload_n hx hb dX0_passLot_88 rfl (lv_at hl 4 rfl) ?_
      refine gt_callI (wr := []) (va_runS (As := [.int t_20, .ref v]) (rest := [.int t_18]) ⟨hx, hb, hml, hown, ht⟩ (d_coughersOf l G Γ H.size wt hT t_20 v k_v) (va_cwS 2 ht (ts_gS wd_918 wd_919 wd_130 wd_920) rfl rfl rfl (by decide +kernel) ⟨Nat.le_of_ble_eq_true rfl, Nat.le_of_ble_eq_true rfl⟩) (gc_preS hK (tw_right hP) (tw_rightD hD)) rfl rfl hl.1 rfl (lv_room (Nat.le_of_ble_eq_true rfl)) dX0_passLot_89 ⟨Nat.le_of_ble_eq_true rfl, Nat.le_of_ble_eq_true rfl⟩) hP hD hS hA (fun r_21 wt H locs hw hP hD hS => ?_)
      obtain ⟨hT, hkp⟩ := hw
      have hW := hW.call (show ∀ x ∈ [], x ∈ [] by decide) hkp
      have hf_10 := hkp _ _ _ _ (by decide) (by decide) hf_10
      have hf_15 := hkp _ _ _ _ (by decide) (by decide) hf_15
      obtain ⟨t_22, et_22⟩ : ∃ zz_ : Int32, t_18 ||| r_21 = zz_ := ⟨_, rfl⟩
      refine gq_ior hx hb t_22 et_22 dX0_passLot_92 ?_
      refine lv_istore (lv' := [(6, .int t_22), (5, .int t_13), (4, .int n_7), (0, .ref t), (1, .ref v), (2, .int w), (3, .int z)]) hx hb dX0_passLot_93 hl (by decide) rfl (fun ls hl => ?_)
      refine lv_aload_n hx hb dX0_passLot_95 rfl (lv_at hl 4 rfl) ?_
      refine tr_get (ci := 7) hx hb ht hown hK hT hP k_v (by decide) i_X7 rfl 8 (by decide) wd_263 rfl dX0_passLot_96 (fun v hv hf_23 => ?_)
      obtain ⟨q_24, rfl, hq_24⟩ := hv
      refine lv_iload_n hx hb dX0_passLot_99 rfl (lv_at hl 5 rfl) ?_
      refine lv_iload hx hb dX0_passLot_100 (lv_at hl 2 rfl) ?_
      refine lv_iload hx hb dX0_passLot_102 (lv_at hl 0 rfl) ?_
      refine lv_iconst (v := (-1)) hx hb dX0_passLot_104 (by decide +kernel) ?_
      refine lv_ixor hx hb dX0_passLot_105 ?_
      refine lv_topi (fun t_25 et_25 => ?_)
      obtain ⟨t_26, et_26⟩ : ∃ zz_ : Int32, n_7 &&& t_25 = zz_ := ⟨_, rfl⟩
      refine gq_iand hx hb t_26 et_26 dX0_passLot_106 ?_
      have ft_26 := ia_and1 et_26 (by omega)
      refine tr_iast hx hb hK hT hP hD hS 22 hq_24 (by decide) (by decide) (show vp_in _ (tk_len 22) from ia_in (n := 3) (by omega) (by omega)) (show tk_e 22 _ from ⟨by omega, by omega⟩) dX0_passLot_107 (fun H locs wt hT hfl hP hD hS => ?_)
      have hW := hW.arr hfl
      have hf_10 := hfl _ _ _ _ hf_10
      have hf_15 := hfl _ _ _ _ hf_15
      refine lv_aload_n hx hb dX0_passLot_108 rfl (lv_at hl 4 rfl) ?_
      refine tr_get (ci := 7) hx hb ht hown hK hT hP k_v (by decide) i_X7 rfl 5 (by decide) wd_252 rfl dX0_passLot_109 (fun v hv hf_27 => ?_)
      obtain ⟨q_28, rfl, hq_28⟩ := hv
      refine lv_iload_n hx hb dX0_passLot_112 rfl (lv_at hl 5 rfl) ?_
      refine lv_dup2_11 hx hb dX0_passLot_113 rfl rfl ?_
      refine tr_iald hx hb hK hT hP 21 hq_28 (by decide) (by decide) (show vp_in _ (tk_len 21) from ia_in (n := 3) (by omega) (by omega)) dX0_passLot_114 (fun n_29 hn_29 => ?_)
      clear hn_29
      refine lv_iconst (v := 1) hx hb dX0_passLot_115 (by decide +kernel) ?_
      obtain ⟨t_30, et_30⟩ : ∃ zz_ : Int32, n_29 + 1 = zz_ := ⟨_, rfl⟩
      refine gq_iadd hx hb t_30 et_30 dX0_passLot_116 ?_
      refine tr_iast hx hb hK hT hP hD hS 21 hq_28 (by decide) (by decide) (show vp_in _ (tk_len 21) from ia_in (n := 3) (by omega) (by omega)) (show tk_e 21 _ from trivial) dX0_passLot_117 (fun H locs wt hT hfl hP hD hS => ?_)
      have hW := hW.arr hfl
      have hf_10 := hfl _ _ _ _ hf_10
      have hf_15 := hfl _ _ _ _ hf_15
      refine lv_aload_n hx hb dX0_passLot_118 rfl (lv_at hl 3 rfl) ?_
      refine lv_aload_n hx hb dX0_passLot_119 rfl (lv_at hl 4 rfl) ?_
      refine lv_iload_n hx hb dX0_passLot_120 rfl (lv_at hl 5 rfl) ?_
      refine gt_callV (wr := []) (va_runV (As := [.ref v, .int w]) (rest := []) ⟨hx, hb, hml, hown, ht⟩ (d_settle l G Γ H.size wt hT t v w k_t k_v (by omega) (by omega)) (cwV 2 ht (ts_gV wd_922 wd_924 wd_20 wd_130 wd_925) rfl rfl rfl (by decide +kernel) ⟨Nat.le_of_ble_eq_true rfl, Nat.le_of_ble_eq_true rfl⟩) (gt_preW (ci := 0) hK hT (tw_right hP) (tw_rightD hD) k_t (by decide) rfl) rfl rfl hl.1 rfl (lv_room (Nat.le_of_ble_eq_true rfl)) dX0_passLot_121 ⟨Nat.le_of_ble_eq_true rfl, Nat.le_of_ble_eq_true rfl⟩) hP hD hS hA (fun wt H locs hw hP hD hS => ?_)
      obtain ⟨hT, hkp⟩ := hw
      have hW := hW.call (show ∀ x ∈ [], x ∈ [] by decide) hkp
      have hf_10 := hkp _ _ _ _ (by decide) (by decide) hf_10
      have hf_15 := hkp _ _ _ _ (by decide) (by decide) hf_15
      refine lv_iload hx hb dX0_passLot_124 (lv_at hl 0 rfl) ?_
      have hP9 := tw_right hP
      have hD9 := tw_rightD hD
      exact W.iret (v := t_22) hx hb hr (gq_endI wt ⟨hT, hW⟩ hP9 hD9 hS) hS.2.2 dX0_passLot_126
    · refine lv_ifnonnull (tgt := 61) hx hb dX0_passLot_47 (by decide) ?_
      refine lv_aload_n hx hb dX0_passLot_61 rfl (lv_at hl 3 rfl) ?_
      refine tr_getK (ci := 0) hx hb ht hown hK hP i_X0 rfl 1 (by decide) wd_410 rfl hf_15 dX0_passLot_62 ?_
      refine lv_iload hx hb dX0_passLot_65 (lv_at hl 1 rfl) ?_
      refine lv_iload_n hx hb dX0_passLot_67 rfl (lv_at hl 5 rfl) ?_
      refine lv_aload_n hx hb dX0_passLot_68 rfl (lv_at hl 3 rfl) ?_
      refine tr_get (ci := 0) hx hb ht hown hK hT hP k_t (by decide) i_X0 rfl 0 (by decide) wd_409 rfl dX0_passLot_69 (fun v hv hf_31 => ?_)
      obtain ⟨q_32, rfl, hq_32⟩ := hv
      refine lv_aload_n hx hb dX0_passLot_72 rfl (lv_at hl 4 rfl) ?_
      refine gt_callI (wr := []) (va_runV (As := [.int t_13, .int w, .ref q_32, .ref v]) (rest := [.int t_14]) ⟨hx, hb, hml, hown, ht⟩ (d_speakersOf l G Γ s.heap.size wt hT q_16 t_13 w q_32 v hq_16 (by omega) (by omega) hq_32 k_v) (cwV 4 ht (ts_gV wd_890 wd_891 wd_892 wd_128 wd_893) rfl rfl rfl (by decide +kernel) ⟨Nat.le_of_ble_eq_true rfl, Nat.le_of_ble_eq_true rfl⟩) (gt_preW (ci := 4) hK hT (tw_right hP) (tw_rightD hD) hq_16 (by decide) rfl) rfl rfl hl.1 rfl (lv_room (Nat.le_of_ble_eq_true rfl)) dX0_passLot_73 ⟨Nat.le_of_ble_eq_true rfl, Nat.le_of_ble_eq_true rfl⟩) hP hD hS hA (fun r_33 wt H locs hw hP hD hS => ?_)
      obtain ⟨hT, hkp⟩ := hw
      have hW := hW.call (show ∀ x ∈ [], x ∈ [] by decide) hkp
      have hf_10 := hkp _ _ _ _ (by decide) (by decide) hf_10
      have hf_15 := hkp _ _ _ _ (by decide) (by decide) hf_15
      have hf_31 := hkp _ _ _ _ (by decide) (by decide) hf_31
      obtain ⟨t_34, et_34⟩ : ∃ zz_ : Int32, t_14 ||| r_33 = zz_ := ⟨_, rfl⟩
      refine gq_ior hx hb t_34 et_34 dX0_passLot_76 ?_
      refine lv_istore (lv' := [(6, .int t_34), (5, .int t_13), (4, .int n_7), (0, .ref t), (1, .ref v), (2, .int w), (3, .int z)]) hx hb dX0_passLot_77 hl (by decide) rfl (fun ls hl => ?_)
      refine lv_iload hx hb dX0_passLot_79 (lv_at hl 0 rfl) ?_
      refine lv_iload hx hb dX0_passLot_81 (lv_at hl 2 rfl) ?_
      refine lv_iload hx hb dX0_passLot_83 (lv_at hl 0 rfl) ?_
      refine lv_iconst (v := (-1)) hx hb dX0_passLot_85 (by decide +kernel) ?_
      refine lv_ixor hx hb dX0_passLot_86 ?_
      refine lv_topi (fun t_35 et_35 => ?_)
      obtain ⟨t_36, et_36⟩ : ∃ zz_ : Int32, n_7 &&& t_35 = zz_ := ⟨_, rfl⟩
      refine gq_iand hx hb t_36 et_36 dX0_passLot_87 ?_
      have ft_36 := ia_and1 et_36 (by omega)
      refine lv_aload_n hx hb dX0_passLot_88 rfl (lv_at hl 4 rfl) ?_
      refine gt_callI (wr := []) (va_runS (As := [.int t_36, .ref v]) (rest := [.int t_34]) ⟨hx, hb, hml, hown, ht⟩ (d_coughersOf l G Γ H.size wt hT t_36 v k_v) (va_cwS 2 ht (ts_gS wd_918 wd_919 wd_130 wd_920) rfl rfl rfl (by decide +kernel) ⟨Nat.le_of_ble_eq_true rfl, Nat.le_of_ble_eq_true rfl⟩) (gc_preS hK (tw_right hP) (tw_rightD hD)) rfl rfl hl.1 rfl (lv_room (Nat.le_of_ble_eq_true rfl)) dX0_passLot_89 ⟨Nat.le_of_ble_eq_true rfl, Nat.le_of_ble_eq_true rfl⟩) hP hD hS hA (fun r_37 wt H locs hw hP hD hS => ?_)
      obtain ⟨hT, hkp⟩ := hw
      have hW := hW.call (show ∀ x ∈ [], x ∈ [] by decide) hkp
      have hf_10 := hkp _ _ _ _ (by decide) (by decide) hf_10
      have hf_15 := hkp _ _ _ _ (by decide) (by decide) hf_15
      have hf_31 := hkp _ _ _ _ (by decide) (by decide) hf_31
      obtain ⟨t_38, et_38⟩ : ∃ zz_ : Int32, t_34 ||| r_37 = zz_ := ⟨_, rfl⟩
      refine gq_ior hx hb t_38 et_38 dX0_passLot_92 ?_
      refine lv_istore (lv' := [(6, .int t_38), (5, .int t_13), (4, .int n_7), (0, .ref t), (1, .ref v), (2, .int w), (3, .int z)]) hx hb dX0_passLot_93 hl (by decide) rfl (fun ls hl => ?_)
      refine lv_aload_n hx hb dX0_passLot_95 rfl (lv_at hl 4 rfl) ?_
      refine tr_get (ci := 7) hx hb ht hown hK hT hP k_v (by decide) i_X7 rfl 8 (by decide) wd_263 rfl dX0_passLot_96 (fun v hv hf_39 => ?_)
      obtain ⟨q_40, rfl, hq_40⟩ := hv
      refine lv_iload_n hx hb dX0_passLot_99 rfl (lv_at hl 5 rfl) ?_
      refine lv_iload hx hb dX0_passLot_100 (lv_at hl 2 rfl) ?_
      refine lv_iload hx hb dX0_passLot_102 (lv_at hl 0 rfl) ?_
      refine lv_iconst (v := (-1)) hx hb dX0_passLot_104 (by decide +kernel) ?_
      refine lv_ixor hx hb dX0_passLot_105 ?_
      refine lv_topi (fun t_41 et_41 => ?_)
      obtain ⟨t_42, et_42⟩ : ∃ zz_ : Int32, n_7 &&& t_41 = zz_ := ⟨_, rfl⟩
      refine gq_iand hx hb t_42 et_42 dX0_passLot_106 ?_
      have ft_42 := ia_and1 et_42 (by omega)
      refine tr_iast hx hb hK hT hP hD hS 22 hq_40 (by decide) (by decide) (show vp_in _ (tk_len 22) from ia_in (n := 3) (by omega) (by omega)) (show tk_e 22 _ from ⟨by omega, by omega⟩) dX0_passLot_107 (fun H locs wt hT hfl hP hD hS => ?_)
      have hW := hW.arr hfl
      have hf_10 := hfl _ _ _ _ hf_10
      have hf_15 := hfl _ _ _ _ hf_15
      have hf_31 := hfl _ _ _ _ hf_31
      refine lv_aload_n hx hb dX0_passLot_108 rfl (lv_at hl 4 rfl) ?_
      refine tr_get (ci := 7) hx hb ht hown hK hT hP k_v (by decide) i_X7 rfl 5 (by decide) wd_252 rfl dX0_passLot_109 (fun v hv hf_43 => ?_)
      obtain ⟨q_44, rfl, hq_44⟩ := hv
      refine lv_iload_n hx hb dX0_passLot_112 rfl (lv_at hl 5 rfl) ?_
      refine lv_dup2_11 hx hb dX0_passLot_113 rfl rfl ?_
      refine tr_iald hx hb hK hT hP 21 hq_44 (by decide) (by decide) (show vp_in _ (tk_len 21) from ia_in (n := 3) (by omega) (by omega)) dX0_passLot_114 (fun n_45 hn_45 => ?_)
      clear hn_45
      refine lv_iconst (v := 1) hx hb dX0_passLot_115 (by decide +kernel) ?_
      obtain ⟨t_46, et_46⟩ : ∃ zz_ : Int32, n_45 + 1 = zz_ := ⟨_, rfl⟩
      refine gq_iadd hx hb t_46 et_46 dX0_passLot_116 ?_
      refine tr_iast hx hb hK hT hP hD hS 21 hq_44 (by decide) (by decide) (show vp_in _ (tk_len 21) from ia_in (n := 3) (by omega) (by omega)) (show tk_e 21 _ from trivial) dX0_passLot_117 (fun H locs wt hT hfl hP hD hS => ?_)
      have hW := hW.arr hfl
      have hf_10 := hfl _ _ _ _ hf_10
      have hf_15 := hfl _ _ _ _ hf_15
      have hf_31 := hfl _ _ _ _ hf_31
      refine lv_aload_n hx hb dX0_passLot_118 rfl (lv_at hl 3 rfl) ?_
      refine lv_aload_n hx hb dX0_passLot_119 rfl (lv_at hl 4 rfl) ?_
      refine lv_iload_n hx hb dX0_passLot_120 rfl (lv_at hl 5 rfl) ?_
      refine gt_callV (wr := []) (va_runV (As := [.ref v, .int w]) (rest := []) ⟨hx, hb, hml, hown, ht⟩ (d_settle l G Γ H.size wt hT t v w k_t k_v (by omega) (by omega)) (cwV 2 ht (ts_gV wd_922 wd_924 wd_20 wd_130 wd_925) rfl rfl rfl (by decide +kernel) ⟨Nat.le_of_ble_eq_true rfl, Nat.le_of_ble_eq_true rfl⟩) (gt_preW (ci := 0) hK hT (tw_right hP) (tw_rightD hD) k_t (by decide) rfl) rfl rfl hl.1 rfl (lv_room (Nat.le_of_ble_eq_true rfl)) dX0_passLot_121 ⟨Nat.le_of_ble_eq_true rfl, Nat.le_of_ble_eq_true rfl⟩) hP hD hS hA (fun wt H locs hw hP hD hS => ?_)
      obtain ⟨hT, hkp⟩ := hw
      have hW := hW.call (show ∀ x ∈ [], x ∈ [] by decide) hkp
      have hf_10 := hkp _ _ _ _ (by decide) (by decide) hf_10
      have hf_15 := hkp _ _ _ _ (by decide) (by decide) hf_15
      have hf_31 := hkp _ _ _ _ (by decide) (by decide) hf_31
      refine lv_iload hx hb dX0_passLot_124 (lv_at hl 0 rfl) ?_
      have hP9 := tw_right hP
      have hD9 := tw_rightD hD
      exact W.iret (v := t_38) hx hb hr (gq_endI wt ⟨hT, hW⟩ hP9 hD9 hS) hS.2.2 dX0_passLot_126
  · rw [← Int32.toInt_inj] at c_4
    refine lv_iconst (v := 0) hx hb dX0_passLot_10 (by decide +kernel) ?_
    have hP9 := tw_right hP
    have hD9 := tw_rightD hD
    exact W.iret (v := 0) hx hb hr (gq_endI wt ⟨hT, hW⟩ hP9 hD9 hS) hS.2.2 dX0_passLot_11
set_option maxHeartbeats 4000000 in
set_option maxRecDepth 100000 in
theorem d_pass (l : Launch) (G : gg_T) (Γ : Nat → Nat) (sz : Nat) (wt : va_W) (hT : tk_ty G Γ wt) (t : Nat) (v : Nat) (z : Int32) (k_t : Γ t = 1) (k_v : Γ v = 8) : Met l yX0_pass (ts_L yX0_pass cX0_pass 5 (some .int)) ({ frames := 4, cells := 0, slots := 0, locals := 99 }) (gc_P G wt sz [.ref t, .ref v, .int z]) (gc_I G (va_A wt sz) (fun r (u : va_W) => tk_ty G Γ u ∧ tk_kp [709] wt u) (fun u => u)) 0 0 (va_A wt sz) := by
  refine Met.ofW (cc := cX0_pass) (maxL := 5) (ret := (some .int)) (by decide) rfl ?_
  intro p e s m args below meth c s₁ B hml hv
  obtain ⟨rfl, hsz, hP, hK, hD0⟩ := hv
  have hx := B.exec
  have hb := B.bytes
  have hr := B.returns
  have ht := ts_ht (atoms_spec (ws := ts_L yX0_pass cX0_pass 5 (some .int)) B.pre)
  have hown : s.vm.findClass RX0 = some m.cls := findClass_of_methodNamed B.named
  have hlocks := B.notSynchronized
  subst hsz
  have hD := hD0.self (sz := s.heap.size)
  generalize hAe : va_A wt s.heap.size = A at hD ⊢
  have hA : ∀ q : Nat, s.heap.size ≤ q → A q := fun q h => by rw [← hAe]; exact Or.inr h
  clear hAe hD0
  have hS : va_S A s.heap s.heap [] := va_S.rf
  obtain ⟨w0, hw0⟩ : ∃ z, z = wt := ⟨_, rfl⟩
  have hW : tk_kp [709] w0 wt := by rw [hw0]; exact tk_kp.rf
  rw [← hw0]
  clear hw0
  have hP : va_P (gg_D G) classes ([] ++ wt) s.heap := hP
  have hD : va_D A ([] ++ wt) := hD
  have hl := lv_entry ([.ref t, .ref v, .int z]) (n := 5) (Nat.le_of_ble_eq_true rfl)
  rw [lg_entry_eq]
  generalize (lg_sl ([.ref t, .ref v, .int z]) ++ List.replicate (5 - (lg_sl ([.ref t, .ref v, .int z])).length) Slot.unset).toArray = ls at hl ⊢
  have hl : lv_has ls 5 [(0, .ref t), (1, .ref v), (2, .int z)] := hl
  have l0 : (0 : Int32).toInt = 0 := by decide +kernel
  have l1 : (1 : Int32).toInt = 1 := by decide +kernel
  have l3 : (3 : Int32).toInt = 3 := by decide +kernel
  refine lv_iconst (v := 0) hx hb dX0_pass_0 (by decide +kernel) ?_
  refine lv_istore_n (lv' := [(3, .int 0), (0, .ref t), (1, .ref v), (2, .int z)]) hx hb dX0_pass_1 rfl hl (by decide) rfl (fun ls hl => ?_)
  refine lv_iconst (v := 0) hx hb dX0_pass_2 (by decide +kernel) ?_
  refine lv_istore (lv' := [(4, .int 0), (3, .int 0), (0, .ref t), (1, .ref v), (2, .int z)]) hx hb dX0_pass_3 hl (by decide) rfl (fun ls hl => ?_)
  refine tl_loopE (Γ := Γ) (nL := 5) (fun (zz_ : Int32 × Int32) => match zz_ with | (x5_0, x5_1) => 0 ≤ x5_0.toInt ∧ x5_0.toInt ≤ 3) (fun (zz_ : Int32 × Int32) => match zz_ with | (x5_0, x5_1) => (3 - x5_0.toInt).toNat) (fun (zz_ : Int32 × Int32) => match zz_ with | (x5_0, x5_1) => [(4, .int x5_0), (3, .int x5_1), (0, .ref t), (1, .ref v), (2, .int z)]) (fun (zz_ : Int32 × Int32) => match zz_ with | (x5_0, x5_1) => []) (fun (zz_ : Int32 × Int32) (w : va_W) => match zz_ with | (x5_0, x5_1) => tk_kp [709] w0 w) (fun zz_ hI H locs wt ls hT hW hP hD hS hl ih5 => ?_) (0, 0) (show 0 ≤ (0 : Int32).toInt ∧ (0 : Int32).toInt ≤ 3 from ⟨by omega, by omega⟩) _ _ wt ls hT hW hP hD hS hl
  obtain ⟨x5_0, x5_1⟩ := zz_
  have hW : tk_kp [709] w0 wt := hW
  have hI : 0 ≤ x5_0.toInt ∧ x5_0.toInt ≤ 3 := hI
  obtain ⟨j5_0, j5_1⟩ := hI
  have hl : lv_has ls 5 [(4, .int x5_0), (3, .int x5_1), (0, .ref t), (1, .ref v), (2, .int z)] := hl
  have hP : va_P (gg_D G) classes ([] ++ wt) H := hP
  have hD : va_D A ([] ++ wt) := hD
  refine lv_iload hx hb dX0_pass_5 (lv_at hl 0 rfl) ?_
  refine lv_iconst (v := 3) hx hb dX0_pass_7 (by decide +kernel) ?_
  refine lv_icmp_ge (tgt := 28) hx hb dX0_pass_8 (by decide) (fun c_1 => ?_) (fun c_1 => ?_)
  · rw [Int32.le_iff_toInt_le] at c_1
    refine lv_aload_n hx hb dX0_pass_28 rfl (lv_at hl 3 rfl) ?_
    refine lv_dup hx hb dX0_pass_29 rfl ?_
    refine tr_get (ci := 7) hx hb ht hown hK hT hP k_v (by decide) i_X7 rfl 9 (by decide) wd_267 rfl dX0_pass_30 (fun v hv hf_2 => ?_)
    obtain ⟨n_3, rfl⟩ := hv
    refine lv_iconst (v := 1) hx hb dX0_pass_33 (by decide +kernel) ?_
    obtain ⟨t_4, et_4⟩ : ∃ zz_ : Int32, n_3 + 1 = zz_ := ⟨_, rfl⟩
    refine gq_iadd hx hb t_4 et_4 dX0_pass_34 ?_
    refine tr_put (ci := 7) hx hb ht hown hK hT hP hD hS k_v (by decide) i_X7 tyX7 tyX7_ok nmX7 rfl 9 (by decide) wd_267 rfl rfl rfl rfl ⟨_, rfl⟩ dX0_pass_35 (fun H locs wt hT hfl hfn hP hD hS => ?_)
    have hW := hW.obj (show 7 * 100 + 9 ∈ [709] by decide) hfl
    have hf_5 := hfn
    refine lv_iload_n hx hb dX0_pass_38 rfl (lv_at hl 1 rfl) ?_
    have hP9 := tw_right hP
    have hD9 := tw_rightD hD
    exact W.iret (v := x5_1) hx hb hr (gq_endI wt ⟨hT, hW⟩ hP9 hD9 hS) hS.2.2 dX0_pass_39
  · rw [Int32.le_iff_toInt_le] at c_1
    refine lv_iload_n hx hb dX0_pass_11 rfl (lv_at hl 1 rfl) ?_
    refine lv_aload_n hx hb dX0_pass_12 rfl (lv_at hl 2 rfl) ?_
    refine lv_aload_n hx hb dX0_pass_13 rfl (lv_at hl 3 rfl) ?_
    refine lv_iload hx hb dX0_pass_14 (lv_at hl 0 rfl) ?_
    refine lv_iload_n hx hb dX0_pass_16 rfl (lv_at hl 4 rfl) ?_
    refine gt_callI (wr := []) (va_runV (As := [.ref v, .int x5_0, .int z]) (rest := [.int x5_1]) ⟨hx, hb, hml, hown, ht⟩ (d_passLot l G Γ H.size wt hT t v x5_0 z k_t k_v (by omega) (by omega)) (cwV 3 ht (ts_gV wd_880 wd_881 wd_882 wd_130 wd_883) rfl rfl rfl (by decide +kernel) ⟨Nat.le_of_ble_eq_true rfl, Nat.le_of_ble_eq_true rfl⟩) (gt_preW (ci := 0) hK hT (tw_right hP) (tw_rightD hD) k_t (by decide) rfl) rfl rfl hl.1 rfl (lv_room (Nat.le_of_ble_eq_true rfl)) dX0_pass_17 ⟨Nat.le_of_ble_eq_true rfl, Nat.le_of_ble_eq_true rfl⟩) hP hD hS hA (fun r_6 wt H locs hw hP hD hS => ?_)
    obtain ⟨hT, hkp⟩ := hw
    have hW := hW.call (show ∀ x ∈ [], x ∈ [709] by decide) hkp
    obtain ⟨t_7, et_7⟩ : ∃ zz_ : Int32, x5_1 ||| r_6 = zz_ := ⟨_, rfl⟩
    refine gq_ior hx hb t_7 et_7 dX0_pass_20 ?_
    refine lv_istore_n (lv' := [(3, .int t_7), (4, .int x5_0), (0, .ref t), (1, .ref v), (2, .int z)]) hx hb dX0_pass_21 rfl hl (by decide) rfl (fun ls hl => ?_)
    obtain ⟨t_8, et_8⟩ : ∃ zz_ : Int32, x5_0 + Int32.ofInt (1) = zz_ := ⟨_, rfl⟩
    have ft_8 : t_8.toInt = x5_0.toInt + (1 : Int32).toInt := ia_add (y := 1) et_8 (by omega) (by omega)
    refine lv_iinc (v := t_8) (lv' := [(4, .int t_8), (3, .int t_7), (0, .ref t), (1, .ref v), (2, .int z)]) hx hb dX0_pass_22 hl (k := 1) rfl et_8 (by decide) rfl (fun ls hl => ?_)
    refine lv_goto (tgt := 5) hx hb dX0_pass_25 (by decide) ?_
    exact ih5 (t_8, t_7) (show 0 ≤ t_8.toInt ∧ t_8.toInt ≤ 3 from ⟨by omega, by omega⟩) (show (3 - t_8.toInt).toNat < (3 - x5_0.toInt).toNat by omega) H locs wt ls hT hW hP hD hS (lv_sub hl [0, 1, 2, 3, 4] rfl)
set_option maxHeartbeats 4000000 in
set_option maxRecDepth 100000 in
theorem d_passMany (l : Launch) (G : gg_T) (Γ : Nat → Nat) (sz : Nat) (wt : va_W) (hT : tk_ty G Γ wt) (t : Nat) (v : Nat) (n : Int32) (k_t : Γ t = 1) (k_v : Γ v = 8) : Met l yX0_passMany (ts_L yX0_passMany cX0_passMany 4 none) ({ frames := 5, cells := 0, slots := 0, locals := 123 }) (gc_P G wt sz [.ref t, .ref v, .int n]) (gc_V G (va_A wt sz) (fun (u : va_W) => tk_ty G Γ u ∧ tk_kp [709] wt u) (fun u => u)) 0 0 (va_A wt sz) := by
  refine Met.ofW (cc := cX0_passMany) (maxL := 4) (ret := none) (by decide) rfl ?_
  intro p e s m args below meth c s₁ B hml hv
  obtain ⟨rfl, hsz, hP, hK, hD0⟩ := hv
  have hx := B.exec
  have hb := B.bytes
  have hr := B.returns
  have ht := ts_ht (atoms_spec (ws := ts_L yX0_passMany cX0_passMany 4 none) B.pre)
  have hown : s.vm.findClass RX0 = some m.cls := findClass_of_methodNamed B.named
  have hlocks := B.notSynchronized
  subst hsz
  have hD := hD0.self (sz := s.heap.size)
  generalize hAe : va_A wt s.heap.size = A at hD ⊢
  have hA : ∀ q : Nat, s.heap.size ≤ q → A q := fun q h => by rw [← hAe]; exact Or.inr h
  clear hAe hD0
  have hS : va_S A s.heap s.heap [] := va_S.rf
  obtain ⟨w0, hw0⟩ : ∃ z, z = wt := ⟨_, rfl⟩
  have hW : tk_kp [709] w0 wt := by rw [hw0]; exact tk_kp.rf
  rw [← hw0]
  clear hw0
  have hP : va_P (gg_D G) classes ([] ++ wt) s.heap := hP
  have hD : va_D A ([] ++ wt) := hD
  have hl := lv_entry ([.ref t, .ref v, .int n]) (n := 4) (Nat.le_of_ble_eq_true rfl)
  rw [lg_entry_eq]
  generalize (lg_sl ([.ref t, .ref v, .int n]) ++ List.replicate (4 - (lg_sl ([.ref t, .ref v, .int n])).length) Slot.unset).toArray = ls at hl ⊢
  have hl : lv_has ls 4 [(0, .ref t), (1, .ref v), (2, .int n)] := hl
  have l0 : (0 : Int32).toInt = 0 := by decide +kernel
  have l1 : (1 : Int32).toInt = 1 := by decide +kernel
  refine lv_iconst (v := 0) hx hb dX0_passMany_0 (by decide +kernel) ?_
  refine lv_istore_n (lv' := [(3, .int 0), (0, .ref t), (1, .ref v), (2, .int n)]) hx hb dX0_passMany_1 rfl hl (by decide) rfl (fun ls hl => ?_)
  refine tl_loopE (Γ := Γ) (nL := 4) (fun (zz_ : Int32) => match zz_ with | x2_0 => 0 ≤ x2_0.toInt ∧ x2_0.toInt ≤ 2147483647) (fun (zz_ : Int32) => match zz_ with | x2_0 => (n.toInt - x2_0.toInt).toNat) (fun (zz_ : Int32) => match zz_ with | x2_0 => [(3, .int x2_0), (0, .ref t), (1, .ref v), (2, .int n)]) (fun (zz_ : Int32) => match zz_ with | x2_0 => []) (fun (zz_ : Int32) (w : va_W) => match zz_ with | x2_0 => tk_kp [709] w0 w) (fun zz_ hI H locs wt ls hT hW hP hD hS hl ih2 => ?_) 0 (show 0 ≤ (0 : Int32).toInt ∧ (0 : Int32).toInt ≤ 2147483647 from ⟨by omega, by omega⟩) _ _ wt ls hT hW hP hD hS hl
  obtain ⟨x2_0, rfl⟩ : ∃ z2, z2 = zz_ := ⟨_, rfl⟩
  have hW : tk_kp [709] w0 wt := hW
  have hI : 0 ≤ x2_0.toInt ∧ x2_0.toInt ≤ 2147483647 := hI
  obtain ⟨j2_0, j2_1⟩ := hI
  have hl : lv_has ls 4 [(3, .int x2_0), (0, .ref t), (1, .ref v), (2, .int n)] := hl
  have hP : va_P (gg_D G) classes ([] ++ wt) H := hP
  have hD : va_D A ([] ++ wt) := hD
  refine lv_iload_n hx hb dX0_passMany_2 rfl (lv_at hl 0 rfl) ?_
  refine lv_iload_n hx hb dX0_passMany_3 rfl (lv_at hl 3 rfl) ?_
  refine lv_icmp_ge (tgt := 28) hx hb dX0_passMany_4 (by decide) (fun c_1 => ?_) (fun c_1 => ?_)
  · rw [Int32.le_iff_toInt_le] at c_1
    have hP9 := tw_right hP
    have hD9 := tw_rightD hD
    exact W.vret hx hb hr (gq_endV wt ⟨hT, hW⟩ hP9 hD9 hS) hS.2.2 dX0_passMany_28
  · rw [Int32.le_iff_toInt_le] at c_1
    refine lv_aload_n hx hb dX0_passMany_7 rfl (lv_at hl 2 rfl) ?_
    refine lv_iconst (v := 1) hx hb dX0_passMany_8 (by decide +kernel) ?_
    refine gt_callI (wr := []) (va_runV (As := [.int 1]) (rest := []) ⟨hx, hb, hml, hown, ht⟩ (d_lotsAt l G Γ H.size wt hT v 1 k_v) (cwV 1 ht (ts_gV wd_997 wd_847 wd_848 wd_125 wd_849) rfl rfl rfl (by decide +kernel) ⟨Nat.le_of_ble_eq_true rfl, Nat.le_of_ble_eq_true rfl⟩) (gt_preW (ci := 7) hK hT (tw_right hP) (tw_rightD hD) k_v (by decide) rfl) rfl rfl hl.1 rfl (lv_room (Nat.le_of_ble_eq_true rfl)) dX0_passMany_9 ⟨Nat.le_of_ble_eq_true rfl, Nat.le_of_ble_eq_true rfl⟩) hP hD hS hA (fun r_2 wt H locs hw hP hD hS => ?_)
    obtain ⟨hT, hkp, lo_r_2, hi_r_2⟩ := hw
    have hW := hW.call (show ∀ x ∈ [], x ∈ [709] by decide) hkp
    refine lv_if_eq (tgt := 28) hx hb dX0_passMany_12 (by decide) (fun c_3 => ?_) (fun c_3 => ?_)
    · rw [← Int32.toInt_inj] at c_3
      have hP9 := tw_right hP
      have hD9 := tw_rightD hD
      exact W.vret hx hb hr (gq_endV wt ⟨hT, hW⟩ hP9 hD9 hS) hS.2.2 dX0_passMany_28
    · rw [← Int32.toInt_inj] at c_3
      refine lv_aload_n hx hb dX0_passMany_15 rfl (lv_at hl 1 rfl) ?_
      refine lv_aload_n hx hb dX0_passMany_16 rfl (lv_at hl 2 rfl) ?_
      refine lv_iconst (v := 0) hx hb dX0_passMany_17 (by decide +kernel) ?_
      refine gt_callI (wr := []) (va_runV (As := [.ref v, .int 0]) (rest := []) ⟨hx, hb, hml, hown, ht⟩ (d_pass l G Γ H.size wt hT t v 0 k_t k_v) (cwV 2 ht (ts_gV wd_998 wd_877 wd_878 wd_130 wd_879) rfl rfl rfl (by decide +kernel) ⟨Nat.le_of_ble_eq_true rfl, Nat.le_of_ble_eq_true rfl⟩) (gt_preW (ci := 0) hK hT (tw_right hP) (tw_rightD hD) k_t (by decide) rfl) rfl rfl hl.1 rfl (lv_room (Nat.le_of_ble_eq_true rfl)) dX0_passMany_18 ⟨Nat.le_of_ble_eq_true rfl, Nat.le_of_ble_eq_true rfl⟩) hP hD hS hA (fun r_4 wt H locs hw hP hD hS => ?_)
      obtain ⟨hT, hkp⟩ := hw
      have hW := hW.call (show ∀ x ∈ [709], x ∈ [709] by decide) hkp
      refine lv_pop hx hb dX0_passMany_21 rfl ?_
      obtain ⟨t_5, et_5⟩ : ∃ zz_ : Int32, x2_0 + Int32.ofInt (1) = zz_ := ⟨_, rfl⟩
      have bd_n := ia_bd n
      have ft_5 : t_5.toInt = x2_0.toInt + (1 : Int32).toInt := ia_add (y := 1) et_5 (by omega) (by omega)
      refine lv_iinc (v := t_5) (lv' := [(3, .int t_5), (0, .ref t), (1, .ref v), (2, .int n)]) hx hb dX0_passMany_22 hl (k := 0) rfl et_5 (by decide) rfl (fun ls hl => ?_)
      refine lv_goto (tgt := 2) hx hb dX0_passMany_25 (by decide) ?_
      exact ih2 t_5 (show 0 ≤ t_5.toInt ∧ t_5.toInt ≤ 2147483647 from ⟨by omega, by omega⟩) (show (n.toInt - t_5.toInt).toNat < (n.toInt - x2_0.toInt).toNat by omega) H locs wt ls hT hW hP hD hS (lv_sub hl [0, 1, 2, 3] rfl)
set_option maxHeartbeats 4000000 in
set_option maxRecDepth 100000 in
theorem d_passTillOver (l : Launch) (G : gg_T) (Γ : Nat → Nat) (sz : Nat) (wt : va_W) (hT : tk_ty G Γ wt) (t : Nat) (v : Nat) (w : Int32) (k_t : Γ t = 1) (k_v : Γ v = 8) (lo_w : 0 ≤ w.toInt) (hi_w : w.toInt ≤ 2) : Met l yX0_passTillOver (ts_L yX0_passTillOver cX0_passTillOver 4 none) ({ frames := 5, cells := 0, slots := 0, locals := 123 }) (gc_P G wt sz [.ref t, .ref v, .int w]) (gc_V G (va_A wt sz) (fun (u : va_W) => tk_ty G Γ u ∧ tk_kp [709] wt u) (fun u => u)) 0 0 (va_A wt sz) := by
  refine Met.ofW (cc := cX0_passTillOver) (maxL := 4) (ret := none) (by decide) rfl ?_
  intro p e s m args below meth c s₁ B hml hv
  obtain ⟨rfl, hsz, hP, hK, hD0⟩ := hv
  have hx := B.exec
  have hb := B.bytes
  have hr := B.returns
  have ht := ts_ht (atoms_spec (ws := ts_L yX0_passTillOver cX0_passTillOver 4 none) B.pre)
  have hown : s.vm.findClass RX0 = some m.cls := findClass_of_methodNamed B.named
  have hlocks := B.notSynchronized
  subst hsz
  have hD := hD0.self (sz := s.heap.size)
  generalize hAe : va_A wt s.heap.size = A at hD ⊢
  have hA : ∀ q : Nat, s.heap.size ≤ q → A q := fun q h => by rw [← hAe]; exact Or.inr h
  clear hAe hD0
  have hS : va_S A s.heap s.heap [] := va_S.rf
  obtain ⟨w0, hw0⟩ : ∃ z, z = wt := ⟨_, rfl⟩
  have hW : tk_kp [709] w0 wt := by rw [hw0]; exact tk_kp.rf
  rw [← hw0]
  clear hw0
  have hP : va_P (gg_D G) classes ([] ++ wt) s.heap := hP
  have hD : va_D A ([] ++ wt) := hD
  have hl := lv_entry ([.ref t, .ref v, .int w]) (n := 4) (Nat.le_of_ble_eq_true rfl)
  rw [lg_entry_eq]
  generalize (lg_sl ([.ref t, .ref v, .int w]) ++ List.replicate (4 - (lg_sl ([.ref t, .ref v, .int w])).length) Slot.unset).toArray = ls at hl ⊢
  have hl : lv_has ls 4 [(0, .ref t), (1, .ref v), (2, .int w)] := hl
  have l0 : (0 : Int32).toInt = 0 := by decide +kernel
  have l1 : (1 : Int32).toInt = 1 := by decide +kernel
  have l300 : (300 : Int32).toInt = 300 := by decide +kernel
  refine lv_iconst (v := 0) hx hb dX0_passTillOver_0 (by decide +kernel) ?_
  refine lv_istore_n (lv' := [(3, .int 0), (0, .ref t), (1, .ref v), (2, .int w)]) hx hb dX0_passTillOver_1 rfl hl (by decide) rfl (fun ls hl => ?_)
  refine tl_loopE (Γ := Γ) (nL := 4) (fun (zz_ : Int32) => match zz_ with | x2_0 => 0 ≤ x2_0.toInt ∧ x2_0.toInt ≤ 300) (fun (zz_ : Int32) => match zz_ with | x2_0 => (300 - x2_0.toInt).toNat) (fun (zz_ : Int32) => match zz_ with | x2_0 => [(3, .int x2_0), (0, .ref t), (1, .ref v), (2, .int w)]) (fun (zz_ : Int32) => match zz_ with | x2_0 => []) (fun (zz_ : Int32) (w : va_W) => match zz_ with | x2_0 => tk_kp [709] w0 w) (fun zz_ hI H locs wt ls hT hW hP hD hS hl ih2 => ?_) 0 (show 0 ≤ (0 : Int32).toInt ∧ (0 : Int32).toInt ≤ 300 from ⟨by omega, by omega⟩) _ _ wt ls hT hW hP hD hS hl
  obtain ⟨x2_0, rfl⟩ : ∃ z2, z2 = zz_ := ⟨_, rfl⟩
  have hW : tk_kp [709] w0 wt := hW
  have hI : 0 ≤ x2_0.toInt ∧ x2_0.toInt ≤ 300 := hI
  obtain ⟨j2_0, j2_1⟩ := hI
  have hl : lv_has ls 4 [(3, .int x2_0), (0, .ref t), (1, .ref v), (2, .int w)] := hl
  have hP : va_P (gg_D G) classes ([] ++ wt) H := hP
  have hD : va_D A ([] ++ wt) := hD
  refine lv_iload_n hx hb dX0_passTillOver_2 rfl (lv_at hl 0 rfl) ?_
  refine lv_sipush (v := 300) hx hb dX0_passTillOver_3 (by decide +kernel) ?_
  refine lv_icmp_ge (tgt := 32) hx hb dX0_passTillOver_6 (by decide) (fun c_1 => ?_) (fun c_1 => ?_)
  · rw [Int32.le_iff_toInt_le] at c_1
    have hP9 := tw_right hP
    have hD9 := tw_rightD hD
    exact W.vret hx hb hr (gq_endV wt ⟨hT, hW⟩ hP9 hD9 hS) hS.2.2 dX0_passTillOver_32
  · rw [Int32.le_iff_toInt_le] at c_1
    refine lv_aload_n hx hb dX0_passTillOver_9 rfl (lv_at hl 2 rfl) ?_
    refine tr_get (ci := 7) hx hb ht hown hK hT hP k_v (by decide) i_X7 rfl 4 (by decide) wd_248 rfl dX0_passTillOver_10 (fun v hv hf_2 => ?_)
    obtain ⟨q_3, rfl, hq_3⟩ := hv
    refine lv_iload_n hx hb dX0_passTillOver_13 rfl (lv_at hl 3 rfl) ?_
    refine tr_iald hx hb hK hT hP 21 hq_3 (by decide) (by decide) (show vp_in _ (tk_len 21) from ia_in (n := 3) (by omega) (by omega)) dX0_passTillOver_14 (fun n_4 hn_4 => ?_)
    clear hn_4
    refine lv_iconst (v := 1) hx hb dX0_passTillOver_15 (by decide +kernel) ?_
    refine lv_icmp_ne (tgt := 32) hx hb dX0_passTillOver_16 (by decide) (fun c_5 => ?_) (fun c_5 => ?_)
    · rw [← Int32.toInt_inj] at c_5
      have hP9 := tw_right hP
      have hD9 := tw_rightD hD
      exact W.vret hx hb hr (gq_endV wt ⟨hT, hW⟩ hP9 hD9 hS) hS.2.2 dX0_passTillOver_32
    · rw [← Int32.toInt_inj] at c_5
      refine lv_aload_n hx hb dX0_passTillOver_19 rfl (lv_at hl 1 rfl) ?_
      refine lv_aload_n hx hb dX0_passTillOver_20 rfl (lv_at hl 2 rfl) ?_
      refine lv_iconst (v := 0) hx hb dX0_passTillOver_21 (by decide +kernel) ?_
      refine gt_callI (wr := []) (va_runV (As := [.ref v, .int 0]) (rest := []) ⟨hx, hb, hml, hown, ht⟩ (d_pass l G Γ H.size wt hT t v 0 k_t k_v) (cwV 2 ht (ts_gV wd_998 wd_877 wd_878 wd_130 wd_879) rfl rfl rfl (by decide +kernel) ⟨Nat.le_of_ble_eq_true rfl, Nat.le_of_ble_eq_true rfl⟩) (gt_preW (ci := 0) hK hT (tw_right hP) (tw_rightD hD) k_t (by decide) rfl) rfl rfl hl.1 rfl (lv_room (Nat.le_of_ble_eq_true rfl)) dX0_passTillOver_22 ⟨Nat.le_of_ble_eq_true rfl, Nat.le_of_ble_eq_true rfl⟩) hP hD hS hA (fun r_6 wt H locs hw hP hD hS => ?_)
      obtain ⟨hT, hkp⟩ := hw
      have hW := hW.call (show ∀ x ∈ [709], x ∈ [709] by decide) hkp
      refine lv_pop hx hb dX0_passTillOver_25 rfl ?_
      obtain ⟨t_7, et_7⟩ : ∃ zz_ : Int32, x2_0 + Int32.ofInt (1) = zz_ := ⟨_, rfl⟩
      have ft_7 : t_7.toInt = x2_0.toInt + (1 : Int32).toInt := ia_add (y := 1) et_7 (by omega) (by omega)
      refine lv_iinc (v := t_7) (lv' := [(3, .int t_7), (0, .ref t), (1, .ref v), (2, .int w)]) hx hb dX0_passTillOver_26 hl (k := 0) rfl et_7 (by decide) rfl (fun ls hl => ?_)
      refine lv_goto (tgt := 2) hx hb dX0_passTillOver_29 (by decide) ?_
      exact ih2 t_7 (show 0 ≤ t_7.toInt ∧ t_7.toInt ≤ 300 from ⟨by omega, by omega⟩) (show (300 - t_7.toInt).toNat < (300 - x2_0.toInt).toNat by omega) H locs wt ls hT hW hP hD hS (lv_sub hl [0, 1, 2, 3] rfl)
set_option maxHeartbeats 4000000 in
set_option maxRecDepth 100000 in
theorem d_passTillDecided (l : Launch) (G : gg_T) (Γ : Nat → Nat) (sz : Nat) (wt : va_W) (hT : tk_ty G Γ wt) (t : Nat) (v : Nat) (w : Int32) (b : Int32) (k_t : Γ t = 1) (k_v : Γ v = 8) (lo_w : 0 ≤ w.toInt) (hi_w : w.toInt ≤ 2) : Met l yX0_passTillDecided (ts_L yX0_passTillDecided cX0_passTillDecided 5 (some .boolean)) ({ frames := 5, cells := 0, slots := 0, locals := 123 }) (gc_P G wt sz [.ref t, .ref v, .int w, .int b]) (gc_I G (va_A wt sz) (fun r (u : va_W) => tk_ty G Γ u ∧ tk_kp [709] wt u ∧ 0 ≤ r.toInt ∧ r.toInt ≤ 1) (fun u => u)) 0 0 (va_A wt sz) := by
  refine Met.ofW (cc := cX0_passTillDecided) (maxL := 5) (ret := (some .boolean)) (by decide) rfl ?_
  intro p e s m args below meth c s₁ B hml hv
  obtain ⟨rfl, hsz, hP, hK, hD0⟩ := hv
  have hx := B.exec
  have hb := B.bytes
  have hr := B.returns
  have ht := ts_ht (atoms_spec (ws := ts_L yX0_passTillDecided cX0_passTillDecided 5 (some .boolean)) B.pre)
  have hown : s.vm.findClass RX0 = some m.cls := findClass_of_methodNamed B.named
  have hlocks := B.notSynchronized
  subst hsz
  have hD := hD0.self (sz := s.heap.size)
  generalize hAe : va_A wt s.heap.size = A at hD ⊢
  have hA : ∀ q : Nat, s.heap.size ≤ q → A q := fun q h => by rw [← hAe]; exact Or.inr h
  clear hAe hD0
  have hS : va_S A s.heap s.heap [] := va_S.rf
  obtain ⟨w0, hw0⟩ : ∃ z, z = wt := ⟨_, rfl⟩
  have hW : tk_kp [709] w0 wt := by rw [hw0]; exact tk_kp.rf
  rw [← hw0]
  clear hw0
  have hP : va_P (gg_D G) classes ([] ++ wt) s.heap := hP
  have hD : va_D A ([] ++ wt) := hD
  have hl := lv_entry ([.ref t, .ref v, .int w, .int b]) (n := 5) (Nat.le_of_ble_eq_true rfl)
  rw [lg_entry_eq]
  generalize (lg_sl ([.ref t, .ref v, .int w, .int b]) ++ List.replicate (5 - (lg_sl ([.ref t, .ref v, .int w, .int b])).length) Slot.unset).toArray = ls at hl ⊢
  have hl : lv_has ls 5 [(0, .ref t), (1, .ref v), (2, .int w), (3, .int b)] := hl
  have l0 : (0 : Int32).toInt = 0 := by decide +kernel
  have l1 : (1 : Int32).toInt = 1 := by decide +kernel
  have l300 : (300 : Int32).toInt = 300 := by decide +kernel
  refine lv_iconst (v := 0) hx hb dX0_passTillDecided_0 (by decide +kernel) ?_
  refine lv_istore (lv' := [(4, .int 0), (0, .ref t), (1, .ref v), (2, .int w), (3, .int b)]) hx hb dX0_passTillDecided_1 hl (by decide) rfl (fun ls hl => ?_)
  refine tl_loopE (Γ := Γ) (nL := 5) (fun (zz_ : Int32) => match zz_ with | x3_0 => 0 ≤ x3_0.toInt ∧ x3_0.toInt ≤ 300) (fun (zz_ : Int32) => match zz_ with | x3_0 => (300 - x3_0.toInt).toNat) (fun (zz_ : Int32) => match zz_ with | x3_0 => [(4, .int x3_0), (0, .ref t), (1, .ref v), (2, .int w), (3, .int b)]) (fun (zz_ : Int32) => match zz_ with | x3_0 => []) (fun (zz_ : Int32) (w : va_W) => match zz_ with | x3_0 => tk_kp [709] w0 w) (fun zz_ hI H locs wt ls hT hW hP hD hS hl ih3 => ?_) 0 (show 0 ≤ (0 : Int32).toInt ∧ (0 : Int32).toInt ≤ 300 from ⟨by omega, by omega⟩) _ _ wt ls hT hW hP hD hS hl
  obtain ⟨x3_0, rfl⟩ : ∃ z2, z2 = zz_ := ⟨_, rfl⟩
  have hW : tk_kp [709] w0 wt := hW
  have hI : 0 ≤ x3_0.toInt ∧ x3_0.toInt ≤ 300 := hI
  obtain ⟨j3_0, j3_1⟩ := hI
  have hl : lv_has ls 5 [(4, .int x3_0), (0, .ref t), (1, .ref v), (2, .int w), (3, .int b)] := hl
  have hP : va_P (gg_D G) classes ([] ++ wt) H := hP
  have hD : va_D A ([] ++ wt) := hD
  refine lv_iload hx hb dX0_passTillDecided_3 (lv_at hl 0 rfl) ?_
  refine lv_sipush (v := 300) hx hb dX0_passTillDecided_5 (by decide +kernel) ?_
  refine lv_icmp_ge (tgt := 37) hx hb dX0_passTillDecided_8 (by decide) (fun c_1 => ?_) (fun c_1 => ?_)
  · rw [Int32.le_iff_toInt_le] at c_1
    refine lv_aload_n hx hb dX0_passTillDecided_37 rfl (lv_at hl 2 rfl) ?_
    refine tr_get (ci := 7) hx hb ht hown hK hT hP k_v (by decide) i_X7 rfl 6 (by decide) wd_256 rfl dX0_passTillDecided_38 (fun v hv hf_2 => ?_)
    obtain ⟨q_3, rfl, hq_3⟩ := hv
    refine lv_iload_n hx hb dX0_passTillDecided_41 rfl (lv_at hl 3 rfl) ?_
    refine tr_iald hx hb hK hT hP 21 hq_3 (by decide) (by decide) (show vp_in _ (tk_len 21) from ia_in (n := 3) (by omega) (by omega)) dX0_passTillDecided_42 (fun n_4 hn_4 => ?_)
    clear hn_4
    refine lv_iload_n hx hb dX0_passTillDecided_43 rfl (lv_at hl 4 rfl) ?_
    refine lv_icmp_ne (tgt := 51) hx hb dX0_passTillDecided_44 (by decide) (fun c_5 => ?_) (fun c_5 => ?_)
    · rw [← Int32.toInt_inj] at c_5
      refine lv_iconst (v := 0) hx hb dX0_passTillDecided_51 (by decide +kernel) ?_
      have hP9 := tw_right hP
      have hD9 := tw_rightD hD
      exact W.zret (v := 0) hx hb hr (by decide +kernel) (gq_endI wt ⟨hT, hW, (by omega), (by omega)⟩ hP9 hD9 hS) hS.2.2 dX0_passTillDecided_52
    · rw [← Int32.toInt_inj] at c_5
      refine lv_iconst (v := 1) hx hb dX0_passTillDecided_47 (by decide +kernel) ?_
      refine lv_goto (tgt := 52) hx hb dX0_passTillDecided_48 (by decide) ?_
      have hP9 := tw_right hP
      have hD9 := tw_rightD hD
      exact W.zret (v := 1) hx hb hr (by decide +kernel) (gq_endI wt ⟨hT, hW, (by omega), (by omega)⟩ hP9 hD9 hS) hS.2.2 dX0_passTillDecided_52
  · rw [Int32.le_iff_toInt_le] at c_1
    refine lv_iload_n hx hb dX0_passTillDecided_11 rfl (lv_at hl 4 rfl) ?_
    refine lv_aload_n hx hb dX0_passTillDecided_12 rfl (lv_at hl 2 rfl) ?_
    refine tr_get (ci := 7) hx hb ht hown hK hT hP k_v (by decide) i_X7 rfl 8 (by decide) wd_263 rfl dX0_passTillDecided_13 (fun v hv hf_6 => ?_)
    obtain ⟨q_7, rfl, hq_7⟩ := hv
    refine lv_iload_n hx hb dX0_passTillDecided_16 rfl (lv_at hl 3 rfl) ?_
    refine tr_iald hx hb hK hT hP 22 hq_7 (by decide) (by decide) (show vp_in _ (tk_len 22) from ia_in (n := 3) (by omega) (by omega)) dX0_passTillDecided_17 (fun n_8 hn_8 => ?_)
    have hn_8 : 0 ≤ n_8.toInt ∧ n_8.toInt ≤ 31 := hn_8
    refine gt_callI (wr := []) (va_runSN (As := [.int b, .int n_8]) (rest := []) ⟨hx, hb, hml, hown, ht⟩ (d_isIn l G Γ H.size wt hT b n_8) ⟨va_cnB 2 ht (tb_good (ts_good wd_803)) rfl rfl rfl (hK.2.1 _ wn_888 rfl) (ht _ wd_122) (by decide +kernel) ⟨Nat.le_of_ble_eq_true rfl, Nat.le_of_ble_eq_true rfl⟩, ht _ wd_802, trivial⟩ (gc_preS hK (tw_right hP) (tw_rightD hD)) rfl rfl hl.1 rfl (lv_room (Nat.le_of_ble_eq_true rfl)) dX0_passTillDecided_18 ⟨Nat.le_of_ble_eq_true rfl, Nat.le_of_ble_eq_true rfl⟩) hP hD hS hA (fun r_9 wt H locs hw hP hD hS => ?_)
    obtain ⟨hT, hkp, lo_r_9, hi_r_9⟩ := hw
    have hW := hW.call (show ∀ x ∈ [], x ∈ [709] by decide) hkp
    refine lv_if_eq (tgt := 37) hx hb dX0_passTillDecided_21 (by decide) (fun c_10 => ?_) (fun c_10 => ?_)
    · rw [← Int32.toInt_inj] at c_10
      refine lv_aload_n hx hb dX0_passTillDecided_37 rfl (lv_at hl 2 rfl) ?_
      refine tr_get (ci := 7) hx hb ht hown hK hT hP k_v (by decide) i_X7 rfl 6 (by decide) wd_256 rfl dX0_passTillDecided_38 (fun v hv hf_11 => ?_)
      obtain ⟨q_12, rfl, hq_12⟩ := hv
      refine lv_iload_n hx hb dX0_passTillDecided_41 rfl (lv_at hl 3 rfl) ?_
      refine tr_iald hx hb hK hT hP 21 hq_12 (by decide) (by decide) (show vp_in _ (tk_len 21) from ia_in (n := 3) (by omega) (by omega)) dX0_passTillDecided_42 (fun n_13 hn_13 => ?_)
      clear hn_13
      refine lv_iload_n hx hb dX0_passTillDecided_43 rfl (lv_at hl 4 rfl) ?_
      refine lv_icmp_ne (tgt := 51) hx hb dX0_passTillDecided_44 (by decide) (fun c_14 => ?_) (fun c_14 => ?_)
      · rw [← Int32.toInt_inj] at c_14
        refine lv_iconst (v := 0) hx hb dX0_passTillDecided_51 (by decide +kernel) ?_
        have hP9 := tw_right hP
        have hD9 := tw_rightD hD
        exact W.zret (v := 0) hx hb hr (by decide +kernel) (gq_endI wt ⟨hT, hW, (by omega), (by omega)⟩ hP9 hD9 hS) hS.2.2 dX0_passTillDecided_52
      · rw [← Int32.toInt_inj] at c_14
        refine lv_iconst (v := 1) hx hb dX0_passTillDecided_47 (by decide +kernel) ?_
        refine lv_goto (tgt := 52) hx hb dX0_passTillDecided_48 (by decide) ?_
        have hP9 := tw_right hP
        have hD9 := tw_rightD hD
        exact W.zret (v := 1) hx hb hr (by decide +kernel) (gq_endI wt ⟨hT, hW, (by omega), (by omega)⟩ hP9 hD9 hS) hS.2.2 dX0_passTillDecided_52
    · rw [← Int32.toInt_inj] at c_10
      refine lv_aload_n hx hb dX0_passTillDecided_24 rfl (lv_at hl 1 rfl) ?_
      refine lv_aload_n hx hb dX0_passTillDecided_25 rfl (lv_at hl 2 rfl) ?_
      refine lv_iconst (v := 0) hx hb dX0_passTillDecided_26 (by decide +kernel) ?_
      refine gt_callI (wr := []) (va_runV (As := [.ref v, .int 0]) (rest := []) ⟨hx, hb, hml, hown, ht⟩ (d_pass l G Γ H.size wt hT t v 0 k_t k_v) (cwV 2 ht (ts_gV wd_998 wd_877 wd_878 wd_130 wd_879) rfl rfl rfl (by decide +kernel) ⟨Nat.le_of_ble_eq_true rfl, Nat.le_of_ble_eq_true rfl⟩) (gt_preW (ci := 0) hK hT (tw_right hP) (tw_rightD hD) k_t (by decide) rfl) rfl rfl hl.1 rfl (lv_room (Nat.le_of_ble_eq_true rfl)) dX0_passTillDecided_27 ⟨Nat.le_of_ble_eq_true rfl, Nat.le_of_ble_eq_true rfl⟩) hP hD hS hA (fun r_15 wt H locs hw hP hD hS => ?_)
      obtain ⟨hT, hkp⟩ := hw
      have hW := hW.call (show ∀ x ∈ [709], x ∈ [709] by decide) hkp
      refine lv_pop hx hb dX0_passTillDecided_30 rfl ?_
      obtain ⟨t_16, et_16⟩ : ∃ zz_ : Int32, x3_0 + Int32.ofInt (1) = zz_ := ⟨_, rfl⟩
      have ft_16 : t_16.toInt = x3_0.toInt + (1 : Int32).toInt := ia_add (y := 1) et_16 (by omega) (by omega)
      refine lv_iinc (v := t_16) (lv' := [(4, .int t_16), (0, .ref t), (1, .ref v), (2, .int w), (3, .int b)]) hx hb dX0_passTillDecided_31 hl (k := 0) rfl et_16 (by decide) rfl (fun ls hl => ?_)
      refine lv_goto (tgt := 3) hx hb dX0_passTillDecided_34 (by decide) ?_
      exact ih3 t_16 (show 0 ≤ t_16.toInt ∧ t_16.toInt ≤ 300 from ⟨by omega, by omega⟩) (show (300 - t_16.toInt).toNat < (300 - x3_0.toInt).toNat by omega) H locs wt ls hT hW hP hD hS (lv_sub hl [0, 1, 2, 3, 4] rfl)
set_option maxHeartbeats 4000000 in
set_option maxRecDepth 100000 in
theorem d_drawFrom (l : Launch) (G : gg_T) (Γ : Nat → Nat) (sz : Nat) (wt : va_W) (hT : tk_ty G Γ wt) (t : Nat) (n : Int32) (k_t : Γ t = 1) : Met l yX0_drawFrom (ts_L yX0_drawFrom cX0_drawFrom 2 none) ({ frames := 0, cells := 0, slots := 0, locals := 0 }) (gc_P G wt sz [.ref t, .int n]) (gc_V G (va_A wt sz) (fun (u : va_W) => tk_ty G Γ u ∧ tk_kp [3] wt u) (fun u => u)) 0 0 (va_A wt sz) := by
  refine Met.ofW (cc := cX0_drawFrom) (maxL := 2) (ret := none) (by decide) rfl ?_
  intro p e s m args below meth c s₁ B hml hv
  obtain ⟨rfl, hsz, hP, hK, hD0⟩ := hv
  have hx := B.exec
  have hb := B.bytes
  have hr := B.returns
  have ht := ts_ht (atoms_spec (ws := ts_L yX0_drawFrom cX0_drawFrom 2 none) B.pre)
  have hown : s.vm.findClass RX0 = some m.cls := findClass_of_methodNamed B.named
  have hlocks := B.notSynchronized
  subst hsz
  have hD := hD0.self (sz := s.heap.size)
  generalize hAe : va_A wt s.heap.size = A at hD ⊢
  have hA : ∀ q : Nat, s.heap.size ≤ q → A q := fun q h => by rw [← hAe]; exact Or.inr h
  clear hAe hD0
  have hS : va_S A s.heap s.heap [] := va_S.rf
  obtain ⟨w0, hw0⟩ : ∃ z, z = wt := ⟨_, rfl⟩
  have hW : tk_kp [3] w0 wt := by rw [hw0]; exact tk_kp.rf
  rw [← hw0]
  clear hw0
  have hP : va_P (gg_D G) classes ([] ++ wt) s.heap := hP
  have hD : va_D A ([] ++ wt) := hD
  have hl := lv_entry ([.ref t, .int n]) (n := 2) (Nat.le_of_ble_eq_true rfl)
  rw [lg_entry_eq]
  generalize (lg_sl ([.ref t, .int n]) ++ List.replicate (2 - (lg_sl ([.ref t, .int n])).length) Slot.unset).toArray = ls at hl ⊢
  have hl : lv_has ls 2 [(0, .ref t), (1, .int n)] := hl
  refine lv_aload_n hx hb dX0_drawFrom_0 rfl (lv_at hl 0 rfl) ?_
  refine lv_iload_n hx hb dX0_drawFrom_1 rfl (lv_at hl 1 rfl) ?_
  refine lv_i2l hx hb dX0_drawFrom_2 rfl ?_
  refine lv_topl (fun m_1 em_1 => ?_)
  clear em_1
  refine tr_put (ci := 0) hx hb ht hown hK hT hP hD hS k_t (by decide) i_X0 tyX0 tyX0_ok nmX0 rfl 3 (by decide) wd_412 rfl rfl rfl rfl ⟨_, rfl⟩ dX0_drawFrom_3 (fun H locs wt hT hfl hfn hP hD hS => ?_)
  have hW := hW.obj (show 0 * 100 + 3 ∈ [3] by decide) hfl
  have hf_2 := hfn
  have hP9 := tw_right hP
  have hD9 := tw_rightD hD
  exact W.vret hx hb hr (gq_endV wt ⟨hT, hW⟩ hP9 hD9 hS) hS.2.2 dX0_drawFrom_6
set_option maxHeartbeats 4000000 in
set_option maxRecDepth 100000 in
theorem d_drawCoughs (l : Launch) (G : gg_T) (Γ : Nat → Nat) (sz : Nat) (wt : va_W) (hT : tk_ty G Γ wt) (t : Nat) (v : Nat) (n : Int32) (k_t : Γ t = 1) (k_v : Γ v = 8) : Met l yX0_drawCoughs (ts_L yX0_drawCoughs cX0_drawCoughs 6 (some .int)) ({ frames := 1, cells := 0, slots := 0, locals := 22 }) (gc_P G wt sz [.ref t, .ref v, .int n]) (gc_I G (va_A wt sz) (fun r (u : va_W) => tk_ty G Γ u ∧ tk_kp [3] wt u) (fun u => u)) 0 0 (va_A wt sz) := by
  refine Met.ofW (cc := cX0_drawCoughs) (maxL := 6) (ret := (some .int)) (by decide) rfl ?_
  intro p e s m args below meth c s₁ B hml hv
  obtain ⟨rfl, hsz, hP, hK, hD0⟩ := hv
  have hx := B.exec
  have hb := B.bytes
  have hr := B.returns
  have ht := ts_ht (atoms_spec (ws := ts_L yX0_drawCoughs cX0_drawCoughs 6 (some .int)) B.pre)
  have hown : s.vm.findClass RX0 = some m.cls := findClass_of_methodNamed B.named
  have hlocks := B.notSynchronized
  subst hsz
  have hD := hD0.self (sz := s.heap.size)
  generalize hAe : va_A wt s.heap.size = A at hD ⊢
  have hA : ∀ q : Nat, s.heap.size ≤ q → A q := fun q h => by rw [← hAe]; exact Or.inr h
  clear hAe hD0
  have hS : va_S A s.heap s.heap [] := va_S.rf
  obtain ⟨w0, hw0⟩ : ∃ z, z = wt := ⟨_, rfl⟩
  have hW : tk_kp [3] w0 wt := by rw [hw0]; exact tk_kp.rf
  rw [← hw0]
  clear hw0
  have hP : va_P (gg_D G) classes ([] ++ wt) s.heap := hP
  have hD : va_D A ([] ++ wt) := hD
  have hl := lv_entry ([.ref t, .ref v, .int n]) (n := 6) (Nat.le_of_ble_eq_true rfl)
  rw [lg_entry_eq]
  generalize (lg_sl ([.ref t, .ref v, .int n]) ++ List.replicate (6 - (lg_sl ([.ref t, .ref v, .int n])).length) Slot.unset).toArray = ls at hl ⊢
  have hl : lv_has ls 6 [(0, .ref t), (1, .ref v), (2, .int n)] := hl
  have l0 : (0 : Int32).toInt = 0 := by decide +kernel
  have l1 : (1 : Int32).toInt = 1 := by decide +kernel
  have l5 : (5 : Int32).toInt = 5 := by decide +kernel
  refine lv_iconst (v := 0) hx hb dX0_drawCoughs_0 (by decide +kernel) ?_
  refine lv_istore_n (lv' := [(3, .int 0), (0, .ref t), (1, .ref v), (2, .int n)]) hx hb dX0_drawCoughs_1 rfl hl (by decide) rfl (fun ls hl => ?_)
  refine lv_aload_n hx hb dX0_drawCoughs_2 rfl (lv_at hl 2 rfl) ?_
  refine gt_callI (wr := []) (va_runV (As := []) (rest := []) ⟨hx, hb, hml, hown, ht⟩ (d_silentOnes l G Γ s.heap.size wt hT v k_v) (cwV 0 ht (ts_gV wd_1213 wd_798 wd_799 wd_125 wd_800) rfl rfl rfl (by decide +kernel) ⟨Nat.le_of_ble_eq_true rfl, Nat.le_of_ble_eq_true rfl⟩) (gt_preW (ci := 7) hK hT (tw_right hP) (tw_rightD hD) k_v (by decide) rfl) rfl rfl hl.1 rfl (lv_room (Nat.le_of_ble_eq_true rfl)) dX0_drawCoughs_3 ⟨Nat.le_of_ble_eq_true rfl, Nat.le_of_ble_eq_true rfl⟩) hP hD hS hA (fun r_1 wt H locs hw hP hD hS => ?_)
  obtain ⟨hT, hkp, lo_r_1, hi_r_1⟩ := hw
  have hW := hW.call (show ∀ x ∈ [], x ∈ [3] by decide) hkp
  refine lv_istore (lv' := [(4, .int r_1), (3, .int 0), (0, .ref t), (1, .ref v), (2, .int n)]) hx hb dX0_drawCoughs_6 hl (by decide) rfl (fun ls hl => ?_)
  refine lv_iconst (v := 0) hx hb dX0_drawCoughs_8 (by decide +kernel) ?_
  refine lv_istore (lv' := [(5, .int 0), (4, .int r_1), (3, .int 0), (0, .ref t), (1, .ref v), (2, .int n)]) hx hb dX0_drawCoughs_9 hl (by decide) rfl (fun ls hl => ?_)
  refine tl_loopE (Γ := Γ) (nL := 6) (fun (zz_ : Int32 × Int32) => match zz_ with | (x11_0, x11_1) => 0 ≤ x11_0.toInt ∧ x11_0.toInt ≤ 5) (fun (zz_ : Int32 × Int32) => match zz_ with | (x11_0, x11_1) => (5 - x11_0.toInt).toNat) (fun (zz_ : Int32 × Int32) => match zz_ with | (x11_0, x11_1) => [(5, .int x11_0), (4, .int r_1), (3, .int x11_1), (0, .ref t), (1, .ref v), (2, .int n)]) (fun (zz_ : Int32 × Int32) => match zz_ with | (x11_0, x11_1) => []) (fun (zz_ : Int32 × Int32) (w : va_W) => match zz_ with | (x11_0, x11_1) => tk_kp [3] w0 w) (fun zz_ hI H locs wt ls hT hW hP hD hS hl ih11 => ?_) (0, 0) (show 0 ≤ (0 : Int32).toInt ∧ (0 : Int32).toInt ≤ 5 from ⟨by omega, by omega⟩) _ _ wt ls hT hW hP hD hS hl
  obtain ⟨x11_0, x11_1⟩ := zz_
  have hW : tk_kp [3] w0 wt := hW
  have hI : 0 ≤ x11_0.toInt ∧ x11_0.toInt ≤ 5 := hI
  obtain ⟨j11_0, j11_1⟩ := hI
  have hl : lv_has ls 6 [(5, .int x11_0), (4, .int r_1), (3, .int x11_1), (0, .ref t), (1, .ref v), (2, .int n)] := hl
  have hP : va_P (gg_D G) classes ([] ++ wt) H := hP
  have hD : va_D A ([] ++ wt) := hD
  refine lv_iload hx hb dX0_drawCoughs_11 (lv_at hl 0 rfl) ?_
  refine lv_iconst (v := 5) hx hb dX0_drawCoughs_13 (by decide +kernel) ?_
  refine lv_icmp_ge (tgt := 82) hx hb dX0_drawCoughs_14 (by decide) (fun c_2 => ?_) (fun c_2 => ?_)
  · rw [Int32.le_iff_toInt_le] at c_2
    refine lv_iload_n hx hb dX0_drawCoughs_82 rfl (lv_at hl 2 rfl) ?_
    have hP9 := tw_right hP
    have hD9 := tw_rightD hD
    exact W.iret (v := x11_1) hx hb hr (gq_endI wt ⟨hT, hW⟩ hP9 hD9 hS) hS.2.2 dX0_drawCoughs_83
  · rw [Int32.le_iff_toInt_le] at c_2
    refine lv_iload hx hb dX0_drawCoughs_17 (lv_at hl 0 rfl) ?_
    refine lv_iload hx hb dX0_drawCoughs_19 (lv_at hl 1 rfl) ?_
    refine gt_callI (wr := []) (va_runSN (As := [.int x11_0, .int r_1]) (rest := []) ⟨hx, hb, hml, hown, ht⟩ (d_isIn l G Γ H.size wt hT x11_0 r_1) ⟨va_cnB 2 ht (tb_good (ts_good wd_803)) rfl rfl rfl (hK.2.1 _ wn_888 rfl) (ht _ wd_122) (by decide +kernel) ⟨Nat.le_of_ble_eq_true rfl, Nat.le_of_ble_eq_true rfl⟩, ht _ wd_802, trivial⟩ (gc_preS hK (tw_right hP) (tw_rightD hD)) rfl rfl hl.1 rfl (lv_room (Nat.le_of_ble_eq_true rfl)) dX0_drawCoughs_21 ⟨Nat.le_of_ble_eq_true rfl, Nat.le_of_ble_eq_true rfl⟩) hP hD hS hA (fun r_3 wt H locs hw hP hD hS => ?_)
    obtain ⟨hT, hkp, lo_r_3, hi_r_3⟩ := hw
    have hW := hW.call (show ∀ x ∈ [], x ∈ [3] by decide) hkp
    refine lv_if_eq (tgt := 76) hx hb dX0_drawCoughs_24 (by decide) (fun c_4 => ?_) (fun c_4 => ?_)
    · rw [← Int32.toInt_inj] at c_4
      obtain ⟨t_5, et_5⟩ : ∃ zz_ : Int32, x11_0 + Int32.ofInt (1) = zz_ := ⟨_, rfl⟩
      have ft_5 : t_5.toInt = x11_0.toInt + (1 : Int32).toInt := ia_add (y := 1) et_5 (by omega) (by omega)
      refine lv_iinc (v := t_5) (lv' := [(5, .int t_5), (4, .int r_1), (3, .int x11_1), (0, .ref t), (1, .ref v), (2, .int n)]) hx hb dX0_drawCoughs_76 hl (k := 0) rfl et_5 (by decide) rfl (fun ls hl => ?_)
      refine lv_goto (tgt := 11) hx hb dX0_drawCoughs_79 (by decide) ?_
      exact ih11 (t_5, x11_1) (show 0 ≤ t_5.toInt ∧ t_5.toInt ≤ 5 from ⟨by omega, by omega⟩) (show (5 - t_5.toInt).toNat < (5 - x11_0.toInt).toNat by omega) H locs wt ls hT hW hP hD hS (lv_sub hl [0, 1, 2, 3, 4, 5] rfl)
    · rw [← Int32.toInt_inj] at c_4
      refine lv_aload_n hx hb dX0_drawCoughs_27 rfl (lv_at hl 3 rfl) ?_
      refine lv_aload_n hx hb dX0_drawCoughs_28 rfl (lv_at hl 3 rfl) ?_
      refine tr_get (ci := 0) hx hb ht hown hK hT hP k_t (by decide) i_X0 rfl 3 (by decide) wd_412 rfl dX0_drawCoughs_29 (fun v hv hf_6 => ?_)
      obtain ⟨n_7, rfl⟩ := hv
      refine lv_ldc2 hx hb hown (ht _ wd_1214) dX0_drawCoughs_32 ?_
      refine lv_lmul hx hb dX0_drawCoughs_35 ?_
      refine lv_topl (fun m_8 em_8 => ?_)
      clear em_8
      refine lv_ldc2 hx hb hown (ht _ wd_1215) dX0_drawCoughs_36 ?_
      refine lv_ladd hx hb dX0_drawCoughs_39 ?_
      refine lv_topl (fun m_9 em_9 => ?_)
      clear em_9
      refine lv_ldc2 hx hb hown (ht _ wd_1216) dX0_drawCoughs_40 ?_
      refine lv_lrem hx hb dX0_drawCoughs_43 (by decide +kernel) ?_
      refine lv_topl (fun m_10 em_10 => ?_)
      clear em_10
      refine tr_put (ci := 0) hx hb ht hown hK hT hP hD hS k_t (by decide) i_X0 tyX0 tyX0_ok nmX0 rfl 3 (by decide) wd_412 rfl rfl rfl rfl ⟨_, rfl⟩ dX0_drawCoughs_44 (fun H locs wt hT hfl hfn hP hD hS => ?_)
      have hW := hW.obj (show 0 * 100 + 3 ∈ [3] by decide) hfl
      have hf_11 := hfn
      refine lv_iload_n hx hb dX0_drawCoughs_47 rfl (lv_at hl 2 rfl) ?_
      refine lv_aload_n hx hb dX0_drawCoughs_48 rfl (lv_at hl 3 rfl) ?_
      refine tr_getK (ci := 0) hx hb ht hown hK hP i_X0 rfl 3 (by decide) wd_412 rfl hf_11 dX0_drawCoughs_49 ?_
      refine lv_ldc2 hx hb hown (ht _ wd_1217) dX0_drawCoughs_52 ?_
      refine lv_ldiv hx hb dX0_drawCoughs_55 (by decide +kernel) ?_
      refine lv_topl (fun m_12 em_12 => ?_)
      clear em_12
      refine lv_ldc2 hx hb hown (ht _ wd_1218) dX0_drawCoughs_56 ?_
      refine lv_lrem hx hb dX0_drawCoughs_59 (by decide +kernel) ?_
      refine lv_topl (fun m_13 em_13 => ?_)
      clear em_13
      refine lv_iload_n hx hb dX0_drawCoughs_60 rfl (lv_at hl 5 rfl) ?_
      refine lv_i2l hx hb dX0_drawCoughs_61 rfl ?_
      refine lv_topl (fun m_14 em_14 => ?_)
      clear em_14
      obtain ⟨t_15, et_15⟩ : ∃ zz_ : Int32, lg_cmp m_13 m_14 = zz_ := ⟨_, rfl⟩
      refine gq_lcmp hx hb t_15 et_15 dX0_drawCoughs_62 ?_
      refine lv_if_ge (tgt := 73) hx hb dX0_drawCoughs_63 (by decide) (fun c_16 => ?_) (fun c_16 => ?_)
      · rw [Int32.le_iff_toInt_le] at c_16
        refine lv_iconst (v := 0) hx hb dX0_drawCoughs_73 (by decide +kernel) ?_
        obtain ⟨t_17, et_17⟩ : ∃ zz_ : Int32, x11_1 ||| 0 = zz_ := ⟨_, rfl⟩
        refine gq_ior hx hb t_17 et_17 dX0_drawCoughs_74 ?_
        refine lv_istore_n (lv' := [(3, .int t_17), (5, .int x11_0), (4, .int r_1), (0, .ref t), (1, .ref v), (2, .int n)]) hx hb dX0_drawCoughs_75 rfl hl (by decide) rfl (fun ls hl => ?_)
        obtain ⟨t_18, et_18⟩ : ∃ zz_ : Int32, x11_0 + Int32.ofInt (1) = zz_ := ⟨_, rfl⟩
        have ft_18 : t_18.toInt = x11_0.toInt + (1 : Int32).toInt := ia_add (y := 1) et_18 (by omega) (by omega)
        refine lv_iinc (v := t_18) (lv' := [(5, .int t_18), (3, .int t_17), (4, .int r_1), (0, .ref t), (1, .ref v), (2, .int n)]) hx hb dX0_drawCoughs_76 hl (k := 1) rfl et_18 (by decide) rfl (fun ls hl => ?_)
        refine lv_goto (tgt := 11) hx hb dX0_drawCoughs_79 (by decide) ?_
        exact ih11 (t_18, t_17) (show 0 ≤ t_18.toInt ∧ t_18.toInt ≤ 5 from ⟨by omega, by omega⟩) (show (5 - t_18.toInt).toNat < (5 - x11_0.toInt).toNat by omega) H locs wt ls hT hW hP hD hS (lv_sub hl [0, 2, 1, 3, 4, 5] rfl)
      · rw [Int32.le_iff_toInt_le] at c_16
        refine lv_iconst (v := 1) hx hb dX0_drawCoughs_66 (by decide +kernel) ?_
        refine lv_iload hx hb dX0_drawCoughs_67 (lv_at hl 0 rfl) ?_
        obtain ⟨t_19, et_19⟩ : ∃ zz_ : Int32, 1 <<< (x11_0 &&& 31) = zz_ := ⟨_, rfl⟩
        refine gq_ishl hx hb t_19 et_19 dX0_drawCoughs_69 ?_
        have ft_19 := ia_bit et_19 (by omega) (by omega)
        refine lv_goto (tgt := 74) hx hb dX0_drawCoughs_70 (by decide) ?_
        obtain ⟨t_20, et_20⟩ : ∃ zz_ : Int32, x11_1 ||| t_19 = zz_ := ⟨_, rfl⟩
        refine gq_ior hx hb t_20 et_20 dX0_drawCoughs_74 ?_
        refine lv_istore_n (lv' := [(3, .int t_20), (5, .int x11_0), (4, .int r_1), (0, .ref t), (1, .ref v), (2, .int n)]) hx hb dX0_drawCoughs_75 rfl hl (by decide) rfl (fun ls hl => ?_)
        obtain ⟨t_21, et_21⟩ : ∃ zz_ : Int32, x11_0 + Int32.ofInt (1) = zz_ := ⟨_, rfl⟩
        have ft_21 : t_21.toInt = x11_0.toInt + (1 : Int32).toInt := ia_add (y := 1) et_21 (by omega) (by omega)
        refine lv_iinc (v := t_21) (lv' := [(5, .int t_21), (3, .int t_20), (4, .int r_1), (0, .ref t), (1, .ref v), (2, .int n)]) hx hb dX0_drawCoughs_76 hl (k := 1) rfl et_21 (by decide) rfl (fun ls hl => ?_)
        refine lv_goto (tgt := 11) hx hb dX0_drawCoughs_79 (by decide) ?_
        exact ih11 (t_21, t_20) (show 0 ≤ t_21.toInt ∧ t_21.toInt ≤ 5 from ⟨by omega, by omega⟩) (show (5 - t_21.toInt).toNat < (5 - x11_0.toInt).toNat by omega) H locs wt ls hT hW hP hD hS (lv_sub hl [0, 2, 1, 3, 4, 5] rfl)

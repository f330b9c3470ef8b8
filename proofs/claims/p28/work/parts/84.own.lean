theorem wd_784 : (Jvm.Cond.code ({ cls := "SilentSale", name := "force", desc := "(I)I" } : Jvm.MethodName) prog_1_method_6_code (3 : Nat) (Option.some Jvm.ClassFile.FieldType.int)) ∈ tb_L := tb_in (i := 784) (by decide +kernel) (by decide +kernel)
theorem dX11_force_0 : decode cX11_force 0 = .ok (.iload_n 1, 1) := by decide +kernel
theorem dX11_force_1 : decode cX11_force 1 = .ok (.iconst (-1), 1) := by decide +kernel
theorem dX11_force_2 : decode cX11_force 2 = .ok (.if_icmp .lt 11, 3) := by decide +kernel
theorem dX11_force_5 : decode cX11_force 5 = .ok (.iload_n 1, 1) := by decide +kernel
theorem dX11_force_6 : decode cX11_force 6 = .ok (.aload_n 0, 1) := by decide +kernel
theorem dX11_force_7 : decode cX11_force 7 = .ok (.getfield 92, 3) := by decide +kernel
theorem dX11_force_10 : decode cX11_force 10 = .ok (.if_icmp .lt 6, 3) := by decide +kernel
theorem dX11_force_13 : decode cX11_force 13 = .ok (.bipush (-2), 2) := by decide +kernel
theorem dX11_force_15 : decode cX11_force 15 = .ok (.ireturn, 1) := by decide +kernel
theorem dX11_force_16 : decode cX11_force 16 = .ok (.aload_n 0, 1) := by decide +kernel
theorem dX11_force_17 : decode cX11_force 17 = .ok (.getfield 96, 3) := by decide +kernel
theorem dX11_force_20 : decode cX11_force 20 = .ok (.istore_n 2, 1) := by decide +kernel
theorem dX11_force_21 : decode cX11_force 21 = .ok (.aload_n 0, 1) := by decide +kernel
theorem dX11_force_22 : decode cX11_force 22 = .ok (.iload_n 1, 1) := by decide +kernel
theorem dX11_force_23 : decode cX11_force 23 = .ok (.putfield 96, 3) := by decide +kernel
theorem dX11_force_26 : decode cX11_force 26 = .ok (.iload_n 2, 1) := by decide +kernel
theorem dX11_force_27 : decode cX11_force 27 = .ok (.ireturn, 1) := by decide +kernel
theorem wd_1200 : (Jvm.Cond.code ({ cls := "SilentSale", name := "seed", desc := "(I)I" } : Jvm.MethodName) prog_1_method_29_code (3 : Nat) (Option.some Jvm.ClassFile.FieldType.int)) ∈ tb_L := tb_in (i := 1200) (by decide +kernel) (by decide +kernel)
theorem dX11_seed_0 : decode cX11_seed 0 = .ok (.iload_n 1, 1) := by decide +kernel
theorem dX11_seed_1 : decode cX11_seed 1 = .ok (.ifCond .ge 5, 3) := by decide +kernel
theorem dX11_seed_4 : decode cX11_seed 4 = .ok (.iconst (-1), 1) := by decide +kernel
theorem dX11_seed_5 : decode cX11_seed 5 = .ok (.ireturn, 1) := by decide +kernel
theorem dX11_seed_6 : decode cX11_seed 6 = .ok (.aload_n 0, 1) := by decide +kernel
theorem dX11_seed_7 : decode cX11_seed 7 = .ok (.getfield 99, 3) := by decide +kernel
theorem dX11_seed_10 : decode cX11_seed 10 = .ok (.istore_n 2, 1) := by decide +kernel
theorem dX11_seed_11 : decode cX11_seed 11 = .ok (.aload_n 0, 1) := by decide +kernel
theorem dX11_seed_12 : decode cX11_seed 12 = .ok (.iload_n 1, 1) := by decide +kernel
theorem dX11_seed_13 : decode cX11_seed 13 = .ok (.putfield 99, 3) := by decide +kernel
theorem dX11_seed_16 : decode cX11_seed 16 = .ok (.iload_n 2, 1) := by decide +kernel
theorem dX11_seed_17 : decode cX11_seed 17 = .ok (.ireturn, 1) := by decide +kernel
theorem wd_497 : (Jvm.Cond.fieldLink "SilentSale" (10 : Nat) "SilentSale" "tape" "LSilentSale$Tape;") ∈ tb_L := tb_in (i := 497) (by decide +kernel) (by decide +kernel)
theorem wd_550 : (Jvm.Cond.methodLink "SilentSale" (106 : Nat) ({ cls := "SilentSale$Tape", name := "size", desc := "()I" } : Jvm.MethodName)) ∈ tb_L := tb_in (i := 550) (by decide +kernel) (by decide +kernel)
theorem wd_551 : (Jvm.Cond.instanceMethod ({ cls := "SilentSale$Tape", name := "size", desc := "()I" } : Jvm.MethodName)) ∈ tb_L := tb_in (i := 551) (by decide +kernel) (by decide +kernel)
theorem wd_552 : (Jvm.Cond.selects "SilentSale$Tape" ({ cls := "SilentSale$Tape", name := "size", desc := "()I" } : Jvm.MethodName) ({ cls := "SilentSale$Tape", name := "size", desc := "()I" } : Jvm.MethodName)) ∈ tb_L := tb_in (i := 552) (by decide +kernel) (by decide +kernel)
theorem wd_844 : (Jvm.Cond.code ({ cls := "SilentSale", name := "count", desc := "(I)I" } : Jvm.MethodName) prog_1_method_11_code (2 : Nat) (Option.some Jvm.ClassFile.FieldType.int)) ∈ tb_L := tb_in (i := 844) (by decide +kernel) (by decide +kernel)
theorem wd_845 : (Jvm.Cond.methodLink "SilentSale" (210 : Nat) ({ cls := "SilentSale$State", name := "silentOnes", desc := "()I" } : Jvm.MethodName)) ∈ tb_L := tb_in (i := 845) (by decide +kernel) (by decide +kernel)
theorem dX11_count_0 : decode cX11_count 0 = .ok (.iload_n 1, 1) := by decide +kernel
theorem dX11_count_1 : decode cX11_count 1 = .ok (.tableswitch 188 0 14 #[75, 83, 91, 99, 107, 112, 117, 125, 133, 142, 151, 159, 167, 175, 180], 75) := by decide +kernel
theorem dX11_count_76 : decode cX11_count 76 = .ok (.aload_n 0, 1) := by decide +kernel
theorem dX11_count_77 : decode cX11_count 77 = .ok (.getfield 19, 3) := by decide +kernel
theorem dX11_count_80 : decode cX11_count 80 = .ok (.getfield 198, 3) := by decide +kernel
theorem dX11_count_83 : decode cX11_count 83 = .ok (.ireturn, 1) := by decide +kernel
theorem dX11_count_84 : decode cX11_count 84 = .ok (.aload_n 0, 1) := by decide +kernel
theorem dX11_count_85 : decode cX11_count 85 = .ok (.getfield 19, 3) := by decide +kernel
theorem dX11_count_88 : decode cX11_count 88 = .ok (.getfield 201, 3) := by decide +kernel
theorem dX11_count_91 : decode cX11_count 91 = .ok (.ireturn, 1) := by decide +kernel
theorem dX11_count_92 : decode cX11_count 92 = .ok (.aload_n 0, 1) := by decide +kernel
theorem dX11_count_93 : decode cX11_count 93 = .ok (.getfield 19, 3) := by decide +kernel
theorem dX11_count_96 : decode cX11_count 96 = .ok (.getfield 130, 3) := by decide +kernel
theorem dX11_count_99 : decode cX11_count 99 = .ok (.ireturn, 1) := by decide +kernel
theorem dX11_count_100 : decode cX11_count 100 = .ok (.aload_n 0, 1) := by decide +kernel
theorem dX11_count_101 : decode cX11_count 101 = .ok (.getfield 19, 3) := by decide +kernel
theorem dX11_count_104 : decode cX11_count 104 = .ok (.getfield 204, 3) := by decide +kernel
theorem dX11_count_107 : decode cX11_count 107 = .ok (.ireturn, 1) := by decide +kernel
theorem dX11_count_108 : decode cX11_count 108 = .ok (.aload_n 0, 1) := by decide +kernel
theorem dX11_count_109 : decode cX11_count 109 = .ok (.getfield 92, 3) := by decide +kernel
theorem dX11_count_112 : decode cX11_count 112 = .ok (.ireturn, 1) := by decide +kernel
theorem dX11_count_113 : decode cX11_count 113 = .ok (.aload_n 0, 1) := by decide +kernel
theorem dX11_count_114 : decode cX11_count 114 = .ok (.getfield 96, 3) := by decide +kernel
theorem dX11_count_117 : decode cX11_count 117 = .ok (.ireturn, 1) := by decide +kernel
theorem dX11_count_118 : decode cX11_count 118 = .ok (.aload_n 0, 1) := by decide +kernel
theorem dX11_count_119 : decode cX11_count 119 = .ok (.getfield 29, 3) := by decide +kernel
theorem dX11_count_122 : decode cX11_count 122 = .ok (.getfield 207, 3) := by decide +kernel
theorem dX11_count_125 : decode cX11_count 125 = .ok (.ireturn, 1) := by decide +kernel
theorem dX11_count_126 : decode cX11_count 126 = .ok (.aload_n 0, 1) := by decide +kernel
theorem dX11_count_127 : decode cX11_count 127 = .ok (.getfield 29, 3) := by decide +kernel
theorem dX11_count_130 : decode cX11_count 130 = .ok (.invokevirtual 210, 3) := by decide +kernel
theorem dX11_count_133 : decode cX11_count 133 = .ok (.ireturn, 1) := by decide +kernel
theorem dX11_count_134 : decode cX11_count 134 = .ok (.aload_n 0, 1) := by decide +kernel
theorem dX11_count_135 : decode cX11_count 135 = .ok (.getfield 29, 3) := by decide +kernel
theorem dX11_count_138 : decode cX11_count 138 = .ok (.iconst 1, 1) := by decide +kernel
theorem dX11_count_139 : decode cX11_count 139 = .ok (.invokevirtual 213, 3) := by decide +kernel
theorem dX11_count_142 : decode cX11_count 142 = .ok (.ireturn, 1) := by decide +kernel
theorem dX11_count_143 : decode cX11_count 143 = .ok (.aload_n 0, 1) := by decide +kernel
theorem dX11_count_144 : decode cX11_count 144 = .ok (.getfield 29, 3) := by decide +kernel
theorem dX11_count_147 : decode cX11_count 147 = .ok (.iconst 2, 1) := by decide +kernel
theorem dX11_count_148 : decode cX11_count 148 = .ok (.invokevirtual 213, 3) := by decide +kernel
theorem dX11_count_151 : decode cX11_count 151 = .ok (.ireturn, 1) := by decide +kernel
theorem dX11_count_152 : decode cX11_count 152 = .ok (.aload_n 0, 1) := by decide +kernel
theorem dX11_count_153 : decode cX11_count 153 = .ok (.getfield 29, 3) := by decide +kernel
theorem dX11_count_156 : decode cX11_count 156 = .ok (.invokevirtual 216, 3) := by decide +kernel
theorem dX11_count_159 : decode cX11_count 159 = .ok (.ireturn, 1) := by decide +kernel
theorem dX11_count_160 : decode cX11_count 160 = .ok (.aload_n 0, 1) := by decide +kernel
theorem dX11_count_161 : decode cX11_count 161 = .ok (.getfield 46, 3) := by decide +kernel
theorem dX11_count_164 : decode cX11_count 164 = .ok (.getfield 219, 3) := by decide +kernel
theorem dX11_count_167 : decode cX11_count 167 = .ok (.ireturn, 1) := by decide +kernel
theorem dX11_count_168 : decode cX11_count 168 = .ok (.aload_n 0, 1) := by decide +kernel
theorem dX11_count_169 : decode cX11_count 169 = .ok (.getfield 39, 3) := by decide +kernel
theorem dX11_count_172 : decode cX11_count 172 = .ok (.getfield 221, 3) := by decide +kernel
theorem dX11_count_175 : decode cX11_count 175 = .ok (.ireturn, 1) := by decide +kernel
theorem dX11_count_176 : decode cX11_count 176 = .ok (.aload_n 0, 1) := by decide +kernel
theorem dX11_count_177 : decode cX11_count 177 = .ok (.getfield 99, 3) := by decide +kernel
theorem dX11_count_180 : decode cX11_count 180 = .ok (.ireturn, 1) := by decide +kernel
theorem dX11_count_181 : decode cX11_count 181 = .ok (.aload_n 0, 1) := by decide +kernel
theorem dX11_count_182 : decode cX11_count 182 = .ok (.getfield 10, 3) := by decide +kernel
theorem dX11_count_185 : decode cX11_count 185 = .ok (.invokevirtual 106, 3) := by decide +kernel
theorem dX11_count_188 : decode cX11_count 188 = .ok (.ireturn, 1) := by decide +kernel
theorem dX11_count_189 : decode cX11_count 189 = .ok (.iconst (-1), 1) := by decide +kernel
theorem dX11_count_190 : decode cX11_count 190 = .ok (.ireturn, 1) := by decide +kernel
theorem wd_557 : (Jvm.Cond.code ({ cls := "SilentSale$Tape", name := "put", desc := "(I)V" } : Jvm.MethodName) prog_10_method_3_code (3 : Nat) (Option.none : Option Jvm.ClassFile.FieldType)) ∈ tb_L := tb_in (i := 557) (by decide +kernel) (by decide +kernel)
theorem dX8_put_0 : decode cX8_put 0 = .ok (.bipush 24, 2) := by decide +kernel
theorem dX8_put_2 : decode cX8_put 2 = .ok (.istore_n 2, 1) := by decide +kernel
theorem dX8_put_3 : decode cX8_put 3 = .ok (.iload_n 2, 1) := by decide +kernel
theorem dX8_put_4 : decode cX8_put 4 = .ok (.ifCond .lt 45, 3) := by decide +kernel
theorem dX8_put_7 : decode cX8_put 7 = .ok (.aload_n 0, 1) := by decide +kernel
theorem dX8_put_8 : decode cX8_put 8 = .ok (.getfield 15, 3) := by decide +kernel
theorem dX8_put_11 : decode cX8_put 11 = .ok (.sipush 400, 3) := by decide +kernel
theorem dX8_put_14 : decode cX8_put 14 = .ok (.if_icmp .ge 29, 3) := by decide +kernel
theorem dX8_put_17 : decode cX8_put 17 = .ok (.aload_n 0, 1) := by decide +kernel
theorem dX8_put_18 : decode cX8_put 18 = .ok (.getfield 9, 3) := by decide +kernel
theorem dX8_put_21 : decode cX8_put 21 = .ok (.aload_n 0, 1) := by decide +kernel
theorem dX8_put_22 : decode cX8_put 22 = .ok (.getfield 15, 3) := by decide +kernel
theorem dX8_put_25 : decode cX8_put 25 = .ok (.iload_n 1, 1) := by decide +kernel
theorem dX8_put_26 : decode cX8_put 26 = .ok (.iload_n 2, 1) := by decide +kernel
theorem dX8_put_27 : decode cX8_put 27 = .ok (.ishr, 1) := by decide +kernel
theorem dX8_put_28 : decode cX8_put 28 = .ok (.sipush 255, 3) := by decide +kernel
theorem dX8_put_31 : decode cX8_put 31 = .ok (.iand, 1) := by decide +kernel
theorem dX8_put_32 : decode cX8_put 32 = .ok (.iastore, 1) := by decide +kernel
theorem dX8_put_33 : decode cX8_put 33 = .ok (.aload_n 0, 1) := by decide +kernel
theorem dX8_put_34 : decode cX8_put 34 = .ok (.dup, 1) := by decide +kernel
theorem dX8_put_35 : decode cX8_put 35 = .ok (.getfield 15, 3) := by decide +kernel
theorem dX8_put_38 : decode cX8_put 38 = .ok (.iconst 1, 1) := by decide +kernel
theorem dX8_put_39 : decode cX8_put 39 = .ok (.iadd, 1) := by decide +kernel
theorem dX8_put_40 : decode cX8_put 40 = .ok (.putfield 15, 3) := by decide +kernel
theorem dX8_put_43 : decode cX8_put 43 = .ok (.iinc 2 (-8), 3) := by decide +kernel
theorem dX8_put_46 : decode cX8_put 46 = .ok (.goto (-43), 3) := by decide +kernel
theorem dX8_put_49 : decode cX8_put 49 = .ok (.return_, 1) := by decide +kernel
theorem wd_565 : (Jvm.Cond.code ({ cls := "SilentSale$Tape", name := "cut", desc := "(I)V" } : Jvm.MethodName) prog_10_method_4_code (2 : Nat) (Option.none : Option Jvm.ClassFile.FieldType)) ∈ tb_L := tb_in (i := 565) (by decide +kernel) (by decide +kernel)
theorem dX8_cut_0 : decode cX8_cut 0 = .ok (.iload_n 1, 1) := by decide +kernel
theorem dX8_cut_1 : decode cX8_cut 1 = .ok (.ifCond .lt 16, 3) := by decide +kernel
theorem dX8_cut_4 : decode cX8_cut 4 = .ok (.iload_n 1, 1) := by decide +kernel
theorem dX8_cut_5 : decode cX8_cut 5 = .ok (.aload_n 0, 1) := by decide +kernel
theorem dX8_cut_6 : decode cX8_cut 6 = .ok (.getfield 15, 3) := by decide +kernel
theorem dX8_cut_9 : decode cX8_cut 9 = .ok (.if_icmp .gt 8, 3) := by decide +kernel
theorem dX8_cut_12 : decode cX8_cut 12 = .ok (.aload_n 0, 1) := by decide +kernel
theorem dX8_cut_13 : decode cX8_cut 13 = .ok (.iload_n 1, 1) := by decide +kernel
theorem dX8_cut_14 : decode cX8_cut 14 = .ok (.putfield 15, 3) := by decide +kernel
theorem dX8_cut_17 : decode cX8_cut 17 = .ok (.return_, 1) := by decide +kernel
theorem wd_549 : (Jvm.Cond.code ({ cls := "SilentSale", name := "feed", desc := "(IIIII)I" } : Jvm.MethodName) prog_1_method_2_code (6 : Nat) (Option.some Jvm.ClassFile.FieldType.int)) ∈ tb_L := tb_in (i := 549) (by decide +kernel) (by decide +kernel)
theorem wd_554 : (Jvm.Cond.methodLink "SilentSale" (110 : Nat) ({ cls := "SilentSale$Tape", name := "put", desc := "(I)V" } : Jvm.MethodName)) ∈ tb_L := tb_in (i := 554) (by decide +kernel) (by decide +kernel)
theorem wd_555 : (Jvm.Cond.instanceMethod ({ cls := "SilentSale$Tape", name := "put", desc := "(I)V" } : Jvm.MethodName)) ∈ tb_L := tb_in (i := 555) (by decide +kernel) (by decide +kernel)
theorem wd_556 : (Jvm.Cond.selects "SilentSale$Tape" ({ cls := "SilentSale$Tape", name := "put", desc := "(I)V" } : Jvm.MethodName) ({ cls := "SilentSale$Tape", name := "put", desc := "(I)V" } : Jvm.MethodName)) ∈ tb_L := tb_in (i := 556) (by decide +kernel) (by decide +kernel)
theorem dX11_feed_0 : decode cX11_feed 0 = .ok (.aload_n 0, 1) := by decide +kernel
theorem dX11_feed_1 : decode cX11_feed 1 = .ok (.getfield 10, 3) := by decide +kernel
theorem dX11_feed_4 : decode cX11_feed 4 = .ok (.invokevirtual 106, 3) := by decide +kernel
theorem dX11_feed_7 : decode cX11_feed 7 = .ok (.bipush 20, 2) := by decide +kernel
theorem dX11_feed_9 : decode cX11_feed 9 = .ok (.iadd, 1) := by decide +kernel
theorem dX11_feed_10 : decode cX11_feed 10 = .ok (.sipush 400, 3) := by decide +kernel
theorem dX11_feed_13 : decode cX11_feed 13 = .ok (.if_icmp .le 5, 3) := by decide +kernel
theorem dX11_feed_16 : decode cX11_feed 16 = .ok (.iconst (-1), 1) := by decide +kernel
theorem dX11_feed_17 : decode cX11_feed 17 = .ok (.ireturn, 1) := by decide +kernel
theorem dX11_feed_18 : decode cX11_feed 18 = .ok (.aload_n 0, 1) := by decide +kernel
theorem dX11_feed_19 : decode cX11_feed 19 = .ok (.getfield 10, 3) := by decide +kernel
theorem dX11_feed_22 : decode cX11_feed 22 = .ok (.iload_n 1, 1) := by decide +kernel
theorem dX11_feed_23 : decode cX11_feed 23 = .ok (.invokevirtual 110, 3) := by decide +kernel
theorem dX11_feed_26 : decode cX11_feed 26 = .ok (.aload_n 0, 1) := by decide +kernel
theorem dX11_feed_27 : decode cX11_feed 27 = .ok (.getfield 10, 3) := by decide +kernel
theorem dX11_feed_30 : decode cX11_feed 30 = .ok (.iload_n 2, 1) := by decide +kernel
theorem dX11_feed_31 : decode cX11_feed 31 = .ok (.invokevirtual 110, 3) := by decide +kernel
theorem dX11_feed_34 : decode cX11_feed 34 = .ok (.aload_n 0, 1) := by decide +kernel
theorem dX11_feed_35 : decode cX11_feed 35 = .ok (.getfield 10, 3) := by decide +kernel
theorem dX11_feed_38 : decode cX11_feed 38 = .ok (.iload_n 3, 1) := by decide +kernel
theorem dX11_feed_39 : decode cX11_feed 39 = .ok (.invokevirtual 110, 3) := by decide +kernel
theorem dX11_feed_42 : decode cX11_feed 42 = .ok (.aload_n 0, 1) := by decide +kernel
theorem dX11_feed_43 : decode cX11_feed 43 = .ok (.getfield 10, 3) := by decide +kernel
theorem dX11_feed_46 : decode cX11_feed 46 = .ok (.iload 4, 2) := by decide +kernel
theorem dX11_feed_48 : decode cX11_feed 48 = .ok (.invokevirtual 110, 3) := by decide +kernel
theorem dX11_feed_51 : decode cX11_feed 51 = .ok (.aload_n 0, 1) := by decide +kernel
theorem dX11_feed_52 : decode cX11_feed 52 = .ok (.getfield 10, 3) := by decide +kernel
theorem dX11_feed_55 : decode cX11_feed 55 = .ok (.iload 5, 2) := by decide +kernel
theorem dX11_feed_57 : decode cX11_feed 57 = .ok (.invokevirtual 110, 3) := by decide +kernel
theorem dX11_feed_60 : decode cX11_feed 60 = .ok (.aload_n 0, 1) := by decide +kernel
theorem dX11_feed_61 : decode cX11_feed 61 = .ok (.getfield 10, 3) := by decide +kernel
theorem dX11_feed_64 : decode cX11_feed 64 = .ok (.invokevirtual 106, 3) := by decide +kernel
theorem dX11_feed_67 : decode cX11_feed 67 = .ok (.ireturn, 1) := by decide +kernel
theorem wd_561 : (Jvm.Cond.code ({ cls := "SilentSale", name := "end", desc := "(I)I" } : Jvm.MethodName) prog_1_method_3_code (2 : Nat) (Option.some Jvm.ClassFile.FieldType.int)) ∈ tb_L := tb_in (i := 561) (by decide +kernel) (by decide +kernel)
theorem wd_562 : (Jvm.Cond.methodLink "SilentSale" (114 : Nat) ({ cls := "SilentSale$Tape", name := "cut", desc := "(I)V" } : Jvm.MethodName)) ∈ tb_L := tb_in (i := 562) (by decide +kernel) (by decide +kernel)
theorem wd_563 : (Jvm.Cond.instanceMethod ({ cls := "SilentSale$Tape", name := "cut", desc := "(I)V" } : Jvm.MethodName)) ∈ tb_L := tb_in (i := 563) (by decide +kernel) (by decide +kernel)
theorem wd_564 : (Jvm.Cond.selects "SilentSale$Tape" ({ cls := "SilentSale$Tape", name := "cut", desc := "(I)V" } : Jvm.MethodName) ({ cls := "SilentSale$Tape", name := "cut", desc := "(I)V" } : Jvm.MethodName)) ∈ tb_L := tb_in (i := 564) (by decide +kernel) (by decide +kernel)
theorem dX11_end_0 : decode cX11_end 0 = .ok (.iload_n 1, 1) := by decide +kernel
theorem dX11_end_1 : decode cX11_end 1 = .ok (.ifCond .lt 14, 3) := by decide +kernel
theorem dX11_end_4 : decode cX11_end 4 = .ok (.iload_n 1, 1) := by decide +kernel
theorem dX11_end_5 : decode cX11_end 5 = .ok (.aload_n 0, 1) := by decide +kernel
theorem dX11_end_6 : decode cX11_end 6 = .ok (.getfield 10, 3) := by decide +kernel
theorem dX11_end_9 : decode cX11_end 9 = .ok (.invokevirtual 106, 3) := by decide +kernel
theorem dX11_end_12 : decode cX11_end 12 = .ok (.if_icmp .le 5, 3) := by decide +kernel
theorem dX11_end_15 : decode cX11_end 15 = .ok (.iconst (-1), 1) := by decide +kernel
theorem dX11_end_16 : decode cX11_end 16 = .ok (.ireturn, 1) := by decide +kernel
theorem dX11_end_17 : decode cX11_end 17 = .ok (.aload_n 0, 1) := by decide +kernel
theorem dX11_end_18 : decode cX11_end 18 = .ok (.getfield 10, 3) := by decide +kernel
theorem dX11_end_21 : decode cX11_end 21 = .ok (.iload_n 1, 1) := by decide +kernel
theorem dX11_end_22 : decode cX11_end 22 = .ok (.invokevirtual 114, 3) := by decide +kernel
theorem dX11_end_25 : decode cX11_end 25 = .ok (.iload_n 1, 1) := by decide +kernel
theorem dX11_end_26 : decode cX11_end 26 = .ok (.ireturn, 1) := by decide +kernel
theorem wd_493 : (Jvm.Cond.methodLink "SilentSale" (102 : Nat) ({ cls := "SilentSale$State", name := "open", desc := "(LSilentSale$Terms;)V" } : Jvm.MethodName)) ∈ tb_L := tb_in (i := 493) (by decide +kernel) (by decide +kernel)
theorem wd_499 : (Jvm.Cond.fieldLink "SilentSale" (23 : Nat) "SilentSale" "draft" "LSilentSale$Terms;") ∈ tb_L := tb_in (i := 499) (by decide +kernel) (by decide +kernel)
theorem wd_569 : (Jvm.Cond.code ({ cls := "SilentSale", name := "sale", desc := "()I" } : Jvm.MethodName) prog_1_method_4_code (2 : Nat) (Option.some Jvm.ClassFile.FieldType.int)) ∈ tb_L := tb_in (i := 569) (by decide +kernel) (by decide +kernel)
theorem wd_570 : (Jvm.Cond.methodLink "SilentSale" (117 : Nat) ({ cls := "SilentSale$Terms", name := "readSale", desc := "(LSilentSale$Tape;)I" } : Jvm.MethodName)) ∈ tb_L := tb_in (i := 570) (by decide +kernel) (by decide +kernel)
theorem wd_571 : (Jvm.Cond.instanceMethod ({ cls := "SilentSale$Terms", name := "readSale", desc := "(LSilentSale$Tape;)I" } : Jvm.MethodName)) ∈ tb_L := tb_in (i := 571) (by decide +kernel) (by decide +kernel)
theorem wd_572 : (Jvm.Cond.selects "SilentSale$Terms" ({ cls := "SilentSale$Terms", name := "readSale", desc := "(LSilentSale$Tape;)I" } : Jvm.MethodName) ({ cls := "SilentSale$Terms", name := "readSale", desc := "(LSilentSale$Tape;)I" } : Jvm.MethodName)) ∈ tb_L := tb_in (i := 572) (by decide +kernel) (by decide +kernel)
theorem wd_688 : (Jvm.Cond.methodLink "SilentSale" (121 : Nat) ({ cls := "SilentSale$Terms", name := "copyFrom", desc := "(LSilentSale$Terms;)V" } : Jvm.MethodName)) ∈ tb_L := tb_in (i := 688) (by decide +kernel) (by decide +kernel)
theorem wd_689 : (Jvm.Cond.instanceMethod ({ cls := "SilentSale$Terms", name := "copyFrom", desc := "(LSilentSale$Terms;)V" } : Jvm.MethodName)) ∈ tb_L := tb_in (i := 689) (by decide +kernel) (by decide +kernel)
theorem wd_690 : (Jvm.Cond.selects "SilentSale$Terms" ({ cls := "SilentSale$Terms", name := "copyFrom", desc := "(LSilentSale$Terms;)V" } : Jvm.MethodName) ({ cls := "SilentSale$Terms", name := "copyFrom", desc := "(LSilentSale$Terms;)V" } : Jvm.MethodName)) ∈ tb_L := tb_in (i := 690) (by decide +kernel) (by decide +kernel)
theorem wd_699 : (Jvm.Cond.methodLink "SilentSale" (127 : Nat) ({ cls := "SilentSale$Past", name := "forget", desc := "()V" } : Jvm.MethodName)) ∈ tb_L := tb_in (i := 699) (by decide +kernel) (by decide +kernel)
theorem wd_700 : (Jvm.Cond.instanceMethod ({ cls := "SilentSale$Past", name := "forget", desc := "()V" } : Jvm.MethodName)) ∈ tb_L := tb_in (i := 700) (by decide +kernel) (by decide +kernel)
theorem wd_701 : (Jvm.Cond.selects "SilentSale$Past" ({ cls := "SilentSale$Past", name := "forget", desc := "()V" } : Jvm.MethodName) ({ cls := "SilentSale$Past", name := "forget", desc := "()V" } : Jvm.MethodName)) ∈ tb_L := tb_in (i := 701) (by decide +kernel) (by decide +kernel)
theorem dX11_sale_0 : decode cX11_sale 0 = .ok (.aload_n 0, 1) := by decide +kernel
theorem dX11_sale_1 : decode cX11_sale 1 = .ok (.getfield 23, 3) := by decide +kernel
theorem dX11_sale_4 : decode cX11_sale 4 = .ok (.aload_n 0, 1) := by decide +kernel
theorem dX11_sale_5 : decode cX11_sale 5 = .ok (.getfield 10, 3) := by decide +kernel
theorem dX11_sale_8 : decode cX11_sale 8 = .ok (.invokevirtual 117, 3) := by decide +kernel
theorem dX11_sale_11 : decode cX11_sale 11 = .ok (.istore_n 1, 1) := by decide +kernel
theorem dX11_sale_12 : decode cX11_sale 12 = .ok (.iload_n 1, 1) := by decide +kernel
theorem dX11_sale_13 : decode cX11_sale 13 = .ok (.ifCond .eq 8, 3) := by decide +kernel
theorem dX11_sale_16 : decode cX11_sale 16 = .ok (.bipush (-2), 2) := by decide +kernel
theorem dX11_sale_18 : decode cX11_sale 18 = .ok (.iload_n 1, 1) := by decide +kernel
theorem dX11_sale_19 : decode cX11_sale 19 = .ok (.isub, 1) := by decide +kernel
theorem dX11_sale_20 : decode cX11_sale 20 = .ok (.ireturn, 1) := by decide +kernel
theorem dX11_sale_21 : decode cX11_sale 21 = .ok (.aload_n 0, 1) := by decide +kernel
theorem dX11_sale_22 : decode cX11_sale 22 = .ok (.getfield 10, 3) := by decide +kernel
theorem dX11_sale_25 : decode cX11_sale 25 = .ok (.iconst 0, 1) := by decide +kernel
theorem dX11_sale_26 : decode cX11_sale 26 = .ok (.invokevirtual 114, 3) := by decide +kernel
theorem dX11_sale_29 : decode cX11_sale 29 = .ok (.aload_n 0, 1) := by decide +kernel
theorem dX11_sale_30 : decode cX11_sale 30 = .ok (.getfield 19, 3) := by decide +kernel
theorem dX11_sale_33 : decode cX11_sale 33 = .ok (.aload_n 0, 1) := by decide +kernel
theorem dX11_sale_34 : decode cX11_sale 34 = .ok (.getfield 23, 3) := by decide +kernel
theorem dX11_sale_37 : decode cX11_sale 37 = .ok (.invokevirtual 121, 3) := by decide +kernel
theorem dX11_sale_40 : decode cX11_sale 40 = .ok (.aload_n 0, 1) := by decide +kernel
theorem dX11_sale_41 : decode cX11_sale 41 = .ok (.getfield 29, 3) := by decide +kernel
theorem dX11_sale_44 : decode cX11_sale 44 = .ok (.aload_n 0, 1) := by decide +kernel
theorem dX11_sale_45 : decode cX11_sale 45 = .ok (.getfield 19, 3) := by decide +kernel
theorem dX11_sale_48 : decode cX11_sale 48 = .ok (.invokevirtual 102, 3) := by decide +kernel
theorem dX11_sale_51 : decode cX11_sale 51 = .ok (.aload_n 0, 1) := by decide +kernel
theorem dX11_sale_52 : decode cX11_sale 52 = .ok (.getfield 46, 3) := by decide +kernel
theorem dX11_sale_55 : decode cX11_sale 55 = .ok (.invokevirtual 124, 3) := by decide +kernel
theorem dX11_sale_58 : decode cX11_sale 58 = .ok (.aload_n 0, 1) := by decide +kernel
theorem dX11_sale_59 : decode cX11_sale 59 = .ok (.getfield 39, 3) := by decide +kernel
theorem dX11_sale_62 : decode cX11_sale 62 = .ok (.invokevirtual 127, 3) := by decide +kernel
theorem dX11_sale_65 : decode cX11_sale 65 = .ok (.aload_n 0, 1) := by decide +kernel
theorem dX11_sale_66 : decode cX11_sale 66 = .ok (.getfield 19, 3) := by decide +kernel
theorem dX11_sale_69 : decode cX11_sale 69 = .ok (.getfield 130, 3) := by decide +kernel
theorem dX11_sale_72 : decode cX11_sale 72 = .ok (.ireturn, 1) := by decide +kernel
theorem wd_707 : (Jvm.Cond.code ({ cls := "SilentSale", name := "rule", desc := "()I" } : Jvm.MethodName) prog_1_method_5_code (2 : Nat) (Option.some Jvm.ClassFile.FieldType.int)) ∈ tb_L := tb_in (i := 707) (by decide +kernel) (by decide +kernel)
theorem wd_708 : (Jvm.Cond.methodLink "SilentSale" (133 : Nat) ({ cls := "SilentSale$Rule", name := "readRule", desc := "(LSilentSale$Tape;)I" } : Jvm.MethodName)) ∈ tb_L := tb_in (i := 708) (by decide +kernel) (by decide +kernel)
theorem wd_709 : (Jvm.Cond.instanceMethod ({ cls := "SilentSale$Rule", name := "readRule", desc := "(LSilentSale$Tape;)I" } : Jvm.MethodName)) ∈ tb_L := tb_in (i := 709) (by decide +kernel) (by decide +kernel)
theorem wd_710 : (Jvm.Cond.selects "SilentSale$Rule" ({ cls := "SilentSale$Rule", name := "readRule", desc := "(LSilentSale$Tape;)I" } : Jvm.MethodName) ({ cls := "SilentSale$Rule", name := "readRule", desc := "(LSilentSale$Tape;)I" } : Jvm.MethodName)) ∈ tb_L := tb_in (i := 710) (by decide +kernel) (by decide +kernel)
theorem dX11_rule_0 : decode cX11_rule 0 = .ok (.aload_n 0, 1) := by decide +kernel
theorem dX11_rule_1 : decode cX11_rule 1 = .ok (.getfield 92, 3) := by decide +kernel
theorem dX11_rule_4 : decode cX11_rule 4 = .ok (.bipush 6, 2) := by decide +kernel
theorem dX11_rule_6 : decode cX11_rule 6 = .ok (.if_icmp .lt 5, 3) := by decide +kernel
theorem dX11_rule_9 : decode cX11_rule 9 = .ok (.iconst (-1), 1) := by decide +kernel
theorem dX11_rule_10 : decode cX11_rule 10 = .ok (.ireturn, 1) := by decide +kernel
theorem dX11_rule_11 : decode cX11_rule 11 = .ok (.aload_n 0, 1) := by decide +kernel
theorem dX11_rule_12 : decode cX11_rule 12 = .ok (.getfield 52, 3) := by decide +kernel
theorem dX11_rule_15 : decode cX11_rule 15 = .ok (.aload_n 0, 1) := by decide +kernel
theorem dX11_rule_16 : decode cX11_rule 16 = .ok (.getfield 92, 3) := by decide +kernel
theorem dX11_rule_19 : decode cX11_rule 19 = .ok (.aaload, 1) := by decide +kernel
theorem dX11_rule_20 : decode cX11_rule 20 = .ok (.aload_n 0, 1) := by decide +kernel
theorem dX11_rule_21 : decode cX11_rule 21 = .ok (.getfield 10, 3) := by decide +kernel
theorem dX11_rule_24 : decode cX11_rule 24 = .ok (.invokevirtual 133, 3) := by decide +kernel
theorem dX11_rule_27 : decode cX11_rule 27 = .ok (.istore_n 1, 1) := by decide +kernel
theorem dX11_rule_28 : decode cX11_rule 28 = .ok (.aload_n 0, 1) := by decide +kernel
theorem dX11_rule_29 : decode cX11_rule 29 = .ok (.getfield 10, 3) := by decide +kernel
theorem dX11_rule_32 : decode cX11_rule 32 = .ok (.iconst 0, 1) := by decide +kernel
theorem dX11_rule_33 : decode cX11_rule 33 = .ok (.invokevirtual 114, 3) := by decide +kernel
theorem dX11_rule_36 : decode cX11_rule 36 = .ok (.iload_n 1, 1) := by decide +kernel
theorem dX11_rule_37 : decode cX11_rule 37 = .ok (.ifCond .eq 8, 3) := by decide +kernel
theorem dX11_rule_40 : decode cX11_rule 40 = .ok (.bipush (-2), 2) := by decide +kernel
theorem dX11_rule_42 : decode cX11_rule 42 = .ok (.iload_n 1, 1) := by decide +kernel
theorem dX11_rule_43 : decode cX11_rule 43 = .ok (.isub, 1) := by decide +kernel
theorem dX11_rule_44 : decode cX11_rule 44 = .ok (.ireturn, 1) := by decide +kernel
theorem dX11_rule_45 : decode cX11_rule 45 = .ok (.aload_n 0, 1) := by decide +kernel
theorem dX11_rule_46 : decode cX11_rule 46 = .ok (.dup, 1) := by decide +kernel
theorem dX11_rule_47 : decode cX11_rule 47 = .ok (.getfield 92, 3) := by decide +kernel
theorem dX11_rule_50 : decode cX11_rule 50 = .ok (.iconst 1, 1) := by decide +kernel
theorem dX11_rule_51 : decode cX11_rule 51 = .ok (.iadd, 1) := by decide +kernel
theorem dX11_rule_52 : decode cX11_rule 52 = .ok (.putfield 92, 3) := by decide +kernel
theorem dX11_rule_55 : decode cX11_rule 55 = .ok (.aload_n 0, 1) := by decide +kernel
theorem dX11_rule_56 : decode cX11_rule 56 = .ok (.getfield 92, 3) := by decide +kernel
theorem dX11_rule_59 : decode cX11_rule 59 = .ok (.iconst 1, 1) := by decide +kernel
theorem dX11_rule_60 : decode cX11_rule 60 = .ok (.isub, 1) := by decide +kernel
theorem dX11_rule_61 : decode cX11_rule 61 = .ok (.ireturn, 1) := by decide +kernel
set_option maxHeartbeats 4000000 in
set_option maxRecDepth 100000 in
theorem d_force (l : Launch) (G : gg_T) (Γ : Nat → Nat) (sz : Nat) (wt : va_W) (hT : tk_ty G Γ wt) (b : Int32) (tp : Nat) (h0 : Nat) (ra1 : Nat) (ra2 : Nat) (ra3 : Nat) (ra4 : Nat) (ra5 : Nat) (ra6 : Nat) (ra7 : Nat) (ra8 : Nat) (ra9 : Nat) (ra10 : Nat) (ra11 : Nat) (ra12 : Nat) (rc : Int32) (fo : Int32) (xx : Int32) (kr1 : Γ ra1 = 10) (kr2 : Γ ra2 = 10) (kr3 : Γ ra3 = 8) (kr4 : Γ ra4 = 8) (kr5 : Γ ra5 = 4) (kr6 : Γ ra6 = 3) (kr7 : Γ ra7 = 41) (kr9 : Γ ra9 = 1) (kr10 : Γ ra10 = 6) (kr11 : Γ ra11 = 11) (kr12 : Γ ra12 = 7) (xr1 : 0 ≤ rc.toInt) (xr2 : rc.toInt ≤ 6) : Met l yX11_force (ts_L yX11_force cX11_force 3 (some .int)) ({ frames := 0, cells := 0, slots := 0, locals := 0 }) (gc_P G ([(h0, .inr (11, [.ref tp, .ref ra1, .ref ra2, .ref ra3, .ref ra4, .ref ra5, .ref ra6, .ref ra7, .ref ra8, .ref ra9, .ref ra10, .ref ra11, .ref ra12, .int rc, .int fo, .int xx]))] ++ wt) sz [.ref h0, .int b]) (gc_I G (va_A ([(h0, .inr (11, [.ref tp, .ref ra1, .ref ra2, .ref ra3, .ref ra4, .ref ra5, .ref ra6, .ref ra7, .ref ra8, .ref ra9, .ref ra10, .ref ra11, .ref ra12, .int rc, .int fo, .int xx]))] ++ wt) sz) (fun r (u : (Int32) × va_W) => match u with | (fo1, wt1) => tk_ty G Γ wt1 ∧ tk_kp [] wt wt1) (fun (u : (Int32) × va_W) => match u with | (fo1, wt1) => [(h0, .inr (11, [.ref tp, .ref ra1, .ref ra2, .ref ra3, .ref ra4, .ref ra5, .ref ra6, .ref ra7, .ref ra8, .ref ra9, .ref ra10, .ref ra11, .ref ra12, .int rc, .int fo1, .int xx]))] ++ wt1)) 0 0 (va_A ([(h0, .inr (11, [.ref tp, .ref ra1, .ref ra2, .ref ra3, .ref ra4, .ref ra5, .ref ra6, .ref ra7, .ref ra8, .ref ra9, .ref ra10, .ref ra11, .ref ra12, .int rc, .int fo, .int xx]))] ++ wt) sz) := by
  refine Met.ofW (cc := cX11_force) (maxL := 3) (ret := (some .int)) (by decide) rfl ?_
  intro p e s m args below meth c s₁ B hml hv
  obtain ⟨rfl, hsz, hP, hK, hD0⟩ := hv
  have hx := B.exec
  have hb := B.bytes
  have hr := B.returns
  have ht := ts_ht (atoms_spec (ws := ts_L yX11_force cX11_force 3 (some .int)) B.pre)
  have hown : s.vm.findClass RX11 = some m.cls := findClass_of_methodNamed B.named
  have hlocks := B.notSynchronized
  subst hsz
  have hD := hD0.self (sz := s.heap.size)
  generalize hAe : va_A ([(h0, .inr (11, [.ref tp, .ref ra1, .ref ra2, .ref ra3, .ref ra4, .ref ra5, .ref ra6, .ref ra7, .ref ra8, .ref ra9, .ref ra10, .ref ra11, .ref ra12, .int rc, .int fo, .int xx]))] ++ wt) s.heap.size = A at hD ⊢
  have hA : ∀ q : Nat, s.heap.size ≤ q → A q := fun q h => by rw [← hAe]; exact Or.inr h
  clear hAe hD0
  have hS : va_S A s.heap s.heap [] := va_S.rf
  obtain ⟨w0, hw0⟩ : ∃ z, z = wt := ⟨_, rfl⟩
  have hW : tk_kp [] w0 wt := by rw [hw0]; exact tk_kp.rf
  rw [← hw0]
  clear hw0
  have hP : va_P (gg_D G) classes ([(h0, .inr (11, [.ref tp, .ref ra1, .ref ra2, .ref ra3, .ref ra4, .ref ra5, .ref ra6, .ref ra7, .ref ra8, .ref ra9, .ref ra10, .ref ra11, .ref ra12, .int rc, .int fo, .int xx]))] ++ wt) s.heap := hP
  have hD : va_D A ([(h0, .inr (11, [.ref tp, .ref ra1, .ref ra2, .ref ra3, .ref ra4, .ref ra5, .ref ra6, .ref ra7, .ref ra8, .ref ra9, .ref ra10, .ref ra11, .ref ra12, .int rc, .int fo, .int xx]))] ++ wt) := hD
  have hl := lv_entry ([.ref h0, .int b]) (n := 3) (Nat.le_of_ble_eq_true rfl)
  rw [lg_entry_eq]
  generalize (lg_sl ([.ref h0, .int b]) ++ List.replicate (3 - (lg_sl ([.ref h0, .int b])).length) Slot.unset).toArray = ls at hl ⊢
  have hl : lv_has ls 3 [(0, .ref h0), (1, .int b)] := hl
  have lm2 : ((-2) : Int32).toInt = -2 := by decide +kernel
  have lm1 : ((-1) : Int32).toInt = -1 := by decide +kernel
  refine lv_iload_n hx hb dX11_force_0 rfl (lv_at hl 1 rfl) ?_
  refine lv_iconst (v := (-1)) hx hb dX11_force_1 (by decide +kernel) ?_
  refine lv_icmp_lt (tgt := 13) hx hb dX11_force_2 (by decide) (fun c_1 => ?_) (fun c_1 => ?_)
  · rw [Int32.lt_iff_toInt_lt] at c_1
    refine lv_bipush (v := (-2)) hx hb dX11_force_13 (by decide +kernel) ?_
    have hP9 : va_P (gg_D G) classes ([(h0, .inr (11, [.ref tp, .ref ra1, .ref ra2, .ref ra3, .ref ra4, .ref ra5, .ref ra6, .ref ra7, .ref ra8, .ref ra9, .ref ra10, .ref ra11, .ref ra12, .int rc, .int fo, .int xx]))] ++ wt) _ := hP
    have hD9 : va_D A ([(h0, .inr (11, [.ref tp, .ref ra1, .ref ra2, .ref ra3, .ref ra4, .ref ra5, .ref ra6, .ref ra7, .ref ra8, .ref ra9, .ref ra10, .ref ra11, .ref ra12, .int rc, .int fo, .int xx]))] ++ wt) := hD
    exact W.iret (v := (-2)) hx hb hr (gq_endI (fo, wt) ⟨hT, hW⟩ hP9 hD9 hS) hS.2.2 dX11_force_15
  · rw [Int32.lt_iff_toInt_lt] at c_1
    refine lv_iload_n hx hb dX11_force_5 rfl (lv_at hl 1 rfl) ?_
    refine lv_aload_n hx hb dX11_force_6 rfl (lv_at hl 0 rfl) ?_
    refine gq_get hx hb ht hown hK hP i_X11 0 rfl rfl 13 (by decide) wd_510 rfl rfl dX11_force_7 ?_
    refine lv_icmp_lt (tgt := 16) hx hb dX11_force_10 (by decide) (fun c_2 => ?_) (fun c_2 => ?_)
    · rw [Int32.lt_iff_toInt_lt] at c_2
      refine lv_aload_n hx hb dX11_force_16 rfl (lv_at hl 0 rfl) ?_
      refine gq_get hx hb ht hown hK hP i_X11 0 rfl rfl 14 (by decide) wd_511 rfl rfl dX11_force_17 ?_
      refine lv_istore_n (lv' := [(2, .int fo), (0, .ref h0), (1, .int b)]) hx hb dX11_force_20 rfl hl (by decide) rfl (fun ls hl => ?_)
      refine lv_aload_n hx hb dX11_force_21 rfl (lv_at hl 1 rfl) ?_
      refine lv_iload_n hx hb dX11_force_22 rfl (lv_at hl 2 rfl) ?_
      refine gq_put (ws' := [(h0, .inr (11, [.ref tp, .ref ra1, .ref ra2, .ref ra3, .ref ra4, .ref ra5, .ref ra6, .ref ra7, .ref ra8, .ref ra9, .ref ra10, .ref ra11, .ref ra12, .int rc, .int b, .int xx]))] ++ wt) hx hb ht hown hK hP hD hS i_X11 tyX11 tyX11_ok nmX11 0 rfl rfl 14 (by decide) wd_511 rfl rfl rfl rfl (Nat.le_of_ble_eq_true rfl) rfl dX11_force_23 (fun H locs hP hD hS => ?_)
      refine lv_iload_n hx hb dX11_force_26 rfl (lv_at hl 0 rfl) ?_
      have hP9 : va_P (gg_D G) classes ([(h0, .inr (11, [.ref tp, .ref ra1, .ref ra2, .ref ra3, .ref ra4, .ref ra5, .ref ra6, .ref ra7, .ref ra8, .ref ra9, .ref ra10, .ref ra11, .ref ra12, .int rc, .int b, .int xx]))] ++ wt) _ := hP
      have hD9 : va_D A ([(h0, .inr (11, [.ref tp, .ref ra1, .ref ra2, .ref ra3, .ref ra4, .ref ra5, .ref ra6, .ref ra7, .ref ra8, .ref ra9, .ref ra10, .ref ra11, .ref ra12, .int rc, .int b, .int xx]))] ++ wt) := hD
      exact W.iret (v := fo) hx hb hr (gq_endI (b, wt) ⟨hT, hW⟩ hP9 hD9 hS) hS.2.2 dX11_force_27
    · rw [Int32.lt_iff_toInt_lt] at c_2
      refine lv_bipush (v := (-2)) hx hb dX11_force_13 (by decide +kernel) ?_
      have hP9 : va_P (gg_D G) classes ([(h0, .inr (11, [.ref tp, .ref ra1, .ref ra2, .ref ra3, .ref ra4, .ref ra5, .ref ra6, .ref ra7, .ref ra8, .ref ra9, .ref ra10, .ref ra11, .ref ra12, .int rc, .int fo, .int xx]))] ++ wt) _ := hP
      have hD9 : va_D A ([(h0, .inr (11, [.ref tp, .ref ra1, .ref ra2, .ref ra3, .ref ra4, .ref ra5, .ref ra6, .ref ra7, .ref ra8, .ref ra9, .ref ra10, .ref ra11, .ref ra12, .int rc, .int fo, .int xx]))] ++ wt) := hD
      exact W.iret (v := (-2)) hx hb hr (gq_endI (fo, wt) ⟨hT, hW⟩ hP9 hD9 hS) hS.2.2 dX11_force_15
set_option maxHeartbeats 4000000 in
set_option maxRecDepth 100000 in
theorem d_seed (l : Launch) (G : gg_T) (Γ : Nat → Nat) (sz : Nat) (wt : va_W) (hT : tk_ty G Γ wt) (b : Int32) (tp : Nat) (h0 : Nat) (ra1 : Nat) (ra2 : Nat) (ra3 : Nat) (ra4 : Nat) (ra5 : Nat) (ra6 : Nat) (ra7 : Nat) (ra8 : Nat) (ra9 : Nat) (ra10 : Nat) (ra11 : Nat) (ra12 : Nat) (rc : Int32) (fo : Int32) (xx : Int32) (kr1 : Γ ra1 = 10) (kr2 : Γ ra2 = 10) (kr3 : Γ ra3 = 8) (kr4 : Γ ra4 = 8) (kr5 : Γ ra5 = 4) (kr6 : Γ ra6 = 3) (kr7 : Γ ra7 = 41) (kr9 : Γ ra9 = 1) (kr10 : Γ ra10 = 6) (kr11 : Γ ra11 = 11) (kr12 : Γ ra12 = 7) (xr1 : 0 ≤ rc.toInt) (xr2 : rc.toInt ≤ 6) : Met l yX11_seed (ts_L yX11_seed cX11_seed 3 (some .int)) ({ frames := 0, cells := 0, slots := 0, locals := 0 }) (gc_P G ([(h0, .inr (11, [.ref tp, .ref ra1, .ref ra2, .ref ra3, .ref ra4, .ref ra5, .ref ra6, .ref ra7, .ref ra8, .ref ra9, .ref ra10, .ref ra11, .ref ra12, .int rc, .int fo, .int xx]))] ++ wt) sz [.ref h0, .int b]) (gc_I G (va_A ([(h0, .inr (11, [.ref tp, .ref ra1, .ref ra2, .ref ra3, .ref ra4, .ref ra5, .ref ra6, .ref ra7, .ref ra8, .ref ra9, .ref ra10, .ref ra11, .ref ra12, .int rc, .int fo, .int xx]))] ++ wt) sz) (fun r (u : (Int32) × va_W) => match u with | (x1, wt1) => tk_ty G Γ wt1 ∧ tk_kp [] wt wt1 ∧ ((b.toInt < 0 ∧ x1.toInt = xx.toInt) ∨ (0 ≤ b.toInt ∧ x1.toInt = b.toInt)) ∧ ((b.toInt < 0 ∧ r.toInt = -1) ∨ (0 ≤ b.toInt ∧ r.toInt = xx.toInt))) (fun (u : (Int32) × va_W) => match u with | (x1, wt1) => [(h0, .inr (11, [.ref tp, .ref ra1, .ref ra2, .ref ra3, .ref ra4, .ref ra5, .ref ra6, .ref ra7, .ref ra8, .ref ra9, .ref ra10, .ref ra11, .ref ra12, .int rc, .int fo, .int x1]))] ++ wt1)) 0 0 (va_A ([(h0, .inr (11, [.ref tp, .ref ra1, .ref ra2, .ref ra3, .ref ra4, .ref ra5, .ref ra6, .ref ra7, .ref ra8, .ref ra9, .ref ra10, .ref ra11, .ref ra12, .int rc, .int fo, .int xx]))] ++ wt) sz) := by
  refine Met.ofW (cc := cX11_seed) (maxL := 3) (ret := (some .int)) (by decide) rfl ?_
  intro p e s m args below meth c s₁ B hml hv
  obtain ⟨rfl, hsz, hP, hK, hD0⟩ := hv
  have hx := B.exec
  have hb := B.bytes
  have hr := B.returns
  have ht := ts_ht (atoms_spec (ws := ts_L yX11_seed cX11_seed 3 (some .int)) B.pre)
  have hown : s.vm.findClass RX11 = some m.cls := findClass_of_methodNamed B.named
  have hlocks := B.notSynchronized
  subst hsz
  have hD := hD0.self (sz := s.heap.size)
  generalize hAe : va_A ([(h0, .inr (11, [.ref tp, .ref ra1, .ref ra2, .ref ra3, .ref ra4, .ref ra5, .ref ra6, .ref ra7, .ref ra8, .ref ra9, .ref ra10, .ref ra11, .ref ra12, .int rc, .int fo, .int xx]))] ++ wt) s.heap.size = A at hD ⊢
  have hA : ∀ q : Nat, s.heap.size ≤ q → A q := fun q h => by rw [← hAe]; exact Or.inr h
  clear hAe hD0
  have hS : va_S A s.heap s.heap [] := va_S.rf
  obtain ⟨w0, hw0⟩ : ∃ z, z = wt := ⟨_, rfl⟩
  have hW : tk_kp [] w0 wt := by rw [hw0]; exact tk_kp.rf
  rw [← hw0]
  clear hw0
  have hP : va_P (gg_D G) classes ([(h0, .inr (11, [.ref tp, .ref ra1, .ref ra2, .ref ra3, .ref ra4, .ref ra5, .ref ra6, .ref ra7, .ref ra8, .ref ra9, .ref ra10, .ref ra11, .ref ra12, .int rc, .int fo, .int xx]))] ++ wt) s.heap := hP
  have hD : va_D A ([(h0, .inr (11, [.ref tp, .ref ra1, .ref ra2, .ref ra3, .ref ra4, .ref ra5, .ref ra6, .ref ra7, .ref ra8, .ref ra9, .ref ra10, .ref ra11, .ref ra12, .int rc, .int fo, .int xx]))] ++ wt) := hD
  have hl := lv_entry ([.ref h0, .int b]) (n := 3) (Nat.le_of_ble_eq_true rfl)
  rw [lg_entry_eq]
  generalize (lg_sl ([.ref h0, .int b]) ++ List.replicate (3 - (lg_sl ([.ref h0, .int b])).length) Slot.unset).toArray = ls at hl ⊢
  have hl : lv_has ls 3 [(0, .ref h0), (1, .int b)] := hl
  have lm1 : ((-1) : Int32).toInt = -1 := by decide +kernel
  have l0 : (0 : Int32).toInt = 0 := by decide +kernel
  refine lv_iload_n hx hb dX11_seed_0 rfl (lv_at hl 1 rfl) ?_
  refine lv_if_ge (tgt := 6) hx hb dX11_seed_1 (by decide) (fun c_1 => ?_) (fun c_1 => ?_)
  · rw [Int32.le_iff_toInt_le] at c_1
    refine lv_aload_n hx hb dX11_seed_6 rfl (lv_at hl 0 rfl) ?_
    refine gq_get hx hb ht hown hK hP i_X11 0 rfl rfl 15 (by decide) wd_512 rfl rfl dX11_seed_7 ?_
    refine lv_istore_n (lv' := [(2, .int xx), (0, .ref h0), (1, .int b)]) hx hb dX11_seed_10 rfl hl (by decide) rfl (fun ls hl => ?_)
    refine lv_aload_n hx hb dX11_seed_11 rfl (lv_at hl 1 rfl) ?_
    refine lv_iload_n hx hb dX11_seed_12 rfl (lv_at hl 2 rfl) ?_
    refine gq_put (ws' := [(h0, .inr (11, [.ref tp, .ref ra1, .ref ra2, .ref ra3, .ref ra4, .ref ra5, .ref ra6, .ref ra7, .ref ra8, .ref ra9, .ref ra10, .ref ra11, .ref ra12, .int rc, .int fo, .int b]))] ++ wt) hx hb ht hown hK hP hD hS i_X11 tyX11 tyX11_ok nmX11 0 rfl rfl 15 (by decide) wd_512 rfl rfl rfl rfl (Nat.le_of_ble_eq_true rfl) rfl dX11_seed_13 (fun H locs hP hD hS => ?_)
    refine lv_iload_n hx hb dX11_seed_16 rfl (lv_at hl 0 rfl) ?_
    have hP9 : va_P (gg_D G) classes ([(h0, .inr (11, [.ref tp, .ref ra1, .ref ra2, .ref ra3, .ref ra4, .ref ra5, .ref ra6, .ref ra7, .ref ra8, .ref ra9, .ref ra10, .ref ra11, .ref ra12, .int rc, .int fo, .int b]))] ++ wt) _ := hP
    have hD9 : va_D A ([(h0, .inr (11, [.ref tp, .ref ra1, .ref ra2, .ref ra3, .ref ra4, .ref ra5, .ref ra6, .ref ra7, .ref ra8, .ref ra9, .ref ra10, .ref ra11, .ref ra12, .int rc, .int fo, .int b]))] ++ wt) := hD
    exact W.iret (v := xx) hx hb hr (gq_endI (b, wt) ⟨hT, hW, (by omega), (by omega)⟩ hP9 hD9 hS) hS.2.2 dX11_seed_17
  · rw [Int32.le_iff_toInt_le] at c_1
    refine lv_iconst (v := (-1)) hx hb dX11_seed_4 (by decide +kernel) ?_
    have hP9 : va_P (gg_D G) classes ([(h0, .inr (11, [.ref tp, .ref ra1, .ref ra2, .ref ra3, .ref ra4, .ref ra5, .ref ra6, .ref ra7, .ref ra8, .ref ra9, .ref ra10, .ref ra11, .ref ra12, .int rc, .int fo, .int xx]))] ++ wt) _ := hP
    have hD9 : va_D A ([(h0, .inr (11, [.ref tp, .ref ra1, .ref ra2, .ref ra3, .ref ra4, .ref ra5, .ref ra6, .ref ra7, .ref ra8, .ref ra9, .ref ra10, .ref ra11, .ref ra12, .int rc, .int fo, .int xx]))] ++ wt) := hD
    exact W.iret (v := (-1)) hx hb hr (gq_endI (xx, wt) ⟨hT, hW, (by omega), (by omega)⟩ hP9 hD9 hS) hS.2.2 dX11_seed_5
set_option maxHeartbeats 4000000 in
set_option maxRecDepth 100000 in
theorem d_count (l : Launch) (G : gg_T) (Γ : Nat → Nat) (sz : Nat) (wt : va_W) (hT : tk_ty G Γ wt) (b : Int32) (tp : Nat) (bp : Nat) (n : Int32) (at_ : Int32) (w_ : Int32) (fl : Int32) (bf : Nat → Int32) (h0 : Nat) (ra1 : Nat) (ra2 : Nat) (ra3 : Nat) (ra4 : Nat) (ra5 : Nat) (ra6 : Nat) (ra7 : Nat) (ra8 : Nat) (ra9 : Nat) (ra10 : Nat) (ra11 : Nat) (ra12 : Nat) (rc : Int32) (fo : Int32) (xx : Int32) (xp1 : 0 ≤ n.toInt) (xp2 : n.toInt ≤ 400) (xp3 : 0 ≤ at_.toInt) (xp4 : 0 ≤ w_.toInt) (xp5 : at_.toInt + w_.toInt ≤ 400) (kr1 : Γ ra1 = 10) (kr2 : Γ ra2 = 10) (kr3 : Γ ra3 = 8) (kr4 : Γ ra4 = 8) (kr5 : Γ ra5 = 4) (kr6 : Γ ra6 = 3) (kr7 : Γ ra7 = 41) (kr9 : Γ ra9 = 1) (kr10 : Γ ra10 = 6) (kr11 : Γ ra11 = 11) (kr12 : Γ ra12 = 7) (xr1 : 0 ≤ rc.toInt) (xr2 : rc.toInt ≤ 6) : Met l yX11_count (ts_L yX11_count cX11_count 2 (some .int)) ({ frames := 1, cells := 0, slots := 0, locals := 23 }) (gc_P G ([(h0, .inr (11, [.ref tp, .ref ra1, .ref ra2, .ref ra3, .ref ra4, .ref ra5, .ref ra6, .ref ra7, .ref ra8, .ref ra9, .ref ra10, .ref ra11, .ref ra12, .int rc, .int fo, .int xx])), (tp, .inr (8, [.ref bp, .int n, .int at_, .int w_, .int fl])), (bp, .inl (G.2.2 0, 400, .inl bf))] ++ wt) sz [.ref h0, .int b]) (gc_I G (va_A ([(h0, .inr (11, [.ref tp, .ref ra1, .ref ra2, .ref ra3, .ref ra4, .ref ra5, .ref ra6, .ref ra7, .ref ra8, .ref ra9, .ref ra10, .ref ra11, .ref ra12, .int rc, .int fo, .int xx])), (tp, .inr (8, [.ref bp, .int n, .int at_, .int w_, .int fl])), (bp, .inl (G.2.2 0, 400, .inl bf))] ++ wt) sz) (fun r (u : va_W) => match u with | wt1 => tk_ty G Γ wt1 ∧ tk_kp [] wt wt1) (fun (u : va_W) => match u with | wt1 => [(h0, .inr (11, [.ref tp, .ref ra1, .ref ra2, .ref ra3, .ref ra4, .ref ra5, .ref ra6, .ref ra7, .ref ra8, .ref ra9, .ref ra10, .ref ra11, .ref ra12, .int rc, .int fo, .int xx])), (tp, .inr (8, [.ref bp, .int n, .int at_, .int w_, .int fl])), (bp, .inl (G.2.2 0, 400, .inl bf))] ++ wt1)) 0 0 (va_A ([(h0, .inr (11, [.ref tp, .ref ra1, .ref ra2, .ref ra3, .ref ra4, .ref ra5, .ref ra6, .ref ra7, .ref ra8, .ref ra9, .ref ra10, .ref ra11, .ref ra12, .int rc, .int fo, .int xx])), (tp, .inr (8, [.ref bp, .int n, .int at_, .int w_, .int fl])), (bp, .inl (G.2.2 0, 400, .inl bf))] ++ wt) sz) := by
  refine Met.ofW (cc := cX11_count) (maxL := 2) (ret := (some .int)) (by decide) rfl ?_
  intro p e s m args below meth c s₁ B hml hv
  obtain ⟨rfl, hsz, hP, hK, hD0⟩ := hv
  have hx := B.exec
  have hb := B.bytes
  have hr := B.returns
  have ht := ts_ht (atoms_spec (ws := ts_L yX11_count cX11_count 2 (some .int)) B.pre)
  have hown : s.vm.findClass RX11 = some m.cls := findClass_of_methodNamed B.named
  have hlocks := B.notSynchronized
  subst hsz
  have hD := hD0.self (sz := s.heap.size)
  generalize hAe : va_A ([(h0, .inr (11, [.ref tp, .ref ra1, .ref ra2, .ref ra3, .ref ra4, .ref ra5, .ref ra6, .ref ra7, .ref ra8, .ref ra9, .ref ra10, .ref ra11, .ref ra12, .int rc, .int fo, .int xx])), (tp, .inr (8, [.ref bp, .int n, .int at_, .int w_, .int fl])), (bp, .inl (G.2.2 0, 400, .inl bf))] ++ wt) s.heap.size = A at hD ⊢
  have hA : ∀ q : Nat, s.heap.size ≤ q → A q := fun q h => by rw [← hAe]; exact Or.inr h
  clear hAe hD0
  have hS : va_S A s.heap s.heap [] := va_S.rf
  obtain ⟨w0, hw0⟩ : ∃ z, z = wt := ⟨_, rfl⟩
  have hW : tk_kp [] w0 wt := by rw [hw0]; exact tk_kp.rf
  rw [← hw0]
  clear hw0
  have hP : va_P (gg_D G) classes ([(h0, .inr (11, [.ref tp, .ref ra1, .ref ra2, .ref ra3, .ref ra4, .ref ra5, .ref ra6, .ref ra7, .ref ra8, .ref ra9, .ref ra10, .ref ra11, .ref ra12, .int rc, .int fo, .int xx])), (tp, .inr (8, [.ref bp, .int n, .int at_, .int w_, .int fl])), (bp, .inl (G.2.2 0, 400, .inl bf))] ++ wt) s.heap := hP
  have hD : va_D A ([(h0, .inr (11, [.ref tp, .ref ra1, .ref ra2, .ref ra3, .ref ra4, .ref ra5, .ref ra6, .ref ra7, .ref ra8, .ref ra9, .ref ra10, .ref ra11, .ref ra12, .int rc, .int fo, .int xx])), (tp, .inr (8, [.ref bp, .int n, .int at_, .int w_, .int fl])), (bp, .inl (G.2.2 0, 400, .inl bf))] ++ wt) := hD
  have hl := lv_entry ([.ref h0, .int b]) (n := 2) (Nat.le_of_ble_eq_true rfl)
  rw [lg_entry_eq]
  generalize (lg_sl ([.ref h0, .int b]) ++ List.replicate (2 - (lg_sl ([.ref h0, .int b])).length) Slot.unset).toArray = ls at hl ⊢
  have hl : lv_has ls 2 [(0, .ref h0), (1, .int b)] := hl
  have lm1 : ((-1) : Int32).toInt = -1 := by decide +kernel
  have l0 : (0 : Int32).toInt = 0 := by decide +kernel
  have l1 : (1 : Int32).toInt = 1 := by decide +kernel
  have l2 : (2 : Int32).toInt = 2 := by decide +kernel
  have l3 : (3 : Int32).toInt = 3 := by decide +kernel
  have l4 : (4 : Int32).toInt = 4 := by decide +kernel
  have l5 : (5 : Int32).toInt = 5 := by decide +kernel
  have l6 : (6 : Int32).toInt = 6 := by decide +kernel
  have l7 : (7 : Int32).toInt = 7 := by decide +kernel
  have l8 : (8 : Int32).toInt = 8 := by decide +kernel
  have l9 : (9 : Int32).toInt = 9 := by decide +kernel
  have l10 : (10 : Int32).toInt = 10 := by decide +kernel
  have l11 : (11 : Int32).toInt = 11 := by decide +kernel
  have l12 : (12 : Int32).toInt = 12 := by decide +kernel
  have l13 : (13 : Int32).toInt = 13 := by decide +kernel
  have l14 : (14 : Int32).toInt = 14 := by decide +kernel
  refine lv_iload_n hx hb dX11_count_0 rfl (lv_at hl 1 rfl) ?_
  by_cases c_1 : b = 0
  · refine lv_tableIn (x := b) (off := 75) (tgt := 76) hx hb dX11_count_1 (by rw [c_1]; decide +kernel) (by rw [c_1]; decide +kernel) (by rw [c_1]; decide +kernel) (by decide) ?_
    rw [← Int32.toInt_inj] at c_1
    refine lv_aload_n hx hb dX11_count_76 rfl (lv_at hl 0 rfl) ?_
    refine gq_get hx hb ht hown hK hP i_X11 0 rfl rfl 1 (by decide) wd_498 rfl rfl dX11_count_77 ?_
    refine tr_get (ci := 9) hx hb ht hown hK hT hP kr1 (by decide) i_X9 rfl 0 (by decide) wd_180 rfl dX11_count_80 (fun v hv hf_2 => ?_)
    obtain ⟨n_3, rfl⟩ := hv
    have hP9 : va_P (gg_D G) classes ([(h0, .inr (11, [.ref tp, .ref ra1, .ref ra2, .ref ra3, .ref ra4, .ref ra5, .ref ra6, .ref ra7, .ref ra8, .ref ra9, .ref ra10, .ref ra11, .ref ra12, .int rc, .int fo, .int xx])), (tp, .inr (8, [.ref bp, .int n, .int at_, .int w_, .int fl])), (bp, .inl (G.2.2 0, 400, .inl bf))] ++ wt) _ := hP
    have hD9 : va_D A ([(h0, .inr (11, [.ref tp, .ref ra1, .ref ra2, .ref ra3, .ref ra4, .ref ra5, .ref ra6, .ref ra7, .ref ra8, .ref ra9, .ref ra10, .ref ra11, .ref ra12, .int rc, .int fo, .int xx])), (tp, .inr (8, [.ref bp, .int n, .int at_, .int w_, .int fl])), (bp, .inl (G.2.2 0, 400, .inl bf))] ++ wt) := hD
    exact W.iret (v := n_3) hx hb hr (gq_endI wt ⟨hT, hW⟩ hP9 hD9 hS) hS.2.2 dX11_count_83
  by_cases c_4 : b = 1
  · refine lv_tableIn (x := b) (off := 83) (tgt := 84) hx hb dX11_count_1 (by rw [c_4]; decide +kernel) (by rw [c_4]; decide +kernel) (by rw [c_4]; decide +kernel) (by decide) ?_
    rw [← Int32.toInt_inj] at c_4
    refine lv_aload_n hx hb dX11_count_84 rfl (lv_at hl 0 rfl) ?_
    refine gq_get hx hb ht hown hK hP i_X11 0 rfl rfl 1 (by decide) wd_498 rfl rfl dX11_count_85 ?_
    refine tr_get (ci := 9) hx hb ht hown hK hT hP kr1 (by decide) i_X9 rfl 1 (by decide) wd_185 rfl dX11_count_88 (fun v hv hf_5 => ?_)
    obtain ⟨n_6, rfl, lo_n_6, hi_n_6⟩ := hv
    have hP9 : va_P (gg_D G) classes ([(h0, .inr (11, [.ref tp, .ref ra1, .ref ra2, .ref ra3, .ref ra4, .ref ra5, .ref ra6, .ref ra7, .ref ra8, .ref ra9, .ref ra10, .ref ra11, .ref ra12, .int rc, .int fo, .int xx])), (tp, .inr (8, [.ref bp, .int n, .int at_, .int w_, .int fl])), (bp, .inl (G.2.2 0, 400, .inl bf))] ++ wt) _ := hP
    have hD9 : va_D A ([(h0, .inr (11, [.ref tp, .ref ra1, .ref ra2, .ref ra3, .ref ra4, .ref ra5, .ref ra6, .ref ra7, .ref ra8, .ref ra9, .ref ra10, .ref ra11, .ref ra12, .int rc, .int fo, .int xx])), (tp, .inr (8, [.ref bp, .int n, .int at_, .int w_, .int fl])), (bp, .inl (G.2.2 0, 400, .inl bf))] ++ wt) := hD
    exact W.iret (v := n_6) hx hb hr (gq_endI wt ⟨hT, hW⟩ hP9 hD9 hS) hS.2.2 dX11_count_91
  by_cases c_7 : b = 2
  · refine lv_tableIn (x := b) (off := 91) (tgt := 92) hx hb dX11_count_1 (by rw [c_7]; decide +kernel) (by rw [c_7]; decide +kernel) (by rw [c_7]; decide +kernel) (by decide) ?_
    rw [← Int32.toInt_inj] at c_7
    refine lv_aload_n hx hb dX11_count_92 rfl (lv_at hl 0 rfl) ?_
    refine gq_get hx hb ht hown hK hP i_X11 0 rfl rfl 1 (by decide) wd_498 rfl rfl dX11_count_93 ?_
    refine tr_get (ci := 9) hx hb ht hown hK hT hP kr1 (by decide) i_X9 rfl 2 (by decide) wd_190 rfl dX11_count_96 (fun v hv hf_8 => ?_)
    obtain ⟨n_9, rfl, lo_n_9, hi_n_9⟩ := hv
    have hP9 : va_P (gg_D G) classes ([(h0, .inr (11, [.ref tp, .ref ra1, .ref ra2, .ref ra3, .ref ra4, .ref ra5, .ref ra6, .ref ra7, .ref ra8, .ref ra9, .ref ra10, .ref ra11, .ref ra12, .int rc, .int fo, .int xx])), (tp, .inr (8, [.ref bp, .int n, .int at_, .int w_, .int fl])), (bp, .inl (G.2.2 0, 400, .inl bf))] ++ wt) _ := hP
    have hD9 : va_D A ([(h0, .inr (11, [.ref tp, .ref ra1, .ref ra2, .ref ra3, .ref ra4, .ref ra5, .ref ra6, .ref ra7, .ref ra8, .ref ra9, .ref ra10, .ref ra11, .ref ra12, .int rc, .int fo, .int xx])), (tp, .inr (8, [.ref bp, .int n, .int at_, .int w_, .int fl])), (bp, .inl (G.2.2 0, 400, .inl bf))] ++ wt) := hD
    exact W.iret (v := n_9) hx hb hr (gq_endI wt ⟨hT, hW⟩ hP9 hD9 hS) hS.2.2 dX11_count_99
  by_cases c_10 : b = 3
  · refine lv_tableIn (x := b) (off := 99) (tgt := 100) hx hb dX11_count_1 (by rw [c_10]; decide +kernel) (by rw [c_10]; decide +kernel) (by rw [c_10]; decide +kernel) (by decide) ?_
    rw [← Int32.toInt_inj] at c_10
    refine lv_aload_n hx hb dX11_count_100 rfl (lv_at hl 0 rfl) ?_
    refine gq_get hx hb ht hown hK hP i_X11 0 rfl rfl 1 (by decide) wd_498 rfl rfl dX11_count_101 ?_
    refine tr_get (ci := 9) hx hb ht hown hK hT hP kr1 (by decide) i_X9 rfl 3 (by decide) wd_193 rfl dX11_count_104 (fun v hv hf_11 => ?_)
    obtain ⟨n_12, rfl, lo_n_12, hi_n_12⟩ := hv
    have hP9 : va_P (gg_D G) classes ([(h0, .inr (11, [.ref tp, .ref ra1, .ref ra2, .ref ra3, .ref ra4, .ref ra5, .ref ra6, .ref ra7, .ref ra8, .ref ra9, .ref ra10, .ref ra11, .ref ra12, .int rc, .int fo, .int xx])), (tp, .inr (8, [.ref bp, .int n, .int at_, .int w_, .int fl])), (bp, .inl (G.2.2 0, 400, .inl bf))] ++ wt) _ := hP
    have hD9 : va_D A ([(h0, .inr (11, [.ref tp, .ref ra1, .ref ra2, .ref ra3, .ref ra4, .ref ra5, .ref ra6, .ref ra7, .ref ra8, .ref ra9, .ref ra10, .ref ra11, .ref ra12, .int rc, .int fo, .int xx])), (tp, .inr (8, [.ref bp, .int n, .int at_, .int w_, .int fl])), (bp, .inl (G.2.2 0, 400, .inl bf))] ++ wt) := hD
    exact W.iret (v := n_12) hx hb hr (gq_endI wt ⟨hT, hW⟩ hP9 hD9 hS) hS.2.2 dX11_count_107
  by_cases c_13 : b = 4
  · refine lv_tableIn (x := b) (off := 107) (tgt := 108) hx hb dX11_count_1 (by rw [c_13]; decide +kernel) (by rw [c_13]; decide +kernel) (by rw [c_13]; decide +kernel) (by decide) ?_
    rw [← Int32.toInt_inj] at c_13
    refine lv_aload_n hx hb dX11_count_108 rfl (lv_at hl 0 rfl) ?_
    refine gq_get hx hb ht hown hK hP i_X11 0 rfl rfl 13 (by decide) wd_510 rfl rfl dX11_count_109 ?_
    have hP9 : va_P (gg_D G) classes ([(h0, .inr (11, [.ref tp, .ref ra1, .ref ra2, .ref ra3, .ref ra4, .ref ra5, .ref ra6, .ref ra7, .ref ra8, .ref ra9, .ref ra10, .ref ra11, .ref ra12, .int rc, .int fo, .int xx])), (tp, .inr (8, [.ref bp, .int n, .int at_, .int w_, .int fl])), (bp, .inl (G.2.2 0, 400, .inl bf))] ++ wt) _ := hP
    have hD9 : va_D A ([(h0, .inr (11, [.ref tp, .ref ra1, .ref ra2, .ref ra3, .ref ra4, .ref ra5, .ref ra6, .ref ra7, .ref ra8, .ref ra9, .ref ra10, .ref ra11, .ref ra12, .int rc, .int fo, .int xx])), (tp, .inr (8, [.ref bp, .int n, .int at_, .int w_, .int fl])), (bp, .inl (G.2.2 0, 400, .inl bf))] ++ wt) := hD
    exact W.iret (v := rc) hx hb hr (gq_endI wt ⟨hT, hW⟩ hP9 hD9 hS) hS.2.2 dX11_count_112
  by_cases c_14 : b = 5
  · refine lv_tableIn (x := b) (off := 112) (tgt := 113) hx hb dX11_count_1 (by rw [c_14]; decide +kernel) (by rw [c_14]; decide +kernel) (by rw [c_14]; decide +kernel) (by decide) ?_
    rw [← Int32.toInt_inj] at c_14
    refine lv_aload_n hx hb dX11_count_113 rfl (lv_at hl 0 rfl) ?_
    refine gq_get hx hb ht hown hK hP i_X11 0 rfl rfl 14 (by decide) wd_511 rfl rfl dX11_count_114 ?_
    have hP9 : va_P (gg_D G) classes ([(h0, .inr (11, [.ref tp, .ref ra1, .ref ra2, .ref ra3, .ref ra4, .ref ra5, .ref ra6, .ref ra7, .ref ra8, .ref ra9, .ref ra10, .ref ra11, .ref ra12, .int rc, .int fo, .int xx])), (tp, .inr (8, [.ref bp, .int n, .int at_, .int w_, .int fl])), (bp, .inl (G.2.2 0, 400, .inl bf))] ++ wt) _ := hP
    have hD9 : va_D A ([(h0, .inr (11, [.ref tp, .ref ra1, .ref ra2, .ref ra3, .ref ra4, .ref ra5, .ref ra6, .ref ra7, .ref ra8, .ref ra9, .ref ra10, .ref ra11, .ref ra12, .int rc, .int fo, .int xx])), (tp, .inr (8, [.ref bp, .int n, .int at_, .int w_, .int fl])), (bp, .inl (G.2.2 0, 400, .inl bf))] ++ wt) := hD
    exact W.iret (v := fo) hx hb hr (gq_endI wt ⟨hT, hW⟩ hP9 hD9 hS) hS.2.2 dX11_count_117
  by_cases c_15 : b = 6
  · refine lv_tableIn (x := b) (off := 117) (tgt := 118) hx hb dX11_count_1 (by rw [c_15]; decide +kernel) (by rw [c_15]; decide +kernel) (by rw [c_15]; decide +kernel) (by decide) ?_
    rw [← Int32.toInt_inj] at c_15
    refine lv_aload_n hx hb dX11_count_118 rfl (lv_at hl 0 rfl) ?_
    refine gq_get hx hb ht hown hK hP i_X11 0 rfl rfl 3 (by decide) wd_500 rfl rfl dX11_count_119 ?_
    refine tr_get (ci := 7) hx hb ht hown hK hT hP kr3 (by decide) i_X7 rfl 9 (by decide) wd_268 rfl dX11_count_122 (fun v hv hf_16 => ?_)
    obtain ⟨n_17, rfl⟩ := hv
    have hP9 : va_P (gg_D G) classes ([(h0, .inr (11, [.ref tp, .ref ra1, .ref ra2, .ref ra3, .ref ra4, .ref ra5, .ref ra6, .ref ra7, .ref ra8, .ref ra9, .ref ra10, .ref ra11, .ref ra12, .int rc, .int fo, .int xx])), (tp, .inr (8, [.ref bp, .int n, .int at_, .int w_, .int fl])), (bp, .inl (G.2.2 0, 400, .inl bf))] ++ wt) _ := hP
    have hD9 : va_D A ([(h0, .inr (11, [.ref tp, .ref ra1, .ref ra2, .ref ra3, .ref ra4, .ref ra5, .ref ra6, .ref ra7, .ref ra8, .ref ra9, .ref ra10, .ref ra11, .ref ra12, .int rc, .int fo, .int xx])), (tp, .inr (8, [.ref bp, .int n, .int at_, .int w_, .int fl])), (bp, .inl (G.2.2 0, 400, .inl bf))] ++ wt) := hD
    exact W.iret (v := n_17) hx hb hr (gq_endI wt ⟨hT, hW⟩ hP9 hD9 hS) hS.2.2 dX11_count_125
  by_cases c_18 : b = 7
  · refine lv_tableIn (x := b) (off := 125) (tgt := 126) hx hb dX11_count_1 (by rw [c_18]; decide +kernel) (by rw [c_18]; decide +kernel) (by rw [c_18]; decide +kernel) (by decide) ?_
    rw [← Int32.toInt_inj] at c_18
    refine lv_aload_n hx hb dX11_count_126 rfl (lv_at hl 0 rfl) ?_
    refine gq_get hx hb ht hown hK hP i_X11 0 rfl rfl 3 (by decide) wd_500 rfl rfl dX11_count_127 ?_
    refine gt_callI (wr := [(h0, .inr (11, [.ref tp, .ref ra1, .ref ra2, .ref ra3, .ref ra4, .ref ra5, .ref ra6, .ref ra7, .ref ra8, .ref ra9, .ref ra10, .ref ra11, .ref ra12, .int rc, .int fo, .int xx])), (tp, .inr (8, [.ref bp, .int n, .int at_, .int w_, .int fl])), (bp, .inl (G.2.2 0, 400, .inl bf))]) (va_runV (As := []) (rest := []) ⟨hx, hb, hml, hown, ht⟩ (d_silentOnes l G Γ s.heap.size wt hT ra3 kr3) (cwV 0 ht (ts_gV wd_845 wd_798 wd_799 wd_125 wd_800) rfl rfl rfl (by decide +kernel) ⟨Nat.le_of_ble_eq_true rfl, Nat.le_of_ble_eq_true rfl⟩) (gt_preW (ci := 7) hK hT (tw_right hP) (tw_rightD hD) kr3 (by decide) rfl) rfl rfl hl.1 rfl (lv_room (Nat.le_of_ble_eq_true rfl)) dX11_count_130 ⟨Nat.le_of_ble_eq_true rfl, Nat.le_of_ble_eq_true rfl⟩) hP hD hS hA (fun r_19 wt H locs hw hP hD hS => ?_)
    obtain ⟨hT, hkp, lo_r_19, hi_r_19⟩ := hw
    have hW := hW.call (show ∀ x ∈ [], x ∈ [] by decide) hkp
    have hP : va_P (gg_D G) classes ([(h0, .inr (11, [.ref tp, .ref ra1, .ref ra2, .ref ra3, .ref ra4, .ref ra5, .ref ra6, .ref ra7, .ref ra8, .ref ra9, .ref ra10, .ref ra11, .ref ra12, .int rc, .int fo, .int xx])), (tp, .inr (8, [.ref bp, .int n, .int at_, .int w_, .int fl])), (bp, .inl (G.2.2 0, 400, .inl bf))] ++ wt) H := hP
    have hD : va_D A ([(h0, .inr (11, [.ref tp, .ref ra1, .ref ra2, .ref ra3, .ref ra4, .ref ra5, .ref ra6, .ref ra7, .ref ra8, .ref ra9, .ref ra10, .ref ra11, .ref ra12, .int rc, .int fo, .int xx])), (tp, .inr (8, [.ref bp, .int n, .int at_, .int w_, .int fl])), (bp, .inl (G.2.2 0, 400, .inl bf))] ++ wt) := hD
    have hP9 : va_P (gg_D G) classes ([(h0, .inr (11, [.ref tp, .ref ra1, .ref ra2, .ref ra3, .ref ra4, .ref ra5, .ref ra6, .ref ra7, .ref ra8, .ref ra9, .ref ra10, .ref ra11, .ref ra12, .int rc, .int fo, .int xx])), (tp, .inr (8, [.ref bp, .int n, .int at_, .int w_, .int fl])), (bp, .inl (G.2.2 0, 400, .inl bf))] ++ wt) _ := hP
    have hD9 : va_D A ([(h0, .inr (11, [.ref tp, .ref ra1, .ref ra2, .ref ra3, .ref ra4, .ref ra5, .ref ra6, .ref ra7, .ref ra8, .ref ra9, .ref ra10, .ref ra11, .ref ra12, .int rc, .int fo, .int xx])), (tp, .inr (8, [.ref bp, .int n, .int at_, .int w_, .int fl])), (bp, .inl (G.2.2 0, 400, .inl bf))] ++ wt) := hD
    exact W.iret (v := r_19) hx hb hr (gq_endI wt ⟨hT, hW⟩ hP9 hD9 hS) hS.2.2 dX11_count_133
  by_cases c_20 : b = 8
  · refine lv_tableIn (x := b) (off := 133) (tgt := 134) hx hb dX11_count_1 (by rw [c_20]; decide +kernel) (by rw [c_20]; decide +kernel) (by rw [c_20]; decide +kernel) (by decide) ?_
    rw [← Int32.toInt_inj] at c_20
    refine lv_aload_n hx hb dX11_count_134 rfl (lv_at hl 0 rfl) ?_
    refine gq_get hx hb ht hown hK hP i_X11 0 rfl rfl 3 (by decide) wd_500 rfl rfl dX11_count_135 ?_
    refine lv_iconst (v := 1) hx hb dX11_count_138 (by decide +kernel) ?_
    refine gt_callI (wr := [(h0, .inr (11, [.ref tp, .ref ra1, .ref ra2, .ref ra3, .ref ra4, .ref ra5, .ref ra6, .ref ra7, .ref ra8, .ref ra9, .ref ra10, .ref ra11, .ref ra12, .int rc, .int fo, .int xx])), (tp, .inr (8, [.ref bp, .int n, .int at_, .int w_, .int fl])), (bp, .inl (G.2.2 0, 400, .inl bf))]) (va_runV (As := [.int 1]) (rest := []) ⟨hx, hb, hml, hown, ht⟩ (d_lotsAt l G Γ s.heap.size wt hT ra3 1 kr3) (cwV 1 ht (ts_gV wd_846 wd_847 wd_848 wd_125 wd_849) rfl rfl rfl (by decide +kernel) ⟨Nat.le_of_ble_eq_true rfl, Nat.le_of_ble_eq_true rfl⟩) (gt_preW (ci := 7) hK hT (tw_right hP) (tw_rightD hD) kr3 (by decide) rfl) rfl rfl hl.1 rfl (lv_room (Nat.le_of_ble_eq_true rfl)) dX11_count_139 ⟨Nat.le_of_ble_eq_true rfl, Nat.le_of_ble_eq_true rfl⟩) hP hD hS hA (fun r_21 wt H locs hw hP hD hS => ?_)
    obtain ⟨hT, hkp, lo_r_21, hi_r_21⟩ := hw
    have hW := hW.call (show ∀ x ∈ [], x ∈ [] by decide) hkp
    have hP : va_P (gg_D G) classes ([(h0, .inr (11, [.ref tp, .ref ra1, .ref ra2, .ref ra3, .ref ra4, .ref ra5, .ref ra6, .ref ra7, .ref ra8, .ref ra9, .ref ra10, .ref ra11, .ref ra12, .int rc, .int fo, .int xx])), (tp, .inr (8, [.ref bp, .int n, .int at_, .int w_, .int fl])), (bp, .inl (G.2.2 0, 400, .inl bf))] ++ wt) H := hP
    have hD : va_D A ([(h0, .inr (11, [.ref tp, .ref ra1, .ref ra2, .ref ra3, .ref ra4, .ref ra5, .ref ra6, .ref ra7, .ref ra8, .ref ra9, .ref ra10, .ref ra11, .ref ra12, .int rc, .int fo, .int xx])), (tp, .inr (8, [.ref bp, .int n, .int at_, .int w_, .int fl])), (bp, .inl (G.2.2 0, 400, .inl bf))] ++ wt) := hD
    have hP9 : va_P (gg_D G) classes ([(h0, .inr (11, [.ref tp, .ref ra1, .ref ra2, .ref ra3, .ref ra4, .ref ra5, .ref ra6, .ref ra7, .ref ra8, .ref ra9, .ref ra10, .ref ra11, .ref ra12, .int rc, .int fo, .int xx])), (tp, .inr (8, [.ref bp, .int n, .int at_, .int w_, .int fl])), (bp, .inl (G.2.2 0, 400, .inl bf))] ++ wt) _ := hP
    have hD9 : va_D A ([(h0, .inr (11, [.ref tp, .ref ra1, .ref ra2, .ref ra3, .ref ra4, .ref ra5, .ref ra6, .ref ra7, .ref ra8, .ref ra9, .ref ra10, .ref ra11, .ref ra12, .int rc, .int fo, .int xx])), (tp, .inr (8, [.ref bp, .int n, .int at_, .int w_, .int fl])), (bp, .inl (G.2.2 0, 400, .inl bf))] ++ wt) := hD
    exact W.iret (v := r_21) hx hb hr (gq_endI wt ⟨hT, hW⟩ hP9 hD9 hS) hS.2.2 dX11_count_142
  by_cases c_22 : b = 9
  · refine lv_tableIn (x := b) (off := 142) (tgt := 143) hx hb dX11_count_1 (by rw [c_22]; decide +kernel) (by rw [c_22]; decide +kernel) (by rw [c_22]; decide +kernel) (by decide) ?_
    rw [← Int32.toInt_inj] at c_22
    refine lv_aload_n hx hb dX11_count_143 rfl (lv_at hl 0 rfl) ?_
    refine gq_get hx hb ht hown hK hP i_X11 0 rfl rfl 3 (by decide) wd_500 rfl rfl dX11_count_144 ?_
    refine lv_iconst (v := 2) hx hb dX11_count_147 (by decide +kernel) ?_
    refine gt_callI (wr := [(h0, .inr (11, [.ref tp, .ref ra1, .ref ra2, .ref ra3, .ref ra4, .ref ra5, .ref ra6, .ref ra7, .ref ra8, .ref ra9, .ref ra10, .ref ra11, .ref ra12, .int rc, .int fo, .int xx])), (tp, .inr (8, [.ref bp, .int n, .int at_, .int w_, .int fl])), (bp, .inl (G.2.2 0, 400, .inl bf))]) (va_runV (As := [.int 2]) (rest := []) ⟨hx, hb, hml, hown, ht⟩ (d_lotsAt l G Γ s.heap.size wt hT ra3 2 kr3) (cwV 1 ht (ts_gV wd_846 wd_847 wd_848 wd_125 wd_849) rfl rfl rfl (by decide +kernel) ⟨Nat.le_of_ble_eq_true rfl, Nat.le_of_ble_eq_true rfl⟩) (gt_preW (ci := 7) hK hT (tw_right hP) (tw_rightD hD) kr3 (by decide) rfl) rfl rfl hl.1 rfl (lv_room (Nat.le_of_ble_eq_true rfl)) dX11_count_148 ⟨Nat.le_of_ble_eq_true rfl, Nat.le_of_ble_eq_true rfl⟩) hP hD hS hA (fun r_23 wt H locs hw hP hD hS => ?_)
    obtain ⟨hT, hkp, lo_r_23, hi_r_23⟩ := hw
    have hW := hW.call (show ∀ x ∈ [], x ∈ [] by decide) hkp
    have hP : va_P (gg_D G) classes ([(h0, .inr (11, [.ref tp, .ref ra1, .ref ra2, .ref ra3, .ref ra4, .ref ra5, .ref ra6, .ref ra7, .ref ra8, .ref ra9, .ref ra10, .ref ra11, .ref ra12, .int rc, .int fo, .int xx])), (tp, .inr (8, [.ref bp, .int n, .int at_, .int w_, .int fl])), (bp, .inl (G.2.2 0, 400, .inl bf))] ++ wt) H := hP
    have hD : va_D A ([(h0, .inr (11, [.ref tp, .ref ra1, .ref ra2, .ref ra3, .ref ra4, .ref ra5, .ref ra6, .ref ra7, .ref ra8, .ref ra9, .ref ra10, .ref ra11, .ref ra12, .int rc, .int fo, .int xx])), (tp, .inr (8, [.ref bp, .int n, .int at_, .int w_, .int fl])), (bp, .inl (G.2.2 0, 400, .inl bf))] ++ wt) := hD
    have hP9 : va_P (gg_D G) classes ([(h0, .inr (11, [.ref tp, .ref ra1, .ref ra2, .ref ra3, .ref ra4, .ref ra5, .ref ra6, .ref ra7, .ref ra8, .ref ra9, .ref ra10, .ref ra11, .ref ra12, .int rc, .int fo, .int xx])), (tp, .inr (8, [.ref bp, .int n, .int at_, .int w_, .int fl])), (bp, .inl (G.2.2 0, 400, .inl bf))] ++ wt) _ := hP
    have hD9 : va_D A ([(h0, .inr (11, [.ref tp, .ref ra1, .ref ra2, .ref ra3, .ref ra4, .ref ra5, .ref ra6, .ref ra7, .ref ra8, .ref ra9, .ref ra10, .ref ra11, .ref ra12, .int rc, .int fo, .int xx])), (tp, .inr (8, [.ref bp, .int n, .int at_, .int w_, .int fl])), (bp, .inl (G.2.2 0, 400, .inl bf))] ++ wt) := hD
    exact W.iret (v := r_23) hx hb hr (gq_endI wt ⟨hT, hW⟩ hP9 hD9 hS) hS.2.2 dX11_count_151
  by_cases c_24 : b = 10
  · refine lv_tableIn (x := b) (off := 151) (tgt := 152) hx hb dX11_count_1 (by rw [c_24]; decide +kernel) (by rw [c_24]; decide +kernel) (by rw [c_24]; decide +kernel) (by decide) ?_
    rw [← Int32.toInt_inj] at c_24
    refine lv_aload_n hx hb dX11_count_152 rfl (lv_at hl 0 rfl) ?_
    refine gq_get hx hb ht hown hK hP i_X11 0 rfl rfl 3 (by decide) wd_500 rfl rfl dX11_count_153 ?_
    refine gt_callI (wr := [(h0, .inr (11, [.ref tp, .ref ra1, .ref ra2, .ref ra3, .ref ra4, .ref ra5, .ref ra6, .ref ra7, .ref ra8, .ref ra9, .ref ra10, .ref ra11, .ref ra12, .int rc, .int fo, .int xx])), (tp, .inr (8, [.ref bp, .int n, .int at_, .int w_, .int fl])), (bp, .inl (G.2.2 0, 400, .inl bf))]) (va_runV (As := []) (rest := []) ⟨hx, hb, hml, hown, ht⟩ (d_allPaid l G Γ s.heap.size wt hT ra3 kr3) (cwV 0 ht (ts_gV wd_850 wd_851 wd_852 wd_125 wd_853) rfl rfl rfl (by decide +kernel) ⟨Nat.le_of_ble_eq_true rfl, Nat.le_of_ble_eq_true rfl⟩) (gt_preW (ci := 7) hK hT (tw_right hP) (tw_rightD hD) kr3 (by decide) rfl) rfl rfl hl.1 rfl (lv_room (Nat.le_of_ble_eq_true rfl)) dX11_count_156 ⟨Nat.le_of_ble_eq_true rfl, Nat.le_of_ble_eq_true rfl⟩) hP hD hS hA (fun r_25 wt H locs hw hP hD hS => ?_)
    obtain ⟨hT, hkp⟩ := hw
    have hW := hW.call (show ∀ x ∈ [], x ∈ [] by decide) hkp
    have hP : va_P (gg_D G) classes ([(h0, .inr (11, [.ref tp, .ref ra1, .ref ra2, .ref ra3, .ref ra4, .ref ra5, .ref ra6, .ref ra7, .ref ra8, .ref ra9, .ref ra10, .ref ra11, .ref ra12, .int rc, .int fo, .int xx])), (tp, .inr (8, [.ref bp, .int n, .int at_, .int w_, .int fl])), (bp, .inl (G.2.2 0, 400, .inl bf))] ++ wt) H := hP
    have hD : va_D A ([(h0, .inr (11, [.ref tp, .ref ra1, .ref ra2, .ref ra3, .ref ra4, .ref ra5, .ref ra6, .ref ra7, .ref ra8, .ref ra9, .ref ra10, .ref ra11, .ref ra12, .int rc, .int fo, .int xx])), (tp, .inr (8, [.ref bp, .int n, .int at_, .int w_, .int fl])), (bp, .inl (G.2.2 0, 400, .inl bf))] ++ wt) := hD
    have hP9 : va_P (gg_D G) classes ([(h0, .inr (11, [.ref tp, .ref ra1, .ref ra2, .ref ra3, .ref ra4, .ref ra5, .ref ra6, .ref ra7, .ref ra8, .ref ra9, .ref ra10, .ref ra11, .ref ra12, .int rc, .int fo, .int xx])), (tp, .inr (8, [.ref bp, .int n, .int at_, .int w_, .int fl])), (bp, .inl (G.2.2 0, 400, .inl bf))] ++ wt) _ := hP
    have hD9 : va_D A ([(h0, .inr (11, [.ref tp, .ref ra1, .ref ra2, .ref ra3, .ref ra4, .ref ra5, .ref ra6, .ref ra7, .ref ra8, .ref ra9, .ref ra10, .ref ra11, .ref ra12, .int rc, .int fo, .int xx])), (tp, .inr (8, [.ref bp, .int n, .int at_, .int w_, .int fl])), (bp, .inl (G.2.2 0, 400, .inl bf))] ++ wt) := hD
    exact W.iret (v := r_25) hx hb hr (gq_endI wt ⟨hT, hW⟩ hP9 hD9 hS) hS.2.2 dX11_count_159
  by_cases c_26 : b = 11
  · refine lv_tableIn (x := b) (off := 159) (tgt := 160) hx hb dX11_count_1 (by rw [c_26]; decide +kernel) (by rw [c_26]; decide +kernel) (by rw [c_26]; decide +kernel) (by decide) ?_
    rw [← Int32.toInt_inj] at c_26
    refine lv_aload_n hx hb dX11_count_160 rfl (lv_at hl 0 rfl) ?_
    refine gq_get hx hb ht hown hK hP i_X11 0 rfl rfl 6 (by decide) wd_503 rfl rfl dX11_count_161 ?_
    refine tr_get (ci := 2) hx hb ht hown hK hT hP kr6 (by decide) i_X2 rfl 3 (by decide) wd_320 rfl dX11_count_164 (fun v hv hf_27 => ?_)
    obtain ⟨n_28, rfl, lo_n_28, hi_n_28⟩ := hv
    have hP9 : va_P (gg_D G) classes ([(h0, .inr (11, [.ref tp, .ref ra1, .ref ra2, .ref ra3, .ref ra4, .ref ra5, .ref ra6, .ref ra7, .ref ra8, .ref ra9, .ref ra10, .ref ra11, .ref ra12, .int rc, .int fo, .int xx])), (tp, .inr (8, [.ref bp, .int n, .int at_, .int w_, .int fl])), (bp, .inl (G.2.2 0, 400, .inl bf))] ++ wt) _ := hP
    have hD9 : va_D A ([(h0, .inr (11, [.ref tp, .ref ra1, .ref ra2, .ref ra3, .ref ra4, .ref ra5, .ref ra6, .ref ra7, .ref ra8, .ref ra9, .ref ra10, .ref ra11, .ref ra12, .int rc, .int fo, .int xx])), (tp, .inr (8, [.ref bp, .int n, .int at_, .int w_, .int fl])), (bp, .inl (G.2.2 0, 400, .inl bf))] ++ wt) := hD
    exact W.iret (v := n_28) hx hb hr (gq_endI wt ⟨hT, hW⟩ hP9 hD9 hS) hS.2.2 dX11_count_167
  by_cases c_29 : b = 12
  · refine lv_tableIn (x := b) (off := 167) (tgt := 168) hx hb dX11_count_1 (by rw [c_29]; decide +kernel) (by rw [c_29]; decide +kernel) (by rw [c_29]; decide +kernel) (by decide) ?_
    rw [← Int32.toInt_inj] at c_29
    refine lv_aload_n hx hb dX11_count_168 rfl (lv_at hl 0 rfl) ?_
    refine gq_get hx hb ht hown hK hP i_X11 0 rfl rfl 5 (by decide) wd_502 rfl rfl dX11_count_169 ?_
    refine tr_get (ci := 3) hx hb ht hown hK hT hP kr5 (by decide) i_X3 rfl 2 (by decide) wd_302 rfl dX11_count_172 (fun v hv hf_30 => ?_)
    obtain ⟨n_31, rfl, lo_n_31, hi_n_31⟩ := hv
    have hP9 : va_P (gg_D G) classes ([(h0, .inr (11, [.ref tp, .ref ra1, .ref ra2, .ref ra3, .ref ra4, .ref ra5, .ref ra6, .ref ra7, .ref ra8, .ref ra9, .ref ra10, .ref ra11, .ref ra12, .int rc, .int fo, .int xx])), (tp, .inr (8, [.ref bp, .int n, .int at_, .int w_, .int fl])), (bp, .inl (G.2.2 0, 400, .inl bf))] ++ wt) _ := hP
    have hD9 : va_D A ([(h0, .inr (11, [.ref tp, .ref ra1, .ref ra2, .ref ra3, .ref ra4, .ref ra5, .ref ra6, .ref ra7, .ref ra8, .ref ra9, .ref ra10, .ref ra11, .ref ra12, .int rc, .int fo, .int xx])), (tp, .inr (8, [.ref bp, .int n, .int at_, .int w_, .int fl])), (bp, .inl (G.2.2 0, 400, .inl bf))] ++ wt) := hD
    exact W.iret (v := n_31) hx hb hr (gq_endI wt ⟨hT, hW⟩ hP9 hD9 hS) hS.2.2 dX11_count_175
  by_cases c_32 : b = 13
  · refine lv_tableIn (x := b) (off := 175) (tgt := 176) hx hb dX11_count_1 (by rw [c_32]; decide +kernel) (by rw [c_32]; decide +kernel) (by rw [c_32]; decide +kernel) (by decide) ?_
    rw [← Int32.toInt_inj] at c_32
    refine lv_aload_n hx hb dX11_count_176 rfl (lv_at hl 0 rfl) ?_
    refine gq_get hx hb ht hown hK hP i_X11 0 rfl rfl 15 (by decide) wd_512 rfl rfl dX11_count_177 ?_
    have hP9 : va_P (gg_D G) classes ([(h0, .inr (11, [.ref tp, .ref ra1, .ref ra2, .ref ra3, .ref ra4, .ref ra5, .ref ra6, .ref ra7, .ref ra8, .ref ra9, .ref ra10, .ref ra11, .ref ra12, .int rc, .int fo, .int xx])), (tp, .inr (8, [.ref bp, .int n, .int at_, .int w_, .int fl])), (bp, .inl (G.2.2 0, 400, .inl bf))] ++ wt) _ := hP
    have hD9 : va_D A ([(h0, .inr (11, [.ref tp, .ref ra1, .ref ra2, .ref ra3, .ref ra4, .ref ra5, .ref ra6, .ref ra7, .ref ra8, .ref ra9, .ref ra10, .ref ra11, .ref ra12, .int rc, .int fo, .int xx])), (tp, .inr (8, [.ref bp, .int n, .int at_, .int w_, .int fl])), (bp, .inl (G.2.2 0, 400, .inl bf))] ++ wt) := hD
    exact W.iret (v := xx) hx hb hr (gq_endI wt ⟨hT, hW⟩ hP9 hD9 hS) hS.2.2 dX11_count_180
  by_cases c_33 : b = 14
  · refine lv_tableIn (x := b) (off := 180) (tgt := 181) hx hb dX11_count_1 (by rw [c_33]; decide +kernel) (by rw [c_33]; decide +kernel) (by rw [c_33]; decide +kernel) (by decide) ?_
    rw [← Int32.toInt_inj] at c_33
    refine lv_aload_n hx hb dX11_count_181 rfl (lv_at hl 0 rfl) ?_
    refine gq_get hx hb ht hown hK hP i_X11 0 rfl rfl 0 (by decide) wd_497 rfl rfl dX11_count_182 ?_
    have hP : va_P (gg_D G) classes ([(h0, .inr (11, [.ref tp, .ref ra1, .ref ra2, .ref ra3, .ref ra4, .ref ra5, .ref ra6, .ref ra7, .ref ra8, .ref ra9, .ref ra10, .ref ra11, .ref ra12, .int rc, .int fo, .int xx]))] ++ ([(tp, .inr (8, [.ref bp, .int n, .int at_, .int w_, .int fl])), (bp, .inl (G.2.2 0, 400, .inl bf))] ++ wt)) s.heap := hP
    have hD : va_D A ([(h0, .inr (11, [.ref tp, .ref ra1, .ref ra2, .ref ra3, .ref ra4, .ref ra5, .ref ra6, .ref ra7, .ref ra8, .ref ra9, .ref ra10, .ref ra11, .ref ra12, .int rc, .int fo, .int xx]))] ++ ([(tp, .inr (8, [.ref bp, .int n, .int at_, .int w_, .int fl])), (bp, .inl (G.2.2 0, 400, .inl bf))] ++ wt)) := hD
    refine gt_callI (wr := [(h0, .inr (11, [.ref tp, .ref ra1, .ref ra2, .ref ra3, .ref ra4, .ref ra5, .ref ra6, .ref ra7, .ref ra8, .ref ra9, .ref ra10, .ref ra11, .ref ra12, .int rc, .int fo, .int xx]))]) (va_runV (As := []) (rest := []) ⟨hx, hb, hml, hown, ht⟩ (d_size l G Γ s.heap.size wt hT tp bp n at_ w_ fl bf (by first | assumption | omega) (by first | assumption | omega) (by first | assumption | omega) (by first | assumption | omega) (by first | assumption | omega)) (cwV 0 ht (ts_gV wd_550 wd_551 wd_552 wd_123 wd_553) rfl rfl rfl (by decide +kernel) ⟨Nat.le_of_ble_eq_true rfl, Nat.le_of_ble_eq_true rfl⟩) (gc_preV (ci := 8) (q0 := 0) hK (tw_right hP) (tw_rightD hD) rfl rfl) rfl rfl hl.1 rfl (lv_room (Nat.le_of_ble_eq_true rfl)) dX11_count_185 ⟨Nat.le_of_ble_eq_true rfl, Nat.le_of_ble_eq_true rfl⟩) hP hD hS hA (fun r_34 wt H locs hw hP hD hS => ?_)
    obtain ⟨hT, hkp, lo_r_34, hi_r_34⟩ := hw
    have hW := hW.call (show ∀ x ∈ [], x ∈ [] by decide) hkp
    have hP : va_P (gg_D G) classes ([(h0, .inr (11, [.ref tp, .ref ra1, .ref ra2, .ref ra3, .ref ra4, .ref ra5, .ref ra6, .ref ra7, .ref ra8, .ref ra9, .ref ra10, .ref ra11, .ref ra12, .int rc, .int fo, .int xx])), (tp, .inr (8, [.ref bp, .int n, .int at_, .int w_, .int fl])), (bp, .inl (G.2.2 0, 400, .inl bf))] ++ wt) H := hP
    have hD : va_D A ([(h0, .inr (11, [.ref tp, .ref ra1, .ref ra2, .ref ra3, .ref ra4, .ref ra5, .ref ra6, .ref ra7, .ref ra8, .ref ra9, .ref ra10, .ref ra11, .ref ra12, .int rc, .int fo, .int xx])), (tp, .inr (8, [.ref bp, .int n, .int at_, .int w_, .int fl])), (bp, .inl (G.2.2 0, 400, .inl bf))] ++ wt) := hD
    have hP9 : va_P (gg_D G) classes ([(h0, .inr (11, [.ref tp, .ref ra1, .ref ra2, .ref ra3, .ref ra4, .ref ra5, .ref ra6, .ref ra7, .ref ra8, .ref ra9, .ref ra10, .ref ra11, .ref ra12, .int rc, .int fo, .int xx])), (tp, .inr (8, [.ref bp, .int n, .int at_, .int w_, .int fl])), (bp, .inl (G.2.2 0, 400, .inl bf))] ++ wt) _ := hP
    have hD9 : va_D A ([(h0, .inr (11, [.ref tp, .ref ra1, .ref ra2, .ref ra3, .ref ra4, .ref ra5, .ref ra6, .ref ra7, .ref ra8, .ref ra9, .ref ra10, .ref ra11, .ref ra12, .int rc, .int fo, .int xx])), (tp, .inr (8, [.ref bp, .int n, .int at_, .int w_, .int fl])), (bp, .inl (G.2.2 0, 400, .inl bf))] ++ wt) := hD
    exact W.iret (v := r_34) hx hb hr (gq_endI wt ⟨hT, hW⟩ hP9 hD9 hS) hS.2.2 dX11_count_188
  rw [← Int32.toInt_inj] at c_1 c_4 c_7 c_10 c_13 c_14 c_15 c_18 c_20 c_22 c_24 c_26 c_29 c_32 c_33
  refine lv_tableOut (x := b) (tgt := 189) hx hb dX11_count_1 (by omega) (by decide) ?_
  refine lv_iconst (v := (-1)) hx hb dX11_count_189 (by decide +kernel) ?_
  have hP9 : va_P (gg_D G) classes ([(h0, .inr (11, [.ref tp, .ref ra1, .ref ra2, .ref ra3, .ref ra4, .ref ra5, .ref ra6, .ref ra7, .ref ra8, .ref ra9, .ref ra10, .ref ra11, .ref ra12, .int rc, .int fo, .int xx])), (tp, .inr (8, [.ref bp, .int n, .int at_, .int w_, .int fl])), (bp, .inl (G.2.2 0, 400, .inl bf))] ++ wt) _ := hP
  have hD9 : va_D A ([(h0, .inr (11, [.ref tp, .ref ra1, .ref ra2, .ref ra3, .ref ra4, .ref ra5, .ref ra6, .ref ra7, .ref ra8, .ref ra9, .ref ra10, .ref ra11, .ref ra12, .int rc, .int fo, .int xx])), (tp, .inr (8, [.ref bp, .int n, .int at_, .int w_, .int fl])), (bp, .inl (G.2.2 0, 400, .inl bf))] ++ wt) := hD
  exact W.iret (v := (-1)) hx hb hr (gq_endI wt ⟨hT, hW⟩ hP9 hD9 hS) hS.2.2 dX11_count_190
set_option maxHeartbeats 4000000 in
set_option maxRecDepth 100000 in
theorem d_put (l : Launch) (G : gg_T) (Γ : Nat → Nat) (sz : Nat) (wt : va_W) (hT : tk_ty G Γ wt) (b : Int32) (tp : Nat) (bp : Nat) (n : Int32) (at_ : Int32) (w_ : Int32) (fl : Int32) (bf : Nat → Int32) (xp1 : 0 ≤ n.toInt) (xp2 : n.toInt ≤ 400) (xp3 : 0 ≤ at_.toInt) (xp4 : 0 ≤ w_.toInt) (xp5 : at_.toInt + w_.toInt ≤ 400) : Met l yX8_put (ts_L yX8_put cX8_put 3 none) ({ frames := 0, cells := 0, slots := 0, locals := 0 }) (gc_P G ([(tp, .inr (8, [.ref bp, .int n, .int at_, .int w_, .int fl])), (bp, .inl (G.2.2 0, 400, .inl bf))] ++ wt) sz [.ref tp, .int b]) (gc_V G (va_A ([(tp, .inr (8, [.ref bp, .int n, .int at_, .int w_, .int fl])), (bp, .inl (G.2.2 0, 400, .inl bf))] ++ wt) sz) (fun (u : (Int32) × (Nat → Int32) × va_W) => match u with | (n1, bf1, wt1) => tk_ty G Γ wt1 ∧ tk_kp [] wt wt1 ∧ 0 ≤ n1.toInt ∧ n1.toInt ≤ 400) (fun (u : (Int32) × (Nat → Int32) × va_W) => match u with | (n1, bf1, wt1) => [(tp, .inr (8, [.ref bp, .int n1, .int at_, .int w_, .int fl])), (bp, .inl (G.2.2 0, 400, .inl bf1))] ++ wt1)) 0 0 (va_A ([(tp, .inr (8, [.ref bp, .int n, .int at_, .int w_, .int fl])), (bp, .inl (G.2.2 0, 400, .inl bf))] ++ wt) sz) := by
  refine Met.ofW (cc := cX8_put) (maxL := 3) (ret := none) (by decide) rfl ?_
  intro p e s m args below meth c s₁ B hml hv
  obtain ⟨rfl, hsz, hP, hK, hD0⟩ := hv
  have hx := B.exec
  have hb := B.bytes
  have hr := B.returns
  have ht := ts_ht (atoms_spec (ws := ts_L yX8_put cX8_put 3 none) B.pre)
  have hown : s.vm.findClass RX8 = some m.cls := findClass_of_methodNamed B.named
  have hlocks := B.notSynchronized
  subst hsz
  have hD := hD0.self (sz := s.heap.size)
  generalize hAe : va_A ([(tp, .inr (8, [.ref bp, .int n, .int at_, .int w_, .int fl])), (bp, .inl (G.2.2 0, 400, .inl bf))] ++ wt) s.heap.size = A at hD ⊢
  have hA : ∀ q : Nat, s.heap.size ≤ q → A q := fun q h => by rw [← hAe]; exact Or.inr h
  clear hAe hD0
  have hS : va_S A s.heap s.heap [] := va_S.rf
  obtain ⟨w0, hw0⟩ : ∃ z, z = wt := ⟨_, rfl⟩
  have hW : tk_kp [] w0 wt := by rw [hw0]; exact tk_kp.rf
  rw [← hw0]
  clear hw0
  have hP : va_P (gg_D G) classes ([(tp, .inr (8, [.ref bp, .int n, .int at_, .int w_, .int fl])), (bp, .inl (G.2.2 0, 400, .inl bf))] ++ wt) s.heap := hP
  have hD : va_D A ([(tp, .inr (8, [.ref bp, .int n, .int at_, .int w_, .int fl])), (bp, .inl (G.2.2 0, 400, .inl bf))] ++ wt) := hD
  have hl := lv_entry ([.ref tp, .int b]) (n := 3) (Nat.le_of_ble_eq_true rfl)
  rw [lg_entry_eq]
  generalize (lg_sl ([.ref tp, .int b]) ++ List.replicate (3 - (lg_sl ([.ref tp, .int b])).length) Slot.unset).toArray = ls at hl ⊢
  have hl : lv_has ls 3 [(0, .ref tp), (1, .int b)] := hl
  have lm8 : ((-8) : Int32).toInt = -8 := by decide +kernel
  have l0 : (0 : Int32).toInt = 0 := by decide +kernel
  have l1 : (1 : Int32).toInt = 1 := by decide +kernel
  have l8 : (8 : Int32).toInt = 8 := by decide +kernel
  have l16 : (16 : Int32).toInt = 16 := by decide +kernel
  have l24 : (24 : Int32).toInt = 24 := by decide +kernel
  have l255 : (255 : Int32).toInt = 255 := by decide +kernel
  have l400 : (400 : Int32).toInt = 400 := by decide +kernel
  refine lv_bipush (v := 24) hx hb dX8_put_0 (by decide +kernel) ?_
  refine lv_istore_n (lv' := [(2, .int 24), (0, .ref tp), (1, .int b)]) hx hb dX8_put_2 rfl hl (by decide) rfl (fun ls hl => ?_)
  refine lv_iload_n hx hb dX8_put_3 rfl (lv_at hl 0 rfl) ?_
  refine lv_if_lt (tgt := 49) hx hb dX8_put_4 (by decide) (fun c0 => False.elim (by rw [Int32.lt_iff_toInt_lt] at c0; omega)) (fun _ => ?_)
  refine lv_aload_n hx hb dX8_put_7 rfl (lv_at hl 1 rfl) ?_
  refine gq_get hx hb ht hown hK hP i_X8 0 rfl rfl 1 (by decide) wd_157 rfl rfl dX8_put_8 ?_
  refine lv_sipush (v := 400) hx hb dX8_put_11 (by decide +kernel) ?_
  refine lv_icmp_ge (tgt := 43) hx hb dX8_put_14 (by decide) (fun c_1 => ?_) (fun c_1 => ?_)
  · rw [Int32.le_iff_toInt_le] at c_1
    refine lv_iinc (v := 16) (lv' := [(2, .int 16), (0, .ref tp), (1, .int b)]) hx hb dX8_put_43 hl (k := 0) rfl (by decide +kernel) (by decide) rfl (fun ls hl => ?_)
    refine lv_goto (tgt := 3) hx hb dX8_put_46 (by decide) ?_
    refine lv_iload_n hx hb dX8_put_3 rfl (lv_at hl 0 rfl) ?_
    refine lv_if_lt (tgt := 49) hx hb dX8_put_4 (by decide) (fun c0 => False.elim (by rw [Int32.lt_iff_toInt_lt] at c0; omega)) (fun _ => ?_)
    refine lv_aload_n hx hb dX8_put_7 rfl (lv_at hl 1 rfl) ?_
    refine gq_get hx hb ht hown hK hP i_X8 0 rfl rfl 1 (by decide) wd_157 rfl rfl dX8_put_8 ?_
    refine lv_sipush (v := 400) hx hb dX8_put_11 (by decide +kernel) ?_
    refine lv_icmp_ge (tgt := 43) hx hb dX8_put_14 (by decide) (fun _ => ?_) (fun c0 => False.elim (by rw [Int32.le_iff_toInt_le] at c0; omega))
    refine lv_iinc (v := 8) (lv' := [(2, .int 8), (0, .ref tp), (1, .int b)]) hx hb dX8_put_43 hl (k := 0) rfl (by decide +kernel) (by decide) rfl (fun ls hl => ?_)
    refine lv_goto (tgt := 3) hx hb dX8_put_46 (by decide) ?_
    refine lv_iload_n hx hb dX8_put_3 rfl (lv_at hl 0 rfl) ?_
    refine lv_if_lt (tgt := 49) hx hb dX8_put_4 (by decide) (fun c0 => False.elim (by rw [Int32.lt_iff_toInt_lt] at c0; omega)) (fun _ => ?_)
    refine lv_aload_n hx hb dX8_put_7 rfl (lv_at hl 1 rfl) ?_
    refine gq_get hx hb ht hown hK hP i_X8 0 rfl rfl 1 (by decide) wd_157 rfl rfl dX8_put_8 ?_
    refine lv_sipush (v := 400) hx hb dX8_put_11 (by decide +kernel) ?_
    refine lv_icmp_ge (tgt := 43) hx hb dX8_put_14 (by decide) (fun _ => ?_) (fun c0 => False.elim (by rw [Int32.le_iff_toInt_le] at c0; omega))
    refine lv_iinc (v := 0) (lv' := [(2, .int 0), (0, .ref tp), (1, .int b)]) hx hb dX8_put_43 hl (k := 0) rfl (by decide +kernel) (by decide) rfl (fun ls hl => ?_)
    refine lv_goto (tgt := 3) hx hb dX8_put_46 (by decide) ?_
    refine lv_iload_n hx hb dX8_put_3 rfl (lv_at hl 0 rfl) ?_
    refine lv_if_lt (tgt := 49) hx hb dX8_put_4 (by decide) (fun c0 => False.elim (by rw [Int32.lt_iff_toInt_lt] at c0; omega)) (fun _ => ?_)
    refine lv_aload_n hx hb dX8_put_7 rfl (lv_at hl 1 rfl) ?_
    refine gq_get hx hb ht hown hK hP i_X8 0 rfl rfl 1 (by decide) wd_157 rfl rfl dX8_put_8 ?_
    refine lv_sipush (v := 400) hx hb dX8_put_11 (by decide +kernel) ?_
    refine lv_icmp_ge (tgt := 43) hx hb dX8_put_14 (by decide) (fun _ => ?_) (fun c0 => False.elim (by rw [Int32.le_iff_toInt_le] at c0; omega))
    refine lv_iinc (v := (-8)) (lv' := [(2, .int (-8)), (0, .ref tp), (1, .int b)]) hx hb dX8_put_43 hl (k := 0) rfl (by decide +kernel) (by decide) rfl (fun ls hl => ?_)
    refine lv_goto (tgt := 3) hx hb dX8_put_46 (by decide) ?_
    refine lv_iload_n hx hb dX8_put_3 rfl (lv_at hl 0 rfl) ?_
    refine lv_if_lt (tgt := 49) hx hb dX8_put_4 (by decide) (fun _ => ?_) (fun c0 => False.elim (by rw [Int32.lt_iff_toInt_lt] at c0; omega))
    have hP9 : va_P (gg_D G) classes ([(tp, .inr (8, [.ref bp, .int n, .int at_, .int w_, .int fl])), (bp, .inl (G.2.2 0, 400, .inl bf))] ++ wt) _ := hP
    have hD9 : va_D A ([(tp, .inr (8, [.ref bp, .int n, .int at_, .int w_, .int fl])), (bp, .inl (G.2.2 0, 400, .inl bf))] ++ wt) := hD
    exact W.vret hx hb hr (gq_endV (n, bf, wt) ⟨hT, hW, (by omega), (by omega)⟩ hP9 hD9 hS) hS.2.2 dX8_put_49
  · rw [Int32.le_iff_toInt_le] at c_1
    refine lv_aload_n hx hb dX8_put_17 rfl (lv_at hl 1 rfl) ?_
    refine gq_get hx hb ht hown hK hP i_X8 0 rfl rfl 0 (by decide) wd_156 rfl rfl dX8_put_18 ?_
    refine lv_aload_n hx hb dX8_put_21 rfl (lv_at hl 1 rfl) ?_
    refine gq_get hx hb ht hown hK hP i_X8 0 rfl rfl 1 (by decide) wd_157 rfl rfl dX8_put_22 ?_
    refine lv_iload_n hx hb dX8_put_25 rfl (lv_at hl 2 rfl) ?_
    refine lv_iload_n hx hb dX8_put_26 rfl (lv_at hl 0 rfl) ?_
    obtain ⟨t_2, et_2⟩ : ∃ zz_ : Int32, b >>> (24 &&& 31) = zz_ := ⟨_, rfl⟩
    refine gq_ishr hx hb t_2 et_2 dX8_put_27 ?_
    refine lv_sipush (v := 255) hx hb dX8_put_28 (by decide +kernel) ?_
    obtain ⟨t_3, et_3⟩ : ∃ zz_ : Int32, t_2 &&& 255 = zz_ := ⟨_, rfl⟩
    refine gq_iand hx hb t_3 et_3 dX8_put_31 ?_
    have ft_3 := ia_and2 et_3 (by omega)
    obtain ⟨f_4, ef_4⟩ : ∃ zz_ : Nat → Int32, upd bf (Int32.toNatClampNeg n) t_3 = zz_ := ⟨_, rfl⟩
    refine gq_iast (ws' := [(tp, .inr (8, [.ref bp, .int n, .int at_, .int w_, .int fl])), (bp, .inl (G.2.2 0, 400, .inl f_4))] ++ wt) hx hb hK hP hD hS 1 rfl f_4 (ia_in (n := 400) (by omega) (by omega)) ef_4 rfl dX8_put_32 (fun H locs hP hD hS => ?_)
    refine lv_aload_n hx hb dX8_put_33 rfl (lv_at hl 1 rfl) ?_
    refine lv_dup hx hb dX8_put_34 rfl ?_
    refine gq_get hx hb ht hown hK hP i_X8 0 rfl rfl 1 (by decide) wd_157 rfl rfl dX8_put_35 ?_
    refine lv_iconst (v := 1) hx hb dX8_put_38 (by decide +kernel) ?_
    obtain ⟨t_5, et_5⟩ : ∃ zz_ : Int32, n + 1 = zz_ := ⟨_, rfl⟩
    refine gq_iadd hx hb t_5 et_5 dX8_put_39 ?_
    have ft_5 := ia_add et_5 (by omega) (by omega)
    refine gq_put (ws' := [(tp, .inr (8, [.ref bp, .int t_5, .int at_, .int w_, .int fl])), (bp, .inl (G.2.2 0, 400, .inl f_4))] ++ wt) hx hb ht hown hK hP hD hS i_X8 tyX8 tyX8_ok nmX8 0 rfl rfl 1 (by decide) wd_157 rfl rfl rfl rfl (Nat.le_of_ble_eq_true rfl) rfl dX8_put_40 (fun H locs hP hD hS => ?_)
    refine lv_iinc (v := 16) (lv' := [(2, .int 16), (0, .ref tp), (1, .int b)]) hx hb dX8_put_43 hl (k := 0) rfl (by decide +kernel) (by decide) rfl (fun ls hl => ?_)
    refine lv_goto (tgt := 3) hx hb dX8_put_46 (by decide) ?_
    refine lv_iload_n hx hb dX8_put_3 rfl (lv_at hl 0 rfl) ?_
    refine lv_if_lt (tgt := 49) hx hb dX8_put_4 (by decide) (fun c0 => False.elim (by rw [Int32.lt_iff_toInt_lt] at c0; omega)) (fun _ => ?_)
    refine lv_aload_n hx hb dX8_put_7 rfl (lv_at hl 1 rfl) ?_
    refine gq_get hx hb ht hown hK hP i_X8 0 rfl rfl 1 (by decide) wd_157 rfl rfl dX8_put_8 ?_
    refine lv_sipush (v := 400) hx hb dX8_put_11 (by decide +kernel) ?_
    refine lv_icmp_ge (tgt := 43) hx hb dX8_put_14 (by decide) (fun c_6 => ?_) (fun c_6 => ?_)
    · rw [Int32.le_iff_toInt_le] at c_6
      refine lv_iinc (v := 8) (lv' := [(2, .int 8), (0, .ref tp), (1, .int b)]) hx hb dX8_put_43 hl (k := 0) rfl (by decide +kernel) (by decide) rfl (fun ls hl => ?_)
      refine lv_goto (tgt := 3) hx hb dX8_put_46 (by decide) ?_
      refine lv_iload_n hx hb dX8_put_3 rfl (lv_at hl 0 rfl) ?_
      refine lv_if_lt (tgt := 49) hx hb dX8_put_4 (by decide) (fun c0 => False.elim (by rw [Int32.lt_iff_toInt_lt] at c0; omega)) (fun _ => ?_)
      refine lv_aload_n hx hb dX8_put_7 rfl (lv_at hl 1 rfl) ?_
      refine gq_get hx hb ht hown hK hP i_X8 0 rfl rfl 1 (by decide) wd_157 rfl rfl dX8_put_8 ?_
      refine lv_sipush (v := 400) hx hb dX8_put_11 (by decide +kernel) ?_
      refine lv_icmp_ge (tgt := 43) hx hb dX8_put_14 (by decide) (fun _ => ?_) (fun c0 => False.elim (by rw [Int32.le_iff_toInt_le] at c0; omega))
      refine lv_iinc (v := 0) (lv' := [(2, .int 0), (0, .ref tp), (1, .int b)]) hx hb dX8_put_43 hl (k := 0) rfl (by decide +kernel) (by decide) rfl (fun ls hl => ?_)
      refine lv_goto (tgt := 3) hx hb dX8_put_46 (by decide) ?_
      refine lv_iload_n hx hb dX8_put_3 rfl (lv_at hl 0 rfl) ?_
      refine lv_if_lt (tgt := 49) hx hb dX8_put_4 (by decide) (fun c0 => False.elim (by rw [Int32.lt_iff_toInt_lt] at c0; omega)) (fun _ => ?_)
      refine lv_aload_n hx hb dX8_put_7 rfl (lv_at hl 1 rfl) ?_
      refine gq_get hx hb ht hown hK hP i_X8 0 rfl rfl 1 (by decide) wd_157 rfl rfl dX8_put_8 ?_
      refine lv_sipush (v := 400) hx hb dX8_put_11 (by decide +kernel) ?_
      refine lv_icmp_ge (tgt := 43) hx hb dX8_put_14 (by decide) (fun _ => ?_) (fun c0 => False.elim (by rw [Int32.le_iff_toInt_le] at c0; omega))
      refine lv_iinc (v := (-8)) (lv' := [(2, .int (-8)), (0, .ref tp), (1, .int b)]) hx hb dX8_put_43 hl (k := 0) rfl (by decide +kernel) (by decide) rfl (fun ls hl => ?_)
      refine lv_goto (tgt := 3) hx hb dX8_put_46 (by decide) ?_
      refine lv_iload_n hx hb dX8_put_3 rfl (lv_at hl 0 rfl) ?_
      refine lv_if_lt (tgt := 49) hx hb dX8_put_4 (by decide) (fun _ => ?_) (fun c0 => False.elim (by rw [Int32.lt_iff_toInt_lt] at c0; omega))
      have hP9 : va_P (gg_D G) classes ([(tp, .inr (8, [.ref bp, .int t_5, .int at_, .int w_, .int fl])), (bp, .inl (G.2.2 0, 400, .inl f_4))] ++ wt) _ := hP
      have hD9 : va_D A ([(tp, .inr (8, [.ref bp, .int t_5, .int at_, .int w_, .int fl])), (bp, .inl (G.2.2 0, 400, .inl f_4))] ++ wt) := hD
      exact W.vret hx hb hr (gq_endV (t_5, f_4, wt) ⟨hT, hW, (by omega), (by omega)⟩ hP9 hD9 hS) hS.2.2 dX8_put_49
    · rw [Int32.le_iff_toInt_le] at c_6
      refine lv_aload_n hx hb dX8_put_17 rfl (lv_at hl 1 rfl) ?_
      refine gq_get hx hb ht hown hK hP i_X8 0 rfl rfl 0 (by decide) wd_156 rfl rfl dX8_put_18 ?_
      refine lv_aload_n hx hb dX8_put_21 rfl (lv_at hl 1 rfl) ?_
      refine gq_get hx hb ht hown hK hP i_X8 0 rfl rfl 1 (by decide) wd_157 rfl rfl dX8_put_22 ?_
      refine lv_iload_n hx hb dX8_put_25 rfl (lv_at hl 2 rfl) ?_
      refine lv_iload_n hx hb dX8_put_26 rfl (lv_at hl 0 rfl) ?_
      obtain ⟨t_7, et_7⟩ : ∃ zz_ : Int32, b >>> (16 &&& 31) = zz_ := ⟨_, rfl⟩
      refine gq_ishr hx hb t_7 et_7 dX8_put_27 ?_
      refine lv_sipush (v := 255) hx hb dX8_put_28 (by decide +kernel) ?_
      obtain ⟨t_8, et_8⟩ : ∃ zz_ : Int32, t_7 &&& 255 = zz_ := ⟨_, rfl⟩
      refine gq_iand hx hb t_8 et_8 dX8_put_31 ?_
      have ft_8 := ia_and2 et_8 (by omega)
      obtain ⟨f_9, ef_9⟩ : ∃ zz_ : Nat → Int32, upd f_4 (Int32.toNatClampNeg t_5) t_8 = zz_ := ⟨_, rfl⟩
      refine gq_iast (ws' := [(tp, .inr (8, [.ref bp, .int t_5, .int at_, .int w_, .int fl])), (bp, .inl (G.2.2 0, 400, .inl f_9))] ++ wt) hx hb hK hP hD hS 1 rfl f_9 (ia_in (n := 400) (by omega) (by omega)) ef_9 rfl dX8_put_32 (fun H locs hP hD hS => ?_)
      refine lv_aload_n hx hb dX8_put_33 rfl (lv_at hl 1 rfl) ?_
      refine lv_dup hx hb dX8_put_34 rfl ?_
      refine gq_get hx hb ht hown hK hP i_X8 0 rfl rfl 1 (by decide) wd_157 rfl rfl dX8_put_35 ?_
      refine lv_iconst (v := 1) hx hb dX8_put_38 (by decide +kernel) ?_
      obtain ⟨t_10, et_10⟩ : ∃ zz_ : Int32, t_5 + 1 = zz_ := ⟨_, rfl⟩
      refine gq_iadd hx hb t_10 et_10 dX8_put_39 ?_
      have ft_10 := ia_add et_10 (by omega) (by omega)
      refine gq_put (ws' := [(tp, .inr (8, [.ref bp, .int t_10, .int at_, .int w_, .int fl])), (bp, .inl (G.2.2 0, 400, .inl f_9))] ++ wt) hx hb ht hown hK hP hD hS i_X8 tyX8 tyX8_ok nmX8 0 rfl rfl 1 (by decide) wd_157 rfl rfl rfl rfl (Nat.le_of_ble_eq_true rfl) rfl dX8_put_40 (fun H locs hP hD hS => ?_)
      refine lv_iinc (v := 8) (lv' := [(2, .int 8), (0, .ref tp), (1, .int b)]) hx hb dX8_put_43 hl (k := 0) rfl (by decide +kernel) (by decide) rfl (fun ls hl => ?_)
      refine lv_goto (tgt := 3) hx hb dX8_put_46 (by decide) ?_
      refine lv_iload_n hx hb dX8_put_3 rfl (lv_at hl 0 rfl) ?_
      refine lv_if_lt (tgt := 49) hx hb dX8_put_4 (by decide) (fun c0 => False.elim (by rw [Int32.lt_iff_toInt_lt] at c0; omega)) (fun _ => ?_)
      refine lv_aload_n hx hb dX8_put_7 rfl (lv_at hl 1 rfl) ?_
      refine gq_get hx hb ht hown hK hP i_X8 0 rfl rfl 1 (by decide) wd_157 rfl rfl dX8_put_8 ?_
      refine lv_sipush (v := 400) hx hb dX8_put_11 (by decide +kernel) ?_
      refine lv_icmp_ge (tgt := 43) hx hb dX8_put_14 (by decide) (fun c_11 => ?_) (fun c_11 => ?_)
      · rw [Int32.le_iff_toInt_le] at c_11
        refine lv_iinc (v := 0) (lv' := [(2, .int 0), (0, .ref tp), (1, .int b)]) hx hb dX8_put_43 hl (k := 0) rfl (by decide +kernel) (by decide) rfl (fun ls hl => ?_)
        refine lv_goto (tgt := 3) hx hb dX8_put_46 (by decide) ?_
        refine lv_iload_n hx hb dX8_put_3 rfl (lv_at hl 0 rfl) ?_
        refine lv_if_lt (tgt := 49) hx hb dX8_put_4 (by decide) (fun c0 => False.elim (by rw [Int32.lt_iff_toInt_lt] at c0; omega)) (fun _ => ?_)
        refine lv_aload_n hx hb dX8_put_7 rfl (lv_at hl 1 rfl) ?_
        refine gq_get hx hb ht hown hK hP i_X8 0 rfl rfl 1 (by decide) wd_157 rfl rfl dX8_put_8 ?_
        refine lv_sipush (v := 400) hx hb dX8_put_11 (by decide +kernel) ?_
        refine lv_icmp_ge (tgt := 43) hx hb dX8_put_14 (by decide) (fun _ => ?_) (fun c0 => False.elim (by rw [Int32.le_iff_toInt_le] at c0; omega))
        refine lv_iinc (v := (-8)) (lv' := [(2, .int (-8)), (0, .ref tp), (1, .int b)]) hx hb dX8_put_43 hl (k := 0) rfl (by decide +kernel) (by decide) rfl (fun ls hl => ?_)
        refine lv_goto (tgt := 3) hx hb dX8_put_46 (by decide) ?_
        refine lv_iload_n hx hb dX8_put_3 rfl (lv_at hl 0 rfl) ?_
        refine lv_if_lt (tgt := 49) hx hb dX8_put_4 (by decide) (fun _ => ?_) (fun c0 => False.elim (by rw [Int32.lt_iff_toInt_lt] at c0; omega))
        have hP9 : va_P (gg_D G) classes ([(tp, .inr (8, [.ref bp, .int t_10, .int at_, .int w_, .int fl])), (bp, .inl (G.2.2 0, 400, .inl f_9))] ++ wt) _ := hP
        have hD9 : va_D A ([(tp, .inr (8, [.ref bp, .int t_10, .int at_, .int w_, .int fl])), (bp, .inl (G.2.2 0, 400, .inl f_9))] ++ wt) := hD
        exact W.vret hx hb hr (gq_endV (t_10, f_9, wt) ⟨hT, hW, (by omega), (by omega)⟩ hP9 hD9 hS) hS.2.2 dX8_put_49
      · rw [Int32.le_iff_toInt_le] at c_11
        refine lv_aload_n hx hb dX8_put_17 rfl (lv_at hl 1 rfl) ?_
        refine gq_get hx hb ht hown hK hP i_X8 0 rfl rfl 0 (by decide) wd_156 rfl rfl dX8_put_18 ?_
        refine lv_aload_n hx hb dX8_put_21 rfl (lv_at hl 1 rfl) ?_
        refine gq_get hx hb ht hown hK hP i_X8 0 rfl rfl 1 (by decide) wd_157 rfl rfl dX8_put_22 ?_
        refine lv_iload_n hx hb dX8_put_25 rfl (lv_at hl 2 rfl) ?_
        refine lv_iload_n hx hb dX8_put_26 rfl (lv_at hl 0 rfl) ?_
        obtain ⟨t_12, et_12⟩ : ∃ zz_ : Int32, b >>> (8 &&& 31) = zz_ := ⟨_, rfl⟩
        refine gq_ishr hx hb t_12 et_12 dX8_put_27 ?_
        refine lv_sipush (v := 255) hx hb dX8_put_28 (by decide +kernel) ?_
        obtain ⟨t_13, et_13⟩ : ∃ zz_ : Int32, t_12 &&& 255 = zz_ := ⟨_, rfl⟩
        refine gq_iand hx hb t_13 et_13 dX8_put_31 ?_
        have ft_13 := ia_and2 et_13 (by omega)
        obtain ⟨f_14, ef_14⟩ : ∃ zz_ : Nat → Int32, upd f_9 (Int32.toNatClampNeg t_10) t_13 = zz_ := ⟨_, rfl⟩
        refine gq_iast (ws' := [(tp, .inr (8, [.ref bp, .int t_10, .int at_, .int w_, .int fl])), (bp, .inl (G.2.2 0, 400, .inl f_14))] ++ wt) hx hb hK hP hD hS 1 rfl f_14 (ia_in (n := 400) (by omega) (by omega)) ef_14 rfl dX8_put_32 (fun H locs hP hD hS => ?_)
        refine lv_aload_n hx hb dX8_put_33 rfl (lv_at hl 1 rfl) ?_
        refine lv_dup hx hb dX8_put_34 rfl ?_
        refine gq_get hx hb ht hown hK hP i_X8 0 rfl rfl 1 (by decide) wd_157 rfl rfl dX8_put_35 ?_
        refine lv_iconst (v := 1) hx hb dX8_put_38 (by decide +kernel) ?_
        obtain ⟨t_15, et_15⟩ : ∃ zz_ : Int32, t_10 + 1 = zz_ := ⟨_, rfl⟩
        refine gq_iadd hx hb t_15 et_15 dX8_put_39 ?_
        have ft_15 := ia_add et_15 (by omega) (by omega)
        refine gq_put (ws' := [(tp, .inr (8, [.ref bp, .int t_15, .int at_, .int w_, .int fl])), (bp, .inl (G.2.2 0, 400, .inl f_14))] ++ wt) hx hb ht hown hK hP hD hS i_X8 tyX8 tyX8_ok nmX8 0 rfl rfl 1 (by decide) wd_157 rfl rfl rfl rfl (Nat.le_of_ble_eq_true rfl) rfl dX8_put_40 (fun H locs hP hD hS => ?_)
        refine lv_iinc (v := 0) (lv' := [(2, .int 0), (0, .ref tp), (1, .int b)]) hx hb dX8_put_43 hl (k := 0) rfl (by decide +kernel) (by decide) rfl (fun ls hl => ?_)
        refine lv_goto (tgt := 3) hx hb dX8_put_46 (by decide) ?_
        refine lv_iload_n hx hb dX8_put_3 rfl (lv_at hl 0 rfl) ?_
        refine lv_if_lt (tgt := 49) hx hb dX8_put_4 (by decide) (fun c0 => False.elim (by rw [Int32.lt_iff_toInt_lt] at c0; omega)) (fun _ => ?_)
        refine lv_aload_n hx hb dX8_put_7 rfl (lv_at hl 1 rfl) ?_
        refine gq_get hx hb ht hown hK hP i_X8 0 rfl rfl 1 (by decide) wd_157 rfl rfl dX8_put_8 ?_
        refine lv_sipush (v := 400) hx hb dX8_put_11 (by decide +kernel) ?_
        refine lv_icmp_ge (tgt := 43) hx hb dX8_put_14 (by decide) (fun c_16 => ?_) (fun c_16 => ?_)
        · rw [Int32.le_iff_toInt_le] at c_16
          refine lv_iinc (v := (-8)) (lv' := [(2, .int (-8)), (0, .ref tp), (1, .int b)]) hx hb dX8_put_43 hl (k := 0) rfl (by decide +kernel) (by decide) rfl (fun ls hl => ?_)
          refine lv_goto (tgt := 3) hx hb dX8_put_46 (by decide) ?_
          refine lv_iload_n hx hb dX8_put_3 rfl (lv_at hl 0 rfl) ?_
          refine lv_if_lt (tgt := 49) hx hb dX8_put_4 (by decide) (fun _ => ?_) (fun c0 => False.elim (by rw [Int32.lt_iff_toInt_lt] at c0; omega))
          have hP9 : va_P (gg_D G) classes ([(tp, .inr (8, [.ref bp, .int t_15, .int at_, .int w_, .int fl])), (bp, .inl (G.2.2 0, 400, .inl f_14))] ++ wt) _ := hP
          have hD9 : va_D A ([(tp, .inr (8, [.ref bp, .int t_15, .int at_, .int w_, .int fl])), (bp, .inl (G.2.2 0, 400, .inl f_14))] ++ wt) := hD
          exact W.vret hx hb hr (gq_endV (t_15, f_14, wt) ⟨hT, hW, (by omega), (by omega)⟩ hP9 hD9 hS) hS.2.2 dX8_put_49
        · rw [Int32.le_iff_toInt_le] at c_16
          refine lv_aload_n hx hb dX8_put_17 rfl (lv_at hl 1 rfl) ?_
          refine gq_get hx hb ht hown hK hP i_X8 0 rfl rfl 0 (by decide) wd_156 rfl rfl dX8_put_18 ?_
          refine lv_aload_n hx hb dX8_put_21 rfl (lv_at hl 1 rfl) ?_
          refine gq_get hx hb ht hown hK hP i_X8 0 rfl rfl 1 (by decide) wd_157 rfl rfl dX8_put_22 ?_
          refine lv_iload_n hx hb dX8_put_25 rfl (lv_at hl 2 rfl) ?_
          refine lv_iload_n hx hb dX8_put_26 rfl (lv_at hl 0 rfl) ?_
          obtain ⟨t_17, et_17⟩ : ∃ zz_ : Int32, b >>> (0 &&& 31) = zz_ := ⟨_, rfl⟩
          refine gq_ishr hx hb t_17 et_17 dX8_put_27 ?_
          refine lv_sipush (v := 255) hx hb dX8_put_28 (by decide +kernel) ?_
          obtain ⟨t_18, et_18⟩ : ∃ zz_ : Int32, t_17 &&& 255 = zz_ := ⟨_, rfl⟩
          refine gq_iand hx hb t_18 et_18 dX8_put_31 ?_
          have ft_18 := ia_and2 et_18 (by omega)
          obtain ⟨f_19, ef_19⟩ : ∃ zz_ : Nat → Int32, upd f_14 (Int32.toNatClampNeg t_15) t_18 = zz_ := ⟨_, rfl⟩
          refine gq_iast (ws' := [(tp, .inr (8, [.ref bp, .int t_15, .int at_, .int w_, .int fl])), (bp, .inl (G.2.2 0, 400, .inl f_19))] ++ wt) hx hb hK hP hD hS 1 rfl f_19 (ia_in (n := 400) (by omega) (by omega)) ef_19 rfl dX8_put_32 (fun H locs hP hD hS => ?_)
          refine lv_aload_n hx hb dX8_put_33 rfl (lv_at hl 1 rfl) ?_
          refine lv_dup hx hb dX8_put_34 rfl ?_
          refine gq_get hx hb ht hown hK hP i_X8 0 rfl rfl 1 (by decide) wd_157 rfl rfl dX8_put_35 ?_
          refine lv_iconst (v := 1) hx hb dX8_put_38 (by decide +kernel) ?_
          obtain ⟨t_20, et_20⟩ : ∃ zz_ : Int32, t_15 + 1 = zz_ := ⟨_, rfl⟩
          refine gq_iadd hx hb t_20 et_20 dX8_put_39 ?_
          have ft_20 := ia_add et_20 (by omega) (by omega)
          refine gq_put (ws' := [(tp, .inr (8, [.ref bp, .int t_20, .int at_, .int w_, .int fl])), (bp, .inl (G.2.2 0, 400, .inl f_19))] ++ wt) hx hb ht hown hK hP hD hS i_X8 tyX8 tyX8_ok nmX8 0 rfl rfl 1 (by decide) wd_157 rfl rfl rfl rfl (Nat.le_of_ble_eq_true rfl) rfl dX8_put_40 (fun H locs hP hD hS => ?_)
          refine lv_iinc (v := (-8)) (lv' := [(2, .int (-8)), (0, .ref tp), (1, .int b)]) hx hb dX8_put_43 hl (k := 0) rfl (by decide +kernel) (by decide) rfl (fun ls hl => ?_)
          refine lv_goto (tgt := 3) hx hb dX8_put_46 (by decide) ?_
          refine lv_iload_n hx hb dX8_put_3 rfl (lv_at hl 0 rfl) ?_
          refine lv_if_lt (tgt := 49) hx hb dX8_put_4 (by decide) (fun _ => ?_) (fun c0 => False.elim (by rw [Int32.lt_iff_toInt_lt] at c0; omega))
          have hP9 : va_P (gg_D G) classes ([(tp, .inr (8, [.ref bp, .int t_20, .int at_, .int w_, .int fl])), (bp, .inl (G.2.2 0, 400, .inl f_19))] ++ wt) _ := hP
          have hD9 : va_D A ([(tp, .inr (8, [.ref bp, .int t_20, .int at_, .int w_, .int fl])), (bp, .inl (G.2.2 0, 400, .inl f_19))] ++ wt) := hD
          exact W.vret hx hb hr (gq_endV (t_20, f_19, wt) ⟨hT, hW, (by omega), (by omega)⟩ hP9 hD9 hS) hS.2.2 dX8_put_49
set_option maxHeartbeats 4000000 in
set_option maxRecDepth 100000 in
theorem d_cut (l : Launch) (G : gg_T) (Γ : Nat → Nat) (sz : Nat) (wt : va_W) (hT : tk_ty G Γ wt) (b : Int32) (tp : Nat) (bp : Nat) (n : Int32) (at_ : Int32) (w_ : Int32) (fl : Int32) (bf : Nat → Int32) (xp1 : 0 ≤ n.toInt) (xp2 : n.toInt ≤ 400) (xp3 : 0 ≤ at_.toInt) (xp4 : 0 ≤ w_.toInt) (xp5 : at_.toInt + w_.toInt ≤ 400) : Met l yX8_cut (ts_L yX8_cut cX8_cut 2 none) ({ frames := 0, cells := 0, slots := 0, locals := 0 }) (gc_P G ([(tp, .inr (8, [.ref bp, .int n, .int at_, .int w_, .int fl])), (bp, .inl (G.2.2 0, 400, .inl bf))] ++ wt) sz [.ref tp, .int b]) (gc_V G (va_A ([(tp, .inr (8, [.ref bp, .int n, .int at_, .int w_, .int fl])), (bp, .inl (G.2.2 0, 400, .inl bf))] ++ wt) sz) (fun (u : (Int32) × va_W) => match u with | (n1, wt1) => tk_ty G Γ wt1 ∧ tk_kp [] wt wt1 ∧ 0 ≤ n1.toInt ∧ n1.toInt ≤ 400) (fun (u : (Int32) × va_W) => match u with | (n1, wt1) => [(tp, .inr (8, [.ref bp, .int n1, .int at_, .int w_, .int fl])), (bp, .inl (G.2.2 0, 400, .inl bf))] ++ wt1)) 0 0 (va_A ([(tp, .inr (8, [.ref bp, .int n, .int at_, .int w_, .int fl])), (bp, .inl (G.2.2 0, 400, .inl bf))] ++ wt) sz) := by
  refine Met.ofW (cc := cX8_cut) (maxL := 2) (ret := none) (by decide) rfl ?_
  intro p e s m args below meth c s₁ B hml hv
  obtain ⟨rfl, hsz, hP, hK, hD0⟩ := hv
  have hx := B.exec
  have hb := B.bytes
  have hr := B.returns
  have ht := ts_ht (atoms_spec (ws := ts_L yX8_cut cX8_cut 2 none) B.pre)
  have hown : s.vm.findClass RX8 = some m.cls := findClass_of_methodNamed B.named
  have hlocks := B.notSynchronized
  subst hsz
  have hD := hD0.self (sz := s.heap.size)
  generalize hAe : va_A ([(tp, .inr (8, [.ref bp, .int n, .int at_, .int w_, .int fl])), (bp, .inl (G.2.2 0, 400, .inl bf))] ++ wt) s.heap.size = A at hD ⊢
  have hA : ∀ q : Nat, s.heap.size ≤ q → A q := fun q h => by rw [← hAe]; exact Or.inr h
  clear hAe hD0
  have hS : va_S A s.heap s.heap [] := va_S.rf
  obtain ⟨w0, hw0⟩ : ∃ z, z = wt := ⟨_, rfl⟩
  have hW : tk_kp [] w0 wt := by rw [hw0]; exact tk_kp.rf
  rw [← hw0]
  clear hw0
  have hP : va_P (gg_D G) classes ([(tp, .inr (8, [.ref bp, .int n, .int at_, .int w_, .int fl])), (bp, .inl (G.2.2 0, 400, .inl bf))] ++ wt) s.heap := hP
  have hD : va_D A ([(tp, .inr (8, [.ref bp, .int n, .int at_, .int w_, .int fl])), (bp, .inl (G.2.2 0, 400, .inl bf))] ++ wt) := hD
  have hl := lv_entry ([.ref tp, .int b]) (n := 2) (Nat.le_of_ble_eq_true rfl)
  rw [lg_entry_eq]
  generalize (lg_sl ([.ref tp, .int b]) ++ List.replicate (2 - (lg_sl ([.ref tp, .int b])).length) Slot.unset).toArray = ls at hl ⊢
  have hl : lv_has ls 2 [(0, .ref tp), (1, .int b)] := hl
  have l0 : (0 : Int32).toInt = 0 := by decide +kernel
  refine lv_iload_n hx hb dX8_cut_0 rfl (lv_at hl 1 rfl) ?_
  refine lv_if_lt (tgt := 17) hx hb dX8_cut_1 (by decide) (fun c_1 => ?_) (fun c_1 => ?_)
  · rw [Int32.lt_iff_toInt_lt] at c_1
    have hP9 : va_P (gg_D G) classes ([(tp, .inr (8, [.ref bp, .int n, .int at_, .int w_, .int fl])), (bp, .inl (G.2.2 0, 400, .inl bf))] ++ wt) _ := hP
    have hD9 : va_D A ([(tp, .inr (8, [.ref bp, .int n, .int at_, .int w_, .int fl])), (bp, .inl (G.2.2 0, 400, .inl bf))] ++ wt) := hD
    exact W.vret hx hb hr (gq_endV (n, wt) ⟨hT, hW, (by omega), (by omega)⟩ hP9 hD9 hS) hS.2.2 dX8_cut_17
  · rw [Int32.lt_iff_toInt_lt] at c_1
    refine lv_iload_n hx hb dX8_cut_4 rfl (lv_at hl 1 rfl) ?_
    refine lv_aload_n hx hb dX8_cut_5 rfl (lv_at hl 0 rfl) ?_
    refine gq_get hx hb ht hown hK hP i_X8 0 rfl rfl 1 (by decide) wd_157 rfl rfl dX8_cut_6 ?_
    refine lv_icmp_gt (tgt := 17) hx hb dX8_cut_9 (by decide) (fun c_2 => ?_) (fun c_2 => ?_)
    · rw [Int32.lt_iff_toInt_lt] at c_2
      have hP9 : va_P (gg_D G) classes ([(tp, .inr (8, [.ref bp, .int n, .int at_, .int w_, .int fl])), (bp, .inl (G.2.2 0, 400, .inl bf))] ++ wt) _ := hP
      have hD9 : va_D A ([(tp, .inr (8, [.ref bp, .int n, .int at_, .int w_, .int fl])), (bp, .inl (G.2.2 0, 400, .inl bf))] ++ wt) := hD
      exact W.vret hx hb hr (gq_endV (n, wt) ⟨hT, hW, (by omega), (by omega)⟩ hP9 hD9 hS) hS.2.2 dX8_cut_17
    · rw [Int32.lt_iff_toInt_lt] at c_2
      refine lv_aload_n hx hb dX8_cut_12 rfl (lv_at hl 0 rfl) ?_
      refine lv_iload_n hx hb dX8_cut_13 rfl (lv_at hl 1 rfl) ?_
      refine gq_put (ws' := [(tp, .inr (8, [.ref bp, .int b, .int at_, .int w_, .int fl])), (bp, .inl (G.2.2 0, 400, .inl bf))] ++ wt) hx hb ht hown hK hP hD hS i_X8 tyX8 tyX8_ok nmX8 0 rfl rfl 1 (by decide) wd_157 rfl rfl rfl rfl (Nat.le_of_ble_eq_true rfl) rfl dX8_cut_14 (fun H locs hP hD hS => ?_)
      have hP9 : va_P (gg_D G) classes ([(tp, .inr (8, [.ref bp, .int b, .int at_, .int w_, .int fl])), (bp, .inl (G.2.2 0, 400, .inl bf))] ++ wt) _ := hP
      have hD9 : va_D A ([(tp, .inr (8, [.ref bp, .int b, .int at_, .int w_, .int fl])), (bp, .inl (G.2.2 0, 400, .inl bf))] ++ wt) := hD
      exact W.vret hx hb hr (gq_endV (b, wt) ⟨hT, hW, (by omega), (by omega)⟩ hP9 hD9 hS) hS.2.2 dX8_cut_17
set_option maxHeartbeats 4000000 in
set_option maxRecDepth 100000 in
theorem d_feed (l : Launch) (G : gg_T) (Γ : Nat → Nat) (sz : Nat) (wt : va_W) (hT : tk_ty G Γ wt) (b : Int32) (w : Int32) (z : Int32) (y : Int32) (v : Int32) (tp : Nat) (bp : Nat) (n : Int32) (at_ : Int32) (w_ : Int32) (fl : Int32) (bf : Nat → Int32) (h0 : Nat) (ra1 : Nat) (ra2 : Nat) (ra3 : Nat) (ra4 : Nat) (ra5 : Nat) (ra6 : Nat) (ra7 : Nat) (ra8 : Nat) (ra9 : Nat) (ra10 : Nat) (ra11 : Nat) (ra12 : Nat) (rc : Int32) (fo : Int32) (xx : Int32) (xp1 : 0 ≤ n.toInt) (xp2 : n.toInt ≤ 400) (xp3 : 0 ≤ at_.toInt) (xp4 : 0 ≤ w_.toInt) (xp5 : at_.toInt + w_.toInt ≤ 400) (kr1 : Γ ra1 = 10) (kr2 : Γ ra2 = 10) (kr3 : Γ ra3 = 8) (kr4 : Γ ra4 = 8) (kr5 : Γ ra5 = 4) (kr6 : Γ ra6 = 3) (kr7 : Γ ra7 = 41) (kr9 : Γ ra9 = 1) (kr10 : Γ ra10 = 6) (kr11 : Γ ra11 = 11) (kr12 : Γ ra12 = 7) (xr1 : 0 ≤ rc.toInt) (xr2 : rc.toInt ≤ 6) : Met l yX11_feed (ts_L yX11_feed cX11_feed 6 (some .int)) ({ frames := 1, cells := 0, slots := 0, locals := 22 }) (gc_P G ([(h0, .inr (11, [.ref tp, .ref ra1, .ref ra2, .ref ra3, .ref ra4, .ref ra5, .ref ra6, .ref ra7, .ref ra8, .ref ra9, .ref ra10, .ref ra11, .ref ra12, .int rc, .int fo, .int xx])), (tp, .inr (8, [.ref bp, .int n, .int at_, .int w_, .int fl])), (bp, .inl (G.2.2 0, 400, .inl bf))] ++ wt) sz [.ref h0, .int b, .int w, .int z, .int y, .int v]) (gc_I G (va_A ([(h0, .inr (11, [.ref tp, .ref ra1, .ref ra2, .ref ra3, .ref ra4, .ref ra5, .ref ra6, .ref ra7, .ref ra8, .ref ra9, .ref ra10, .ref ra11, .ref ra12, .int rc, .int fo, .int xx])), (tp, .inr (8, [.ref bp, .int n, .int at_, .int w_, .int fl])), (bp, .inl (G.2.2 0, 400, .inl bf))] ++ wt) sz) (fun r (u : (Int32) × (Nat → Int32) × va_W) => match u with | (n1, bf1, wt1) => tk_ty G Γ wt1 ∧ tk_kp [] wt wt1 ∧ 0 ≤ n1.toInt ∧ n1.toInt ≤ 400) (fun (u : (Int32) × (Nat → Int32) × va_W) => match u with | (n1, bf1, wt1) => [(h0, .inr (11, [.ref tp, .ref ra1, .ref ra2, .ref ra3, .ref ra4, .ref ra5, .ref ra6, .ref ra7, .ref ra8, .ref ra9, .ref ra10, .ref ra11, .ref ra12, .int rc, .int fo, .int xx])), (tp, .inr (8, [.ref bp, .int n1, .int at_, .int w_, .int fl])), (bp, .inl (G.2.2 0, 400, .inl bf1))] ++ wt1)) 0 0 (va_A ([(h0, .inr (11, [.ref tp, .ref ra1, .ref ra2, .ref ra3, .ref ra4, .ref ra5, .ref ra6, .ref ra7, .ref ra8, .ref ra9, .ref ra10, .ref ra11, .ref ra12, .int rc, .int fo, .int xx])), (tp, .inr (8, [.ref bp, .int n, .int at_, .int w_, .int fl])), (bp, .inl (G.2.2 0, 400, .inl bf))] ++ wt) sz) := by
  refine Met.ofW (cc := cX11_feed) (maxL := 6) (ret := (some .int)) (by decide) rfl ?_
  intro p e s m args below meth c s₁ B hml hv
  obtain ⟨rfl, hsz, hP, hK, hD0⟩ := hv
  have hx := B.exec
  have hb := B.bytes
  have hr := B.returns
  have ht := ts_ht (atoms_spec (ws := ts_L yX11_feed cX11_feed 6 (some .int)) B.pre)
  have hown : s.vm.findClass RX11 = some m.cls := findClass_of_methodNamed B.named
  have hlocks := B.notSynchronized
  subst hsz
  have hD := hD0.self (sz := s.heap.size)
  generalize hAe : va_A ([(h0, .inr (11, [.ref tp, .ref ra1, .ref ra2, .ref ra3, .ref ra4, .ref ra5, .ref ra6, .ref ra7, .ref ra8, .ref ra9, .ref ra10, .ref ra11, .ref ra12, .int rc, .int fo, .int xx])), (tp, .inr (8, [.ref bp, .int n, .int at_, .int w_, .int fl])), (bp, .inl (G.2.2 0, 400, .inl bf))] ++ wt) s.heap.size = A at hD ⊢
  have hA : ∀ q : Nat, s.heap.size ≤ q → A q := fun q h => by rw [← hAe]; exact Or.inr h
  clear hAe hD0
  have hS : va_S A s.heap s.heap [] := va_S.rf
  obtain ⟨w0, hw0⟩ : ∃ z, z = wt := ⟨_, rfl⟩
  have hW : tk_kp [] w0 wt := by rw [hw0]; exact tk_kp.rf
  rw [← hw0]
  clear hw0
  have hP : va_P (gg_D G) classes ([(h0, .inr (11, [.ref tp, .ref ra1, .ref ra2, .ref ra3, .ref ra4, .ref ra5, .ref ra6, .ref ra7, .ref ra8, .ref ra9, .ref ra10, .ref ra11, .ref ra12, .int rc, .int fo, .int xx])), (tp, .inr (8, [.ref bp, .int n, .int at_, .int w_, .int fl])), (bp, .inl (G.2.2 0, 400, .inl bf))] ++ wt) s.heap := hP
  have hD : va_D A ([(h0, .inr (11, [.ref tp, .ref ra1, .ref ra2, .ref ra3, .ref ra4, .ref ra5, .ref ra6, .ref ra7, .ref ra8, .ref ra9, .ref ra10, .ref ra11, .ref ra12, .int rc, .int fo, .int xx])), (tp, .inr (8, [.ref bp, .int n, .int at_, .int w_, .int fl])), (bp, .inl (G.2.2 0, 400, .inl bf))] ++ wt) := hD
  have hl := lv_entry ([.ref h0, .int b, .int w, .int z, .int y, .int v]) (n := 6) (Nat.le_of_ble_eq_true rfl)
  rw [lg_entry_eq]
  generalize (lg_sl ([.ref h0, .int b, .int w, .int z, .int y, .int v]) ++ List.replicate (6 - (lg_sl ([.ref h0, .int b, .int w, .int z, .int y, .int v])).length) Slot.unset).toArray = ls at hl ⊢
  have hl : lv_has ls 6 [(0, .ref h0), (1, .int b), (2, .int w), (3, .int z), (4, .int y), (5, .int v)] := hl
  have lm1 : ((-1) : Int32).toInt = -1 := by decide +kernel
  have l20 : (20 : Int32).toInt = 20 := by decide +kernel
  have l400 : (400 : Int32).toInt = 400 := by decide +kernel
  refine lv_aload_n hx hb dX11_feed_0 rfl (lv_at hl 0 rfl) ?_
  refine gq_get hx hb ht hown hK hP i_X11 0 rfl rfl 0 (by decide) wd_497 rfl rfl dX11_feed_1 ?_
  have hP : va_P (gg_D G) classes ([(h0, .inr (11, [.ref tp, .ref ra1, .ref ra2, .ref ra3, .ref ra4, .ref ra5, .ref ra6, .ref ra7, .ref ra8, .ref ra9, .ref ra10, .ref ra11, .ref ra12, .int rc, .int fo, .int xx]))] ++ ([(tp, .inr (8, [.ref bp, .int n, .int at_, .int w_, .int fl])), (bp, .inl (G.2.2 0, 400, .inl bf))] ++ wt)) s.heap := hP
  have hD : va_D A ([(h0, .inr (11, [.ref tp, .ref ra1, .ref ra2, .ref ra3, .ref ra4, .ref ra5, .ref ra6, .ref ra7, .ref ra8, .ref ra9, .ref ra10, .ref ra11, .ref ra12, .int rc, .int fo, .int xx]))] ++ ([(tp, .inr (8, [.ref bp, .int n, .int at_, .int w_, .int fl])), (bp, .inl (G.2.2 0, 400, .inl bf))] ++ wt)) := hD
  refine gt_callI (wr := [(h0, .inr (11, [.ref tp, .ref ra1, .ref ra2, .ref ra3, .ref ra4, .ref ra5, .ref ra6, .ref ra7, .ref ra8, .ref ra9, .ref ra10, .ref ra11, .ref ra12, .int rc, .int fo, .int xx]))]) (va_runV (As := []) (rest := []) ⟨hx, hb, hml, hown, ht⟩ (d_size l G Γ s.heap.size wt hT tp bp n at_ w_ fl bf (by first | assumption | omega) (by first | assumption | omega) (by first | assumption | omega) (by first | assumption | omega) (by first | assumption | omega)) (cwV 0 ht (ts_gV wd_550 wd_551 wd_552 wd_123 wd_553) rfl rfl rfl (by decide +kernel) ⟨Nat.le_of_ble_eq_true rfl, Nat.le_of_ble_eq_true rfl⟩) (gc_preV (ci := 8) (q0 := 0) hK (tw_right hP) (tw_rightD hD) rfl rfl) rfl rfl hl.1 rfl (lv_room (Nat.le_of_ble_eq_true rfl)) dX11_feed_4 ⟨Nat.le_of_ble_eq_true rfl, Nat.le_of_ble_eq_true rfl⟩) hP hD hS hA (fun r_1 wt H locs hw hP hD hS => ?_)
  obtain ⟨hT, hkp, lo_r_1, hi_r_1⟩ := hw
  have hW := hW.call (show ∀ x ∈ [], x ∈ [] by decide) hkp
  have hP : va_P (gg_D G) classes ([(h0, .inr (11, [.ref tp, .ref ra1, .ref ra2, .ref ra3, .ref ra4, .ref ra5, .ref ra6, .ref ra7, .ref ra8, .ref ra9, .ref ra10, .ref ra11, .ref ra12, .int rc, .int fo, .int xx])), (tp, .inr (8, [.ref bp, .int n, .int at_, .int w_, .int fl])), (bp, .inl (G.2.2 0, 400, .inl bf))] ++ wt) H := hP
  have hD : va_D A ([(h0, .inr (11, [.ref tp, .ref ra1, .ref ra2, .ref ra3, .ref ra4, .ref ra5, .ref ra6, .ref ra7, .ref ra8, .ref ra9, .ref ra10, .ref ra11, .ref ra12, .int rc, .int fo, .int xx])), (tp, .inr (8, [.ref bp, .int n, .int at_, .int w_, .int fl])), (bp, .inl (G.2.2 0, 400, .inl bf))] ++ wt) := hD
  refine lv_bipush (v := 20) hx hb dX11_feed_7 (by decide +kernel) ?_
  obtain ⟨t_2, et_2⟩ : ∃ zz_ : Int32, r_1 + 20 = zz_ := ⟨_, rfl⟩
  refine gq_iadd hx hb t_2 et_2 dX11_feed_9 ?_
  have ft_2 := ia_add et_2 (by omega) (by omega)
  refine lv_sipush (v := 400) hx hb dX11_feed_10 (by decide +kernel) ?_
  refine lv_icmp_le (tgt := 18) hx hb dX11_feed_13 (by decide) (fun c_3 => ?_) (fun c_3 => ?_)
  · rw [Int32.le_iff_toInt_le] at c_3
    refine lv_aload_n hx hb dX11_feed_18 rfl (lv_at hl 0 rfl) ?_
    refine gq_get hx hb ht hown hK hP i_X11 0 rfl rfl 0 (by decide) wd_497 rfl rfl dX11_feed_19 ?_
    refine lv_iload_n hx hb dX11_feed_22 rfl (lv_at hl 1 rfl) ?_
    have hP : va_P (gg_D G) classes ([(h0, .inr (11, [.ref tp, .ref ra1, .ref ra2, .ref ra3, .ref ra4, .ref ra5, .ref ra6, .ref ra7, .ref ra8, .ref ra9, .ref ra10, .ref ra11, .ref ra12, .int rc, .int fo, .int xx]))] ++ ([(tp, .inr (8, [.ref bp, .int n, .int at_, .int w_, .int fl])), (bp, .inl (G.2.2 0, 400, .inl bf))] ++ wt)) H := hP
    have hD : va_D A ([(h0, .inr (11, [.ref tp, .ref ra1, .ref ra2, .ref ra3, .ref ra4, .ref ra5, .ref ra6, .ref ra7, .ref ra8, .ref ra9, .ref ra10, .ref ra11, .ref ra12, .int rc, .int fo, .int xx]))] ++ ([(tp, .inr (8, [.ref bp, .int n, .int at_, .int w_, .int fl])), (bp, .inl (G.2.2 0, 400, .inl bf))] ++ wt)) := hD
    refine gt_callV (wr := [(h0, .inr (11, [.ref tp, .ref ra1, .ref ra2, .ref ra3, .ref ra4, .ref ra5, .ref ra6, .ref ra7, .ref ra8, .ref ra9, .ref ra10, .ref ra11, .ref ra12, .int rc, .int fo, .int xx]))]) (va_runV (As := [.int b]) (rest := []) ⟨hx, hb, hml, hown, ht⟩ (d_put l G Γ H.size wt hT b tp bp n at_ w_ fl bf (by first | assumption | omega) (by first | assumption | omega) (by first | assumption | omega) (by first | assumption | omega) (by first | assumption | omega)) (cwV 1 ht (ts_gV wd_554 wd_555 wd_556 wd_123 wd_557) rfl rfl rfl (by decide +kernel) ⟨Nat.le_of_ble_eq_true rfl, Nat.le_of_ble_eq_true rfl⟩) (gc_preV (ci := 8) (q0 := 0) hK (tw_right hP) (tw_rightD hD) rfl rfl) rfl rfl hl.1 rfl (lv_room (Nat.le_of_ble_eq_true rfl)) dX11_feed_23 ⟨Nat.le_of_ble_eq_true rfl, Nat.le_of_ble_eq_true rfl⟩) hP hD hS hA (fun u H locs hw hP hD hS => ?_)
    obtain ⟨y_4, y_5, wt⟩ := u
    obtain ⟨hT, hkp, w_6, w_7⟩ := hw
    have hW := hW.call (show ∀ x ∈ [], x ∈ [] by decide) hkp
    have hP : va_P (gg_D G) classes ([(h0, .inr (11, [.ref tp, .ref ra1, .ref ra2, .ref ra3, .ref ra4, .ref ra5, .ref ra6, .ref ra7, .ref ra8, .ref ra9, .ref ra10, .ref ra11, .ref ra12, .int rc, .int fo, .int xx])), (tp, .inr (8, [.ref bp, .int y_4, .int at_, .int w_, .int fl])), (bp, .inl (G.2.2 0, 400, .inl y_5))] ++ wt) H := hP
    have hD : va_D A ([(h0, .inr (11, [.ref tp, .ref ra1, .ref ra2, .ref ra3, .ref ra4, .ref ra5, .ref ra6, .ref ra7, .ref ra8, .ref ra9, .ref ra10, .ref ra11, .ref ra12, .int rc, .int fo, .int xx])), (tp, .inr (8, [.ref bp, .int y_4, .int at_, .int w_, .int fl])), (bp, .inl (G.2.2 0, 400, .inl y_5))] ++ wt) := hD
    refine lv_aload_n hx hb dX11_feed_26 rfl (lv_at hl 0 rfl) ?_
    refine gq_get hx hb ht hown hK hP i_X11 0 rfl rfl 0 (by decide) wd_497 rfl rfl dX11_feed_27 ?_
    refine lv_iload_n hx hb dX11_feed_30 rfl (lv_at hl 2 rfl) ?_
    have hP : va_P (gg_D G) classes ([(h0, .inr (11, [.ref tp, .ref ra1, .ref ra2, .ref ra3, .ref ra4, .ref ra5, .ref ra6, .ref ra7, .ref ra8, .ref ra9, .ref ra10, .ref ra11, .ref ra12, .int rc, .int fo, .int xx]))] ++ ([(tp, .inr (8, [.ref bp, .int y_4, .int at_, .int w_, .int fl])), (bp, .inl (G.2.2 0, 400, .inl y_5))] ++ wt)) H := hP
    have hD : va_D A ([(h0, .inr (11, [.ref tp, .ref ra1, .ref ra2, .ref ra3, .ref ra4, .ref ra5, .ref ra6, .ref ra7, .ref ra8, .ref ra9, .ref ra10, .ref ra11, .ref ra12, .int rc, .int fo, .int xx]))] ++ ([(tp, .inr (8, [.ref bp, .int y_4, .int at_, .int w_, .int fl])), (bp, .inl (G.2.2 0, 400, .inl y_5))] ++ wt)) := hD
    refine gt_callV (wr := [(h0, .inr (11, [.ref tp, .ref ra1, .ref ra2, .ref ra3, .ref ra4, .ref ra5, .ref ra6, .ref ra7, .ref ra8, .ref ra9, .ref ra10, .ref ra11, .ref ra12, .int rc, .int fo, .int xx]))]) (va_runV (As := [.int w]) (rest := []) ⟨hx, hb, hml, hown, ht⟩ (d_put l G Γ H.size wt hT w tp bp y_4 at_ w_ fl y_5 (by first | assumption | omega) (by first | assumption | omega) (by first | assumption | omega) (by first | assumption | omega) (by first | assumption | omega)) (cwV 1 ht (ts_gV wd_554 wd_555 wd_556 wd_123 wd_557) rfl rfl rfl (by decide +kernel) ⟨Nat.le_of_ble_eq_true rfl, Nat.le_of_ble_eq_true rfl⟩) (gc_preV (ci := 8) (q0 := 0) hK (tw_right hP) (tw_rightD hD) rfl rfl) rfl rfl hl.1 rfl (lv_room (Nat.le_of_ble_eq_true rfl)) dX11_feed_31 ⟨Nat.le_of_ble_eq_true rfl, Nat.le_of_ble_eq_true rfl⟩) hP hD hS hA (fun u H locs hw hP hD hS => ?_)
    obtain ⟨y_8, y_9, wt⟩ := u
    obtain ⟨hT, hkp, w_10, w_11⟩ := hw
    have hW := hW.call (show ∀ x ∈ [], x ∈ [] by decide) hkp
    have hP : va_P (gg_D G) classes ([(h0, .inr (11, [.ref tp, .ref ra1, .ref ra2, .ref ra3, .ref ra4, .ref ra5, .ref ra6, .ref ra7, .ref ra8, .ref ra9, .ref ra10, .ref ra11, .ref ra12, .int rc, .int fo, .int xx])), (tp, .inr (8, [.ref bp, .int y_8, .int at_, .int w_, .int fl])), (bp, .inl (G.2.2 0, 400, .inl y_9))] ++ wt) H := hP
    have hD : va_D A ([(h0, .inr (11, [.ref tp, .ref ra1, .ref ra2, .ref ra3, .ref ra4, .ref ra5, .ref ra6, .ref ra7, .ref ra8, .ref ra9, .ref ra10, .ref ra11, .ref ra12, .int rc, .int fo, .int xx])), (tp, .inr (8, [.ref bp, .int y_8, .int at_, .int w_, .int fl])), (bp, .inl (G.2.2 0, 400, .inl y_9))] ++ wt) := hD
    refine lv_aload_n hx hb dX11_feed_34 rfl (lv_at hl 0 rfl) ?_
    refine gq_get hx hb ht hown hK hP i_X11 0 rfl rfl 0 (by decide) wd_497 rfl rfl dX11_feed_35 ?_
    refine lv_iload_n hx hb dX11_feed_38 rfl (lv_at hl 3 rfl) ?_
    have hP : va_P (gg_D G) classes ([(h0, .inr (11, [.ref tp, .ref ra1, .ref ra2, .ref ra3, .ref ra4, .ref ra5, .ref ra6, .ref ra7, .ref ra8, .ref ra9, .ref ra10, .ref ra11, .ref ra12, .int rc, .int fo, .int xx]))] ++ ([(tp, .inr (8, [.ref bp, .int y_8, .int at_, .int w_, .int fl])), (bp, .inl (G.2.2 0, 400, .inl y_9))] ++ wt)) H := hP
    have hD : va_D A ([(h0, .inr (11, [.ref tp, .ref ra1, .ref ra2, .ref ra3, .ref ra4, .ref ra5, .ref ra6, .ref ra7, .ref ra8, .ref ra9, .ref ra10, .ref ra11, .ref ra12, .int rc, .int fo, .int xx]))] ++ ([(tp, .inr (8, [.ref bp, .int y_8, .int at_, .int w_, .int fl])), (bp, .inl (G.2.2 0, 400, .inl y_9))] ++ wt)) := hD
    refine gt_callV (wr := [(h0, .inr (11, [.ref tp, .ref ra1, .ref ra2, .ref ra3, .ref ra4, .ref ra5, .ref ra6, .ref ra7, .ref ra8, .ref ra9, .ref ra10, .ref ra11, .ref ra12, .int rc, .int fo, .int xx]))]) (va_runV (As := [.int z]) (rest := []) ⟨hx, hb, hml, hown, ht⟩ (d_put l G Γ H.size wt hT z tp bp y_8 at_ w_ fl y_9 (by first | assumption | omega) (by first | assumption | omega) (by first | assumption | omega) (by first | assumption | omega) (by first | assumption | omega)) (cwV 1 ht (ts_gV wd_554 wd_555 wd_556 wd_123 wd_557) rfl rfl rfl (by decide +kernel) ⟨Nat.le_of_ble_eq_true rfl, Nat.le_of_ble_eq_true rfl⟩) (gc_preV (ci := 8) (q0 := 0) hK (tw_right hP) (tw_rightD hD) rfl rfl) rfl rfl hl.1 rfl (lv_room (Nat.le_of_ble_eq_true rfl)) dX11_feed_39 ⟨Nat.le_of_ble_eq_true rfl, Nat.le_of_ble_eq_true rfl⟩) hP hD hS hA (fun u H locs hw hP hD hS => ?_)
    obtain ⟨y_12, y_13, wt⟩ := u
    obtain ⟨hT, hkp, w_14, w_15⟩ := hw
    have hW := hW.call (show ∀ x ∈ [], x ∈ [] by decide) hkp
    have hP : va_P (gg_D G) classes ([(h0, .inr (11, [.ref tp, .ref ra1, .ref ra2, .ref ra3, .ref ra4, .ref ra5, .ref ra6, .ref ra7, .ref ra8, .ref ra9, .ref ra10, .ref ra11, .ref ra12, .int rc, .int fo, .int xx])), (tp, .inr (8, [.ref bp, .int y_12, .int at_, .int w_, .int fl])), (bp, .inl (G.2.2 0, 400, .inl y_13))] ++ wt) H := hP
    have hD : va_D A ([(h0, .inr (11, [.ref tp, .ref ra1, .ref ra2, .ref ra3, .ref ra4, .ref ra5, .ref ra6, .ref ra7, .ref ra8, .ref ra9, .ref ra10, .ref ra11, .ref ra12, .int rc, .int fo, .int xx])), (tp, .inr (8, [.ref bp, .int y_12, .int at_, .int w_, .int fl])), (bp, .inl (G.2.2 0, 400, .inl y_13))] ++ wt) := hD
    refine lv_aload_n hx hb dX11_feed_42 rfl (lv_at hl 0 rfl) ?_
    refine gq_get hx hb ht hown hK hP i_X11 0 rfl rfl 0 (by decide) wd_497 rfl rfl dX11_feed_43 ?_
    refine lv_iload hx hb dX11_feed_46 (lv_at hl 4 rfl) ?_
    have hP : va_P (gg_D G) classes ([(h0, .inr (11, [.ref tp, .ref ra1, .ref ra2, .ref ra3, .ref ra4, .ref ra5, .ref ra6, .ref ra7, .ref ra8, .ref ra9, .ref ra10, .ref ra11, .ref ra12, .int rc, .int fo, .int xx]))] ++ ([(tp, .inr (8, [.ref bp, .int y_12, .int at_, .int w_, .int fl])), (bp, .inl (G.2.2 0, 400, .inl y_13))] ++ wt)) H := hP
    have hD : va_D A ([(h0, .inr (11, [.ref tp, .ref ra1, .ref ra2, .ref ra3, .ref ra4, .ref ra5, .ref ra6, .ref ra7, .ref ra8, .ref ra9, .ref ra10, .ref ra11, .ref ra12, .int rc, .int fo, .int xx]))] ++ ([(tp, .inr (8, [.ref bp, .int y_12, .int at_, .int w_, .int fl])), (bp, .inl (G.2.2 0, 400, .inl y_13))] ++ wt)) := hD
    refine gt_callV (wr := [(h0, .inr (11, [.ref tp, .ref ra1, .ref ra2, .ref ra3, .ref ra4, .ref ra5, .ref ra6, .ref ra7, .ref ra8, .ref ra9, .ref ra10, .ref ra11, .ref ra12, .int rc, .int fo, .int xx]))]) (va_runV (As := [.int y]) (rest := []) ⟨hx, hb, hml, hown, ht⟩ (d_put l G Γ H.size wt hT y tp bp y_12 at_ w_ fl y_13 (by first | assumption | omega) (by first | assumption | omega) (by first | assumption | omega) (by first | assumption | omega) (by first | assumption | omega)) (cwV 1 ht (ts_gV wd_554 wd_555 wd_556 wd_123 wd_557) rfl rfl rfl (by decide +kernel) ⟨Nat.le_of_ble_eq_true rfl, Nat.le_of_ble_eq_true rfl⟩) (gc_preV (ci := 8) (q0 := 0) hK (tw_right hP) (tw_rightD hD) rfl rfl) rfl rfl hl.1 rfl (lv_room (Nat.le_of_ble_eq_true rfl)) dX11_feed_48 ⟨Nat.le_of_ble_eq_true rfl, Nat.le_of_ble_eq_true rfl⟩) hP hD hS hA (fun u H locs hw hP hD hS => ?_)
    obtain ⟨y_16, y_17, wt⟩ := u
    obtain ⟨hT, hkp, w_18, w_19⟩ := hw
    have hW := hW.call (show ∀ x ∈ [], x ∈ [] by decide) hkp
    have hP : va_P (gg_D G) classes ([(h0, .inr (11, [.ref tp, .ref ra1, .ref ra2, .ref ra3, .ref ra4, .ref ra5, .ref ra6, .ref ra7, .ref ra8, .ref ra9, .ref ra10, .ref ra11, .ref ra12, .int rc, .int fo, .int xx])), (tp, .inr (8, [.ref bp, .int y_16, .int at_, .int w_, .int fl])), (bp, .inl (G.2.2 0, 400, .inl y_17))] ++ wt) H := hP
    have hD : va_D A ([(h0, .inr (11, [.ref tp, .ref ra1, .ref ra2, .ref ra3, .ref ra4, .ref ra5, .ref ra6, .ref ra7, .ref ra8, .ref ra9, .ref ra10, .ref ra11, .ref ra12, .int rc, .int fo, .int xx])), (tp, .inr (8, [.ref bp, .int y_16, .int at_, .int w_, .int fl])), (bp, .inl (G.2.2 0, 400, .inl y_17))] ++ wt) := hD
    refine lv_aload_n hx hb dX11_feed_51 rfl (lv_at hl 0 rfl) ?_
    refine gq_get hx hb ht hown hK hP i_X11 0 rfl rfl 0 (by decide) wd_497 rfl rfl dX11_feed_52 ?_
    refine lv_iload hx hb dX11_feed_55 (lv_at hl 5 rfl) ?_
    have hP : va_P (gg_D G) classes ([(h0, .inr (11, [.ref tp, .ref ra1, .ref ra2, .ref ra3, .ref ra4, .ref ra5, .ref ra6, .ref ra7, .ref ra8, .ref ra9, .ref ra10, .ref ra11, .ref ra12, .int rc, .int fo, .int xx]))] ++ ([(tp, .inr (8, [.ref bp, .int y_16, .int at_, .int w_, .int fl])), (bp, .inl (G.2.2 0, 400, .inl y_17))] ++ wt)) H := hP
    have hD : va_D A ([(h0, .inr (11, [.ref tp, .ref ra1, .ref ra2, .ref ra3, .ref ra4, .ref ra5, .ref ra6, .ref ra7, .ref ra8, .ref ra9, .ref ra10, .ref ra11, .ref ra12, .int rc, .int fo, .int xx]))] ++ ([(tp, .inr (8, [.ref bp, .int y_16, .int at_, .int w_, .int fl])), (bp, .inl (G.2.2 0, 400, .inl y_17))] ++ wt)) := hD
    refine gt_callV (wr := [(h0, .inr (11, [.ref tp, .ref ra1, .ref ra2, .ref ra3, .ref ra4, .ref ra5, .ref ra6, .ref ra7, .ref ra8, .ref ra9, .ref ra10, .ref ra11, .ref ra12, .int rc, .int fo, .int xx]))]) (va_runV (As := [.int v]) (rest := []) ⟨hx, hb, hml, hown, ht⟩ (d_put l G Γ H.size wt hT v tp bp y_16 at_ w_ fl y_17 (by first | assumption | omega) (by first | assumption | omega) (by first | assumption | omega) (by first | assumption | omega) (by first | assumption | omega)) (cwV 1 ht (ts_gV wd_554 wd_555 wd_556 wd_123 wd_557) rfl rfl rfl (by decide +kernel) ⟨Nat.le_of_ble_eq_true rfl, Nat.le_of_ble_eq_true rfl⟩) (gc_preV (ci := 8) (q0 := 0) hK (tw_right hP) (tw_rightD hD) rfl rfl) rfl rfl hl.1 rfl (lv_room (Nat.le_of_ble_eq_true rfl)) dX11_feed_57 ⟨Nat.le_of_ble_eq_true rfl, Nat.le_of_ble_eq_true rfl⟩) hP hD hS hA (fun u H locs hw hP hD hS => ?_)
    obtain ⟨y_20, y_21, wt⟩ := u
    obtain ⟨hT, hkp, w_22, w_23⟩ := hw
    have hW := hW.call (show ∀ x ∈ [], x ∈ [] by decide) hkp
    have hP : va_P (gg_D G) classes ([(h0, .inr (11, [.ref tp, .ref ra1, .ref ra2, .ref ra3, .ref ra4, .ref ra5, .ref ra6, .ref ra7, .ref ra8, .ref ra9, .ref ra10, .ref ra11, .ref ra12, .int rc, .int fo, .int xx])), (tp, .inr (8, [.ref bp, .int y_20, .int at_, .int w_, .int fl])), (bp, .inl (G.2.2 0, 400, .inl y_21))] ++ wt) H := hP
    have hD : va_D A ([(h0, .inr (11, [.ref tp, .ref ra1, .ref ra2, .ref ra3, .ref ra4, .ref ra5, .ref ra6, .ref ra7, .ref ra8, .ref ra9, .ref ra10, .ref ra11, .ref ra12, .int rc, .int fo, .int xx])), (tp, .inr (8, [.ref bp, .int y_20, .int at_, .int w_, .int fl])), (bp, .inl (G.2.2 0, 400, .inl y_21))] ++ wt) := hD
    refine lv_aload_n hx hb dX11_feed_60 rfl (lv_at hl 0 rfl) ?_
    refine gq_get hx hb ht hown hK hP i_X11 0 rfl rfl 0 (by decide) wd_497 rfl rfl dX11_feed_61 ?_
    have hP : va_P (gg_D G) classes ([(h0, .inr (11, [.ref tp, .ref ra1, .ref ra2, .ref ra3, .ref ra4, .ref ra5, .ref ra6, .ref ra7, .ref ra8, .ref ra9, .ref ra10, .ref ra11, .ref ra12, .int rc, .int fo, .int xx]))] ++ ([(tp, .inr (8, [.ref bp, .int y_20, .int at_, .int w_, .int fl])), (bp, .inl (G.2.2 0, 400, .inl y_21))] ++ wt)) H := hP
    have hD : va_D A ([(h0, .inr (11, [.ref tp, .ref ra1, .ref ra2, .ref ra3, .ref ra4, .ref ra5, .ref ra6, .ref ra7, .ref ra8, .ref ra9, .ref ra10, .ref ra11, .ref ra12, .int rc, .int fo, .int xx]))] ++ ([(tp, .inr (8, [.ref bp, .int y_20, .int at_, .int w_, .int fl])), (bp, .inl (G.2.2 0, 400, .inl y_21))] ++ wt)) := hD
    refine gt_callI (wr := [(h0, .inr (11, [.ref tp, .ref ra1, .ref ra2, .ref ra3, .ref ra4, .ref ra5, .ref ra6, .ref ra7, .ref ra8, .ref ra9, .ref ra10, .ref ra11, .ref ra12, .int rc, .int fo, .int xx]))]) (va_runV (As := []) (rest := []) ⟨hx, hb, hml, hown, ht⟩ (d_size l G Γ H.size wt hT tp bp y_20 at_ w_ fl y_21 (by first | assumption | omega) (by first | assumption | omega) (by first | assumption | omega) (by first | assumption | omega) (by first | assumption | omega)) (cwV 0 ht (ts_gV wd_550 wd_551 wd_552 wd_123 wd_553) rfl rfl rfl (by decide +kernel) ⟨Nat.le_of_ble_eq_true rfl, Nat.le_of_ble_eq_true rfl⟩) (gc_preV (ci := 8) (q0 := 0) hK (tw_right hP) (tw_rightD hD) rfl rfl) rfl rfl hl.1 rfl (lv_room (Nat.le_of_ble_eq_true rfl)) dX11_feed_64 ⟨Nat.le_of_ble_eq_true rfl, Nat.le_of_ble_eq_true rfl⟩) hP hD hS hA (fun r_24 wt H locs hw hP hD hS => ?_)
    obtain ⟨hT, hkp, lo_r_24, hi_r_24⟩ := hw
    have hW := hW.call (show ∀ x ∈ [], x ∈ [] by decide) hkp
    have hP : va_P (gg_D G) classes ([(h0, .inr (11, [.ref tp, .ref ra1, .ref ra2, .ref ra3, .ref ra4, .ref ra5, .ref ra6, .ref ra7, .ref ra8, .ref ra9, .ref ra10, .ref ra11, .ref ra12, .int rc, .int fo, .int xx])), (tp, .inr (8, [.ref bp, .int y_20, .int at_, .int w_, .int fl])), (bp, .inl (G.2.2 0, 400, .inl y_21))] ++ wt) H := hP
    have hD : va_D A ([(h0, .inr (11, [.ref tp, .ref ra1, .ref ra2, .ref ra3, .ref ra4, .ref ra5, .ref ra6, .ref ra7, .ref ra8, .ref ra9, .ref ra10, .ref ra11, .ref ra12, .int rc, .int fo, .int xx])), (tp, .inr (8, [.ref bp, .int y_20, .int at_, .int w_, .int fl])), (bp, .inl (G.2.2 0, 400, .inl y_21))] ++ wt) := hD
    have hP9 : va_P (gg_D G) classes ([(h0, .inr (11, [.ref tp, .ref ra1, .ref ra2, .ref ra3, .ref ra4, .ref ra5, .ref ra6, .ref ra7, .ref ra8, .ref ra9, .ref ra10, .ref ra11, .ref ra12, .int rc, .int fo, .int xx])), (tp, .inr (8, [.ref bp, .int y_20, .int at_, .int w_, .int fl])), (bp, .inl (G.2.2 0, 400, .inl y_21))] ++ wt) _ := hP
    have hD9 : va_D A ([(h0, .inr (11, [.ref tp, .ref ra1, .ref ra2, .ref ra3, .ref ra4, .ref ra5, .ref ra6, .ref ra7, .ref ra8, .ref ra9, .ref ra10, .ref ra11, .ref ra12, .int rc, .int fo, .int xx])), (tp, .inr (8, [.ref bp, .int y_20, .int at_, .int w_, .int fl])), (bp, .inl (G.2.2 0, 400, .inl y_21))] ++ wt) := hD
    exact W.iret (v := r_24) hx hb hr (gq_endI (y_20, y_21, wt) ⟨hT, hW, (by omega), (by omega)⟩ hP9 hD9 hS) hS.2.2 dX11_feed_67
  · rw [Int32.le_iff_toInt_le] at c_3
    refine lv_iconst (v := (-1)) hx hb dX11_feed_16 (by decide +kernel) ?_
    have hP9 : va_P (gg_D G) classes ([(h0, .inr (11, [.ref tp, .ref ra1, .ref ra2, .ref ra3, .ref ra4, .ref ra5, .ref ra6, .ref ra7, .ref ra8, .ref ra9, .ref ra10, .ref ra11, .ref ra12, .int rc, .int fo, .int xx])), (tp, .inr (8, [.ref bp, .int n, .int at_, .int w_, .int fl])), (bp, .inl (G.2.2 0, 400, .inl bf))] ++ wt) _ := hP
    have hD9 : va_D A ([(h0, .inr (11, [.ref tp, .ref ra1, .ref ra2, .ref ra3, .ref ra4, .ref ra5, .ref ra6, .ref ra7, .ref ra8, .ref ra9, .ref ra10, .ref ra11, .ref ra12, .int rc, .int fo, .int xx])), (tp, .inr (8, [.ref bp, .int n, .int at_, .int w_, .int fl])), (bp, .inl (G.2.2 0, 400, .inl bf))] ++ wt) := hD
    exact W.iret (v := (-1)) hx hb hr (gq_endI (n, bf, wt) ⟨hT, hW, (by omega), (by omega)⟩ hP9 hD9 hS) hS.2.2 dX11_feed_17
set_option maxHeartbeats 4000000 in
set_option maxRecDepth 100000 in
theorem d_end (l : Launch) (G : gg_T) (Γ : Nat → Nat) (sz : Nat) (wt : va_W) (hT : tk_ty G Γ wt) (b : Int32) (tp : Nat) (bp : Nat) (n : Int32) (at_ : Int32) (w_ : Int32) (fl : Int32) (bf : Nat → Int32) (h0 : Nat) (ra1 : Nat) (ra2 : Nat) (ra3 : Nat) (ra4 : Nat) (ra5 : Nat) (ra6 : Nat) (ra7 : Nat) (ra8 : Nat) (ra9 : Nat) (ra10 : Nat) (ra11 : Nat) (ra12 : Nat) (rc : Int32) (fo : Int32) (xx : Int32) (xp1 : 0 ≤ n.toInt) (xp2 : n.toInt ≤ 400) (xp3 : 0 ≤ at_.toInt) (xp4 : 0 ≤ w_.toInt) (xp5 : at_.toInt + w_.toInt ≤ 400) (kr1 : Γ ra1 = 10) (kr2 : Γ ra2 = 10) (kr3 : Γ ra3 = 8) (kr4 : Γ ra4 = 8) (kr5 : Γ ra5 = 4) (kr6 : Γ ra6 = 3) (kr7 : Γ ra7 = 41) (kr9 : Γ ra9 = 1) (kr10 : Γ ra10 = 6) (kr11 : Γ ra11 = 11) (kr12 : Γ ra12 = 7) (xr1 : 0 ≤ rc.toInt) (xr2 : rc.toInt ≤ 6) : Met l yX11_end (ts_L yX11_end cX11_end 2 (some .int)) ({ frames := 1, cells := 0, slots := 0, locals := 21 }) (gc_P G ([(h0, .inr (11, [.ref tp, .ref ra1, .ref ra2, .ref ra3, .ref ra4, .ref ra5, .ref ra6, .ref ra7, .ref ra8, .ref ra9, .ref ra10, .ref ra11, .ref ra12, .int rc, .int fo, .int xx])), (tp, .inr (8, [.ref bp, .int n, .int at_, .int w_, .int fl])), (bp, .inl (G.2.2 0, 400, .inl bf))] ++ wt) sz [.ref h0, .int b]) (gc_I G (va_A ([(h0, .inr (11, [.ref tp, .ref ra1, .ref ra2, .ref ra3, .ref ra4, .ref ra5, .ref ra6, .ref ra7, .ref ra8, .ref ra9, .ref ra10, .ref ra11, .ref ra12, .int rc, .int fo, .int xx])), (tp, .inr (8, [.ref bp, .int n, .int at_, .int w_, .int fl])), (bp, .inl (G.2.2 0, 400, .inl bf))] ++ wt) sz) (fun r (u : (Int32) × va_W) => match u with | (n1, wt1) => tk_ty G Γ wt1 ∧ tk_kp [] wt wt1 ∧ 0 ≤ n1.toInt ∧ n1.toInt ≤ 400) (fun (u : (Int32) × va_W) => match u with | (n1, wt1) => [(h0, .inr (11, [.ref tp, .ref ra1, .ref ra2, .ref ra3, .ref ra4, .ref ra5, .ref ra6, .ref ra7, .ref ra8, .ref ra9, .ref ra10, .ref ra11, .ref ra12, .int rc, .int fo, .int xx])), (tp, .inr (8, [.ref bp, .int n1, .int at_, .int w_, .int fl])), (bp, .inl (G.2.2 0, 400, .inl bf))] ++ wt1)) 0 0 (va_A ([(h0, .inr (11, [.ref tp, .ref ra1, .ref ra2, .ref ra3, .ref ra4, .ref ra5, .ref ra6, .ref ra7, .ref ra8, .ref ra9, .ref ra10, .ref ra11, .ref ra12, .int rc, .int fo, .int xx])), (tp, .inr (8, [.ref bp, .int n, .int at_, .int w_, .int fl])), (bp, .inl (G.2.2 0, 400, .inl bf))] ++ wt) sz) := by
  refine Met.ofW (cc := cX11_end) (maxL := 2) (ret := (some .int)) (by decide) rfl ?_
  intro p e s m args below meth c s₁ B hml hv
  obtain ⟨rfl, hsz, hP, hK, hD0⟩ := hv
  have hx := B.exec
  have hb := B.bytes
  have hr := B.returns
  have ht := ts_ht (atoms_spec (ws := ts_L yX11_end cX11_end 2 (some .int)) B.pre)
  have hown : s.vm.findClass RX11 = some m.cls := findClass_of_methodNamed B.named
  have hlocks := B.notSynchronized
  subst hsz
  have hD := hD0.self (sz := s.heap.size)
  generalize hAe : va_A ([(h0, .inr (11, [.ref tp, .ref ra1, .ref ra2, .ref ra3, .ref ra4, .ref ra5, .ref ra6, .ref ra7, .ref ra8, .ref ra9, .ref ra10, .ref ra11, .ref ra12, .int rc, .int fo, .int xx])), (tp, .inr (8, [.ref bp, .int n, .int at_, .int w_, .int fl])), (bp, .inl (G.2.2 0, 400, .inl bf))] ++ wt) s.heap.size = A at hD ⊢
  have hA : ∀ q : Nat, s.heap.size ≤ q → A q := fun q h => by rw [← hAe]; exact Or.inr h
  clear hAe hD0
  have hS : va_S A s.heap s.heap [] := va_S.rf
  obtain ⟨w0, hw0⟩ : ∃ z, z = wt := ⟨_, rfl⟩
  have hW : tk_kp [] w0 wt := by rw [hw0]; exact tk_kp.rf
  rw [← hw0]
  clear hw0
  have hP : va_P (gg_D G) classes ([(h0, .inr (11, [.ref tp, .ref ra1, .ref ra2, .ref ra3, .ref ra4, .ref ra5, .ref ra6, .ref ra7, .ref ra8, .ref ra9, .ref ra10, .ref ra11, .ref ra12, .int rc, .int fo, .int xx])), (tp, .inr (8, [.ref bp, .int n, .int at_, .int w_, .int fl])), (bp, .inl (G.2.2 0, 400, .inl bf))] ++ wt) s.heap := hP
  have hD : va_D A ([(h0, .inr (11, [.ref tp, .ref ra1, .ref ra2, .ref ra3, .ref ra4, .ref ra5, .ref ra6, .ref ra7, .ref ra8, .ref ra9, .ref ra10, .ref ra11, .ref ra12, .int rc, .int fo, .int xx])), (tp, .inr (8, [.ref bp, .int n, .int at_, .int w_, .int fl])), (bp, .inl (G.2.2 0, 400, .inl bf))] ++ wt) := hD
  have hl := lv_entry ([.ref h0, .int b]) (n := 2) (Nat.le_of_ble_eq_true rfl)
  rw [lg_entry_eq]
  generalize (lg_sl ([.ref h0, .int b]) ++ List.replicate (2 - (lg_sl ([.ref h0, .int b])).length) Slot.unset).toArray = ls at hl ⊢
  have hl : lv_has ls 2 [(0, .ref h0), (1, .int b)] := hl
  have lm1 : ((-1) : Int32).toInt = -1 := by decide +kernel
  have l0 : (0 : Int32).toInt = 0 := by decide +kernel
  refine lv_iload_n hx hb dX11_end_0 rfl (lv_at hl 1 rfl) ?_
  refine lv_if_lt (tgt := 15) hx hb dX11_end_1 (by decide) (fun c_1 => ?_) (fun c_1 => ?_)
  · rw [Int32.lt_iff_toInt_lt] at c_1
    refine lv_iconst (v := (-1)) hx hb dX11_end_15 (by decide +kernel) ?_
    have hP9 : va_P (gg_D G) classes ([(h0, .inr (11, [.ref tp, .ref ra1, .ref ra2, .ref ra3, .ref ra4, .ref ra5, .ref ra6, .ref ra7, .ref ra8, .ref ra9, .ref ra10, .ref ra11, .ref ra12, .int rc, .int fo, .int xx])), (tp, .inr (8, [.ref bp, .int n, .int at_, .int w_, .int fl])), (bp, .inl (G.2.2 0, 400, .inl bf))] ++ wt) _ := hP
    have hD9 : va_D A ([(h0, .inr (11, [.ref tp, .ref ra1, .ref ra2, .ref ra3, .ref ra4, .ref ra5, .ref ra6, .ref ra7, .ref ra8, .ref ra9, .ref ra10, .ref ra11, .ref ra12, .int rc, .int fo, .int xx])), (tp, .inr (8, [.ref bp, .int n, .int at_, .int w_, .int fl])), (bp, .inl (G.2.2 0, 400, .inl bf))] ++ wt) := hD
    exact W.iret (v := (-1)) hx hb hr (gq_endI (n, wt) ⟨hT, hW, (by omega), (by omega)⟩ hP9 hD9 hS) hS.2.2 dX11_end_16
  · rw [Int32.lt_iff_toInt_lt] at c_1
    refine lv_iload_n hx hb dX11_end_4 rfl (lv_at hl 1 rfl) ?_
    refine lv_aload_n hx hb dX11_end_5 rfl (lv_at hl 0 rfl) ?_
    refine gq_get hx hb ht hown hK hP i_X11 0 rfl rfl 0 (by decide) wd_497 rfl rfl dX11_end_6 ?_
    have hP : va_P (gg_D G) classes ([(h0, .inr (11, [.ref tp, .ref ra1, .ref ra2, .ref ra3, .ref ra4, .ref ra5, .ref ra6, .ref ra7, .ref ra8, .ref ra9, .ref ra10, .ref ra11, .ref ra12, .int rc, .int fo, .int xx]))] ++ ([(tp, .inr (8, [.ref bp, .int n, .int at_, .int w_, .int fl])), (bp, .inl (G.2.2 0, 400, .inl bf))] ++ wt)) s.heap := hP
    have hD : va_D A ([(h0, .inr (11, [.ref tp, .ref ra1, .ref ra2, .ref ra3, .ref ra4, .ref ra5, .ref ra6, .ref ra7, .ref ra8, .ref ra9, .ref ra10, .ref ra11, .ref ra12, .int rc, .int fo, .int xx]))] ++ ([(tp, .inr (8, [.ref bp, .int n, .int at_, .int w_, .int fl])), (bp, .inl (G.2.2 0, 400, .inl bf))] ++ wt)) := hD
    refine gt_callI (wr := [(h0, .inr (11, [.ref tp, .ref ra1, .ref ra2, .ref ra3, .ref ra4, .ref ra5, .ref ra6, .ref ra7, .ref ra8, .ref ra9, .ref ra10, .ref ra11, .ref ra12, .int rc, .int fo, .int xx]))]) (va_runV (As := []) (rest := [.int b]) ⟨hx, hb, hml, hown, ht⟩ (d_size l G Γ s.heap.size wt hT tp bp n at_ w_ fl bf (by first | assumption | omega) (by first | assumption | omega) (by first | assumption | omega) (by first | assumption | omega) (by first | assumption | omega)) (cwV 0 ht (ts_gV wd_550 wd_551 wd_552 wd_123 wd_553) rfl rfl rfl (by decide +kernel) ⟨Nat.le_of_ble_eq_true rfl, Nat.le_of_ble_eq_true rfl⟩) (gc_preV (ci := 8) (q0 := 0) hK (tw_right hP) (tw_rightD hD) rfl rfl) rfl rfl hl.1 rfl (lv_room (Nat.le_of_ble_eq_true rfl)) dX11_end_9 ⟨Nat.le_of_ble_eq_true rfl, Nat.le_of_ble_eq_true rfl⟩) hP hD hS hA (fun r_2 wt H locs hw hP hD hS => ?_)
    obtain ⟨hT, hkp, lo_r_2, hi_r_2⟩ := hw
    have hW := hW.call (show ∀ x ∈ [], x ∈ [] by decide) hkp
    have hP : va_P (gg_D G) classes ([(h0, .inr (11, [.ref tp, .ref ra1, .ref ra2, .ref ra3, .ref ra4, .ref ra5, .ref ra6, .ref ra7, .ref ra8, .ref ra9, .ref ra10, .ref ra11, .ref ra12, .int rc, .int fo, .int xx])), (tp, .inr (8, [.ref bp, .int n, .int at_, .int w_, .int fl])), (bp, .inl (G.2.2 0, 400, .inl bf))] ++ wt) H := hP
    have hD : va_D A ([(h0, .inr (11, [.ref tp, .ref ra1, .ref ra2, .ref ra3, .ref ra4, .ref ra5, .ref ra6, .ref ra7, .ref ra8, .ref ra9, .ref ra10, .ref ra11, .ref ra12, .int rc, .int fo, .int xx])), (tp, .inr (8, [.ref bp, .int n, .int at_, .int w_, .int fl])), (bp, .inl (G.2.2 0, 400, .inl bf))] ++ wt) := hD
    refine lv_icmp_le (tgt := 17) hx hb dX11_end_12 (by decide) (fun c_3 => ?_) (fun c_3 => ?_)
    · rw [Int32.le_iff_toInt_le] at c_3
      refine lv_aload_n hx hb dX11_end_17 rfl (lv_at hl 0 rfl) ?_
      refine gq_get hx hb ht hown hK hP i_X11 0 rfl rfl 0 (by decide) wd_497 rfl rfl dX11_end_18 ?_
      refine lv_iload_n hx hb dX11_end_21 rfl (lv_at hl 1 rfl) ?_
      have hP : va_P (gg_D G) classes ([(h0, .inr (11, [.ref tp, .ref ra1, .ref ra2, .ref ra3, .ref ra4, .ref ra5, .ref ra6, .ref ra7, .ref ra8, .ref ra9, .ref ra10, .ref ra11, .ref ra12, .int rc, .int fo, .int xx]))] ++ ([(tp, .inr (8, [.ref bp, .int n, .int at_, .int w_, .int fl])), (bp, .inl (G.2.2 0, 400, .inl bf))] ++ wt)) H := hP
      have hD : va_D A ([(h0, .inr (11, [.ref tp, .ref ra1, .ref ra2, .ref ra3, .ref ra4, .ref ra5, .ref ra6, .ref ra7, .ref ra8, .ref ra9, .ref ra10, .ref ra11, .ref ra12, .int rc, .int fo, .int xx]))] ++ ([(tp, .inr (8, [.ref bp, .int n, .int at_, .int w_, .int fl])), (bp, .inl (G.2.2 0, 400, .inl bf))] ++ wt)) := hD
      refine gt_callV (wr := [(h0, .inr (11, [.ref tp, .ref ra1, .ref ra2, .ref ra3, .ref ra4, .ref ra5, .ref ra6, .ref ra7, .ref ra8, .ref ra9, .ref ra10, .ref ra11, .ref ra12, .int rc, .int fo, .int xx]))]) (va_runV (As := [.int b]) (rest := []) ⟨hx, hb, hml, hown, ht⟩ (d_cut l G Γ H.size wt hT b tp bp n at_ w_ fl bf (by first | assumption | omega) (by first | assumption | omega) (by first | assumption | omega) (by first | assumption | omega) (by first | assumption | omega)) (cwV 1 ht (ts_gV wd_562 wd_563 wd_564 wd_123 wd_565) rfl rfl rfl (by decide +kernel) ⟨Nat.le_of_ble_eq_true rfl, Nat.le_of_ble_eq_true rfl⟩) (gc_preV (ci := 8) (q0 := 0) hK (tw_right hP) (tw_rightD hD) rfl rfl) rfl rfl hl.1 rfl (lv_room (Nat.le_of_ble_eq_true rfl)) dX11_end_22 ⟨Nat.le_of_ble_eq_true rfl, Nat.le_of_ble_eq_true rfl⟩) hP hD hS hA (fun u H locs hw hP hD hS => ?_)
      obtain ⟨y_4, wt⟩ := u
      obtain ⟨hT, hkp, w_5, w_6⟩ := hw
      have hW := hW.call (show ∀ x ∈ [], x ∈ [] by decide) hkp
      have hP : va_P (gg_D G) classes ([(h0, .inr (11, [.ref tp, .ref ra1, .ref ra2, .ref ra3, .ref ra4, .ref ra5, .ref ra6, .ref ra7, .ref ra8, .ref ra9, .ref ra10, .ref ra11, .ref ra12, .int rc, .int fo, .int xx])), (tp, .inr (8, [.ref bp, .int y_4, .int at_, .int w_, .int fl])), (bp, .inl (G.2.2 0, 400, .inl bf))] ++ wt) H := hP
      have hD : va_D A ([(h0, .inr (11, [.ref tp, .ref ra1, .ref ra2, .ref ra3, .ref ra4, .ref ra5, .ref ra6, .ref ra7, .ref ra8, .ref ra9, .ref ra10, .ref ra11, .ref ra12, .int rc, .int fo, .int xx])), (tp, .inr (8, [.ref bp, .int y_4, .int at_, .int w_, .int fl])), (bp, .inl (G.2.2 0, 400, .inl bf))] ++ wt) := hD
      refine lv_iload_n hx hb dX11_end_25 rfl (lv_at hl 1 rfl) ?_
      have hP9 : va_P (gg_D G) classes ([(h0, .inr (11, [.ref tp, .ref ra1, .ref ra2, .ref ra3, .ref ra4, .ref ra5, .ref ra6, .ref ra7, .ref ra8, .ref ra9, .ref ra10, .ref ra11, .ref ra12, .int rc, .int fo, .int xx])), (tp, .inr (8, [.ref bp, .int y_4, .int at_, .int w_, .int fl])), (bp, .inl (G.2.2 0, 400, .inl bf))] ++ wt) _ := hP
      have hD9 : va_D A ([(h0, .inr (11, [.ref tp, .ref ra1, .ref ra2, .ref ra3, .ref ra4, .ref ra5, .ref ra6, .ref ra7, .ref ra8, .ref ra9, .ref ra10, .ref ra11, .ref ra12, .int rc, .int fo, .int xx])), (tp, .inr (8, [.ref bp, .int y_4, .int at_, .int w_, .int fl])), (bp, .inl (G.2.2 0, 400, .inl bf))] ++ wt) := hD
      exact W.iret (v := b) hx hb hr (gq_endI (y_4, wt) ⟨hT, hW, (by omega), (by omega)⟩ hP9 hD9 hS) hS.2.2 dX11_end_26
    · rw [Int32.le_iff_toInt_le] at c_3
      refine lv_iconst (v := (-1)) hx hb dX11_end_15 (by decide +kernel) ?_
      have hP9 : va_P (gg_D G) classes ([(h0, .inr (11, [.ref tp, .ref ra1, .ref ra2, .ref ra3, .ref ra4, .ref ra5, .ref ra6, .ref ra7, .ref ra8, .ref ra9, .ref ra10, .ref ra11, .ref ra12, .int rc, .int fo, .int xx])), (tp, .inr (8, [.ref bp, .int n, .int at_, .int w_, .int fl])), (bp, .inl (G.2.2 0, 400, .inl bf))] ++ wt) _ := hP
      have hD9 : va_D A ([(h0, .inr (11, [.ref tp, .ref ra1, .ref ra2, .ref ra3, .ref ra4, .ref ra5, .ref ra6, .ref ra7, .ref ra8, .ref ra9, .ref ra10, .ref ra11, .ref ra12, .int rc, .int fo, .int xx])), (tp, .inr (8, [.ref bp, .int n, .int at_, .int w_, .int fl])), (bp, .inl (G.2.2 0, 400, .inl bf))] ++ wt) := hD
      exact W.iret (v := (-1)) hx hb hr (gq_endI (n, wt) ⟨hT, hW, (by omega), (by omega)⟩ hP9 hD9 hS) hS.2.2 dX11_end_16
set_option maxHeartbeats 4000000 in
set_option maxRecDepth 100000 in
theorem d_sale (l : Launch) (G : gg_T) (Γ : Nat → Nat) (sz : Nat) (wt : va_W) (hT : tk_ty G Γ wt) (K : Nat → Nat) (V : Nat → Nat) (tp : Nat) (bp : Nat) (n : Int32) (at_ : Int32) (w_ : Int32) (fl : Int32) (bf : Nat → Int32) (h0 : Nat) (ra1 : Nat) (ra2 : Nat) (ra3 : Nat) (ra4 : Nat) (ra5 : Nat) (ra6 : Nat) (ra7 : Nat) (ra8 : Nat) (ra9 : Nat) (ra10 : Nat) (ra11 : Nat) (ra12 : Nat) (rc : Int32) (fo : Int32) (xx : Int32) (xp1 : 0 ≤ n.toInt) (xp2 : n.toInt ≤ 400) (xp3 : 0 ≤ at_.toInt) (xp4 : 0 ≤ w_.toInt) (xp5 : at_.toInt + w_.toInt ≤ 400) (kr1 : Γ ra1 = 10) (kr2 : Γ ra2 = 10) (kr3 : Γ ra3 = 8) (kr4 : Γ ra4 = 8) (kr5 : Γ ra5 = 4) (kr6 : Γ ra6 = 3) (kr7 : Γ ra7 = 41) (kr9 : Γ ra9 = 1) (kr10 : Γ ra10 = 6) (kr11 : Γ ra11 = 11) (kr12 : Γ ra12 = 7) (xr1 : 0 ≤ rc.toInt) (xr2 : rc.toInt ≤ 6) : Met l yX11_sale (ts_L yX11_sale cX11_sale 2 (some .int)) ({ frames := 7, cells := 0, slots := 0, locals := 156 }) (gx_P G K V ([(h0, .inr (11, [.ref tp, .ref ra1, .ref ra2, .ref ra3, .ref ra4, .ref ra5, .ref ra6, .ref ra7, .ref ra8, .ref ra9, .ref ra10, .ref ra11, .ref ra12, .int rc, .int fo, .int xx])), (tp, .inr (8, [.ref bp, .int n, .int at_, .int w_, .int fl])), (bp, .inl (G.2.2 0, 400, .inl bf))] ++ wt) sz [.ref h0]) (gc_I G (va_A ([(h0, .inr (11, [.ref tp, .ref ra1, .ref ra2, .ref ra3, .ref ra4, .ref ra5, .ref ra6, .ref ra7, .ref ra8, .ref ra9, .ref ra10, .ref ra11, .ref ra12, .int rc, .int fo, .int xx])), (tp, .inr (8, [.ref bp, .int n, .int at_, .int w_, .int fl])), (bp, .inl (G.2.2 0, 400, .inl bf))] ++ wt) sz) (fun r (u : (Int32) × (Int32) × (Int32) × (Int32) × va_W) => match u with | (n1, a1, w1, f1, wt1) => tk_ty G Γ wt1 ∧ tk_kp [203, 302, 709, 900, 901, 902, 903] wt wt1 ∧ 0 ≤ n1.toInt ∧ n1.toInt ≤ 400 ∧ 0 ≤ a1.toInt ∧ 0 ≤ w1.toInt ∧ a1.toInt + w1.toInt ≤ 400) (fun (u : (Int32) × (Int32) × (Int32) × (Int32) × va_W) => match u with | (n1, a1, w1, f1, wt1) => [(h0, .inr (11, [.ref tp, .ref ra1, .ref ra2, .ref ra3, .ref ra4, .ref ra5, .ref ra6, .ref ra7, .ref ra8, .ref ra9, .ref ra10, .ref ra11, .ref ra12, .int rc, .int fo, .int xx])), (tp, .inr (8, [.ref bp, .int n1, .int a1, .int w1, .int f1])), (bp, .inl (G.2.2 0, 400, .inl bf))] ++ wt1)) 0 0 (va_A ([(h0, .inr (11, [.ref tp, .ref ra1, .ref ra2, .ref ra3, .ref ra4, .ref ra5, .ref ra6, .ref ra7, .ref ra8, .ref ra9, .ref ra10, .ref ra11, .ref ra12, .int rc, .int fo, .int xx])), (tp, .inr (8, [.ref bp, .int n, .int at_, .int w_, .int fl])), (bp, .inl (G.2.2 0, 400, .inl bf))] ++ wt) sz) := by
  refine Met.ofW (cc := cX11_sale) (maxL := 2) (ret := (some .int)) (by decide) rfl ?_
  intro p e s m args below meth c s₁ B hml hv
  obtain ⟨rfl, hsz, hP, hK, hD0, hX⟩ := hv
  have hx := B.exec
  have hb := B.bytes
  have hr := B.returns
  have ht := ts_ht (atoms_spec (ws := ts_L yX11_sale cX11_sale 2 (some .int)) B.pre)
  have hown : s.vm.findClass RX11 = some m.cls := findClass_of_methodNamed B.named
  have hlocks := B.notSynchronized
  subst hsz
  have hD := hD0.self (sz := s.heap.size)
  generalize hAe : va_A ([(h0, .inr (11, [.ref tp, .ref ra1, .ref ra2, .ref ra3, .ref ra4, .ref ra5, .ref ra6, .ref ra7, .ref ra8, .ref ra9, .ref ra10, .ref ra11, .ref ra12, .int rc, .int fo, .int xx])), (tp, .inr (8, [.ref bp, .int n, .int at_, .int w_, .int fl])), (bp, .inl (G.2.2 0, 400, .inl bf))] ++ wt) s.heap.size = A at hD hX ⊢
  have hA : ∀ q : Nat, s.heap.size ≤ q → A q := fun q h => by rw [← hAe]; exact Or.inr h
  clear hAe hD0
  have hS : va_S A s.heap s.heap [] := va_S.rf
  obtain ⟨w0, hw0⟩ : ∃ z, z = wt := ⟨_, rfl⟩
  have hW : tk_kp [203, 302, 709, 900, 901, 902, 903] w0 wt := by rw [hw0]; exact tk_kp.rf
  rw [← hw0]
  clear hw0
  have hP : va_P (gg_D G) classes ([(h0, .inr (11, [.ref tp, .ref ra1, .ref ra2, .ref ra3, .ref ra4, .ref ra5, .ref ra6, .ref ra7, .ref ra8, .ref ra9, .ref ra10, .ref ra11, .ref ra12, .int rc, .int fo, .int xx])), (tp, .inr (8, [.ref bp, .int n, .int at_, .int w_, .int fl])), (bp, .inl (G.2.2 0, 400, .inl bf))] ++ wt) s.heap := hP
  have hD : va_D A ([(h0, .inr (11, [.ref tp, .ref ra1, .ref ra2, .ref ra3, .ref ra4, .ref ra5, .ref ra6, .ref ra7, .ref ra8, .ref ra9, .ref ra10, .ref ra11, .ref ra12, .int rc, .int fo, .int xx])), (tp, .inr (8, [.ref bp, .int n, .int at_, .int w_, .int fl])), (bp, .inl (G.2.2 0, 400, .inl bf))] ++ wt) := hD
  have hl := lv_entry ([.ref h0]) (n := 2) (Nat.le_of_ble_eq_true rfl)
  rw [lg_entry_eq]
  generalize (lg_sl ([.ref h0]) ++ List.replicate (2 - (lg_sl ([.ref h0])).length) Slot.unset).toArray = ls at hl ⊢
  have hl : lv_has ls 2 [(0, .ref h0)] := hl
  have l0 : (0 : Int32).toInt = 0 := by decide +kernel
  refine lv_aload_n hx hb dX11_sale_0 rfl (lv_at hl 0 rfl) ?_
  refine gq_get hx hb ht hown hK hP i_X11 0 rfl rfl 2 (by decide) wd_499 rfl rfl dX11_sale_1 ?_
  refine lv_aload_n hx hb dX11_sale_4 rfl (lv_at hl 0 rfl) ?_
  refine gq_get hx hb ht hown hK hP i_X11 0 rfl rfl 0 (by decide) wd_497 rfl rfl dX11_sale_5 ?_
  have hP : va_P (gg_D G) classes ([(h0, .inr (11, [.ref tp, .ref ra1, .ref ra2, .ref ra3, .ref ra4, .ref ra5, .ref ra6, .ref ra7, .ref ra8, .ref ra9, .ref ra10, .ref ra11, .ref ra12, .int rc, .int fo, .int xx]))] ++ ([(tp, .inr (8, [.ref bp, .int n, .int at_, .int w_, .int fl])), (bp, .inl (G.2.2 0, 400, .inl bf))] ++ wt)) s.heap := hP
  have hD : va_D A ([(h0, .inr (11, [.ref tp, .ref ra1, .ref ra2, .ref ra3, .ref ra4, .ref ra5, .ref ra6, .ref ra7, .ref ra8, .ref ra9, .ref ra10, .ref ra11, .ref ra12, .int rc, .int fo, .int xx]))] ++ ([(tp, .inr (8, [.ref bp, .int n, .int at_, .int w_, .int fl])), (bp, .inl (G.2.2 0, 400, .inl bf))] ++ wt)) := hD
  refine gt_callI (wr := [(h0, .inr (11, [.ref tp, .ref ra1, .ref ra2, .ref ra3, .ref ra4, .ref ra5, .ref ra6, .ref ra7, .ref ra8, .ref ra9, .ref ra10, .ref ra11, .ref ra12, .int rc, .int fo, .int xx]))]) (va_runV (As := [.ref tp]) (rest := []) ⟨hx, hb, hml, hown, ht⟩ (d_readSale l G Γ s.heap.size wt hT K V ra2 tp bp n at_ w_ fl bf kr2 (by first | assumption | omega) (by first | assumption | omega) (by first | assumption | omega) (by first | assumption | omega) (by first | assumption | omega)) (cwV 1 ht (ts_gV wd_570 wd_571 wd_572 wd_124 wd_573) rfl rfl rfl (by decide +kernel) ⟨Nat.le_of_ble_eq_true rfl, Nat.le_of_ble_eq_true rfl⟩) (gx_preW (we := [(tp, .inr (8, [.ref bp, .int n, .int at_, .int w_, .int fl])), (bp, .inl (G.2.2 0, 400, .inl bf))]) (ci := 9) hK hT (tw_right hP) (tw_rightD hD) hX hS (tw_free hD hS hA) kr2 (by decide) rfl) rfl rfl hl.1 rfl (lv_room (Nat.le_of_ble_eq_true rfl)) dX11_sale_8 ⟨Nat.le_of_ble_eq_true rfl, Nat.le_of_ble_eq_true rfl⟩) hP hD hS hA (fun r_1 u H locs hw hP hD hS => ?_)
  obtain ⟨y_2, y_3, y_4, wt⟩ := u
  obtain ⟨hT, hkp, w_5, w_6, w_7⟩ := hw
  have hW := hW.call (show ∀ x ∈ [900, 901, 902, 903], x ∈ [203, 302, 709, 900, 901, 902, 903] by decide) hkp
  have hP : va_P (gg_D G) classes ([(h0, .inr (11, [.ref tp, .ref ra1, .ref ra2, .ref ra3, .ref ra4, .ref ra5, .ref ra6, .ref ra7, .ref ra8, .ref ra9, .ref ra10, .ref ra11, .ref ra12, .int rc, .int fo, .int xx])), (tp, .inr (8, [.ref bp, .int n, .int y_2, .int y_3, .int y_4])), (bp, .inl (G.2.2 0, 400, .inl bf))] ++ wt) H := hP
  have hD : va_D A ([(h0, .inr (11, [.ref tp, .ref ra1, .ref ra2, .ref ra3, .ref ra4, .ref ra5, .ref ra6, .ref ra7, .ref ra8, .ref ra9, .ref ra10, .ref ra11, .ref ra12, .int rc, .int fo, .int xx])), (tp, .inr (8, [.ref bp, .int n, .int y_2, .int y_3, .int y_4])), (bp, .inl (G.2.2 0, 400, .inl bf))] ++ wt) := hD
  refine lv_istore_n (lv' := [(1, .int r_1), (0, .ref h0)]) hx hb dX11_sale_11 rfl hl (by decide) rfl (fun ls hl => ?_)
  refine lv_iload_n hx hb dX11_sale_12 rfl (lv_at hl 0 rfl) ?_
  refine lv_if_eq (tgt := 21) hx hb dX11_sale_13 (by decide) (fun c_8 => ?_) (fun c_8 => ?_)
  · rw [← Int32.toInt_inj] at c_8
    refine lv_aload_n hx hb dX11_sale_21 rfl (lv_at hl 1 rfl) ?_
    refine gq_get hx hb ht hown hK hP i_X11 0 rfl rfl 0 (by decide) wd_497 rfl rfl dX11_sale_22 ?_
    refine lv_iconst (v := 0) hx hb dX11_sale_25 (by decide +kernel) ?_
    have hP : va_P (gg_D G) classes ([(h0, .inr (11, [.ref tp, .ref ra1, .ref ra2, .ref ra3, .ref ra4, .ref ra5, .ref ra6, .ref ra7, .ref ra8, .ref ra9, .ref ra10, .ref ra11, .ref ra12, .int rc, .int fo, .int xx]))] ++ ([(tp, .inr (8, [.ref bp, .int n, .int y_2, .int y_3, .int y_4])), (bp, .inl (G.2.2 0, 400, .inl bf))] ++ wt)) H := hP
    have hD : va_D A ([(h0, .inr (11, [.ref tp, .ref ra1, .ref ra2, .ref ra3, .ref ra4, .ref ra5, .ref ra6, .ref ra7, .ref ra8, .ref ra9, .ref ra10, .ref ra11, .ref ra12, .int rc, .int fo, .int xx]))] ++ ([(tp, .inr (8, [.ref bp, .int n, .int y_2, .int y_3, .int y_4])), (bp, .inl (G.2.2 0, 400, .inl bf))] ++ wt)) := hD
    refine gt_callV (wr := [(h0, .inr (11, [.ref tp, .ref ra1, .ref ra2, .ref ra3, .ref ra4, .ref ra5, .ref ra6, .ref ra7, .ref ra8, .ref ra9, .ref ra10, .ref ra11, .ref ra12, .int rc, .int fo, .int xx]))]) (va_runV (As := [.int 0]) (rest := []) ⟨hx, hb, hml, hown, ht⟩ (d_cut l G Γ H.size wt hT 0 tp bp n y_2 y_3 y_4 bf (by first | assumption | omega) (by first | assumption | omega) (by first | assumption | omega) (by first | assumption | omega) (by first | assumption | omega)) (cwV 1 ht (ts_gV wd_562 wd_563 wd_564 wd_123 wd_565) rfl rfl rfl (by decide +kernel) ⟨Nat.le_of_ble_eq_true rfl, Nat.le_of_ble_eq_true rfl⟩) (gc_preV (ci := 8) (q0 := 0) hK (tw_right hP) (tw_rightD hD) rfl rfl) rfl rfl hl.1 rfl (lv_room (Nat.le_of_ble_eq_true rfl)) dX11_sale_26 ⟨Nat.le_of_ble_eq_true rfl, Nat.le_of_ble_eq_true rfl⟩) hP hD hS hA (fun u H locs hw hP hD hS => ?_)
    obtain ⟨y_9, wt⟩ := u
    obtain ⟨hT, hkp, w_10, w_11⟩ := hw
    have hW := hW.call (show ∀ x ∈ [], x ∈ [203, 302, 709, 900, 901, 902, 903] by decide) hkp
    have hP : va_P (gg_D G) classes ([(h0, .inr (11, [.ref tp, .ref ra1, .ref ra2, .ref ra3, .ref ra4, .ref ra5, .ref ra6, .ref ra7, .ref ra8, .ref ra9, .ref ra10, .ref ra11, .ref ra12, .int rc, .int fo, .int xx])), (tp, .inr (8, [.ref bp, .int y_9, .int y_2, .int y_3, .int y_4])), (bp, .inl (G.2.2 0, 400, .inl bf))] ++ wt) H := hP
    have hD : va_D A ([(h0, .inr (11, [.ref tp, .ref ra1, .ref ra2, .ref ra3, .ref ra4, .ref ra5, .ref ra6, .ref ra7, .ref ra8, .ref ra9, .ref ra10, .ref ra11, .ref ra12, .int rc, .int fo, .int xx])), (tp, .inr (8, [.ref bp, .int y_9, .int y_2, .int y_3, .int y_4])), (bp, .inl (G.2.2 0, 400, .inl bf))] ++ wt) := hD
    refine lv_aload_n hx hb dX11_sale_29 rfl (lv_at hl 1 rfl) ?_
    refine gq_get hx hb ht hown hK hP i_X11 0 rfl rfl 1 (by decide) wd_498 rfl rfl dX11_sale_30 ?_
    refine lv_aload_n hx hb dX11_sale_33 rfl (lv_at hl 1 rfl) ?_
    refine gq_get hx hb ht hown hK hP i_X11 0 rfl rfl 2 (by decide) wd_499 rfl rfl dX11_sale_34 ?_
    refine gt_callV (wr := [(h0, .inr (11, [.ref tp, .ref ra1, .ref ra2, .ref ra3, .ref ra4, .ref ra5, .ref ra6, .ref ra7, .ref ra8, .ref ra9, .ref ra10, .ref ra11, .ref ra12, .int rc, .int fo, .int xx])), (tp, .inr (8, [.ref bp, .int y_9, .int y_2, .int y_3, .int y_4])), (bp, .inl (G.2.2 0, 400, .inl bf))]) (va_runV (As := [.ref ra2]) (rest := []) ⟨hx, hb, hml, hown, ht⟩ (d_T_copyFrom l G Γ H.size wt hT ra1 ra2 kr1 kr2) (cwV 1 ht (ts_gV wd_688 wd_689 wd_690 wd_124 wd_691) rfl rfl rfl (by decide +kernel) ⟨Nat.le_of_ble_eq_true rfl, Nat.le_of_ble_eq_true rfl⟩) (gt_preW (ci := 9) hK hT (tw_right hP) (tw_rightD hD) kr1 (by decide) rfl) rfl rfl hl.1 rfl (lv_room (Nat.le_of_ble_eq_true rfl)) dX11_sale_37 ⟨Nat.le_of_ble_eq_true rfl, Nat.le_of_ble_eq_true rfl⟩) hP hD hS hA (fun wt H locs hw hP hD hS => ?_)
    obtain ⟨hT, hkp⟩ := hw
    have hW := hW.call (show ∀ x ∈ [900, 901, 902, 903], x ∈ [203, 302, 709, 900, 901, 902, 903] by decide) hkp
    have hP : va_P (gg_D G) classes ([(h0, .inr (11, [.ref tp, .ref ra1, .ref ra2, .ref ra3, .ref ra4, .ref ra5, .ref ra6, .ref ra7, .ref ra8, .ref ra9, .ref ra10, .ref ra11, .ref ra12, .int rc, .int fo, .int xx])), (tp, .inr (8, [.ref bp, .int y_9, .int y_2, .int y_3, .int y_4])), (bp, .inl (G.2.2 0, 400, .inl bf))] ++ wt) H := hP
    have hD : va_D A ([(h0, .inr (11, [.ref tp, .ref ra1, .ref ra2, .ref ra3, .ref ra4, .ref ra5, .ref ra6, .ref ra7, .ref ra8, .ref ra9, .ref ra10, .ref ra11, .ref ra12, .int rc, .int fo, .int xx])), (tp, .inr (8, [.ref bp, .int y_9, .int y_2, .int y_3, .int y_4])), (bp, .inl (G.2.2 0, 400, .inl bf))] ++ wt) := hD
    refine lv_aload_n hx hb dX11_sale_40 rfl (lv_at hl 1 rfl) ?_
    refine gq_get hx hb ht hown hK hP i_X11 0 rfl rfl 3 (by decide) wd_500 rfl rfl dX11_sale_41 ?_
    refine lv_aload_n hx hb dX11_sale_44 rfl (lv_at hl 1 rfl) ?_
    refine gq_get hx hb ht hown hK hP i_X11 0 rfl rfl 1 (by decide) wd_498 rfl rfl dX11_sale_45 ?_
    refine gt_callV (wr := [(h0, .inr (11, [.ref tp, .ref ra1, .ref ra2, .ref ra3, .ref ra4, .ref ra5, .ref ra6, .ref ra7, .ref ra8, .ref ra9, .ref ra10, .ref ra11, .ref ra12, .int rc, .int fo, .int xx])), (tp, .inr (8, [.ref bp, .int y_9, .int y_2, .int y_3, .int y_4])), (bp, .inl (G.2.2 0, 400, .inl bf))]) (va_runV (As := [.ref ra1]) (rest := []) ⟨hx, hb, hml, hown, ht⟩ (d_S_open l G Γ H.size wt hT ra3 ra1 kr3 kr1) (cwV 1 ht (ts_gV wd_493 wd_494 wd_495 wd_125 wd_496) rfl rfl rfl (by decide +kernel) ⟨Nat.le_of_ble_eq_true rfl, Nat.le_of_ble_eq_true rfl⟩) (gt_preW (ci := 7) hK hT (tw_right hP) (tw_rightD hD) kr3 (by decide) rfl) rfl rfl hl.1 rfl (lv_room (Nat.le_of_ble_eq_true rfl)) dX11_sale_48 ⟨Nat.le_of_ble_eq_true rfl, Nat.le_of_ble_eq_true rfl⟩) hP hD hS hA (fun wt H locs hw hP hD hS => ?_)
    obtain ⟨hT, hkp⟩ := hw
    have hW := hW.call (show ∀ x ∈ [709], x ∈ [203, 302, 709, 900, 901, 902, 903] by decide) hkp
    have hP : va_P (gg_D G) classes ([(h0, .inr (11, [.ref tp, .ref ra1, .ref ra2, .ref ra3, .ref ra4, .ref ra5, .ref ra6, .ref ra7, .ref ra8, .ref ra9, .ref ra10, .ref ra11, .ref ra12, .int rc, .int fo, .int xx])), (tp, .inr (8, [.ref bp, .int y_9, .int y_2, .int y_3, .int y_4])), (bp, .inl (G.2.2 0, 400, .inl bf))] ++ wt) H := hP
    have hD : va_D A ([(h0, .inr (11, [.ref tp, .ref ra1, .ref ra2, .ref ra3, .ref ra4, .ref ra5, .ref ra6, .ref ra7, .ref ra8, .ref ra9, .ref ra10, .ref ra11, .ref ra12, .int rc, .int fo, .int xx])), (tp, .inr (8, [.ref bp, .int y_9, .int y_2, .int y_3, .int y_4])), (bp, .inl (G.2.2 0, 400, .inl bf))] ++ wt) := hD
    refine lv_aload_n hx hb dX11_sale_51 rfl (lv_at hl 1 rfl) ?_
    refine gq_get hx hb ht hown hK hP i_X11 0 rfl rfl 6 (by decide) wd_503 rfl rfl dX11_sale_52 ?_
    refine gt_callV (wr := [(h0, .inr (11, [.ref tp, .ref ra1, .ref ra2, .ref ra3, .ref ra4, .ref ra5, .ref ra6, .ref ra7, .ref ra8, .ref ra9, .ref ra10, .ref ra11, .ref ra12, .int rc, .int fo, .int xx])), (tp, .inr (8, [.ref bp, .int y_9, .int y_2, .int y_3, .int y_4])), (bp, .inl (G.2.2 0, 400, .inl bf))]) (va_runV (As := []) (rest := []) ⟨hx, hb, hml, hown, ht⟩ (d_L_clear l G Γ H.size wt hT ra6 kr6) (cwV 0 ht (ts_gV wd_695 wd_696 wd_697 wd_127 wd_698) rfl rfl rfl (by decide +kernel) ⟨Nat.le_of_ble_eq_true rfl, Nat.le_of_ble_eq_true rfl⟩) (gt_preW (ci := 2) hK hT (tw_right hP) (tw_rightD hD) kr6 (by decide) rfl) rfl rfl hl.1 rfl (lv_room (Nat.le_of_ble_eq_true rfl)) dX11_sale_55 ⟨Nat.le_of_ble_eq_true rfl, Nat.le_of_ble_eq_true rfl⟩) hP hD hS hA (fun wt H locs hw hP hD hS => ?_)
    obtain ⟨hT, hkp⟩ := hw
    have hW := hW.call (show ∀ x ∈ [203], x ∈ [203, 302, 709, 900, 901, 902, 903] by decide) hkp
    have hP : va_P (gg_D G) classes ([(h0, .inr (11, [.ref tp, .ref ra1, .ref ra2, .ref ra3, .ref ra4, .ref ra5, .ref ra6, .ref ra7, .ref ra8, .ref ra9, .ref ra10, .ref ra11, .ref ra12, .int rc, .int fo, .int xx])), (tp, .inr (8, [.ref bp, .int y_9, .int y_2, .int y_3, .int y_4])), (bp, .inl (G.2.2 0, 400, .inl bf))] ++ wt) H := hP
    have hD : va_D A ([(h0, .inr (11, [.ref tp, .ref ra1, .ref ra2, .ref ra3, .ref ra4, .ref ra5, .ref ra6, .ref ra7, .ref ra8, .ref ra9, .ref ra10, .ref ra11, .ref ra12, .int rc, .int fo, .int xx])), (tp, .inr (8, [.ref bp, .int y_9, .int y_2, .int y_3, .int y_4])), (bp, .inl (G.2.2 0, 400, .inl bf))] ++ wt) := hD
    refine lv_aload_n hx hb dX11_sale_58 rfl (lv_at hl 1 rfl) ?_
    refine gq_get hx hb ht hown hK hP i_X11 0 rfl rfl 5 (by decide) wd_502 rfl rfl dX11_sale_59 ?_
    refine gt_callV (wr := [(h0, .inr (11, [.ref tp, .ref ra1, .ref ra2, .ref ra3, .ref ra4, .ref ra5, .ref ra6, .ref ra7, .ref ra8, .ref ra9, .ref ra10, .ref ra11, .ref ra12, .int rc, .int fo, .int xx])), (tp, .inr (8, [.ref bp, .int y_9, .int y_2, .int y_3, .int y_4])), (bp, .inl (G.2.2 0, 400, .inl bf))]) (va_runV (As := []) (rest := []) ⟨hx, hb, hml, hown, ht⟩ (d_P_forget l G Γ H.size wt hT ra5 kr5) (cwV 0 ht (ts_gV wd_699 wd_700 wd_701 wd_126 wd_702) rfl rfl rfl (by decide +kernel) ⟨Nat.le_of_ble_eq_true rfl, Nat.le_of_ble_eq_true rfl⟩) (gt_preW (ci := 3) hK hT (tw_right hP) (tw_rightD hD) kr5 (by decide) rfl) rfl rfl hl.1 rfl (lv_room (Nat.le_of_ble_eq_true rfl)) dX11_sale_62 ⟨Nat.le_of_ble_eq_true rfl, Nat.le_of_ble_eq_true rfl⟩) hP hD hS hA (fun wt H locs hw hP hD hS => ?_)
    obtain ⟨hT, hkp⟩ := hw
    have hW := hW.call (show ∀ x ∈ [302], x ∈ [203, 302, 709, 900, 901, 902, 903] by decide) hkp
    have hP : va_P (gg_D G) classes ([(h0, .inr (11, [.ref tp, .ref ra1, .ref ra2, .ref ra3, .ref ra4, .ref ra5, .ref ra6, .ref ra7, .ref ra8, .ref ra9, .ref ra10, .ref ra11, .ref ra12, .int rc, .int fo, .int xx])), (tp, .inr (8, [.ref bp, .int y_9, .int y_2, .int y_3, .int y_4])), (bp, .inl (G.2.2 0, 400, .inl bf))] ++ wt) H := hP
    have hD : va_D A ([(h0, .inr (11, [.ref tp, .ref ra1, .ref ra2, .ref ra3, .ref ra4, .ref ra5, .ref ra6, .ref ra7, .ref ra8, .ref ra9, .ref ra10, .ref ra11, .ref ra12, .int rc, .int fo, .int xx])), (tp, .inr (8, [.ref bp, .int y_9, .int y_2, .int y_3, .int y_4])), (bp, .inl (G.2.2 0, 400, .inl bf))] ++ wt) := hD
    refine lv_aload_n hx hb dX11_sale_65 rfl (lv_at hl 1 rfl) ?_
    refine gq_get hx hb ht hown hK hP i_X11 0 rfl rfl 1 (by decide) wd_498 rfl rfl dX11_sale_66 ?_
    refine tr_get (ci := 9) hx hb ht hown hK hT hP kr1 (by decide) i_X9 rfl 2 (by decide) wd_190 rfl dX11_sale_69 (fun v hv hf_12 => ?_)
    obtain ⟨n_13, rfl, lo_n_13, hi_n_13⟩ := hv
    have hP9 : va_P (gg_D G) classes ([(h0, .inr (11, [.ref tp, .ref ra1, .ref ra2, .ref ra3, .ref ra4, .ref ra5, .ref ra6, .ref ra7, .ref ra8, .ref ra9, .ref ra10, .ref ra11, .ref ra12, .int rc, .int fo, .int xx])), (tp, .inr (8, [.ref bp, .int y_9, .int y_2, .int y_3, .int y_4])), (bp, .inl (G.2.2 0, 400, .inl bf))] ++ wt) _ := hP
    have hD9 : va_D A ([(h0, .inr (11, [.ref tp, .ref ra1, .ref ra2, .ref ra3, .ref ra4, .ref ra5, .ref ra6, .ref ra7, .ref ra8, .ref ra9, .ref ra10, .ref ra11, .ref ra12, .int rc, .int fo, .int xx])), (tp, .inr (8, [.ref bp, .int y_9, .int y_2, .int y_3, .int y_4])), (bp, .inl (G.2.2 0, 400, .inl bf))] ++ wt) := hD
    exact W.iret (v := n_13) hx hb hr (gq_endI (y_9, y_2, y_3, y_4, wt) ⟨hT, hW, (by omega), (by omega), (by omega), (by omega), (by omega)⟩ hP9 hD9 hS) hS.2.2 dX11_sale_72
  · rw [← Int32.toInt_inj] at c_8
    refine lv_bipush (v := (-2)) hx hb dX11_sale_16 (by decide +kernel) ?_
    refine lv_iload_n hx hb dX11_sale_18 rfl (lv_at hl 0 rfl) ?_
    obtain ⟨t_14, et_14⟩ : ∃ zz_ : Int32, (-2) - r_1 = zz_ := ⟨_, rfl⟩
    refine gq_isub hx hb t_14 et_14 dX11_sale_19 ?_
    have hP9 : va_P (gg_D G) classes ([(h0, .inr (11, [.ref tp, .ref ra1, .ref ra2, .ref ra3, .ref ra4, .ref ra5, .ref ra6, .ref ra7, .ref ra8, .ref ra9, .ref ra10, .ref ra11, .ref ra12, .int rc, .int fo, .int xx])), (tp, .inr (8, [.ref bp, .int n, .int y_2, .int y_3, .int y_4])), (bp, .inl (G.2.2 0, 400, .inl bf))] ++ wt) _ := hP
    have hD9 : va_D A ([(h0, .inr (11, [.ref tp, .ref ra1, .ref ra2, .ref ra3, .ref ra4, .ref ra5, .ref ra6, .ref ra7, .ref ra8, .ref ra9, .ref ra10, .ref ra11, .ref ra12, .int rc, .int fo, .int xx])), (tp, .inr (8, [.ref bp, .int n, .int y_2, .int y_3, .int y_4])), (bp, .inl (G.2.2 0, 400, .inl bf))] ++ wt) := hD
    exact W.iret (v := t_14) hx hb hr (gq_endI (n, y_2, y_3, y_4, wt) ⟨hT, hW, (by omega), (by omega), (by omega), (by omega), (by omega)⟩ hP9 hD9 hS) hS.2.2 dX11_sale_20
set_option maxHeartbeats 4000000 in
set_option maxRecDepth 100000 in
theorem d_rule (l : Launch) (G : gg_T) (Γ : Nat → Nat) (sz : Nat) (wt : va_W) (hT : tk_ty G Γ wt) (K : Nat → Nat) (V : Nat → Nat) (tp : Nat) (bp : Nat) (n : Int32) (at_ : Int32) (w_ : Int32) (fl : Int32) (bf : Nat → Int32) (h0 : Nat) (ra1 : Nat) (ra2 : Nat) (ra3 : Nat) (ra4 : Nat) (ra5 : Nat) (ra6 : Nat) (ra7 : Nat) (ra8 : Nat) (ra9 : Nat) (ra10 : Nat) (ra11 : Nat) (ra12 : Nat) (rc : Int32) (fo : Int32) (xx : Int32) (xp1 : 0 ≤ n.toInt) (xp2 : n.toInt ≤ 400) (xp3 : 0 ≤ at_.toInt) (xp4 : 0 ≤ w_.toInt) (xp5 : at_.toInt + w_.toInt ≤ 400) (kr1 : Γ ra1 = 10) (kr2 : Γ ra2 = 10) (kr3 : Γ ra3 = 8) (kr4 : Γ ra4 = 8) (kr5 : Γ ra5 = 4) (kr6 : Γ ra6 = 3) (kr7 : Γ ra7 = 41) (kr9 : Γ ra9 = 1) (kr10 : Γ ra10 = 6) (kr11 : Γ ra11 = 11) (kr12 : Γ ra12 = 7) (xr1 : 0 ≤ rc.toInt) (xr2 : rc.toInt ≤ 6) : Met l yX11_rule (ts_L yX11_rule cX11_rule 2 (some .int)) ({ frames := 10, cells := 0, slots := 0, locals := 230 }) (gx_P G K V ([(h0, .inr (11, [.ref tp, .ref ra1, .ref ra2, .ref ra3, .ref ra4, .ref ra5, .ref ra6, .ref ra7, .ref ra8, .ref ra9, .ref ra10, .ref ra11, .ref ra12, .int rc, .int fo, .int xx])), (tp, .inr (8, [.ref bp, .int n, .int at_, .int w_, .int fl])), (bp, .inl (G.2.2 0, 400, .inl bf))] ++ wt) sz [.ref h0]) (gc_I G (va_A ([(h0, .inr (11, [.ref tp, .ref ra1, .ref ra2, .ref ra3, .ref ra4, .ref ra5, .ref ra6, .ref ra7, .ref ra8, .ref ra9, .ref ra10, .ref ra11, .ref ra12, .int rc, .int fo, .int xx])), (tp, .inr (8, [.ref bp, .int n, .int at_, .int w_, .int fl])), (bp, .inl (G.2.2 0, 400, .inl bf))] ++ wt) sz) (fun r (u : (Int32) × (Int32) × (Int32) × (Int32) × (Int32) × va_W) => match u with | (rc1, n1, a1, w1, f1, wt1) => tk_ty G Γ wt1 ∧ tk_kp [405, 406, 407, 408] wt wt1 ∧ 0 ≤ rc1.toInt ∧ rc1.toInt ≤ 6 ∧ 0 ≤ n1.toInt ∧ n1.toInt ≤ 400 ∧ 0 ≤ a1.toInt ∧ 0 ≤ w1.toInt ∧ a1.toInt + w1.toInt ≤ 400) (fun (u : (Int32) × (Int32) × (Int32) × (Int32) × (Int32) × va_W) => match u with | (rc1, n1, a1, w1, f1, wt1) => [(h0, .inr (11, [.ref tp, .ref ra1, .ref ra2, .ref ra3, .ref ra4, .ref ra5, .ref ra6, .ref ra7, .ref ra8, .ref ra9, .ref ra10, .ref ra11, .ref ra12, .int rc1, .int fo, .int xx])), (tp, .inr (8, [.ref bp, .int n1, .int a1, .int w1, .int f1])), (bp, .inl (G.2.2 0, 400, .inl bf))] ++ wt1)) 0 0 (va_A ([(h0, .inr (11, [.ref tp, .ref ra1, .ref ra2, .ref ra3, .ref ra4, .ref ra5, .ref ra6, .ref ra7, .ref ra8, .ref ra9, .ref ra10, .ref ra11, .ref ra12, .int rc, .int fo, .int xx])), (tp, .inr (8, [.ref bp, .int n, .int at_, .int w_, .int fl])), (bp, .inl (G.2.2 0, 400, .inl bf))] ++ wt) sz) := by
  refine Met.ofW (cc := cX11_rule) (maxL := 2) (ret := (some .int)) (by decide) rfl ?_
  intro p e s m args below meth c s₁ B hml hv
  obtain ⟨rfl, hsz, hP, hK, hD0, hX⟩ := hv
  have hx := B.exec
  have hb := B.bytes
  have hr := B.returns
  have ht := ts_ht (atoms_spec (ws := ts_L yX11_rule cX11_rule 2 (some .int)) B.pre)
  have hown : s.vm.findClass RX11 = some m.cls := findClass_of_methodNamed B.named
  have hlocks := B.notSynchronized
  subst hsz
  have hD := hD0.self (sz := s.heap.size)
  generalize hAe : va_A ([(h0, .inr (11, [.ref tp, .ref ra1, .ref ra2, .ref ra3, .ref ra4, .ref ra5, .ref ra6, .ref ra7, .ref ra8, .ref ra9, .ref ra10, .ref ra11, .ref ra12, .int rc, .int fo, .int xx])), (tp, .inr (8, [.ref bp, .int n, .int at_, .int w_, .int fl])), (bp, .inl (G.2.2 0, 400, .inl bf))] ++ wt) s.heap.size = A at hD hX ⊢
  have hA : ∀ q : Nat, s.heap.size ≤ q → A q := fun q h => by rw [← hAe]; exact Or.inr h
  clear hAe hD0
  have hS : va_S A s.heap s.heap [] := va_S.rf
  obtain ⟨w0, hw0⟩ : ∃ z, z = wt := ⟨_, rfl⟩
  have hW : tk_kp [405, 406, 407, 408] w0 wt := by rw [hw0]; exact tk_kp.rf
  rw [← hw0]
  clear hw0
  have hP : va_P (gg_D G) classes ([(h0, .inr (11, [.ref tp, .ref ra1, .ref ra2, .ref ra3, .ref ra4, .ref ra5, .ref ra6, .ref ra7, .ref ra8, .ref ra9, .ref ra10, .ref ra11, .ref ra12, .int rc, .int fo, .int xx])), (tp, .inr (8, [.ref bp, .int n, .int at_, .int w_, .int fl])), (bp, .inl (G.2.2 0, 400, .inl bf))] ++ wt) s.heap := hP
  have hD : va_D A ([(h0, .inr (11, [.ref tp, .ref ra1, .ref ra2, .ref ra3, .ref ra4, .ref ra5, .ref ra6, .ref ra7, .ref ra8, .ref ra9, .ref ra10, .ref ra11, .ref ra12, .int rc, .int fo, .int xx])), (tp, .inr (8, [.ref bp, .int n, .int at_, .int w_, .int fl])), (bp, .inl (G.2.2 0, 400, .inl bf))] ++ wt) := hD
  have hl := lv_entry ([.ref h0]) (n := 2) (Nat.le_of_ble_eq_true rfl)
  rw [lg_entry_eq]
  generalize (lg_sl ([.ref h0]) ++ List.replicate (2 - (lg_sl ([.ref h0])).length) Slot.unset).toArray = ls at hl ⊢
  have hl : lv_has ls 2 [(0, .ref h0)] := hl
  have lm1 : ((-1) : Int32).toInt = -1 := by decide +kernel
  have l0 : (0 : Int32).toInt = 0 := by decide +kernel
  have l1 : (1 : Int32).toInt = 1 := by decide +kernel
  have l6 : (6 : Int32).toInt = 6 := by decide +kernel
  refine lv_aload_n hx hb dX11_rule_0 rfl (lv_at hl 0 rfl) ?_
  refine gq_get hx hb ht hown hK hP i_X11 0 rfl rfl 13 (by decide) wd_510 rfl rfl dX11_rule_1 ?_
  refine lv_bipush (v := 6) hx hb dX11_rule_4 (by decide +kernel) ?_
  refine lv_icmp_lt (tgt := 11) hx hb dX11_rule_6 (by decide) (fun c_1 => ?_) (fun c_1 => ?_)
  · rw [Int32.lt_iff_toInt_lt] at c_1
    refine lv_aload_n hx hb dX11_rule_11 rfl (lv_at hl 0 rfl) ?_
    refine gq_get hx hb ht hown hK hP i_X11 0 rfl rfl 7 (by decide) wd_504 rfl rfl dX11_rule_12 ?_
    refine lv_aload_n hx hb dX11_rule_15 rfl (lv_at hl 0 rfl) ?_
    refine gq_get hx hb ht hown hK hP i_X11 0 rfl rfl 13 (by decide) wd_510 rfl rfl dX11_rule_16 ?_
    refine tr_aald hx hb hK hT hP 41 kr7 (by decide) rfl (show vp_in _ (tk_len 41) from ia_in (n := 6) (by omega) (by omega)) dX11_rule_19 (fun q_2 hq_2 => ?_)
    have hq_2 : Γ q_2 = 5 := hq_2
    refine lv_aload_n hx hb dX11_rule_20 rfl (lv_at hl 0 rfl) ?_
    refine gq_get hx hb ht hown hK hP i_X11 0 rfl rfl 0 (by decide) wd_497 rfl rfl dX11_rule_21 ?_
    have hP : va_P (gg_D G) classes ([(h0, .inr (11, [.ref tp, .ref ra1, .ref ra2, .ref ra3, .ref ra4, .ref ra5, .ref ra6, .ref ra7, .ref ra8, .ref ra9, .ref ra10, .ref ra11, .ref ra12, .int rc, .int fo, .int xx]))] ++ ([(tp, .inr (8, [.ref bp, .int n, .int at_, .int w_, .int fl])), (bp, .inl (G.2.2 0, 400, .inl bf))] ++ wt)) s.heap := hP
    have hD : va_D A ([(h0, .inr (11, [.ref tp, .ref ra1, .ref ra2, .ref ra3, .ref ra4, .ref ra5, .ref ra6, .ref ra7, .ref ra8, .ref ra9, .ref ra10, .ref ra11, .ref ra12, .int rc, .int fo, .int xx]))] ++ ([(tp, .inr (8, [.ref bp, .int n, .int at_, .int w_, .int fl])), (bp, .inl (G.2.2 0, 400, .inl bf))] ++ wt)) := hD
    refine gt_callI (wr := [(h0, .inr (11, [.ref tp, .ref ra1, .ref ra2, .ref ra3, .ref ra4, .ref ra5, .ref ra6, .ref ra7, .ref ra8, .ref ra9, .ref ra10, .ref ra11, .ref ra12, .int rc, .int fo, .int xx]))]) (va_runV (As := [.ref tp]) (rest := []) ⟨hx, hb, hml, hown, ht⟩ (d_readRule l G Γ s.heap.size wt hT K V q_2 tp bp n at_ w_ fl bf hq_2 (by first | assumption | omega) (by first | assumption | omega) (by first | assumption | omega) (by first | assumption | omega) (by first | assumption | omega)) (cwV 1 ht (ts_gV wd_708 wd_709 wd_710 wd_128 wd_711) rfl rfl rfl (by decide +kernel) ⟨Nat.le_of_ble_eq_true rfl, Nat.le_of_ble_eq_true rfl⟩) (gx_preW (we := [(tp, .inr (8, [.ref bp, .int n, .int at_, .int w_, .int fl])), (bp, .inl (G.2.2 0, 400, .inl bf))]) (ci := 4) hK hT (tw_right hP) (tw_rightD hD) hX hS (tw_free hD hS hA) hq_2 (by decide) rfl) rfl rfl hl.1 rfl (lv_room (Nat.le_of_ble_eq_true rfl)) dX11_rule_24 ⟨Nat.le_of_ble_eq_true rfl, Nat.le_of_ble_eq_true rfl⟩) hP hD hS hA (fun r_3 u H locs hw hP hD hS => ?_)
    obtain ⟨y_4, y_5, y_6, wt⟩ := u
    obtain ⟨hT, hkp, w_7, w_8, w_9⟩ := hw
    have hW := hW.call (show ∀ x ∈ [405, 406, 407, 408], x ∈ [405, 406, 407, 408] by decide) hkp
    have hP : va_P (gg_D G) classes ([(h0, .inr (11, [.ref tp, .ref ra1, .ref ra2, .ref ra3, .ref ra4, .ref ra5, .ref ra6, .ref ra7, .ref ra8, .ref ra9, .ref ra10, .ref ra11, .ref ra12, .int rc, .int fo, .int xx])), (tp, .inr (8, [.ref bp, .int n, .int y_4, .int y_5, .int y_6])), (bp, .inl (G.2.2 0, 400, .inl bf))] ++ wt) H := hP
    have hD : va_D A ([(h0, .inr (11, [.ref tp, .ref ra1, .ref ra2, .ref ra3, .ref ra4, .ref ra5, .ref ra6, .ref ra7, .ref ra8, .ref ra9, .ref ra10, .ref ra11, .ref ra12, .int rc, .int fo, .int xx])), (tp, .inr (8, [.ref bp, .int n, .int y_4, .int y_5, .int y_6])), (bp, .inl (G.2.2 0, 400, .inl bf))] ++ wt) := hD
    refine lv_istore_n (lv' := [(1, .int r_3), (0, .ref h0)]) hx hb dX11_rule_27 rfl hl (by decide) rfl (fun ls hl => ?_)
    refine lv_aload_n hx hb dX11_rule_28 rfl (lv_at hl 1 rfl) ?_
    refine gq_get hx hb ht hown hK hP i_X11 0 rfl rfl 0 (by decide) wd_497 rfl rfl dX11_rule_29 ?_
    refine lv_iconst (v := 0) hx hb dX11_rule_32 (by decide +kernel) ?_
    have hP : va_P (gg_D G) classes ([(h0, .inr (11, [.ref tp, .ref ra1, .ref ra2, .ref ra3, .ref ra4, .ref ra5, .ref ra6, .ref ra7, .ref ra8, .ref ra9, .ref ra10, .ref ra11, .ref ra12, .int rc, .int fo, .int xx]))] ++ ([(tp, .inr (8, [.ref bp, .int n, .int y_4, .int y_5, .int y_6])), (bp, .inl (G.2.2 0, 400, .inl bf))] ++ wt)) H := hP
    have hD : va_D A ([(h0, .inr (11, [.ref tp, .ref ra1, .ref ra2, .ref ra3, .ref ra4, .ref ra5, .ref ra6, .ref ra7, .ref ra8, .ref ra9, .ref ra10, .ref ra11, .ref ra12, .int rc, .int fo, .int xx]))] ++ ([(tp, .inr (8, [.ref bp, .int n, .int y_4, .int y_5, .int y_6])), (bp, .inl (G.2.2 0, 400, .inl bf))] ++ wt)) := hD
    refine gt_callV (wr := [(h0, .inr (11, [.ref tp, .ref ra1, .ref ra2, .ref ra3, .ref ra4, .ref ra5, .ref ra6, .ref ra7, .ref ra8, .ref ra9, .ref ra10, .ref ra11, .ref ra12, .int rc, .int fo, .int xx]))]) (va_runV (As := [.int 0]) (rest := []) ⟨hx, hb, hml, hown, ht⟩ (d_cut l G Γ H.size wt hT 0 tp bp n y_4 y_5 y_6 bf (by first | assumption | omega) (by first | assumption | omega) (by first | assumption | omega) (by first | assumption | omega) (by first | assumption | omega)) (cwV 1 ht (ts_gV wd_562 wd_563 wd_564 wd_123 wd_565) rfl rfl rfl (by decide +kernel) ⟨Nat.le_of_ble_eq_true rfl, Nat.le_of_ble_eq_true rfl⟩) (gc_preV (ci := 8) (q0 := 0) hK (tw_right hP) (tw_rightD hD) rfl rfl) rfl rfl hl.1 rfl (lv_room (Nat.le_of_ble_eq_true rfl)) dX11_rule_33 ⟨Nat.le_of_ble_eq_true rfl, Nat.le_of_ble_eq_true rfl⟩) hP hD hS hA (fun u H locs hw hP hD hS => ?_)
    obtain ⟨y_10, wt⟩ := u
    obtain ⟨hT, hkp, w_11, w_12⟩ := hw
    have hW := hW.call (show ∀ x ∈ [], x ∈ [405, 406, 407, 408] by decide) hkp
    have hP : va_P (gg_D G) classes ([(h0, .inr (11, [.ref tp, .ref ra1, .ref ra2, .ref ra3, .ref ra4, .ref ra5, .ref ra6, .ref ra7, .ref ra8, .ref ra9, .ref ra10, .ref ra11, .ref ra12, .int rc, .int fo, .int xx])), (tp, .inr (8, [.ref bp, .int y_10, .int y_4, .int y_5, .int y_6])), (bp, .inl (G.2.2 0, 400, .inl bf))] ++ wt) H := hP
    have hD : va_D A ([(h0, .inr (11, [.ref tp, .ref ra1, .ref ra2, .ref ra3, .ref ra4, .ref ra5, .ref ra6, .ref ra7, .ref ra8, .ref ra9, .ref ra10, .ref ra11, .ref ra12, .int rc, .int fo, .int xx])), (tp, .inr (8, [.ref bp, .int y_10, .int y_4, .int y_5, .int y_6])), (bp, .inl (G.2.2 0, 400, .inl bf))] ++ wt) := hD
    refine lv_iload_n hx hb dX11_rule_36 rfl (lv_at hl 0 rfl) ?_
    refine lv_if_eq (tgt := 45) hx hb dX11_rule_37 (by decide) (fun c_13 => ?_) (fun c_13 => ?_)
    · rw [← Int32.toInt_inj] at c_13
      refine lv_aload_n hx hb dX11_rule_45 rfl (lv_at hl 1 rfl) ?_
      refine lv_dup hx hb dX11_rule_46 rfl ?_
      refine gq_get hx hb ht hown hK hP i_X11 0 rfl rfl 13 (by decide) wd_510 rfl rfl dX11_rule_47 ?_
      refine lv_iconst (v := 1) hx hb dX11_rule_50 (by decide +kernel) ?_
      obtain ⟨t_14, et_14⟩ : ∃ zz_ : Int32, rc + 1 = zz_ := ⟨_, rfl⟩
      refine gq_iadd hx hb t_14 et_14 dX11_rule_51 ?_
      have ft_14 := ia_add et_14 (by omega) (by omega)
      refine gq_put (ws' := [(h0, .inr (11, [.ref tp, .ref ra1, .ref ra2, .ref ra3, .ref ra4, .ref ra5, .ref ra6, .ref ra7, .ref ra8, .ref ra9, .ref ra10, .ref ra11, .ref ra12, .int t_14, .int fo, .int xx])), (tp, .inr (8, [.ref bp, .int y_10, .int y_4, .int y_5, .int y_6])), (bp, .inl (G.2.2 0, 400, .inl bf))] ++ wt) hx hb ht hown hK hP hD hS i_X11 tyX11 tyX11_ok nmX11 0 rfl rfl 13 (by decide) wd_510 rfl rfl rfl rfl (Nat.le_of_ble_eq_true rfl) rfl dX11_rule_52 (fun H locs hP hD hS => ?_)
      refine lv_aload_n hx hb dX11_rule_55 rfl (lv_at hl 1 rfl) ?_
      refine gq_get hx hb ht hown hK hP i_X11 0 rfl rfl 13 (by decide) wd_510 rfl rfl dX11_rule_56 ?_
      refine lv_iconst (v := 1) hx hb dX11_rule_59 (by decide +kernel) ?_
      obtain ⟨t_15, et_15⟩ : ∃ zz_ : Int32, t_14 - 1 = zz_ := ⟨_, rfl⟩
      refine gq_isub hx hb t_15 et_15 dX11_rule_60 ?_
      have ft_15 := ia_sub et_15 (by omega) (by omega)
      have hP9 : va_P (gg_D G) classes ([(h0, .inr (11, [.ref tp, .ref ra1, .ref ra2, .ref ra3, .ref ra4, .ref ra5, .ref ra6, .ref ra7, .ref ra8, .ref ra9, .ref ra10, .ref ra11, .ref ra12, .int t_14, .int fo, .int xx])), (tp, .inr (8, [.ref bp, .int y_10, .int y_4, .int y_5, .int y_6])), (bp, .inl (G.2.2 0, 400, .inl bf))] ++ wt) _ := hP
      have hD9 : va_D A ([(h0, .inr (11, [.ref tp, .ref ra1, .ref ra2, .ref ra3, .ref ra4, .ref ra5, .ref ra6, .ref ra7, .ref ra8, .ref ra9, .ref ra10, .ref ra11, .ref ra12, .int t_14, .int fo, .int xx])), (tp, .inr (8, [.ref bp, .int y_10, .int y_4, .int y_5, .int y_6])), (bp, .inl (G.2.2 0, 400, .inl bf))] ++ wt) := hD
      exact W.iret (v := t_15) hx hb hr (gq_endI (t_14, y_10, y_4, y_5, y_6, wt) ⟨hT, hW, (by omega), (by omega), (by omega), (by omega), (by omega), (by omega), (by omega)⟩ hP9 hD9 hS) hS.2.2 dX11_rule_61
    · rw [← Int32.toInt_inj] at c_13
      refine lv_bipush (v := (-2)) hx hb dX11_rule_40 (by decide +kernel) ?_
      refine lv_iload_n hx hb dX11_rule_42 rfl (lv_at hl 0 rfl) ?_
      obtain ⟨t_16, et_16⟩ : ∃ zz_ : Int32, (-2) - r_3 = zz_ := ⟨_, rfl⟩
      refine gq_isub hx hb t_16 et_16 dX11_rule_43 ?_
      have hP9 : va_P (gg_D G) classes ([(h0, .inr (11, [.ref tp, .ref ra1, .ref ra2, .ref ra3, .ref ra4, .ref ra5, .ref ra6, .ref ra7, .ref ra8, .ref ra9, .ref ra10, .ref ra11, .ref ra12, .int rc, .int fo, .int xx])), (tp, .inr (8, [.ref bp, .int y_10, .int y_4, .int y_5, .int y_6])), (bp, .inl (G.2.2 0, 400, .inl bf))] ++ wt) _ := hP
      have hD9 : va_D A ([(h0, .inr (11, [.ref tp, .ref ra1, .ref ra2, .ref ra3, .ref ra4, .ref ra5, .ref ra6, .ref ra7, .ref ra8, .ref ra9, .ref ra10, .ref ra11, .ref ra12, .int rc, .int fo, .int xx])), (tp, .inr (8, [.ref bp, .int y_10, .int y_4, .int y_5, .int y_6])), (bp, .inl (G.2.2 0, 400, .inl bf))] ++ wt) := hD
      exact W.iret (v := t_16) hx hb hr (gq_endI (rc, y_10, y_4, y_5, y_6, wt) ⟨hT, hW, (by omega), (by omega), (by omega), (by omega), (by omega), (by omega), (by omega)⟩ hP9 hD9 hS) hS.2.2 dX11_rule_44
  · rw [Int32.lt_iff_toInt_lt] at c_1
    refine lv_iconst (v := (-1)) hx hb dX11_rule_9 (by decide +kernel) ?_
    have hP9 : va_P (gg_D G) classes ([(h0, .inr (11, [.ref tp, .ref ra1, .ref ra2, .ref ra3, .ref ra4, .ref ra5, .ref ra6, .ref ra7, .ref ra8, .ref ra9, .ref ra10, .ref ra11, .ref ra12, .int rc, .int fo, .int xx])), (tp, .inr (8, [.ref bp, .int n, .int at_, .int w_, .int fl])), (bp, .inl (G.2.2 0, 400, .inl bf))] ++ wt) _ := hP
    have hD9 : va_D A ([(h0, .inr (11, [.ref tp, .ref ra1, .ref ra2, .ref ra3, .ref ra4, .ref ra5, .ref ra6, .ref ra7, .ref ra8, .ref ra9, .ref ra10, .ref ra11, .ref ra12, .int rc, .int fo, .int xx])), (tp, .inr (8, [.ref bp, .int n, .int at_, .int w_, .int fl])), (bp, .inl (G.2.2 0, 400, .inl bf))] ++ wt) := hD
    exact W.iret (v := (-1)) hx hb hr (gq_endI (rc, n, at_, w_, fl, wt) ⟨hT, hW, (by omega), (by omega), (by omega), (by omega), (by omega), (by omega), (by omega)⟩ hP9 hD9 hS) hS.2.2 dX11_rule_10

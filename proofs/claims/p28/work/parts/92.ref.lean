theorem wd_1540 : (Jvm.Cond.code ({ cls := "SilentSaleModel", name := "startsAnew", desc := "()V" } : Jvm.MethodName) prog_14_method_62_code (3 : Nat) (Option.none : Option Jvm.ClassFile.FieldType)) ∈ tb_L := tb_in (i := 1540) (by decide +kernel) (by decide +kernel)
theorem dX12_startsAnew_0 : decode cX12_startsAnew 0 = .ok (.aload_n 0, 1) := by decide +kernel
theorem dX12_startsAnew_1 : decode cX12_startsAnew 1 = .ok (.getfield 39, 3) := by decide +kernel
theorem dX12_startsAnew_4 : decode cX12_startsAnew 4 = .ok (.bipush 10, 2) := by decide +kernel
theorem dX12_startsAnew_6 : decode cX12_startsAnew 6 = .ok (.iconst 0, 1) := by decide +kernel
theorem dX12_startsAnew_7 : decode cX12_startsAnew 7 = .ok (.iastore, 1) := by decide +kernel
theorem dX12_startsAnew_8 : decode cX12_startsAnew 8 = .ok (.iconst 0, 1) := by decide +kernel
theorem dX12_startsAnew_9 : decode cX12_startsAnew 9 = .ok (.istore_n 1, 1) := by decide +kernel
theorem dX12_startsAnew_10 : decode cX12_startsAnew 10 = .ok (.iload_n 1, 1) := by decide +kernel
theorem dX12_startsAnew_11 : decode cX12_startsAnew 11 = .ok (.iconst 5, 1) := by decide +kernel
theorem dX12_startsAnew_12 : decode cX12_startsAnew 12 = .ok (.if_icmp .ge 81, 3) := by decide +kernel
theorem dX12_startsAnew_15 : decode cX12_startsAnew 15 = .ok (.bipush 11, 2) := by decide +kernel
theorem dX12_startsAnew_17 : decode cX12_startsAnew 17 = .ok (.iconst 5, 1) := by decide +kernel
theorem dX12_startsAnew_18 : decode cX12_startsAnew 18 = .ok (.iload_n 1, 1) := by decide +kernel
theorem dX12_startsAnew_19 : decode cX12_startsAnew 19 = .ok (.imul, 1) := by decide +kernel
theorem dX12_startsAnew_20 : decode cX12_startsAnew 20 = .ok (.iadd, 1) := by decide +kernel
theorem dX12_startsAnew_21 : decode cX12_startsAnew 21 = .ok (.istore_n 2, 1) := by decide +kernel
theorem dX12_startsAnew_22 : decode cX12_startsAnew 22 = .ok (.aload_n 0, 1) := by decide +kernel
theorem dX12_startsAnew_23 : decode cX12_startsAnew 23 = .ok (.getfield 39, 3) := by decide +kernel
theorem dX12_startsAnew_26 : decode cX12_startsAnew 26 = .ok (.iload_n 2, 1) := by decide +kernel
theorem dX12_startsAnew_27 : decode cX12_startsAnew 27 = .ok (.aload_n 0, 1) := by decide +kernel
theorem dX12_startsAnew_28 : decode cX12_startsAnew 28 = .ok (.getfield 39, 3) := by decide +kernel
theorem dX12_startsAnew_31 : decode cX12_startsAnew 31 = .ok (.bipush 69, 2) := by decide +kernel
theorem dX12_startsAnew_33 : decode cX12_startsAnew 33 = .ok (.iconst 2, 1) := by decide +kernel
theorem dX12_startsAnew_34 : decode cX12_startsAnew 34 = .ok (.iload_n 1, 1) := by decide +kernel
theorem dX12_startsAnew_35 : decode cX12_startsAnew 35 = .ok (.imul, 1) := by decide +kernel
theorem dX12_startsAnew_36 : decode cX12_startsAnew 36 = .ok (.iadd, 1) := by decide +kernel
theorem dX12_startsAnew_37 : decode cX12_startsAnew 37 = .ok (.iaload, 1) := by decide +kernel
theorem dX12_startsAnew_38 : decode cX12_startsAnew 38 = .ok (.iastore, 1) := by decide +kernel
theorem dX12_startsAnew_39 : decode cX12_startsAnew 39 = .ok (.aload_n 0, 1) := by decide +kernel
theorem dX12_startsAnew_40 : decode cX12_startsAnew 40 = .ok (.getfield 39, 3) := by decide +kernel
theorem dX12_startsAnew_43 : decode cX12_startsAnew 43 = .ok (.iload_n 2, 1) := by decide +kernel
theorem dX12_startsAnew_44 : decode cX12_startsAnew 44 = .ok (.iconst 1, 1) := by decide +kernel
theorem dX12_startsAnew_45 : decode cX12_startsAnew 45 = .ok (.iadd, 1) := by decide +kernel
theorem dX12_startsAnew_46 : decode cX12_startsAnew 46 = .ok (.aload_n 0, 1) := by decide +kernel
theorem dX12_startsAnew_47 : decode cX12_startsAnew 47 = .ok (.getfield 39, 3) := by decide +kernel
theorem dX12_startsAnew_50 : decode cX12_startsAnew 50 = .ok (.bipush 69, 2) := by decide +kernel
theorem dX12_startsAnew_52 : decode cX12_startsAnew 52 = .ok (.iconst 2, 1) := by decide +kernel
theorem dX12_startsAnew_53 : decode cX12_startsAnew 53 = .ok (.iload_n 1, 1) := by decide +kernel
theorem dX12_startsAnew_54 : decode cX12_startsAnew 54 = .ok (.imul, 1) := by decide +kernel
theorem dX12_startsAnew_55 : decode cX12_startsAnew 55 = .ok (.iadd, 1) := by decide +kernel
theorem dX12_startsAnew_56 : decode cX12_startsAnew 56 = .ok (.iconst 1, 1) := by decide +kernel
theorem dX12_startsAnew_57 : decode cX12_startsAnew 57 = .ok (.iadd, 1) := by decide +kernel
theorem dX12_startsAnew_58 : decode cX12_startsAnew 58 = .ok (.iaload, 1) := by decide +kernel
theorem dX12_startsAnew_59 : decode cX12_startsAnew 59 = .ok (.iastore, 1) := by decide +kernel
theorem dX12_startsAnew_60 : decode cX12_startsAnew 60 = .ok (.aload_n 0, 1) := by decide +kernel
theorem dX12_startsAnew_61 : decode cX12_startsAnew 61 = .ok (.getfield 39, 3) := by decide +kernel
theorem dX12_startsAnew_64 : decode cX12_startsAnew 64 = .ok (.iload_n 2, 1) := by decide +kernel
theorem dX12_startsAnew_65 : decode cX12_startsAnew 65 = .ok (.iconst 2, 1) := by decide +kernel
theorem dX12_startsAnew_66 : decode cX12_startsAnew 66 = .ok (.iadd, 1) := by decide +kernel
theorem dX12_startsAnew_67 : decode cX12_startsAnew 67 = .ok (.iconst (-1), 1) := by decide +kernel
theorem dX12_startsAnew_68 : decode cX12_startsAnew 68 = .ok (.iastore, 1) := by decide +kernel
theorem dX12_startsAnew_69 : decode cX12_startsAnew 69 = .ok (.aload_n 0, 1) := by decide +kernel
theorem dX12_startsAnew_70 : decode cX12_startsAnew 70 = .ok (.getfield 39, 3) := by decide +kernel
theorem dX12_startsAnew_73 : decode cX12_startsAnew 73 = .ok (.iload_n 2, 1) := by decide +kernel
theorem dX12_startsAnew_74 : decode cX12_startsAnew 74 = .ok (.iconst 3, 1) := by decide +kernel
theorem dX12_startsAnew_75 : decode cX12_startsAnew 75 = .ok (.iadd, 1) := by decide +kernel
theorem dX12_startsAnew_76 : decode cX12_startsAnew 76 = .ok (.iconst 0, 1) := by decide +kernel
theorem dX12_startsAnew_77 : decode cX12_startsAnew 77 = .ok (.iastore, 1) := by decide +kernel
theorem dX12_startsAnew_78 : decode cX12_startsAnew 78 = .ok (.aload_n 0, 1) := by decide +kernel
theorem dX12_startsAnew_79 : decode cX12_startsAnew 79 = .ok (.getfield 39, 3) := by decide +kernel
theorem dX12_startsAnew_82 : decode cX12_startsAnew 82 = .ok (.iload_n 2, 1) := by decide +kernel
theorem dX12_startsAnew_83 : decode cX12_startsAnew 83 = .ok (.iconst 4, 1) := by decide +kernel
theorem dX12_startsAnew_84 : decode cX12_startsAnew 84 = .ok (.iadd, 1) := by decide +kernel
theorem dX12_startsAnew_85 : decode cX12_startsAnew 85 = .ok (.iconst 0, 1) := by decide +kernel
theorem dX12_startsAnew_86 : decode cX12_startsAnew 86 = .ok (.iastore, 1) := by decide +kernel
theorem dX12_startsAnew_87 : decode cX12_startsAnew 87 = .ok (.iinc 1 1, 3) := by decide +kernel
theorem dX12_startsAnew_90 : decode cX12_startsAnew 90 = .ok (.goto (-80), 3) := by decide +kernel
theorem dX12_startsAnew_93 : decode cX12_startsAnew 93 = .ok (.iconst 0, 1) := by decide +kernel
theorem dX12_startsAnew_94 : decode cX12_startsAnew 94 = .ok (.istore_n 1, 1) := by decide +kernel
theorem dX12_startsAnew_95 : decode cX12_startsAnew 95 = .ok (.iload_n 1, 1) := by decide +kernel
theorem dX12_startsAnew_96 : decode cX12_startsAnew 96 = .ok (.iconst 3, 1) := by decide +kernel
theorem dX12_startsAnew_97 : decode cX12_startsAnew 97 = .ok (.if_icmp .ge 50, 3) := by decide +kernel
theorem dX12_startsAnew_100 : decode cX12_startsAnew 100 = .ok (.bipush 36, 2) := by decide +kernel
theorem dX12_startsAnew_102 : decode cX12_startsAnew 102 = .ok (.iconst 4, 1) := by decide +kernel
theorem dX12_startsAnew_103 : decode cX12_startsAnew 103 = .ok (.iload_n 1, 1) := by decide +kernel
theorem dX12_startsAnew_104 : decode cX12_startsAnew 104 = .ok (.imul, 1) := by decide +kernel
theorem dX12_startsAnew_105 : decode cX12_startsAnew 105 = .ok (.iadd, 1) := by decide +kernel
theorem dX12_startsAnew_106 : decode cX12_startsAnew 106 = .ok (.istore_n 2, 1) := by decide +kernel
theorem dX12_startsAnew_107 : decode cX12_startsAnew 107 = .ok (.aload_n 0, 1) := by decide +kernel
theorem dX12_startsAnew_108 : decode cX12_startsAnew 108 = .ok (.getfield 39, 3) := by decide +kernel
theorem dX12_startsAnew_111 : decode cX12_startsAnew 111 = .ok (.iload_n 2, 1) := by decide +kernel
theorem dX12_startsAnew_112 : decode cX12_startsAnew 112 = .ok (.iconst 0, 1) := by decide +kernel
theorem dX12_startsAnew_113 : decode cX12_startsAnew 113 = .ok (.iastore, 1) := by decide +kernel
theorem dX12_startsAnew_114 : decode cX12_startsAnew 114 = .ok (.aload_n 0, 1) := by decide +kernel
theorem dX12_startsAnew_115 : decode cX12_startsAnew 115 = .ok (.getfield 39, 3) := by decide +kernel
theorem dX12_startsAnew_118 : decode cX12_startsAnew 118 = .ok (.iload_n 2, 1) := by decide +kernel
theorem dX12_startsAnew_119 : decode cX12_startsAnew 119 = .ok (.iconst 1, 1) := by decide +kernel
theorem dX12_startsAnew_120 : decode cX12_startsAnew 120 = .ok (.iadd, 1) := by decide +kernel
theorem dX12_startsAnew_121 : decode cX12_startsAnew 121 = .ok (.iconst 0, 1) := by decide +kernel
theorem dX12_startsAnew_122 : decode cX12_startsAnew 122 = .ok (.iastore, 1) := by decide +kernel
theorem dX12_startsAnew_123 : decode cX12_startsAnew 123 = .ok (.aload_n 0, 1) := by decide +kernel
theorem dX12_startsAnew_124 : decode cX12_startsAnew 124 = .ok (.getfield 39, 3) := by decide +kernel
theorem dX12_startsAnew_127 : decode cX12_startsAnew 127 = .ok (.iload_n 2, 1) := by decide +kernel
theorem dX12_startsAnew_128 : decode cX12_startsAnew 128 = .ok (.iconst 2, 1) := by decide +kernel
theorem dX12_startsAnew_129 : decode cX12_startsAnew 129 = .ok (.iadd, 1) := by decide +kernel
theorem dX12_startsAnew_130 : decode cX12_startsAnew 130 = .ok (.iconst (-1), 1) := by decide +kernel
theorem dX12_startsAnew_131 : decode cX12_startsAnew 131 = .ok (.iastore, 1) := by decide +kernel
theorem dX12_startsAnew_132 : decode cX12_startsAnew 132 = .ok (.aload_n 0, 1) := by decide +kernel
theorem dX12_startsAnew_133 : decode cX12_startsAnew 133 = .ok (.getfield 39, 3) := by decide +kernel
theorem dX12_startsAnew_136 : decode cX12_startsAnew 136 = .ok (.iload_n 2, 1) := by decide +kernel
theorem dX12_startsAnew_137 : decode cX12_startsAnew 137 = .ok (.iconst 3, 1) := by decide +kernel
theorem dX12_startsAnew_138 : decode cX12_startsAnew 138 = .ok (.iadd, 1) := by decide +kernel
theorem dX12_startsAnew_139 : decode cX12_startsAnew 139 = .ok (.iconst 0, 1) := by decide +kernel
theorem dX12_startsAnew_140 : decode cX12_startsAnew 140 = .ok (.iastore, 1) := by decide +kernel
theorem dX12_startsAnew_141 : decode cX12_startsAnew 141 = .ok (.iinc 1 1, 3) := by decide +kernel
theorem dX12_startsAnew_144 : decode cX12_startsAnew 144 = .ok (.goto (-49), 3) := by decide +kernel
theorem dX12_startsAnew_147 : decode cX12_startsAnew 147 = .ok (.return_, 1) := by decide +kernel
theorem wd_1675 : (Jvm.Cond.code ({ cls := "SilentSaleModel", name := "closes", desc := "(III)V" } : Jvm.MethodName) prog_14_method_71_code (6 : Nat) (Option.none : Option Jvm.ClassFile.FieldType)) ∈ tb_L := tb_in (i := 1675) (by decide +kernel) (by decide +kernel)
theorem dX12_closes__0 : decode cX12_closes_ 0 = .ok (.bipush 36, 2) := by decide +kernel
theorem dX12_closes__2 : decode cX12_closes_ 2 = .ok (.iconst 4, 1) := by decide +kernel
theorem dX12_closes__3 : decode cX12_closes_ 3 = .ok (.iload_n 1, 1) := by decide +kernel
theorem dX12_closes__4 : decode cX12_closes_ 4 = .ok (.imul, 1) := by decide +kernel
theorem dX12_closes__5 : decode cX12_closes_ 5 = .ok (.iadd, 1) := by decide +kernel
theorem dX12_closes__6 : decode cX12_closes_ 6 = .ok (.istore 4, 2) := by decide +kernel
theorem dX12_closes__8 : decode cX12_closes_ 8 = .ok (.aload_n 0, 1) := by decide +kernel
theorem dX12_closes__9 : decode cX12_closes_ 9 = .ok (.getfield 39, 3) := by decide +kernel
theorem dX12_closes__12 : decode cX12_closes_ 12 = .ok (.iload 4, 2) := by decide +kernel
theorem dX12_closes__14 : decode cX12_closes_ 14 = .ok (.iconst 2, 1) := by decide +kernel
theorem dX12_closes__15 : decode cX12_closes_ 15 = .ok (.iastore, 1) := by decide +kernel
theorem dX12_closes__16 : decode cX12_closes_ 16 = .ok (.aload_n 0, 1) := by decide +kernel
theorem dX12_closes__17 : decode cX12_closes_ 17 = .ok (.getfield 39, 3) := by decide +kernel
theorem dX12_closes__20 : decode cX12_closes_ 20 = .ok (.iload 4, 2) := by decide +kernel
theorem dX12_closes__22 : decode cX12_closes_ 22 = .ok (.iconst 2, 1) := by decide +kernel
theorem dX12_closes__23 : decode cX12_closes_ 23 = .ok (.iadd, 1) := by decide +kernel
theorem dX12_closes__24 : decode cX12_closes_ 24 = .ok (.iload_n 2, 1) := by decide +kernel
theorem dX12_closes__25 : decode cX12_closes_ 25 = .ok (.iastore, 1) := by decide +kernel
theorem dX12_closes__26 : decode cX12_closes_ 26 = .ok (.aload_n 0, 1) := by decide +kernel
theorem dX12_closes__27 : decode cX12_closes_ 27 = .ok (.getfield 39, 3) := by decide +kernel
theorem dX12_closes__30 : decode cX12_closes_ 30 = .ok (.iload 4, 2) := by decide +kernel
theorem dX12_closes__32 : decode cX12_closes_ 32 = .ok (.iconst 3, 1) := by decide +kernel
theorem dX12_closes__33 : decode cX12_closes_ 33 = .ok (.iadd, 1) := by decide +kernel
theorem dX12_closes__34 : decode cX12_closes_ 34 = .ok (.iload_n 3, 1) := by decide +kernel
theorem dX12_closes__35 : decode cX12_closes_ 35 = .ok (.iastore, 1) := by decide +kernel
theorem dX12_closes__36 : decode cX12_closes_ 36 = .ok (.iload_n 2, 1) := by decide +kernel
theorem dX12_closes__37 : decode cX12_closes_ 37 = .ok (.ifCond .lt 18, 3) := by decide +kernel
theorem dX12_closes__40 : decode cX12_closes_ 40 = .ok (.aload_n 0, 1) := by decide +kernel
theorem dX12_closes__41 : decode cX12_closes_ 41 = .ok (.getfield 39, 3) := by decide +kernel
theorem dX12_closes__44 : decode cX12_closes_ 44 = .ok (.bipush 11, 2) := by decide +kernel
theorem dX12_closes__46 : decode cX12_closes_ 46 = .ok (.iconst 5, 1) := by decide +kernel
theorem dX12_closes__47 : decode cX12_closes_ 47 = .ok (.iload_n 2, 1) := by decide +kernel
theorem dX12_closes__48 : decode cX12_closes_ 48 = .ok (.imul, 1) := by decide +kernel
theorem dX12_closes__49 : decode cX12_closes_ 49 = .ok (.iadd, 1) := by decide +kernel
theorem dX12_closes__50 : decode cX12_closes_ 50 = .ok (.dup2, 1) := by decide +kernel
theorem dX12_closes__51 : decode cX12_closes_ 51 = .ok (.iaload, 1) := by decide +kernel
theorem dX12_closes__52 : decode cX12_closes_ 52 = .ok (.iload_n 3, 1) := by decide +kernel
theorem dX12_closes__53 : decode cX12_closes_ 53 = .ok (.isub, 1) := by decide +kernel
theorem dX12_closes__54 : decode cX12_closes_ 54 = .ok (.iastore, 1) := by decide +kernel
theorem dX12_closes__55 : decode cX12_closes_ 55 = .ok (.iconst 0, 1) := by decide +kernel
theorem dX12_closes__56 : decode cX12_closes_ 56 = .ok (.istore 5, 2) := by decide +kernel
theorem dX12_closes__58 : decode cX12_closes_ 58 = .ok (.iload 5, 2) := by decide +kernel
theorem dX12_closes__60 : decode cX12_closes_ 60 = .ok (.aload_n 0, 1) := by decide +kernel
theorem dX12_closes__61 : decode cX12_closes_ 61 = .ok (.getfield 39, 3) := by decide +kernel
theorem dX12_closes__64 : decode cX12_closes_ 64 = .ok (.iconst 1, 1) := by decide +kernel
theorem dX12_closes__65 : decode cX12_closes_ 65 = .ok (.iaload, 1) := by decide +kernel
theorem dX12_closes__66 : decode cX12_closes_ 66 = .ok (.if_icmp .ge 53, 3) := by decide +kernel
theorem dX12_closes__69 : decode cX12_closes_ 69 = .ok (.aload_n 0, 1) := by decide +kernel
theorem dX12_closes__70 : decode cX12_closes_ 70 = .ok (.iload 5, 2) := by decide +kernel
theorem dX12_closes__72 : decode cX12_closes_ 72 = .ok (.iconst 2, 1) := by decide +kernel
theorem dX12_closes__73 : decode cX12_closes_ 73 = .ok (.invokevirtual 278, 3) := by decide +kernel
theorem dX12_closes__76 : decode cX12_closes_ 76 = .ok (.iload_n 1, 1) := by decide +kernel
theorem dX12_closes__77 : decode cX12_closes_ 77 = .ok (.if_icmp .eq 6, 3) := by decide +kernel
theorem dX12_closes__80 : decode cX12_closes_ 80 = .ok (.goto 33, 3) := by decide +kernel
theorem dX12_closes__83 : decode cX12_closes_ 83 = .ok (.aload_n 0, 1) := by decide +kernel
theorem dX12_closes__84 : decode cX12_closes_ 84 = .ok (.getfield 39, 3) := by decide +kernel
theorem dX12_closes__87 : decode cX12_closes_ 87 = .ok (.bipush 11, 2) := by decide +kernel
theorem dX12_closes__89 : decode cX12_closes_ 89 = .ok (.iconst 5, 1) := by decide +kernel
theorem dX12_closes__90 : decode cX12_closes_ 90 = .ok (.iload 5, 2) := by decide +kernel
theorem dX12_closes__92 : decode cX12_closes_ 92 = .ok (.imul, 1) := by decide +kernel
theorem dX12_closes__93 : decode cX12_closes_ 93 = .ok (.iadd, 1) := by decide +kernel
theorem dX12_closes__94 : decode cX12_closes_ 94 = .ok (.iconst 2, 1) := by decide +kernel
theorem dX12_closes__95 : decode cX12_closes_ 95 = .ok (.iadd, 1) := by decide +kernel
theorem dX12_closes__96 : decode cX12_closes_ 96 = .ok (.iconst (-1), 1) := by decide +kernel
theorem dX12_closes__97 : decode cX12_closes_ 97 = .ok (.iastore, 1) := by decide +kernel
theorem dX12_closes__98 : decode cX12_closes_ 98 = .ok (.aload_n 0, 1) := by decide +kernel
theorem dX12_closes__99 : decode cX12_closes_ 99 = .ok (.getfield 39, 3) := by decide +kernel
theorem dX12_closes__102 : decode cX12_closes_ 102 = .ok (.bipush 11, 2) := by decide +kernel
theorem dX12_closes__104 : decode cX12_closes_ 104 = .ok (.iconst 5, 1) := by decide +kernel
theorem dX12_closes__105 : decode cX12_closes_ 105 = .ok (.iload 5, 2) := by decide +kernel
theorem dX12_closes__107 : decode cX12_closes_ 107 = .ok (.imul, 1) := by decide +kernel
theorem dX12_closes__108 : decode cX12_closes_ 108 = .ok (.iadd, 1) := by decide +kernel
theorem dX12_closes__109 : decode cX12_closes_ 109 = .ok (.iconst 3, 1) := by decide +kernel
theorem dX12_closes__110 : decode cX12_closes_ 110 = .ok (.iadd, 1) := by decide +kernel
theorem dX12_closes__111 : decode cX12_closes_ 111 = .ok (.iconst 0, 1) := by decide +kernel
theorem dX12_closes__112 : decode cX12_closes_ 112 = .ok (.iastore, 1) := by decide +kernel
theorem dX12_closes__113 : decode cX12_closes_ 113 = .ok (.iinc 5 1, 3) := by decide +kernel
theorem dX12_closes__116 : decode cX12_closes_ 116 = .ok (.goto (-58), 3) := by decide +kernel
theorem dX12_closes__119 : decode cX12_closes_ 119 = .ok (.return_, 1) := by decide +kernel
theorem wd_1703 : (Jvm.Cond.code ({ cls := "SilentSaleModel", name := "priceOf", desc := "(I)I" } : Jvm.MethodName) prog_14_method_82_code (2 : Nat) (Option.some Jvm.ClassFile.FieldType.int)) ∈ tb_L := tb_in (i := 1703) (by decide +kernel) (by decide +kernel)
theorem dX12_priceOf_0 : decode cX12_priceOf 0 = .ok (.aload_n 0, 1) := by decide +kernel
theorem dX12_priceOf_1 : decode cX12_priceOf 1 = .ok (.getfield 39, 3) := by decide +kernel
theorem dX12_priceOf_4 : decode cX12_priceOf 4 = .ok (.bipush 63, 2) := by decide +kernel
theorem dX12_priceOf_6 : decode cX12_priceOf 6 = .ok (.iconst 2, 1) := by decide +kernel
theorem dX12_priceOf_7 : decode cX12_priceOf 7 = .ok (.iload_n 1, 1) := by decide +kernel
theorem dX12_priceOf_8 : decode cX12_priceOf 8 = .ok (.imul, 1) := by decide +kernel
theorem dX12_priceOf_9 : decode cX12_priceOf 9 = .ok (.iadd, 1) := by decide +kernel
theorem dX12_priceOf_10 : decode cX12_priceOf 10 = .ok (.iaload, 1) := by decide +kernel
theorem dX12_priceOf_11 : decode cX12_priceOf 11 = .ok (.ireturn, 1) := by decide +kernel
theorem wd_1707 : (Jvm.Cond.code ({ cls := "SilentSaleModel", name := "effectOf", desc := "(I)I" } : Jvm.MethodName) prog_14_method_83_code (2 : Nat) (Option.some Jvm.ClassFile.FieldType.int)) ∈ tb_L := tb_in (i := 1707) (by decide +kernel) (by decide +kernel)
theorem dX12_effectOf_0 : decode cX12_effectOf 0 = .ok (.aload_n 0, 1) := by decide +kernel
theorem dX12_effectOf_1 : decode cX12_effectOf 1 = .ok (.getfield 39, 3) := by decide +kernel
theorem dX12_effectOf_4 : decode cX12_effectOf 4 = .ok (.bipush 63, 2) := by decide +kernel
theorem dX12_effectOf_6 : decode cX12_effectOf 6 = .ok (.iconst 2, 1) := by decide +kernel
theorem dX12_effectOf_7 : decode cX12_effectOf 7 = .ok (.iload_n 1, 1) := by decide +kernel
theorem dX12_effectOf_8 : decode cX12_effectOf 8 = .ok (.imul, 1) := by decide +kernel
theorem dX12_effectOf_9 : decode cX12_effectOf 9 = .ok (.iadd, 1) := by decide +kernel
theorem dX12_effectOf_10 : decode cX12_effectOf 10 = .ok (.iconst 1, 1) := by decide +kernel
theorem dX12_effectOf_11 : decode cX12_effectOf 11 = .ok (.iadd, 1) := by decide +kernel
theorem dX12_effectOf_12 : decode cX12_effectOf 12 = .ok (.iaload, 1) := by decide +kernel
theorem dX12_effectOf_13 : decode cX12_effectOf 13 = .ok (.ireturn, 1) := by decide +kernel
theorem wd_99 : (Jvm.Cond.selects "SilentSaleModel" ({ cls := "SilentSaleModel", name := "priceOf", desc := "(I)I" } : Jvm.MethodName) ({ cls := "SilentSaleModel", name := "priceOf", desc := "(I)I" } : Jvm.MethodName)) ∈ tb_L := tb_in (i := 99) (by decide +kernel) (by decide +kernel)
theorem wd_100 : (Jvm.Cond.selects "SilentSaleModel" ({ cls := "SilentSaleModel", name := "effectOf", desc := "(I)I" } : Jvm.MethodName) ({ cls := "SilentSaleModel", name := "effectOf", desc := "(I)I" } : Jvm.MethodName)) ∈ tb_L := tb_in (i := 100) (by decide +kernel) (by decide +kernel)
theorem wd_1699 : (Jvm.Cond.code ({ cls := "SilentSaleModel", name := "canPlay", desc := "(III)Z" } : Jvm.MethodName) prog_14_method_84_code (4 : Nat) (Option.some Jvm.ClassFile.FieldType.boolean)) ∈ tb_L := tb_in (i := 1699) (by decide +kernel) (by decide +kernel)
theorem wd_1700 : (Jvm.Cond.methodLink "SilentSaleModel" (369 : Nat) ({ cls := "SilentSaleModel", name := "priceOf", desc := "(I)I" } : Jvm.MethodName)) ∈ tb_L := tb_in (i := 1700) (by decide +kernel) (by decide +kernel)
theorem wd_1702 : (Jvm.Cond.instanceMethod ({ cls := "SilentSaleModel", name := "priceOf", desc := "(I)I" } : Jvm.MethodName)) ∈ tb_L := tb_in (i := 1702) (by decide +kernel) (by decide +kernel)
theorem wd_1704 : (Jvm.Cond.methodLink "SilentSaleModel" (372 : Nat) ({ cls := "SilentSaleModel", name := "effectOf", desc := "(I)I" } : Jvm.MethodName)) ∈ tb_L := tb_in (i := 1704) (by decide +kernel) (by decide +kernel)
theorem wd_1706 : (Jvm.Cond.instanceMethod ({ cls := "SilentSaleModel", name := "effectOf", desc := "(I)I" } : Jvm.MethodName)) ∈ tb_L := tb_in (i := 1706) (by decide +kernel) (by decide +kernel)
theorem dX12_canPlay_0 : decode cX12_canPlay 0 = .ok (.iload_n 1, 1) := by decide +kernel
theorem dX12_canPlay_1 : decode cX12_canPlay 1 = .ok (.iload_n 2, 1) := by decide +kernel
theorem dX12_canPlay_2 : decode cX12_canPlay 2 = .ok (.if_icmp .eq 43, 3) := by decide +kernel
theorem dX12_canPlay_5 : decode cX12_canPlay 5 = .ok (.aload_n 0, 1) := by decide +kernel
theorem dX12_canPlay_6 : decode cX12_canPlay 6 = .ok (.iload_n 1, 1) := by decide +kernel
theorem dX12_canPlay_7 : decode cX12_canPlay 7 = .ok (.iconst 0, 1) := by decide +kernel
theorem dX12_canPlay_8 : decode cX12_canPlay 8 = .ok (.invokevirtual 278, 3) := by decide +kernel
theorem dX12_canPlay_11 : decode cX12_canPlay 11 = .ok (.aload_n 0, 1) := by decide +kernel
theorem dX12_canPlay_12 : decode cX12_canPlay 12 = .ok (.iload_n 3, 1) := by decide +kernel
theorem dX12_canPlay_13 : decode cX12_canPlay 13 = .ok (.invokevirtual 369, 3) := by decide +kernel
theorem dX12_canPlay_16 : decode cX12_canPlay 16 = .ok (.if_icmp .lt 29, 3) := by decide +kernel
theorem dX12_canPlay_19 : decode cX12_canPlay 19 = .ok (.aload_n 0, 1) := by decide +kernel
theorem dX12_canPlay_20 : decode cX12_canPlay 20 = .ok (.iload_n 2, 1) := by decide +kernel
theorem dX12_canPlay_21 : decode cX12_canPlay 21 = .ok (.invokevirtual 282, 3) := by decide +kernel
theorem dX12_canPlay_24 : decode cX12_canPlay 24 = .ok (.ifCond .eq 21, 3) := by decide +kernel
theorem dX12_canPlay_27 : decode cX12_canPlay 27 = .ok (.aload_n 0, 1) := by decide +kernel
theorem dX12_canPlay_28 : decode cX12_canPlay 28 = .ok (.iload_n 2, 1) := by decide +kernel
theorem dX12_canPlay_29 : decode cX12_canPlay 29 = .ok (.iconst 1, 1) := by decide +kernel
theorem dX12_canPlay_30 : decode cX12_canPlay 30 = .ok (.invokevirtual 278, 3) := by decide +kernel
theorem dX12_canPlay_33 : decode cX12_canPlay 33 = .ok (.aload_n 0, 1) := by decide +kernel
theorem dX12_canPlay_34 : decode cX12_canPlay 34 = .ok (.iload_n 3, 1) := by decide +kernel
theorem dX12_canPlay_35 : decode cX12_canPlay 35 = .ok (.invokevirtual 372, 3) := by decide +kernel
theorem dX12_canPlay_38 : decode cX12_canPlay 38 = .ok (.if_icmp .le 7, 3) := by decide +kernel
theorem dX12_canPlay_41 : decode cX12_canPlay 41 = .ok (.iconst 1, 1) := by decide +kernel
theorem dX12_canPlay_42 : decode cX12_canPlay 42 = .ok (.goto 4, 3) := by decide +kernel
theorem dX12_canPlay_45 : decode cX12_canPlay 45 = .ok (.iconst 0, 1) := by decide +kernel
theorem dX12_canPlay_46 : decode cX12_canPlay 46 = .ok (.ireturn, 1) := by decide +kernel
theorem wd_1711 : (Jvm.Cond.code ({ cls := "SilentSaleModel", name := "plays", desc := "(III)V" } : Jvm.MethodName) prog_14_method_85_code (4 : Nat) (Option.none : Option Jvm.ClassFile.FieldType)) ∈ tb_L := tb_in (i := 1711) (by decide +kernel) (by decide +kernel)
theorem dX12_plays_0 : decode cX12_plays 0 = .ok (.aload_n 0, 1) := by decide +kernel
theorem dX12_plays_1 : decode cX12_plays 1 = .ok (.getfield 39, 3) := by decide +kernel
theorem dX12_plays_4 : decode cX12_plays 4 = .ok (.bipush 11, 2) := by decide +kernel
theorem dX12_plays_6 : decode cX12_plays 6 = .ok (.iconst 5, 1) := by decide +kernel
theorem dX12_plays_7 : decode cX12_plays 7 = .ok (.iload_n 1, 1) := by decide +kernel
theorem dX12_plays_8 : decode cX12_plays 8 = .ok (.imul, 1) := by decide +kernel
theorem dX12_plays_9 : decode cX12_plays 9 = .ok (.iadd, 1) := by decide +kernel
theorem dX12_plays_10 : decode cX12_plays 10 = .ok (.dup2, 1) := by decide +kernel
theorem dX12_plays_11 : decode cX12_plays 11 = .ok (.iaload, 1) := by decide +kernel
theorem dX12_plays_12 : decode cX12_plays 12 = .ok (.aload_n 0, 1) := by decide +kernel
theorem dX12_plays_13 : decode cX12_plays 13 = .ok (.iload_n 3, 1) := by decide +kernel
theorem dX12_plays_14 : decode cX12_plays 14 = .ok (.invokevirtual 369, 3) := by decide +kernel
theorem dX12_plays_17 : decode cX12_plays 17 = .ok (.isub, 1) := by decide +kernel
theorem dX12_plays_18 : decode cX12_plays 18 = .ok (.iastore, 1) := by decide +kernel
theorem dX12_plays_19 : decode cX12_plays 19 = .ok (.aload_n 0, 1) := by decide +kernel
theorem dX12_plays_20 : decode cX12_plays 20 = .ok (.getfield 39, 3) := by decide +kernel
theorem dX12_plays_23 : decode cX12_plays 23 = .ok (.bipush 11, 2) := by decide +kernel
theorem dX12_plays_25 : decode cX12_plays 25 = .ok (.iconst 5, 1) := by decide +kernel
theorem dX12_plays_26 : decode cX12_plays 26 = .ok (.iload_n 2, 1) := by decide +kernel
theorem dX12_plays_27 : decode cX12_plays 27 = .ok (.imul, 1) := by decide +kernel
theorem dX12_plays_28 : decode cX12_plays 28 = .ok (.iadd, 1) := by decide +kernel
theorem dX12_plays_29 : decode cX12_plays 29 = .ok (.iconst 1, 1) := by decide +kernel
theorem dX12_plays_30 : decode cX12_plays 30 = .ok (.iadd, 1) := by decide +kernel
theorem dX12_plays_31 : decode cX12_plays 31 = .ok (.dup2, 1) := by decide +kernel
theorem dX12_plays_32 : decode cX12_plays 32 = .ok (.iaload, 1) := by decide +kernel
theorem dX12_plays_33 : decode cX12_plays 33 = .ok (.aload_n 0, 1) := by decide +kernel
theorem dX12_plays_34 : decode cX12_plays 34 = .ok (.iload_n 3, 1) := by decide +kernel
theorem dX12_plays_35 : decode cX12_plays 35 = .ok (.invokevirtual 372, 3) := by decide +kernel
theorem dX12_plays_38 : decode cX12_plays 38 = .ok (.isub, 1) := by decide +kernel
theorem dX12_plays_39 : decode cX12_plays 39 = .ok (.iastore, 1) := by decide +kernel
theorem dX12_plays_40 : decode cX12_plays 40 = .ok (.aload_n 0, 1) := by decide +kernel
theorem dX12_plays_41 : decode cX12_plays 41 = .ok (.getfield 39, 3) := by decide +kernel
theorem dX12_plays_44 : decode cX12_plays 44 = .ok (.bipush 11, 2) := by decide +kernel
theorem dX12_plays_46 : decode cX12_plays 46 = .ok (.iconst 5, 1) := by decide +kernel
theorem dX12_plays_47 : decode cX12_plays 47 = .ok (.iload_n 2, 1) := by decide +kernel
theorem dX12_plays_48 : decode cX12_plays 48 = .ok (.imul, 1) := by decide +kernel
theorem dX12_plays_49 : decode cX12_plays 49 = .ok (.iadd, 1) := by decide +kernel
theorem dX12_plays_50 : decode cX12_plays 50 = .ok (.iconst 4, 1) := by decide +kernel
theorem dX12_plays_51 : decode cX12_plays 51 = .ok (.iadd, 1) := by decide +kernel
theorem dX12_plays_52 : decode cX12_plays 52 = .ok (.dup2, 1) := by decide +kernel
theorem dX12_plays_53 : decode cX12_plays 53 = .ok (.iaload, 1) := by decide +kernel
theorem dX12_plays_54 : decode cX12_plays 54 = .ok (.iconst 1, 1) := by decide +kernel
theorem dX12_plays_55 : decode cX12_plays 55 = .ok (.iadd, 1) := by decide +kernel
theorem dX12_plays_56 : decode cX12_plays 56 = .ok (.iastore, 1) := by decide +kernel
theorem dX12_plays_57 : decode cX12_plays 57 = .ok (.return_, 1) := by decide +kernel
theorem wd_80 : (Jvm.Cond.selects "SilentSaleModel" ({ cls := "SilentSaleModel", name := "sitting", desc := "(I)I" } : Jvm.MethodName) ({ cls := "SilentSaleModel", name := "sitting", desc := "(I)I" } : Jvm.MethodName)) ∈ tb_L := tb_in (i := 80) (by decide +kernel) (by decide +kernel)
theorem wd_1587 : (Jvm.Cond.methodLink "SilentSaleModel" (313 : Nat) ({ cls := "SilentSaleModel", name := "sitting", desc := "(I)I" } : Jvm.MethodName)) ∈ tb_L := tb_in (i := 1587) (by decide +kernel) (by decide +kernel)
theorem wd_1589 : (Jvm.Cond.instanceMethod ({ cls := "SilentSaleModel", name := "sitting", desc := "(I)I" } : Jvm.MethodName)) ∈ tb_L := tb_in (i := 1589) (by decide +kernel) (by decide +kernel)
theorem wd_1687 : (Jvm.Cond.code ({ cls := "SilentSaleModel", name := "canRing", desc := "(I)Z" } : Jvm.MethodName) prog_14_method_79_code (2 : Nat) (Option.some Jvm.ClassFile.FieldType.boolean)) ∈ tb_L := tb_in (i := 1687) (by decide +kernel) (by decide +kernel)
theorem dX12_canRing_0 : decode cX12_canRing 0 = .ok (.aload_n 0, 1) := by decide +kernel
theorem dX12_canRing_1 : decode cX12_canRing 1 = .ok (.iload_n 1, 1) := by decide +kernel
theorem dX12_canRing_2 : decode cX12_canRing 2 = .ok (.iconst 0, 1) := by decide +kernel
theorem dX12_canRing_3 : decode cX12_canRing 3 = .ok (.invokevirtual 285, 3) := by decide +kernel
theorem dX12_canRing_6 : decode cX12_canRing 6 = .ok (.ifCond .ne 15, 3) := by decide +kernel
theorem dX12_canRing_9 : decode cX12_canRing 9 = .ok (.aload_n 0, 1) := by decide +kernel
theorem dX12_canRing_10 : decode cX12_canRing 10 = .ok (.iload_n 1, 1) := by decide +kernel
theorem dX12_canRing_11 : decode cX12_canRing 11 = .ok (.invokevirtual 313, 3) := by decide +kernel
theorem dX12_canRing_14 : decode cX12_canRing 14 = .ok (.ifCond .eq 7, 3) := by decide +kernel
theorem dX12_canRing_17 : decode cX12_canRing 17 = .ok (.iconst 1, 1) := by decide +kernel
theorem dX12_canRing_18 : decode cX12_canRing 18 = .ok (.goto 4, 3) := by decide +kernel
theorem dX12_canRing_21 : decode cX12_canRing 21 = .ok (.iconst 0, 1) := by decide +kernel
theorem dX12_canRing_22 : decode cX12_canRing 22 = .ok (.ireturn, 1) := by decide +kernel
theorem wd_94 : (Jvm.Cond.selects "SilentSaleModel" ({ cls := "SilentSaleModel", name := "firstOf", desc := "(I)I" } : Jvm.MethodName) ({ cls := "SilentSaleModel", name := "firstOf", desc := "(I)I" } : Jvm.MethodName)) ∈ tb_L := tb_in (i := 94) (by decide +kernel) (by decide +kernel)
theorem wd_95 : (Jvm.Cond.selects "SilentSaleModel" ({ cls := "SilentSaleModel", name := "closes", desc := "(III)V" } : Jvm.MethodName) ({ cls := "SilentSaleModel", name := "closes", desc := "(III)V" } : Jvm.MethodName)) ∈ tb_L := tb_in (i := 95) (by decide +kernel) (by decide +kernel)
theorem wd_1646 : (Jvm.Cond.methodLink "SilentSaleModel" (326 : Nat) ({ cls := "SilentSaleModel", name := "bits", desc := "(I)I" } : Jvm.MethodName)) ∈ tb_L := tb_in (i := 1646) (by decide +kernel) (by decide +kernel)
theorem wd_1647 : (Jvm.Cond.static ({ cls := "SilentSaleModel", name := "bits", desc := "(I)I" } : Jvm.MethodName)) ∈ tb_L := tb_in (i := 1647) (by decide +kernel) (by decide +kernel)
theorem wd_1668 : (Jvm.Cond.methodLink "SilentSaleModel" (348 : Nat) ({ cls := "SilentSaleModel", name := "firstOf", desc := "(I)I" } : Jvm.MethodName)) ∈ tb_L := tb_in (i := 1668) (by decide +kernel) (by decide +kernel)
theorem wd_1670 : (Jvm.Cond.instanceMethod ({ cls := "SilentSaleModel", name := "firstOf", desc := "(I)I" } : Jvm.MethodName)) ∈ tb_L := tb_in (i := 1670) (by decide +kernel) (by decide +kernel)
theorem wd_1672 : (Jvm.Cond.methodLink "SilentSaleModel" (351 : Nat) ({ cls := "SilentSaleModel", name := "closes", desc := "(III)V" } : Jvm.MethodName)) ∈ tb_L := tb_in (i := 1672) (by decide +kernel) (by decide +kernel)
theorem wd_1674 : (Jvm.Cond.instanceMethod ({ cls := "SilentSaleModel", name := "closes", desc := "(III)V" } : Jvm.MethodName)) ∈ tb_L := tb_in (i := 1674) (by decide +kernel) (by decide +kernel)
theorem wd_1691 : (Jvm.Cond.code ({ cls := "SilentSaleModel", name := "rings", desc := "(I)V" } : Jvm.MethodName) prog_14_method_80_code (4 : Nat) (Option.none : Option Jvm.ClassFile.FieldType)) ∈ tb_L := tb_in (i := 1691) (by decide +kernel) (by decide +kernel)
theorem dX12_rings_0 : decode cX12_rings 0 = .ok (.aload_n 0, 1) := by decide +kernel
theorem dX12_rings_1 : decode cX12_rings 1 = .ok (.iload_n 1, 1) := by decide +kernel
theorem dX12_rings_2 : decode cX12_rings 2 = .ok (.invokevirtual 313, 3) := by decide +kernel
theorem dX12_rings_5 : decode cX12_rings 5 = .ok (.istore_n 2, 1) := by decide +kernel
theorem dX12_rings_6 : decode cX12_rings 6 = .ok (.iload_n 2, 1) := by decide +kernel
theorem dX12_rings_7 : decode cX12_rings 7 = .ok (.invokestatic 326, 3) := by decide +kernel
theorem dX12_rings_10 : decode cX12_rings 10 = .ok (.iconst 1, 1) := by decide +kernel
theorem dX12_rings_11 : decode cX12_rings 11 = .ok (.if_icmp .ne 15, 3) := by decide +kernel
theorem dX12_rings_14 : decode cX12_rings 14 = .ok (.aload_n 0, 1) := by decide +kernel
theorem dX12_rings_15 : decode cX12_rings 15 = .ok (.iload_n 1, 1) := by decide +kernel
theorem dX12_rings_16 : decode cX12_rings 16 = .ok (.aload_n 0, 1) := by decide +kernel
theorem dX12_rings_17 : decode cX12_rings 17 = .ok (.iload_n 2, 1) := by decide +kernel
theorem dX12_rings_18 : decode cX12_rings 18 = .ok (.invokevirtual 348, 3) := by decide +kernel
theorem dX12_rings_21 : decode cX12_rings 21 = .ok (.iconst 0, 1) := by decide +kernel
theorem dX12_rings_22 : decode cX12_rings 22 = .ok (.invokevirtual 351, 3) := by decide +kernel
theorem dX12_rings_25 : decode cX12_rings 25 = .ok (.return_, 1) := by decide +kernel
theorem dX12_rings_26 : decode cX12_rings 26 = .ok (.aload_n 0, 1) := by decide +kernel
theorem dX12_rings_27 : decode cX12_rings 27 = .ok (.getfield 39, 3) := by decide +kernel
theorem dX12_rings_30 : decode cX12_rings 30 = .ok (.bipush 36, 2) := by decide +kernel
theorem dX12_rings_32 : decode cX12_rings 32 = .ok (.iconst 4, 1) := by decide +kernel
theorem dX12_rings_33 : decode cX12_rings 33 = .ok (.iload_n 1, 1) := by decide +kernel
theorem dX12_rings_34 : decode cX12_rings 34 = .ok (.imul, 1) := by decide +kernel
theorem dX12_rings_35 : decode cX12_rings 35 = .ok (.iadd, 1) := by decide +kernel
theorem dX12_rings_36 : decode cX12_rings 36 = .ok (.iconst 1, 1) := by decide +kernel
theorem dX12_rings_37 : decode cX12_rings 37 = .ok (.iastore, 1) := by decide +kernel
theorem dX12_rings_38 : decode cX12_rings 38 = .ok (.iconst 0, 1) := by decide +kernel
theorem dX12_rings_39 : decode cX12_rings 39 = .ok (.istore_n 3, 1) := by decide +kernel
theorem dX12_rings_40 : decode cX12_rings 40 = .ok (.iload_n 3, 1) := by decide +kernel
theorem dX12_rings_41 : decode cX12_rings 41 = .ok (.aload_n 0, 1) := by decide +kernel
theorem dX12_rings_42 : decode cX12_rings 42 = .ok (.getfield 39, 3) := by decide +kernel
theorem dX12_rings_45 : decode cX12_rings 45 = .ok (.iconst 1, 1) := by decide +kernel
theorem dX12_rings_46 : decode cX12_rings 46 = .ok (.iaload, 1) := by decide +kernel
theorem dX12_rings_47 : decode cX12_rings 47 = .ok (.if_icmp .ge 31, 3) := by decide +kernel
theorem dX12_rings_50 : decode cX12_rings 50 = .ok (.iload_n 2, 1) := by decide +kernel
theorem dX12_rings_51 : decode cX12_rings 51 = .ok (.iload_n 3, 1) := by decide +kernel
theorem dX12_rings_52 : decode cX12_rings 52 = .ok (.invokestatic 291, 3) := by decide +kernel
theorem dX12_rings_55 : decode cX12_rings 55 = .ok (.ifCond .eq 17, 3) := by decide +kernel
theorem dX12_rings_58 : decode cX12_rings 58 = .ok (.aload_n 0, 1) := by decide +kernel
theorem dX12_rings_59 : decode cX12_rings 59 = .ok (.getfield 39, 3) := by decide +kernel
theorem dX12_rings_62 : decode cX12_rings 62 = .ok (.bipush 11, 2) := by decide +kernel
theorem dX12_rings_64 : decode cX12_rings 64 = .ok (.iconst 5, 1) := by decide +kernel
theorem dX12_rings_65 : decode cX12_rings 65 = .ok (.iload_n 3, 1) := by decide +kernel
theorem dX12_rings_66 : decode cX12_rings 66 = .ok (.imul, 1) := by decide +kernel
theorem dX12_rings_67 : decode cX12_rings 67 = .ok (.iadd, 1) := by decide +kernel
theorem dX12_rings_68 : decode cX12_rings 68 = .ok (.iconst 3, 1) := by decide +kernel
theorem dX12_rings_69 : decode cX12_rings 69 = .ok (.iadd, 1) := by decide +kernel
theorem dX12_rings_70 : decode cX12_rings 70 = .ok (.iconst 1, 1) := by decide +kernel
theorem dX12_rings_71 : decode cX12_rings 71 = .ok (.iastore, 1) := by decide +kernel
theorem dX12_rings_72 : decode cX12_rings 72 = .ok (.iinc 3 1, 3) := by decide +kernel
theorem dX12_rings_75 : decode cX12_rings 75 = .ok (.goto (-35), 3) := by decide +kernel
theorem dX12_rings_78 : decode cX12_rings 78 = .ok (.return_, 1) := by decide +kernel
theorem wd_1280 : (Jvm.Cond.fieldLink "SilentSaleModel" (52 : Nat) "SilentSaleModel" "kept" "[I") ∈ tb_L := tb_in (i := 1280) (by decide +kernel) (by decide +kernel)
theorem wd_1729 : (Jvm.Cond.code ({ cls := "SilentSaleModel", name := "keeps", desc := "()V" } : Jvm.MethodName) prog_14_method_88_code (2 : Nat) (Option.none : Option Jvm.ClassFile.FieldType)) ∈ tb_L := tb_in (i := 1729) (by decide +kernel) (by decide +kernel)
theorem dX12_keeps_0 : decode cX12_keeps 0 = .ok (.iconst 0, 1) := by decide +kernel
theorem dX12_keeps_1 : decode cX12_keeps 1 = .ok (.istore_n 1, 1) := by decide +kernel
theorem dX12_keeps_2 : decode cX12_keeps 2 = .ok (.iload_n 1, 1) := by decide +kernel
theorem dX12_keeps_3 : decode cX12_keeps 3 = .ok (.bipush 38, 2) := by decide +kernel
theorem dX12_keeps_5 : decode cX12_keeps 5 = .ok (.if_icmp .ge 24, 3) := by decide +kernel
theorem dX12_keeps_8 : decode cX12_keeps 8 = .ok (.aload_n 0, 1) := by decide +kernel
theorem dX12_keeps_9 : decode cX12_keeps 9 = .ok (.getfield 52, 3) := by decide +kernel
theorem dX12_keeps_12 : decode cX12_keeps 12 = .ok (.iload_n 1, 1) := by decide +kernel
theorem dX12_keeps_13 : decode cX12_keeps 13 = .ok (.aload_n 0, 1) := by decide +kernel
theorem dX12_keeps_14 : decode cX12_keeps 14 = .ok (.getfield 39, 3) := by decide +kernel
theorem dX12_keeps_17 : decode cX12_keeps 17 = .ok (.bipush 10, 2) := by decide +kernel
theorem dX12_keeps_19 : decode cX12_keeps 19 = .ok (.iload_n 1, 1) := by decide +kernel
theorem dX12_keeps_20 : decode cX12_keeps 20 = .ok (.iadd, 1) := by decide +kernel
theorem dX12_keeps_21 : decode cX12_keeps 21 = .ok (.iaload, 1) := by decide +kernel
theorem dX12_keeps_22 : decode cX12_keeps 22 = .ok (.iastore, 1) := by decide +kernel
theorem dX12_keeps_23 : decode cX12_keeps 23 = .ok (.iinc 1 1, 3) := by decide +kernel
theorem dX12_keeps_26 : decode cX12_keeps 26 = .ok (.goto (-24), 3) := by decide +kernel
theorem dX12_keeps_29 : decode cX12_keeps 29 = .ok (.return_, 1) := by decide +kernel
theorem wd_1733 : (Jvm.Cond.code ({ cls := "SilentSaleModel", name := "laysBack", desc := "()V" } : Jvm.MethodName) prog_14_method_89_code (2 : Nat) (Option.none : Option Jvm.ClassFile.FieldType)) ∈ tb_L := tb_in (i := 1733) (by decide +kernel) (by decide +kernel)
theorem dX12_laysBack_0 : decode cX12_laysBack 0 = .ok (.iconst 0, 1) := by decide +kernel
theorem dX12_laysBack_1 : decode cX12_laysBack 1 = .ok (.istore_n 1, 1) := by decide +kernel
theorem dX12_laysBack_2 : decode cX12_laysBack 2 = .ok (.iload_n 1, 1) := by decide +kernel
theorem dX12_laysBack_3 : decode cX12_laysBack 3 = .ok (.bipush 38, 2) := by decide +kernel
theorem dX12_laysBack_5 : decode cX12_laysBack 5 = .ok (.if_icmp .ge 24, 3) := by decide +kernel
theorem dX12_laysBack_8 : decode cX12_laysBack 8 = .ok (.aload_n 0, 1) := by decide +kernel
theorem dX12_laysBack_9 : decode cX12_laysBack 9 = .ok (.getfield 39, 3) := by decide +kernel
theorem dX12_laysBack_12 : decode cX12_laysBack 12 = .ok (.bipush 10, 2) := by decide +kernel
theorem dX12_laysBack_14 : decode cX12_laysBack 14 = .ok (.iload_n 1, 1) := by decide +kernel
theorem dX12_laysBack_15 : decode cX12_laysBack 15 = .ok (.iadd, 1) := by decide +kernel
theorem dX12_laysBack_16 : decode cX12_laysBack 16 = .ok (.aload_n 0, 1) := by decide +kernel
theorem dX12_laysBack_17 : decode cX12_laysBack 17 = .ok (.getfield 52, 3) := by decide +kernel
theorem dX12_laysBack_20 : decode cX12_laysBack 20 = .ok (.iload_n 1, 1) := by decide +kernel
theorem dX12_laysBack_21 : decode cX12_laysBack 21 = .ok (.iaload, 1) := by decide +kernel
theorem dX12_laysBack_22 : decode cX12_laysBack 22 = .ok (.iastore, 1) := by decide +kernel
theorem dX12_laysBack_23 : decode cX12_laysBack 23 = .ok (.iinc 1 1, 3) := by decide +kernel
theorem dX12_laysBack_26 : decode cX12_laysBack 26 = .ok (.goto (-24), 3) := by decide +kernel
theorem dX12_laysBack_29 : decode cX12_laysBack 29 = .ok (.return_, 1) := by decide +kernel
set_option maxHeartbeats 4000000 in
set_option maxRecDepth 100000 in
theorem d_m_startsAnew (l : Launch) (G : gg_T) (Γ : Nat → Nat) (sz : Nat) (wt : va_W) (hT : tk_ty G Γ wt) (m0 : Nat) (am : Nat → Nat) (v1 : Int32) (v2 : Int32) (v8 : Int32) (v9 : Int32) (v10 : Int32) (v11 : Int32) (v12 : Int32) (v13 : Int32) (v14 : Int32) (v16 : Int32) (v18 : Int32) (v21 : Int32) (v22 : Int32) (v23 : Int32) (v24 : Int32) (v25 : Int32) (v27 : Int32) (v32 : Int64) (sd : Nat → Int32) (k17 : Γ (am 17) = 32) (k19 : Γ (am 19) = 30) (k30 : Γ (am 30) = 28) (k31 : Γ (am 31) = 28) (lo_v1 : 0 ≤ v1.toInt) (hi_v1 : v1.toInt ≤ 400) (lo_v2 : 0 ≤ v2.toInt) (hi_v2 : v2.toInt ≤ 6) (lo_v8 : 0 ≤ v8.toInt) (hi_v8 : v8.toInt ≤ 400) (lo_v11 : 0 ≤ v11.toInt) (hi_v11 : v11.toInt ≤ 6) (lo_v12 : 0 ≤ v12.toInt) (hi_v12 : v12.toInt ≤ 60) (lo_v16 : 0 ≤ v16.toInt) (hi_v16 : v16.toInt ≤ 400) (lo_v21 : -1 ≤ v21.toInt) (hi_v21 : v21.toInt ≤ 5) (lo_v23 : 0 ≤ v23.toInt) (hi_v23 : v23.toInt ≤ 31) (lo_v27 : 0 ≤ v27.toInt) (hi_v27 : v27.toInt ≤ 20) (xfr : v21.toInt < v2.toInt) (hHD : HD sd 0) : Met l yX12_startsAnew (ts_L yX12_startsAnew cX12_startsAnew 3 none) ({ frames := 0, cells := 0, slots := 0, locals := 0 }) (gc_P G ([((am 20), .inl (G.2.2 0, 110, .inl sd)), (m0, .inr (12, [.ref (am 0), .int v1, .int v2, .ref (am 3), .ref (am 4), .ref (am 5), .ref (am 6), .ref (am 7), .int v8, .int v9, .int v10, .int v11, .int v12, .int v13, .int v14, .ref (am 15), .int v16, .ref (am 17), .int v18, .ref (am 19), .ref (am 20), .int v21, .int v22, .int v23, .int v24, .int v25, .ref (am 26), .int v27, .ref (am 28), .ref (am 29), .ref (am 30), .ref (am 31), .long v32, .ref (am 33), .ref (am 34), .ref (am 35), .ref (am 36)]))] ++ wt) sz [.ref m0]) (gc_V G (va_A ([((am 20), .inl (G.2.2 0, 110, .inl sd)), (m0, .inr (12, [.ref (am 0), .int v1, .int v2, .ref (am 3), .ref (am 4), .ref (am 5), .ref (am 6), .ref (am 7), .int v8, .int v9, .int v10, .int v11, .int v12, .int v13, .int v14, .ref (am 15), .int v16, .ref (am 17), .int v18, .ref (am 19), .ref (am 20), .int v21, .int v22, .int v23, .int v24, .int v25, .ref (am 26), .int v27, .ref (am 28), .ref (am 29), .ref (am 30), .ref (am 31), .long v32, .ref (am 33), .ref (am 34), .ref (am 35), .ref (am 36)]))] ++ wt) sz) (fun (u : (Nat → Int32) × va_W) => match u with | (sd1, wt1) => tk_ty G Γ wt1 ∧ tk_kp [] wt wt1 ∧ (SD sd1) ∧ (KH sd sd1) ∧ (∀ l : Nat, l < 3 → (sd1 (36 + 4 * l)).toInt = 0)) (fun (u : (Nat → Int32) × va_W) => match u with | (sd1, wt1) => [((am 20), .inl (G.2.2 0, 110, .inl sd1)), (m0, .inr (12, [.ref (am 0), .int v1, .int v2, .ref (am 3), .ref (am 4), .ref (am 5), .ref (am 6), .ref (am 7), .int v8, .int v9, .int v10, .int v11, .int v12, .int v13, .int v14, .ref (am 15), .int v16, .ref (am 17), .int v18, .ref (am 19), .ref (am 20), .int v21, .int v22, .int v23, .int v24, .int v25, .ref (am 26), .int v27, .ref (am 28), .ref (am 29), .ref (am 30), .ref (am 31), .long v32, .ref (am 33), .ref (am 34), .ref (am 35), .ref (am 36)]))] ++ wt1)) 0 0 (va_A ([((am 20), .inl (G.2.2 0, 110, .inl sd)), (m0, .inr (12, [.ref (am 0), .int v1, .int v2, .ref (am 3), .ref (am 4), .ref (am 5), .ref (am 6), .ref (am 7), .int v8, .int v9, .int v10, .int v11, .int v12, .int v13, .int v14, .ref (am 15), .int v16, .ref (am 17), .int v18, .ref (am 19), .ref (am 20), .int v21, .int v22, .int v23, .int v24, .int v25, .ref (am 26), .int v27, .ref (am 28), .ref (am 29), .ref (am 30), .ref (am 31), .long v32, .ref (am 33), .ref (am 34), .ref (am 35), .ref (am 36)]))] ++ wt) sz) := by
  refine Met.ofW (cc := cX12_startsAnew) (maxL := 3) (ret := none) (by decide) rfl ?_
  intro p e s m args below meth c s₁ B hml hv
  obtain ⟨rfl, hsz, hP, hK, hD0⟩ := hv
  have hx := B.exec
  have hb := B.bytes
  have hr := B.returns
  have ht := ts_ht (atoms_spec (ws := ts_L yX12_startsAnew cX12_startsAnew 3 none) B.pre)
  have hown : s.vm.findClass RX12 = some m.cls := findClass_of_methodNamed B.named
  have hlocks := B.notSynchronized
  subst hsz
  have hD := hD0.self (sz := s.heap.size)
  generalize hAe : va_A ([((am 20), .inl (G.2.2 0, 110, .inl sd)), (m0, .inr (12, [.ref (am 0), .int v1, .int v2, .ref (am 3), .ref (am 4), .ref (am 5), .ref (am 6), .ref (am 7), .int v8, .int v9, .int v10, .int v11, .int v12, .int v13, .int v14, .ref (am 15), .int v16, .ref (am 17), .int v18, .ref (am 19), .ref (am 20), .int v21, .int v22, .int v23, .int v24, .int v25, .ref (am 26), .int v27, .ref (am 28), .ref (am 29), .ref (am 30), .ref (am 31), .long v32, .ref (am 33), .ref (am 34), .ref (am 35), .ref (am 36)]))] ++ wt) s.heap.size = A at hD ⊢
  have hA : ∀ q : Nat, s.heap.size ≤ q → A q := fun q h => by rw [← hAe]; exact Or.inr h
  clear hAe hD0
  have hS : va_S A s.heap s.heap [] := va_S.rf
  obtain ⟨w0, hw0⟩ : ∃ z, z = wt := ⟨_, rfl⟩
  have hW : tk_kp [] w0 wt := by rw [hw0]; exact tk_kp.rf
  rw [← hw0]
  clear hw0
  have hP : va_P (gg_D G) classes ([((am 20), .inl (G.2.2 0, 110, .inl sd)), (m0, .inr (12, [.ref (am 0), .int v1, .int v2, .ref (am 3), .ref (am 4), .ref (am 5), .ref (am 6), .ref (am 7), .int v8, .int v9, .int v10, .int v11, .int v12, .int v13, .int v14, .ref (am 15), .int v16, .ref (am 17), .int v18, .ref (am 19), .ref (am 20), .int v21, .int v22, .int v23, .int v24, .int v25, .ref (am 26), .int v27, .ref (am 28), .ref (am 29), .ref (am 30), .ref (am 31), .long v32, .ref (am 33), .ref (am 34), .ref (am 35), .ref (am 36)]))] ++ wt) s.heap := hP
  have hD : va_D A ([((am 20), .inl (G.2.2 0, 110, .inl sd)), (m0, .inr (12, [.ref (am 0), .int v1, .int v2, .ref (am 3), .ref (am 4), .ref (am 5), .ref (am 6), .ref (am 7), .int v8, .int v9, .int v10, .int v11, .int v12, .int v13, .int v14, .ref (am 15), .int v16, .ref (am 17), .int v18, .ref (am 19), .ref (am 20), .int v21, .int v22, .int v23, .int v24, .int v25, .ref (am 26), .int v27, .ref (am 28), .ref (am 29), .ref (am 30), .ref (am 31), .long v32, .ref (am 33), .ref (am 34), .ref (am 35), .ref (am 36)]))] ++ wt) := hD
  have hl := lv_entry ([.ref m0]) (n := 3) (Nat.le_of_ble_eq_true rfl)
  rw [lg_entry_eq]
  generalize (lg_sl ([.ref m0]) ++ List.replicate (3 - (lg_sl ([.ref m0])).length) Slot.unset).toArray = ls at hl ⊢
  have hl : lv_has ls 3 [(0, .ref m0)] := hl
  have hKH : KH sd sd := KH.rf
  have hSA : SA sd 0 0 := SA.z
  have lm1 : ((-1) : Int32).toInt = -1 := by decide +kernel
  have l0 : (0 : Int32).toInt = 0 := by decide +kernel
  have l1 : (1 : Int32).toInt = 1 := by decide +kernel
  have l2 : (2 : Int32).toInt = 2 := by decide +kernel
  have l3 : (3 : Int32).toInt = 3 := by decide +kernel
  have l4 : (4 : Int32).toInt = 4 := by decide +kernel
  have l5 : (5 : Int32).toInt = 5 := by decide +kernel
  have l10 : (10 : Int32).toInt = 10 := by decide +kernel
  have l11 : (11 : Int32).toInt = 11 := by decide +kernel
  have l36 : (36 : Int32).toInt = 36 := by decide +kernel
  have l69 : (69 : Int32).toInt = 69 := by decide +kernel
  refine lv_aload_n hx hb dX12_startsAnew_0 rfl (lv_at hl 0 rfl) ?_
  refine gq_get hx hb ht hown hK hP i_X12 1 rfl rfl 20 (by decide) wd_1272 rfl rfl dX12_startsAnew_1 ?_
  refine lv_bipush (v := 10) hx hb dX12_startsAnew_4 (by decide +kernel) ?_
  refine lv_iconst (v := 0) hx hb dX12_startsAnew_6 (by decide +kernel) ?_
  obtain ⟨f_1, ef_1⟩ : ∃ zz_ : Nat → Int32, upd sd (Int32.toNatClampNeg 10) 0 = zz_ := ⟨_, rfl⟩
  refine gq_iast (ws' := [((am 20), .inl (G.2.2 0, 110, .inl f_1)), (m0, .inr (12, [.ref (am 0), .int v1, .int v2, .ref (am 3), .ref (am 4), .ref (am 5), .ref (am 6), .ref (am 7), .int v8, .int v9, .int v10, .int v11, .int v12, .int v13, .int v14, .ref (am 15), .int v16, .ref (am 17), .int v18, .ref (am 19), .ref (am 20), .int v21, .int v22, .int v23, .int v24, .int v25, .ref (am 26), .int v27, .ref (am 28), .ref (am 29), .ref (am 30), .ref (am 31), .long v32, .ref (am 33), .ref (am 34), .ref (am 35), .ref (am 36)]))] ++ wt) hx hb hK hP hD hS 0 rfl f_1 (ia_in (n := 110) (by omega) (by omega)) ef_1 rfl dX12_startsAnew_7 (fun H locs hP hD hS => ?_)
  rw [show Int32.toNatClampNeg 10 = 10 from ix_n (by omega)] at ef_1
  have hHD := hHD.st ef_1 (by omega) (by omega)
  have hKH := hKH.st ef_1 (by omega) (by omega)
  have hSA := hSA.keep ef_1 (fun b hb => by omega) (fun l hl => by omega)
  refine lv_iconst (v := 0) hx hb dX12_startsAnew_8 (by decide +kernel) ?_
  refine lv_istore_n (lv' := [(1, .int 0), (0, .ref m0)]) hx hb dX12_startsAnew_9 rfl hl (by decide) rfl (fun ls hl => ?_)
  have hSA : SA f_1 (0 : Int32).toInt 0 := hSA
  refine tl_loopE (Γ := Γ) (nL := 3) (fun (zz_ : Int32 × (Nat → Int32)) => match zz_ with | (x10_0, g10_0) => (0 ≤ x10_0.toInt) ∧ (x10_0.toInt ≤ 5) ∧ (HD g10_0 0) ∧ (KH sd g10_0) ∧ (SA g10_0 x10_0.toInt 0)) (fun (zz_ : Int32 × (Nat → Int32)) => match zz_ with | (x10_0, g10_0) => (5 - x10_0.toInt).toNat) (fun (zz_ : Int32 × (Nat → Int32)) => match zz_ with | (x10_0, g10_0) => [(1, .int x10_0), (0, .ref m0)]) (fun (zz_ : Int32 × (Nat → Int32)) => match zz_ with | (x10_0, g10_0) => [((am 20), .inl (G.2.2 0, 110, .inl g10_0)), (m0, .inr (12, [.ref (am 0), .int v1, .int v2, .ref (am 3), .ref (am 4), .ref (am 5), .ref (am 6), .ref (am 7), .int v8, .int v9, .int v10, .int v11, .int v12, .int v13, .int v14, .ref (am 15), .int v16, .ref (am 17), .int v18, .ref (am 19), .ref (am 20), .int v21, .int v22, .int v23, .int v24, .int v25, .ref (am 26), .int v27, .ref (am 28), .ref (am 29), .ref (am 30), .ref (am 31), .long v32, .ref (am 33), .ref (am 34), .ref (am 35), .ref (am 36)]))]) (fun (zz_ : Int32 × (Nat → Int32)) (w : va_W) => match zz_ with | (x10_0, g10_0) => tk_kp [] w0 w) (fun zz_ hI H locs wt ls hT hW hP hD hS hl ih10 => ?_) (0, f_1) (show (0 ≤ (0 : Int32).toInt) ∧ ((0 : Int32).toInt ≤ 5) ∧ (HD f_1 0) ∧ (KH sd f_1) ∧ (SA f_1 (0 : Int32).toInt 0) from ⟨by omega, by omega, hHD, hKH, hSA⟩) _ _ wt ls hT hW hP hD hS hl
  obtain ⟨x10_0, g10_0⟩ := zz_
  have hW : tk_kp [] w0 wt := hW
  have hI : (0 ≤ x10_0.toInt) ∧ (x10_0.toInt ≤ 5) ∧ (HD g10_0 0) ∧ (KH sd g10_0) ∧ (SA g10_0 x10_0.toInt 0) := hI
  obtain ⟨j10_0, j10_1, hHD, hKH, hSA⟩ := hI
  have hl : lv_has ls 3 [(1, .int x10_0), (0, .ref m0)] := hl
  have hP : va_P (gg_D G) classes ([((am 20), .inl (G.2.2 0, 110, .inl g10_0)), (m0, .inr (12, [.ref (am 0), .int v1, .int v2, .ref (am 3), .ref (am 4), .ref (am 5), .ref (am 6), .ref (am 7), .int v8, .int v9, .int v10, .int v11, .int v12, .int v13, .int v14, .ref (am 15), .int v16, .ref (am 17), .int v18, .ref (am 19), .ref (am 20), .int v21, .int v22, .int v23, .int v24, .int v25, .ref (am 26), .int v27, .ref (am 28), .ref (am 29), .ref (am 30), .ref (am 31), .long v32, .ref (am 33), .ref (am 34), .ref (am 35), .ref (am 36)]))] ++ wt) H := hP
  have hD : va_D A ([((am 20), .inl (G.2.2 0, 110, .inl g10_0)), (m0, .inr (12, [.ref (am 0), .int v1, .int v2, .ref (am 3), .ref (am 4), .ref (am 5), .ref (am 6), .ref (am 7), .int v8, .int v9, .int v10, .int v11, .int v12, .int v13, .int v14, .ref (am 15), .int v16, .ref (am 17), .int v18, .ref (am 19), .ref (am 20), .int v21, .int v22, .int v23, .int v24, .int v25, .ref (am 26), .int v27, .ref (am 28), .ref (am 29), .ref (am 30), .ref (am 31), .long v32, .ref (am 33), .ref (am 34), .ref (am 35), .ref (am 36)]))] ++ wt) := hD
  refine lv_iload_n hx hb dX12_startsAnew_10 rfl (lv_at hl 0 rfl) ?_
  refine lv_iconst (v := 5) hx hb dX12_startsAnew_11 (by decide +kernel) ?_
  refine lv_icmp_ge (tgt := 93) hx hb dX12_startsAnew_12 (by decide) (fun c_2 => ?_) (fun c_2 => ?_)
  · rw [Int32.le_iff_toInt_le] at c_2
    refine lv_iconst (v := 0) hx hb dX12_startsAnew_93 (by decide +kernel) ?_
    refine lv_istore_n (lv' := [(1, .int 0), (0, .ref m0)]) hx hb dX12_startsAnew_94 rfl hl (by decide) rfl (fun ls hl => ?_)
    have hSA : SA g10_0 5 (0 : Int32).toInt := ⟨fun b hb => hSA.1 b (by omega), hSA.2⟩
    refine tl_loopE (Γ := Γ) (nL := 3) (fun (zz_ : Int32 × (Nat → Int32)) => match zz_ with | (x95_0, g95_0) => (0 ≤ x95_0.toInt) ∧ (x95_0.toInt ≤ 3) ∧ (HD g95_0 0) ∧ (KH sd g95_0) ∧ (SA g95_0 5 x95_0.toInt)) (fun (zz_ : Int32 × (Nat → Int32)) => match zz_ with | (x95_0, g95_0) => (3 - x95_0.toInt).toNat) (fun (zz_ : Int32 × (Nat → Int32)) => match zz_ with | (x95_0, g95_0) => [(1, .int x95_0), (0, .ref m0)]) (fun (zz_ : Int32 × (Nat → Int32)) => match zz_ with | (x95_0, g95_0) => [((am 20), .inl (G.2.2 0, 110, .inl g95_0)), (m0, .inr (12, [.ref (am 0), .int v1, .int v2, .ref (am 3), .ref (am 4), .ref (am 5), .ref (am 6), .ref (am 7), .int v8, .int v9, .int v10, .int v11, .int v12, .int v13, .int v14, .ref (am 15), .int v16, .ref (am 17), .int v18, .ref (am 19), .ref (am 20), .int v21, .int v22, .int v23, .int v24, .int v25, .ref (am 26), .int v27, .ref (am 28), .ref (am 29), .ref (am 30), .ref (am 31), .long v32, .ref (am 33), .ref (am 34), .ref (am 35), .ref (am 36)]))]) (fun (zz_ : Int32 × (Nat → Int32)) (w : va_W) => match zz_ with | (x95_0, g95_0) => tk_kp [] w0 w) (fun zz_ hI H locs wt ls hT hW hP hD hS hl ih95 => ?_) (0, g10_0) (show (0 ≤ (0 : Int32).toInt) ∧ ((0 : Int32).toInt ≤ 3) ∧ (HD g10_0 0) ∧ (KH sd g10_0) ∧ (SA g10_0 5 (0 : Int32).toInt) from ⟨by omega, by omega, hHD, hKH, hSA⟩) _ _ wt ls hT hW hP hD hS hl
    obtain ⟨x95_0, g95_0⟩ := zz_
    have hW : tk_kp [] w0 wt := hW
    have hI : (0 ≤ x95_0.toInt) ∧ (x95_0.toInt ≤ 3) ∧ (HD g95_0 0) ∧ (KH sd g95_0) ∧ (SA g95_0 5 x95_0.toInt) := hI
    obtain ⟨j95_0, j95_1, hHD, hKH, hSA⟩ := hI
    have hl : lv_has ls 3 [(1, .int x95_0), (0, .ref m0)] := hl
    have hP : va_P (gg_D G) classes ([((am 20), .inl (G.2.2 0, 110, .inl g95_0)), (m0, .inr (12, [.ref (am 0), .int v1, .int v2, .ref (am 3), .ref (am 4), .ref (am 5), .ref (am 6), .ref (am 7), .int v8, .int v9, .int v10, .int v11, .int v12, .int v13, .int v14, .ref (am 15), .int v16, .ref (am 17), .int v18, .ref (am 19), .ref (am 20), .int v21, .int v22, .int v23, .int v24, .int v25, .ref (am 26), .int v27, .ref (am 28), .ref (am 29), .ref (am 30), .ref (am 31), .long v32, .ref (am 33), .ref (am 34), .ref (am 35), .ref (am 36)]))] ++ wt) H := hP
    have hD : va_D A ([((am 20), .inl (G.2.2 0, 110, .inl g95_0)), (m0, .inr (12, [.ref (am 0), .int v1, .int v2, .ref (am 3), .ref (am 4), .ref (am 5), .ref (am 6), .ref (am 7), .int v8, .int v9, .int v10, .int v11, .int v12, .int v13, .int v14, .ref (am 15), .int v16, .ref (am 17), .int v18, .ref (am 19), .ref (am 20), .int v21, .int v22, .int v23, .int v24, .int v25, .ref (am 26), .int v27, .ref (am 28), .ref (am 29), .ref (am 30), .ref (am 31), .long v32, .ref (am 33), .ref (am 34), .ref (am 35), .ref (am 36)]))] ++ wt) := hD
    refine lv_iload_n hx hb dX12_startsAnew_95 rfl (lv_at hl 0 rfl) ?_
    refine lv_iconst (v := 3) hx hb dX12_startsAnew_96 (by decide +kernel) ?_
    refine lv_icmp_ge (tgt := 147) hx hb dX12_startsAnew_97 (by decide) (fun c_3 => ?_) (fun c_3 => ?_)
    · rw [Int32.le_iff_toInt_le] at c_3
      have hP9 : va_P (gg_D G) classes ([((am 20), .inl (G.2.2 0, 110, .inl g95_0)), (m0, .inr (12, [.ref (am 0), .int v1, .int v2, .ref (am 3), .ref (am 4), .ref (am 5), .ref (am 6), .ref (am 7), .int v8, .int v9, .int v10, .int v11, .int v12, .int v13, .int v14, .ref (am 15), .int v16, .ref (am 17), .int v18, .ref (am 19), .ref (am 20), .int v21, .int v22, .int v23, .int v24, .int v25, .ref (am 26), .int v27, .ref (am 28), .ref (am 29), .ref (am 30), .ref (am 31), .long v32, .ref (am 33), .ref (am 34), .ref (am 35), .ref (am 36)]))] ++ wt) _ := hP
      have hD9 : va_D A ([((am 20), .inl (G.2.2 0, 110, .inl g95_0)), (m0, .inr (12, [.ref (am 0), .int v1, .int v2, .ref (am 3), .ref (am 4), .ref (am 5), .ref (am 6), .ref (am 7), .int v8, .int v9, .int v10, .int v11, .int v12, .int v13, .int v14, .ref (am 15), .int v16, .ref (am 17), .int v18, .ref (am 19), .ref (am 20), .int v21, .int v22, .int v23, .int v24, .int v25, .ref (am 26), .int v27, .ref (am 28), .ref (am 29), .ref (am 30), .ref (am 31), .long v32, .ref (am 33), .ref (am 34), .ref (am 35), .ref (am 36)]))] ++ wt) := hD
      exact W.vret hx hb hr (gq_endV (g95_0, wt) ⟨hT, hW, (hSA.sd hHD (by omega) (by omega)), hKH, (fun l hl => (hSA.2 l (by omega)).1)⟩ hP9 hD9 hS) hS.2.2 dX12_startsAnew_147
    · rw [Int32.le_iff_toInt_le] at c_3
      refine lv_bipush (v := 36) hx hb dX12_startsAnew_100 (by decide +kernel) ?_
      refine lv_iconst (v := 4) hx hb dX12_startsAnew_102 (by decide +kernel) ?_
      refine lv_iload_n hx hb dX12_startsAnew_103 rfl (lv_at hl 0 rfl) ?_
      obtain ⟨t_4, et_4⟩ : ∃ zz_ : Int32, 4 * x95_0 = zz_ := ⟨_, rfl⟩
      refine gq_imul hx hb t_4 et_4 dX12_startsAnew_104 ?_
      have ft_4 := ia_mul et_4 (by rw [l4]; omega) (by rw [l4]; omega)
      rw [l4] at ft_4
      obtain ⟨t_5, et_5⟩ : ∃ zz_ : Int32, 36 + t_4 = zz_ := ⟨_, rfl⟩
      refine gq_iadd hx hb t_5 et_5 dX12_startsAnew_105 ?_
      have ft_5 := ia_add et_5 (by omega) (by omega)
      refine lv_istore_n (lv' := [(2, .int t_5), (1, .int x95_0), (0, .ref m0)]) hx hb dX12_startsAnew_106 rfl hl (by decide) rfl (fun ls hl => ?_)
      refine lv_aload_n hx hb dX12_startsAnew_107 rfl (lv_at hl 2 rfl) ?_
      refine gq_get hx hb ht hown hK hP i_X12 1 rfl rfl 20 (by decide) wd_1272 rfl rfl dX12_startsAnew_108 ?_
      refine lv_iload_n hx hb dX12_startsAnew_111 rfl (lv_at hl 0 rfl) ?_
      refine lv_iconst (v := 0) hx hb dX12_startsAnew_112 (by decide +kernel) ?_
      obtain ⟨f_6, ef_6⟩ : ∃ zz_ : Nat → Int32, upd g95_0 (Int32.toNatClampNeg t_5) 0 = zz_ := ⟨_, rfl⟩
      refine gq_iast (ws' := [((am 20), .inl (G.2.2 0, 110, .inl f_6)), (m0, .inr (12, [.ref (am 0), .int v1, .int v2, .ref (am 3), .ref (am 4), .ref (am 5), .ref (am 6), .ref (am 7), .int v8, .int v9, .int v10, .int v11, .int v12, .int v13, .int v14, .ref (am 15), .int v16, .ref (am 17), .int v18, .ref (am 19), .ref (am 20), .int v21, .int v22, .int v23, .int v24, .int v25, .ref (am 26), .int v27, .ref (am 28), .ref (am 29), .ref (am 30), .ref (am 31), .long v32, .ref (am 33), .ref (am 34), .ref (am 35), .ref (am 36)]))] ++ wt) hx hb hK hP hD hS 0 rfl f_6 (ia_in (n := 110) (by omega) (by omega)) ef_6 rfl dX12_startsAnew_113 (fun H locs hP hD hS => ?_)
      rw [show Int32.toNatClampNeg t_5 = 36 + 4 * x95_0.toInt.toNat from ix_n (by omega)] at ef_6
      have hHD := hHD.st ef_6 (by omega) (by omega)
      have hKH := hKH.st ef_6 (by omega) (by omega)
      have hSA := hSA.keep ef_6 (fun b hb => by omega) (fun l hl => by omega)
      have hs1 : (f_6 (36 + 4 * x95_0.toInt.toNat)).toInt = 0 := by rw [upd_eq ef_6]; exact l0
      refine lv_aload_n hx hb dX12_startsAnew_114 rfl (lv_at hl 2 rfl) ?_
      refine gq_get hx hb ht hown hK hP i_X12 1 rfl rfl 20 (by decide) wd_1272 rfl rfl dX12_startsAnew_115 ?_
      refine lv_iload_n hx hb dX12_startsAnew_118 rfl (lv_at hl 0 rfl) ?_
      refine lv_iconst (v := 1) hx hb dX12_startsAnew_119 (by decide +kernel) ?_
      obtain ⟨t_7, et_7⟩ : ∃ zz_ : Int32, t_5 + 1 = zz_ := ⟨_, rfl⟩
      refine gq_iadd hx hb t_7 et_7 dX12_startsAnew_120 ?_
      have ft_7 := ia_add et_7 (by omega) (by omega)
      refine lv_iconst (v := 0) hx hb dX12_startsAnew_121 (by decide +kernel) ?_
      obtain ⟨f_8, ef_8⟩ : ∃ zz_ : Nat → Int32, upd f_6 (Int32.toNatClampNeg t_7) 0 = zz_ := ⟨_, rfl⟩
      refine gq_iast (ws' := [((am 20), .inl (G.2.2 0, 110, .inl f_8)), (m0, .inr (12, [.ref (am 0), .int v1, .int v2, .ref (am 3), .ref (am 4), .ref (am 5), .ref (am 6), .ref (am 7), .int v8, .int v9, .int v10, .int v11, .int v12, .int v13, .int v14, .ref (am 15), .int v16, .ref (am 17), .int v18, .ref (am 19), .ref (am 20), .int v21, .int v22, .int v23, .int v24, .int v25, .ref (am 26), .int v27, .ref (am 28), .ref (am 29), .ref (am 30), .ref (am 31), .long v32, .ref (am 33), .ref (am 34), .ref (am 35), .ref (am 36)]))] ++ wt) hx hb hK hP hD hS 0 rfl f_8 (ia_in (n := 110) (by omega) (by omega)) ef_8 rfl dX12_startsAnew_122 (fun H locs hP hD hS => ?_)
      rw [show Int32.toNatClampNeg t_7 = 37 + 4 * x95_0.toInt.toNat from ix_n (by omega)] at ef_8
      have hHD := hHD.st ef_8 (by omega) (by omega)
      have hKH := hKH.st ef_8 (by omega) (by omega)
      have hSA := hSA.keep ef_8 (fun b hb => by omega) (fun l hl => by omega)
      have hs1 : (f_8 (36 + 4 * x95_0.toInt.toNat)).toInt = 0 := by rw [upd_ne ef_8 (by omega)]; exact hs1
      have hs2 : (f_8 (37 + 4 * x95_0.toInt.toNat)).toInt = 0 := by rw [upd_eq ef_8]; exact l0
      refine lv_aload_n hx hb dX12_startsAnew_123 rfl (lv_at hl 2 rfl) ?_
      refine gq_get hx hb ht hown hK hP i_X12 1 rfl rfl 20 (by decide) wd_1272 rfl rfl dX12_startsAnew_124 ?_
      refine lv_iload_n hx hb dX12_startsAnew_127 rfl (lv_at hl 0 rfl) ?_
      refine lv_iconst (v := 2) hx hb dX12_startsAnew_128 (by decide +kernel) ?_
      obtain ⟨t_9, et_9⟩ : ∃ zz_ : Int32, t_5 + 2 = zz_ := ⟨_, rfl⟩
      refine gq_iadd hx hb t_9 et_9 dX12_startsAnew_129 ?_
      have ft_9 := ia_add et_9 (by omega) (by omega)
      refine lv_iconst (v := (-1)) hx hb dX12_startsAnew_130 (by decide +kernel) ?_
      obtain ⟨f_10, ef_10⟩ : ∃ zz_ : Nat → Int32, upd f_8 (Int32.toNatClampNeg t_9) (-1) = zz_ := ⟨_, rfl⟩
      refine gq_iast (ws' := [((am 20), .inl (G.2.2 0, 110, .inl f_10)), (m0, .inr (12, [.ref (am 0), .int v1, .int v2, .ref (am 3), .ref (am 4), .ref (am 5), .ref (am 6), .ref (am 7), .int v8, .int v9, .int v10, .int v11, .int v12, .int v13, .int v14, .ref (am 15), .int v16, .ref (am 17), .int v18, .ref (am 19), .ref (am 20), .int v21, .int v22, .int v23, .int v24, .int v25, .ref (am 26), .int v27, .ref (am 28), .ref (am 29), .ref (am 30), .ref (am 31), .long v32, .ref (am 33), .ref (am 34), .ref (am 35), .ref (am 36)]))] ++ wt) hx hb hK hP hD hS 0 rfl f_10 (ia_in (n := 110) (by omega) (by omega)) ef_10 rfl dX12_startsAnew_131 (fun H locs hP hD hS => ?_)
      rw [show Int32.toNatClampNeg t_9 = 38 + 4 * x95_0.toInt.toNat from ix_n (by omega)] at ef_10
      have hHD := hHD.st ef_10 (by omega) (by omega)
      have hKH := hKH.st ef_10 (by omega) (by omega)
      have hSA := hSA.keep ef_10 (fun b hb => by omega) (fun l hl => by omega)
      have hs1 : (f_10 (36 + 4 * x95_0.toInt.toNat)).toInt = 0 := by rw [upd_ne ef_10 (by omega)]; exact hs1
      have hs2 : (f_10 (37 + 4 * x95_0.toInt.toNat)).toInt = 0 := by rw [upd_ne ef_10 (by omega)]; exact hs2
      refine lv_aload_n hx hb dX12_startsAnew_132 rfl (lv_at hl 2 rfl) ?_
      refine gq_get hx hb ht hown hK hP i_X12 1 rfl rfl 20 (by decide) wd_1272 rfl rfl dX12_startsAnew_133 ?_
      refine lv_iload_n hx hb dX12_startsAnew_136 rfl (lv_at hl 0 rfl) ?_
      refine lv_iconst (v := 3) hx hb dX12_startsAnew_137 (by decide +kernel) ?_
      obtain ⟨t_11, et_11⟩ : ∃ zz_ : Int32, t_5 + 3 = zz_ := ⟨_, rfl⟩
      refine gq_iadd hx hb t_11 et_11 dX12_startsAnew_138 ?_
      have ft_11 := ia_add et_11 (by omega) (by omega)
      refine lv_iconst (v := 0) hx hb dX12_startsAnew_139 (by decide +kernel) ?_
      obtain ⟨f_12, ef_12⟩ : ∃ zz_ : Nat → Int32, upd f_10 (Int32.toNatClampNeg t_11) 0 = zz_ := ⟨_, rfl⟩
      refine gq_iast (ws' := [((am 20), .inl (G.2.2 0, 110, .inl f_12)), (m0, .inr (12, [.ref (am 0), .int v1, .int v2, .ref (am 3), .ref (am 4), .ref (am 5), .ref (am 6), .ref (am 7), .int v8, .int v9, .int v10, .int v11, .int v12, .int v13, .int v14, .ref (am 15), .int v16, .ref (am 17), .int v18, .ref (am 19), .ref (am 20), .int v21, .int v22, .int v23, .int v24, .int v25, .ref (am 26), .int v27, .ref (am 28), .ref (am 29), .ref (am 30), .ref (am 31), .long v32, .ref (am 33), .ref (am 34), .ref (am 35), .ref (am 36)]))] ++ wt) hx hb hK hP hD hS 0 rfl f_12 (ia_in (n := 110) (by omega) (by omega)) ef_12 rfl dX12_startsAnew_140 (fun H locs hP hD hS => ?_)
      rw [show Int32.toNatClampNeg t_11 = 39 + 4 * x95_0.toInt.toNat from ix_n (by omega)] at ef_12
      have hHD := hHD.st ef_12 (by omega) (by omega)
      have hKH := hKH.st ef_12 (by omega) (by omega)
      have hSA := hSA.keep ef_12 (fun b hb => by omega) (fun l hl => by omega)
      have hs1 : (f_12 (36 + 4 * x95_0.toInt.toNat)).toInt = 0 := by rw [upd_ne ef_12 (by omega)]; exact hs1
      have hs2 : (f_12 (37 + 4 * x95_0.toInt.toNat)).toInt = 0 := by rw [upd_ne ef_12 (by omega)]; exact hs2
      obtain ⟨t_13, et_13⟩ : ∃ zz_ : Int32, x95_0 + Int32.ofInt (1) = zz_ := ⟨_, rfl⟩
      have ft_13 : t_13.toInt = x95_0.toInt + (1 : Int32).toInt := ia_add (y := 1) et_13 (by omega) (by omega)
      refine lv_iinc (v := t_13) (lv' := [(1, .int t_13), (2, .int t_5), (0, .ref m0)]) hx hb dX12_startsAnew_141 hl (k := 1) rfl et_13 (by decide) rfl (fun ls hl => ?_)
      refine lv_goto (tgt := 95) hx hb dX12_startsAnew_144 (by decide) ?_
      have hSA : SA f_12 5 t_13.toInt := hSA.stepL (b := x95_0.toInt.toNat) (by omega) (by omega) hs1 hs2
      exact ih95 (t_13, f_12) (show (0 ≤ t_13.toInt) ∧ (t_13.toInt ≤ 3) ∧ (HD f_12 0) ∧ (KH sd f_12) ∧ (SA f_12 5 t_13.toInt) from ⟨by omega, by omega, hHD, hKH, hSA⟩) (show (3 - t_13.toInt).toNat < (3 - x95_0.toInt).toNat by omega) H locs wt ls hT hW hP hD hS (lv_sub hl [0, 2] rfl)
  · rw [Int32.le_iff_toInt_le] at c_2
    refine lv_bipush (v := 11) hx hb dX12_startsAnew_15 (by decide +kernel) ?_
    refine lv_iconst (v := 5) hx hb dX12_startsAnew_17 (by decide +kernel) ?_
    refine lv_iload_n hx hb dX12_startsAnew_18 rfl (lv_at hl 0 rfl) ?_
    obtain ⟨t_14, et_14⟩ : ∃ zz_ : Int32, 5 * x10_0 = zz_ := ⟨_, rfl⟩
    refine gq_imul hx hb t_14 et_14 dX12_startsAnew_19 ?_
    have ft_14 := ia_mul et_14 (by rw [l5]; omega) (by rw [l5]; omega)
    rw [l5] at ft_14
    obtain ⟨t_15, et_15⟩ : ∃ zz_ : Int32, 11 + t_14 = zz_ := ⟨_, rfl⟩
    refine gq_iadd hx hb t_15 et_15 dX12_startsAnew_20 ?_
    have ft_15 := ia_add et_15 (by omega) (by omega)
    refine lv_istore_n (lv' := [(2, .int t_15), (1, .int x10_0), (0, .ref m0)]) hx hb dX12_startsAnew_21 rfl hl (by decide) rfl (fun ls hl => ?_)
    refine lv_aload_n hx hb dX12_startsAnew_22 rfl (lv_at hl 2 rfl) ?_
    refine gq_get hx hb ht hown hK hP i_X12 1 rfl rfl 20 (by decide) wd_1272 rfl rfl dX12_startsAnew_23 ?_
    refine lv_iload_n hx hb dX12_startsAnew_26 rfl (lv_at hl 0 rfl) ?_
    refine lv_aload_n hx hb dX12_startsAnew_27 rfl (lv_at hl 2 rfl) ?_
    refine gq_get hx hb ht hown hK hP i_X12 1 rfl rfl 20 (by decide) wd_1272 rfl rfl dX12_startsAnew_28 ?_
    refine lv_bipush (v := 69) hx hb dX12_startsAnew_31 (by decide +kernel) ?_
    refine lv_iconst (v := 2) hx hb dX12_startsAnew_33 (by decide +kernel) ?_
    refine lv_iload_n hx hb dX12_startsAnew_34 rfl (lv_at hl 1 rfl) ?_
    obtain ⟨t_16, et_16⟩ : ∃ zz_ : Int32, 2 * x10_0 = zz_ := ⟨_, rfl⟩
    refine gq_imul hx hb t_16 et_16 dX12_startsAnew_35 ?_
    have ft_16 := ia_mul et_16 (by rw [l2]; omega) (by rw [l2]; omega)
    rw [l2] at ft_16
    obtain ⟨t_17, et_17⟩ : ∃ zz_ : Int32, 69 + t_16 = zz_ := ⟨_, rfl⟩
    refine gq_iadd hx hb t_17 et_17 dX12_startsAnew_36 ?_
    have ft_17 := ia_add et_17 (by omega) (by omega)
    obtain ⟨n_18, en_18⟩ : ∃ zz_ : Int32, g10_0 (Int32.toNatClampNeg t_17) = zz_ := ⟨_, rfl⟩
    refine gq_iald hx hb hK hP 0 rfl n_18 (ia_in (n := 110) (by omega) (by omega)) en_18 dX12_startsAnew_37 ?_
    obtain ⟨f_19, ef_19⟩ : ∃ zz_ : Nat → Int32, upd g10_0 (Int32.toNatClampNeg t_15) n_18 = zz_ := ⟨_, rfl⟩
    refine gq_iast (ws' := [((am 20), .inl (G.2.2 0, 110, .inl f_19)), (m0, .inr (12, [.ref (am 0), .int v1, .int v2, .ref (am 3), .ref (am 4), .ref (am 5), .ref (am 6), .ref (am 7), .int v8, .int v9, .int v10, .int v11, .int v12, .int v13, .int v14, .ref (am 15), .int v16, .ref (am 17), .int v18, .ref (am 19), .ref (am 20), .int v21, .int v22, .int v23, .int v24, .int v25, .ref (am 26), .int v27, .ref (am 28), .ref (am 29), .ref (am 30), .ref (am 31), .long v32, .ref (am 33), .ref (am 34), .ref (am 35), .ref (am 36)]))] ++ wt) hx hb hK hP hD hS 0 rfl f_19 (ia_in (n := 110) (by omega) (by omega)) ef_19 rfl dX12_startsAnew_38 (fun H locs hP hD hS => ?_)
    rw [show Int32.toNatClampNeg t_15 = 11 + 5 * x10_0.toInt.toNat from ix_n (by omega)] at ef_19
    have hHD := hHD.st ef_19 (by omega) (by omega)
    have hKH := hKH.st ef_19 (by omega) (by omega)
    have hSA := hSA.keep ef_19 (fun b hb => by omega) (fun l hl => by omega)
    refine lv_aload_n hx hb dX12_startsAnew_39 rfl (lv_at hl 2 rfl) ?_
    refine gq_get hx hb ht hown hK hP i_X12 1 rfl rfl 20 (by decide) wd_1272 rfl rfl dX12_startsAnew_40 ?_
    refine lv_iload_n hx hb dX12_startsAnew_43 rfl (lv_at hl 0 rfl) ?_
    refine lv_iconst (v := 1) hx hb dX12_startsAnew_44 (by decide +kernel) ?_
    obtain ⟨t_20, et_20⟩ : ∃ zz_ : Int32, t_15 + 1 = zz_ := ⟨_, rfl⟩
    refine gq_iadd hx hb t_20 et_20 dX12_startsAnew_45 ?_
    have ft_20 := ia_add et_20 (by omega) (by omega)
    refine lv_aload_n hx hb dX12_startsAnew_46 rfl (lv_at hl 2 rfl) ?_
    refine gq_get hx hb ht hown hK hP i_X12 1 rfl rfl 20 (by decide) wd_1272 rfl rfl dX12_startsAnew_47 ?_
    refine lv_bipush (v := 69) hx hb dX12_startsAnew_50 (by decide +kernel) ?_
    refine lv_iconst (v := 2) hx hb dX12_startsAnew_52 (by decide +kernel) ?_
    refine lv_iload_n hx hb dX12_startsAnew_53 rfl (lv_at hl 1 rfl) ?_
    refine gq_imul hx hb t_16 et_16 dX12_startsAnew_54 ?_
    refine gq_iadd hx hb t_17 et_17 dX12_startsAnew_55 ?_
    refine lv_iconst (v := 1) hx hb dX12_startsAnew_56 (by decide +kernel) ?_
    obtain ⟨t_21, et_21⟩ : ∃ zz_ : Int32, t_17 + 1 = zz_ := ⟨_, rfl⟩
    refine gq_iadd hx hb t_21 et_21 dX12_startsAnew_57 ?_
    have ft_21 := ia_add et_21 (by omega) (by omega)
    obtain ⟨n_22, en_22⟩ : ∃ zz_ : Int32, f_19 (Int32.toNatClampNeg t_21) = zz_ := ⟨_, rfl⟩
    refine gq_iald hx hb hK hP 0 rfl n_22 (ia_in (n := 110) (by omega) (by omega)) en_22 dX12_startsAnew_58 ?_
    obtain ⟨f_23, ef_23⟩ : ∃ zz_ : Nat → Int32, upd f_19 (Int32.toNatClampNeg t_20) n_22 = zz_ := ⟨_, rfl⟩
    refine gq_iast (ws' := [((am 20), .inl (G.2.2 0, 110, .inl f_23)), (m0, .inr (12, [.ref (am 0), .int v1, .int v2, .ref (am 3), .ref (am 4), .ref (am 5), .ref (am 6), .ref (am 7), .int v8, .int v9, .int v10, .int v11, .int v12, .int v13, .int v14, .ref (am 15), .int v16, .ref (am 17), .int v18, .ref (am 19), .ref (am 20), .int v21, .int v22, .int v23, .int v24, .int v25, .ref (am 26), .int v27, .ref (am 28), .ref (am 29), .ref (am 30), .ref (am 31), .long v32, .ref (am 33), .ref (am 34), .ref (am 35), .ref (am 36)]))] ++ wt) hx hb hK hP hD hS 0 rfl f_23 (ia_in (n := 110) (by omega) (by omega)) ef_23 rfl dX12_startsAnew_59 (fun H locs hP hD hS => ?_)
    rw [show Int32.toNatClampNeg t_20 = 12 + 5 * x10_0.toInt.toNat from ix_n (by omega)] at ef_23
    have hHD := hHD.st ef_23 (by omega) (by omega)
    have hKH := hKH.st ef_23 (by omega) (by omega)
    have hSA := hSA.keep ef_23 (fun b hb => by omega) (fun l hl => by omega)
    refine lv_aload_n hx hb dX12_startsAnew_60 rfl (lv_at hl 2 rfl) ?_
    refine gq_get hx hb ht hown hK hP i_X12 1 rfl rfl 20 (by decide) wd_1272 rfl rfl dX12_startsAnew_61 ?_
    refine lv_iload_n hx hb dX12_startsAnew_64 rfl (lv_at hl 0 rfl) ?_
    refine lv_iconst (v := 2) hx hb dX12_startsAnew_65 (by decide +kernel) ?_
    obtain ⟨t_24, et_24⟩ : ∃ zz_ : Int32, t_15 + 2 = zz_ := ⟨_, rfl⟩
    refine gq_iadd hx hb t_24 et_24 dX12_startsAnew_66 ?_
    have ft_24 := ia_add et_24 (by omega) (by omega)
    refine lv_iconst (v := (-1)) hx hb dX12_startsAnew_67 (by decide +kernel) ?_
    obtain ⟨f_25, ef_25⟩ : ∃ zz_ : Nat → Int32, upd f_23 (Int32.toNatClampNeg t_24) (-1) = zz_ := ⟨_, rfl⟩
    refine gq_iast (ws' := [((am 20), .inl (G.2.2 0, 110, .inl f_25)), (m0, .inr (12, [.ref (am 0), .int v1, .int v2, .ref (am 3), .ref (am 4), .ref (am 5), .ref (am 6), .ref (am 7), .int v8, .int v9, .int v10, .int v11, .int v12, .int v13, .int v14, .ref (am 15), .int v16, .ref (am 17), .int v18, .ref (am 19), .ref (am 20), .int v21, .int v22, .int v23, .int v24, .int v25, .ref (am 26), .int v27, .ref (am 28), .ref (am 29), .ref (am 30), .ref (am 31), .long v32, .ref (am 33), .ref (am 34), .ref (am 35), .ref (am 36)]))] ++ wt) hx hb hK hP hD hS 0 rfl f_25 (ia_in (n := 110) (by omega) (by omega)) ef_25 rfl dX12_startsAnew_68 (fun H locs hP hD hS => ?_)
    rw [show Int32.toNatClampNeg t_24 = 13 + 5 * x10_0.toInt.toNat from ix_n (by omega)] at ef_25
    have hHD := hHD.st ef_25 (by omega) (by omega)
    have hKH := hKH.st ef_25 (by omega) (by omega)
    have hSA := hSA.keep ef_25 (fun b hb => by omega) (fun l hl => by omega)
    have hs1 : (f_25 (13 + 5 * x10_0.toInt.toNat)).toInt = -1 := by rw [upd_eq ef_25]; exact lm1
    refine lv_aload_n hx hb dX12_startsAnew_69 rfl (lv_at hl 2 rfl) ?_
    refine gq_get hx hb ht hown hK hP i_X12 1 rfl rfl 20 (by decide) wd_1272 rfl rfl dX12_startsAnew_70 ?_
    refine lv_iload_n hx hb dX12_startsAnew_73 rfl (lv_at hl 0 rfl) ?_
    refine lv_iconst (v := 3) hx hb dX12_startsAnew_74 (by decide +kernel) ?_
    obtain ⟨t_26, et_26⟩ : ∃ zz_ : Int32, t_15 + 3 = zz_ := ⟨_, rfl⟩
    refine gq_iadd hx hb t_26 et_26 dX12_startsAnew_75 ?_
    have ft_26 := ia_add et_26 (by omega) (by omega)
    refine lv_iconst (v := 0) hx hb dX12_startsAnew_76 (by decide +kernel) ?_
    obtain ⟨f_27, ef_27⟩ : ∃ zz_ : Nat → Int32, upd f_25 (Int32.toNatClampNeg t_26) 0 = zz_ := ⟨_, rfl⟩
    refine gq_iast (ws' := [((am 20), .inl (G.2.2 0, 110, .inl f_27)), (m0, .inr (12, [.ref (am 0), .int v1, .int v2, .ref (am 3), .ref (am 4), .ref (am 5), .ref (am 6), .ref (am 7), .int v8, .int v9, .int v10, .int v11, .int v12, .int v13, .int v14, .ref (am 15), .int v16, .ref (am 17), .int v18, .ref (am 19), .ref (am 20), .int v21, .int v22, .int v23, .int v24, .int v25, .ref (am 26), .int v27, .ref (am 28), .ref (am 29), .ref (am 30), .ref (am 31), .long v32, .ref (am 33), .ref (am 34), .ref (am 35), .ref (am 36)]))] ++ wt) hx hb hK hP hD hS 0 rfl f_27 (ia_in (n := 110) (by omega) (by omega)) ef_27 rfl dX12_startsAnew_77 (fun H locs hP hD hS => ?_)
    rw [show Int32.toNatClampNeg t_26 = 14 + 5 * x10_0.toInt.toNat from ix_n (by omega)] at ef_27
    have hHD := hHD.st ef_27 (by omega) (by omega)
    have hKH := hKH.st ef_27 (by omega) (by omega)
    have hSA := hSA.keep ef_27 (fun b hb => by omega) (fun l hl => by omega)
    have hs1 : (f_27 (13 + 5 * x10_0.toInt.toNat)).toInt = -1 := by rw [upd_ne ef_27 (by omega)]; exact hs1
    have hs2 : (f_27 (14 + 5 * x10_0.toInt.toNat)).toInt = 0 := by rw [upd_eq ef_27]; exact l0
    refine lv_aload_n hx hb dX12_startsAnew_78 rfl (lv_at hl 2 rfl) ?_
    refine gq_get hx hb ht hown hK hP i_X12 1 rfl rfl 20 (by decide) wd_1272 rfl rfl dX12_startsAnew_79 ?_
    refine lv_iload_n hx hb dX12_startsAnew_82 rfl (lv_at hl 0 rfl) ?_
    refine lv_iconst (v := 4) hx hb dX12_startsAnew_83 (by decide +kernel) ?_
    obtain ⟨t_28, et_28⟩ : ∃ zz_ : Int32, t_15 + 4 = zz_ := ⟨_, rfl⟩
    refine gq_iadd hx hb t_28 et_28 dX12_startsAnew_84 ?_
    have ft_28 := ia_add et_28 (by omega) (by omega)
    refine lv_iconst (v := 0) hx hb dX12_startsAnew_85 (by decide +kernel) ?_
    obtain ⟨f_29, ef_29⟩ : ∃ zz_ : Nat → Int32, upd f_27 (Int32.toNatClampNeg t_28) 0 = zz_ := ⟨_, rfl⟩
    refine gq_iast (ws' := [((am 20), .inl (G.2.2 0, 110, .inl f_29)), (m0, .inr (12, [.ref (am 0), .int v1, .int v2, .ref (am 3), .ref (am 4), .ref (am 5), .ref (am 6), .ref (am 7), .int v8, .int v9, .int v10, .int v11, .int v12, .int v13, .int v14, .ref (am 15), .int v16, .ref (am 17), .int v18, .ref (am 19), .ref (am 20), .int v21, .int v22, .int v23, .int v24, .int v25, .ref (am 26), .int v27, .ref (am 28), .ref (am 29), .ref (am 30), .ref (am 31), .long v32, .ref (am 33), .ref (am 34), .ref (am 35), .ref (am 36)]))] ++ wt) hx hb hK hP hD hS 0 rfl f_29 (ia_in (n := 110) (by omega) (by omega)) ef_29 rfl dX12_startsAnew_86 (fun H locs hP hD hS => ?_)
    rw [show Int32.toNatClampNeg t_28 = 15 + 5 * x10_0.toInt.toNat from ix_n (by omega)] at ef_29
    have hHD := hHD.st ef_29 (by omega) (by omega)
    have hKH := hKH.st ef_29 (by omega) (by omega)
    have hSA := hSA.keep ef_29 (fun b hb => by omega) (fun l hl => by omega)
    have hs1 : (f_29 (13 + 5 * x10_0.toInt.toNat)).toInt = -1 := by rw [upd_ne ef_29 (by omega)]; exact hs1
    have hs2 : (f_29 (14 + 5 * x10_0.toInt.toNat)).toInt = 0 := by rw [upd_ne ef_29 (by omega)]; exact hs2
    obtain ⟨t_30, et_30⟩ : ∃ zz_ : Int32, x10_0 + Int32.ofInt (1) = zz_ := ⟨_, rfl⟩
    have ft_30 : t_30.toInt = x10_0.toInt + (1 : Int32).toInt := ia_add (y := 1) et_30 (by omega) (by omega)
    refine lv_iinc (v := t_30) (lv' := [(1, .int t_30), (2, .int t_15), (0, .ref m0)]) hx hb dX12_startsAnew_87 hl (k := 1) rfl et_30 (by decide) rfl (fun ls hl => ?_)
    refine lv_goto (tgt := 10) hx hb dX12_startsAnew_90 (by decide) ?_
    have hSA : SA f_29 t_30.toInt 0 := hSA.stepB (b := x10_0.toInt.toNat) (by omega) (by omega) hs1 hs2
    exact ih10 (t_30, f_29) (show (0 ≤ t_30.toInt) ∧ (t_30.toInt ≤ 5) ∧ (HD f_29 0) ∧ (KH sd f_29) ∧ (SA f_29 t_30.toInt 0) from ⟨by omega, by omega, hHD, hKH, hSA⟩) (show (5 - t_30.toInt).toNat < (5 - x10_0.toInt).toNat by omega) H locs wt ls hT hW hP hD hS (lv_sub hl [0, 2] rfl)
set_option maxHeartbeats 4000000 in
set_option maxRecDepth 100000 in
theorem d_m_closes (l : Launch) (G : gg_T) (Γ : Nat → Nat) (sz : Nat) (wt : va_W) (hT : tk_ty G Γ wt) (b : Int32) (w : Int32) (z : Int32) (m0 : Nat) (am : Nat → Nat) (v1 : Int32) (v2 : Int32) (v8 : Int32) (v9 : Int32) (v10 : Int32) (v11 : Int32) (v12 : Int32) (v13 : Int32) (v14 : Int32) (v16 : Int32) (v18 : Int32) (v21 : Int32) (v22 : Int32) (v23 : Int32) (v24 : Int32) (v25 : Int32) (v27 : Int32) (v32 : Int64) (sd : Nat → Int32) (lo_b : 0 ≤ b.toInt) (hi_b : b.toInt ≤ 2) (lo_w : -1 ≤ w.toInt) (hi_w : w.toInt ≤ 4) (k17 : Γ (am 17) = 32) (k19 : Γ (am 19) = 30) (k30 : Γ (am 30) = 28) (k31 : Γ (am 31) = 28) (lo_v1 : 0 ≤ v1.toInt) (hi_v1 : v1.toInt ≤ 400) (lo_v2 : 0 ≤ v2.toInt) (hi_v2 : v2.toInt ≤ 6) (lo_v8 : 0 ≤ v8.toInt) (hi_v8 : v8.toInt ≤ 400) (lo_v11 : 0 ≤ v11.toInt) (hi_v11 : v11.toInt ≤ 6) (lo_v12 : 0 ≤ v12.toInt) (hi_v12 : v12.toInt ≤ 60) (lo_v16 : 0 ≤ v16.toInt) (hi_v16 : v16.toInt ≤ 400) (lo_v21 : -1 ≤ v21.toInt) (hi_v21 : v21.toInt ≤ 5) (lo_v23 : 0 ≤ v23.toInt) (hi_v23 : v23.toInt ≤ 31) (lo_v27 : 0 ≤ v27.toInt) (hi_v27 : v27.toInt ≤ 20) (xfr : v21.toInt < v2.toInt) (hSDw : SDw sd b.toInt.toNat) : Met l yX12_closes_ (ts_L yX12_closes_ cX12_closes_ 6 none) ({ frames := 1, cells := 0, slots := 0, locals := 22 }) (gc_P G ([((am 20), .inl (G.2.2 0, 110, .inl sd)), (m0, .inr (12, [.ref (am 0), .int v1, .int v2, .ref (am 3), .ref (am 4), .ref (am 5), .ref (am 6), .ref (am 7), .int v8, .int v9, .int v10, .int v11, .int v12, .int v13, .int v14, .ref (am 15), .int v16, .ref (am 17), .int v18, .ref (am 19), .ref (am 20), .int v21, .int v22, .int v23, .int v24, .int v25, .ref (am 26), .int v27, .ref (am 28), .ref (am 29), .ref (am 30), .ref (am 31), .long v32, .ref (am 33), .ref (am 34), .ref (am 35), .ref (am 36)]))] ++ wt) sz [.ref m0, .int b, .int w, .int z]) (gc_V G (va_A ([((am 20), .inl (G.2.2 0, 110, .inl sd)), (m0, .inr (12, [.ref (am 0), .int v1, .int v2, .ref (am 3), .ref (am 4), .ref (am 5), .ref (am 6), .ref (am 7), .int v8, .int v9, .int v10, .int v11, .int v12, .int v13, .int v14, .ref (am 15), .int v16, .ref (am 17), .int v18, .ref (am 19), .ref (am 20), .int v21, .int v22, .int v23, .int v24, .int v25, .ref (am 26), .int v27, .ref (am 28), .ref (am 29), .ref (am 30), .ref (am 31), .long v32, .ref (am 33), .ref (am 34), .ref (am 35), .ref (am 36)]))] ++ wt) sz) (fun (u : (Nat → Int32) × va_W) => match u with | (sd1, wt1) => tk_ty G Γ wt1 ∧ tk_kp [] wt wt1 ∧ (SD sd1) ∧ (KH sd sd1) ∧ (LF sd sd1 b.toInt.toNat) ∧ ((sd1 (36 + 4 * b.toInt.toNat)).toInt = 2)) (fun (u : (Nat → Int32) × va_W) => match u with | (sd1, wt1) => [((am 20), .inl (G.2.2 0, 110, .inl sd1)), (m0, .inr (12, [.ref (am 0), .int v1, .int v2, .ref (am 3), .ref (am 4), .ref (am 5), .ref (am 6), .ref (am 7), .int v8, .int v9, .int v10, .int v11, .int v12, .int v13, .int v14, .ref (am 15), .int v16, .ref (am 17), .int v18, .ref (am 19), .ref (am 20), .int v21, .int v22, .int v23, .int v24, .int v25, .ref (am 26), .int v27, .ref (am 28), .ref (am 29), .ref (am 30), .ref (am 31), .long v32, .ref (am 33), .ref (am 34), .ref (am 35), .ref (am 36)]))] ++ wt1)) 0 0 (va_A ([((am 20), .inl (G.2.2 0, 110, .inl sd)), (m0, .inr (12, [.ref (am 0), .int v1, .int v2, .ref (am 3), .ref (am 4), .ref (am 5), .ref (am 6), .ref (am 7), .int v8, .int v9, .int v10, .int v11, .int v12, .int v13, .int v14, .ref (am 15), .int v16, .ref (am 17), .int v18, .ref (am 19), .ref (am 20), .int v21, .int v22, .int v23, .int v24, .int v25, .ref (am 26), .int v27, .ref (am 28), .ref (am 29), .ref (am 30), .ref (am 31), .long v32, .ref (am 33), .ref (am 34), .ref (am 35), .ref (am 36)]))] ++ wt) sz) := by
  refine Met.ofW (cc := cX12_closes_) (maxL := 6) (ret := none) (by decide) rfl ?_
  intro p e s m args below meth c s₁ B hml hv
  obtain ⟨rfl, hsz, hP, hK, hD0⟩ := hv
  have hx := B.exec
  have hb := B.bytes
  have hr := B.returns
  have ht := ts_ht (atoms_spec (ws := ts_L yX12_closes_ cX12_closes_ 6 none) B.pre)
  have hown : s.vm.findClass RX12 = some m.cls := findClass_of_methodNamed B.named
  have hlocks := B.notSynchronized
  subst hsz
  have hD := hD0.self (sz := s.heap.size)
  generalize hAe : va_A ([((am 20), .inl (G.2.2 0, 110, .inl sd)), (m0, .inr (12, [.ref (am 0), .int v1, .int v2, .ref (am 3), .ref (am 4), .ref (am 5), .ref (am 6), .ref (am 7), .int v8, .int v9, .int v10, .int v11, .int v12, .int v13, .int v14, .ref (am 15), .int v16, .ref (am 17), .int v18, .ref (am 19), .ref (am 20), .int v21, .int v22, .int v23, .int v24, .int v25, .ref (am 26), .int v27, .ref (am 28), .ref (am 29), .ref (am 30), .ref (am 31), .long v32, .ref (am 33), .ref (am 34), .ref (am 35), .ref (am 36)]))] ++ wt) s.heap.size = A at hD ⊢
  have hA : ∀ q : Nat, s.heap.size ≤ q → A q := fun q h => by rw [← hAe]; exact Or.inr h
  clear hAe hD0
  have hS : va_S A s.heap s.heap [] := va_S.rf
  obtain ⟨w0, hw0⟩ : ∃ z, z = wt := ⟨_, rfl⟩
  have hW : tk_kp [] w0 wt := by rw [hw0]; exact tk_kp.rf
  rw [← hw0]
  clear hw0
  have hP : va_P (gg_D G) classes ([((am 20), .inl (G.2.2 0, 110, .inl sd)), (m0, .inr (12, [.ref (am 0), .int v1, .int v2, .ref (am 3), .ref (am 4), .ref (am 5), .ref (am 6), .ref (am 7), .int v8, .int v9, .int v10, .int v11, .int v12, .int v13, .int v14, .ref (am 15), .int v16, .ref (am 17), .int v18, .ref (am 19), .ref (am 20), .int v21, .int v22, .int v23, .int v24, .int v25, .ref (am 26), .int v27, .ref (am 28), .ref (am 29), .ref (am 30), .ref (am 31), .long v32, .ref (am 33), .ref (am 34), .ref (am 35), .ref (am 36)]))] ++ wt) s.heap := hP
  have hD : va_D A ([((am 20), .inl (G.2.2 0, 110, .inl sd)), (m0, .inr (12, [.ref (am 0), .int v1, .int v2, .ref (am 3), .ref (am 4), .ref (am 5), .ref (am 6), .ref (am 7), .int v8, .int v9, .int v10, .int v11, .int v12, .int v13, .int v14, .ref (am 15), .int v16, .ref (am 17), .int v18, .ref (am 19), .ref (am 20), .int v21, .int v22, .int v23, .int v24, .int v25, .ref (am 26), .int v27, .ref (am 28), .ref (am 29), .ref (am 30), .ref (am 31), .long v32, .ref (am 33), .ref (am 34), .ref (am 35), .ref (am 36)]))] ++ wt) := hD
  have hl := lv_entry ([.ref m0, .int b, .int w, .int z]) (n := 6) (Nat.le_of_ble_eq_true rfl)
  rw [lg_entry_eq]
  generalize (lg_sl ([.ref m0, .int b, .int w, .int z]) ++ List.replicate (6 - (lg_sl ([.ref m0, .int b, .int w, .int z])).length) Slot.unset).toArray = ls at hl ⊢
  have hl : lv_has ls 6 [(0, .ref m0), (1, .int b), (2, .int w), (3, .int z)] := hl
  have hKH : KH sd sd := KH.rf
  have hLF : LF sd sd b.toInt.toNat := LF.rf
  have lm1 : ((-1) : Int32).toInt = -1 := by decide +kernel
  have l0 : (0 : Int32).toInt = 0 := by decide +kernel
  have l1 : (1 : Int32).toInt = 1 := by decide +kernel
  have l2 : (2 : Int32).toInt = 2 := by decide +kernel
  have l3 : (3 : Int32).toInt = 3 := by decide +kernel
  have l4 : (4 : Int32).toInt = 4 := by decide +kernel
  have l5 : (5 : Int32).toInt = 5 := by decide +kernel
  have l11 : (11 : Int32).toInt = 11 := by decide +kernel
  have l36 : (36 : Int32).toInt = 36 := by decide +kernel
  refine lv_bipush (v := 36) hx hb dX12_closes__0 (by decide +kernel) ?_
  refine lv_iconst (v := 4) hx hb dX12_closes__2 (by decide +kernel) ?_
  refine lv_iload_n hx hb dX12_closes__3 rfl (lv_at hl 1 rfl) ?_
  obtain ⟨t_1, et_1⟩ : ∃ zz_ : Int32, 4 * b = zz_ := ⟨_, rfl⟩
  refine gq_imul hx hb t_1 et_1 dX12_closes__4 ?_
  have ft_1 := ia_mul et_1 (by rw [l4]; omega) (by rw [l4]; omega)
  rw [l4] at ft_1
  obtain ⟨t_2, et_2⟩ : ∃ zz_ : Int32, 36 + t_1 = zz_ := ⟨_, rfl⟩
  refine gq_iadd hx hb t_2 et_2 dX12_closes__5 ?_
  have ft_2 := ia_add et_2 (by omega) (by omega)
  refine lv_istore (lv' := [(4, .int t_2), (0, .ref m0), (1, .int b), (2, .int w), (3, .int z)]) hx hb dX12_closes__6 hl (by decide) rfl (fun ls hl => ?_)
  refine lv_aload_n hx hb dX12_closes__8 rfl (lv_at hl 1 rfl) ?_
  refine gq_get hx hb ht hown hK hP i_X12 1 rfl rfl 20 (by decide) wd_1272 rfl rfl dX12_closes__9 ?_
  refine lv_iload hx hb dX12_closes__12 (lv_at hl 0 rfl) ?_
  refine lv_iconst (v := 2) hx hb dX12_closes__14 (by decide +kernel) ?_
  obtain ⟨f_3, ef_3⟩ : ∃ zz_ : Nat → Int32, upd sd (Int32.toNatClampNeg t_2) 2 = zz_ := ⟨_, rfl⟩
  refine gq_iast (ws' := [((am 20), .inl (G.2.2 0, 110, .inl f_3)), (m0, .inr (12, [.ref (am 0), .int v1, .int v2, .ref (am 3), .ref (am 4), .ref (am 5), .ref (am 6), .ref (am 7), .int v8, .int v9, .int v10, .int v11, .int v12, .int v13, .int v14, .ref (am 15), .int v16, .ref (am 17), .int v18, .ref (am 19), .ref (am 20), .int v21, .int v22, .int v23, .int v24, .int v25, .ref (am 26), .int v27, .ref (am 28), .ref (am 29), .ref (am 30), .ref (am 31), .long v32, .ref (am 33), .ref (am 34), .ref (am 35), .ref (am 36)]))] ++ wt) hx hb hK hP hD hS 0 rfl f_3 (ia_in (n := 110) (by omega) (by omega)) ef_3 rfl dX12_closes__15 (fun H locs hP hD hS => ?_)
  rw [show Int32.toNatClampNeg t_2 = 36 + 4 * b.toInt.toNat from ix_n (by omega)] at ef_3
  have hSD := hSDw.st ef_3 (l := b.toInt.toNat) rfl (by omega) (by omega) (by omega)
  have hKH := hKH.st ef_3 (by omega) (by omega)
  have hLF := hLF.st ef_3 (fun k a c => by omega)
  have hS2 : (f_3 (36 + 4 * b.toInt.toNat)).toInt = 2 := by rw [upd_eq ef_3]; exact l2
  refine lv_aload_n hx hb dX12_closes__16 rfl (lv_at hl 1 rfl) ?_
  refine gq_get hx hb ht hown hK hP i_X12 1 rfl rfl 20 (by decide) wd_1272 rfl rfl dX12_closes__17 ?_
  refine lv_iload hx hb dX12_closes__20 (lv_at hl 0 rfl) ?_
  refine lv_iconst (v := 2) hx hb dX12_closes__22 (by decide +kernel) ?_
  obtain ⟨t_4, et_4⟩ : ∃ zz_ : Int32, t_2 + 2 = zz_ := ⟨_, rfl⟩
  refine gq_iadd hx hb t_4 et_4 dX12_closes__23 ?_
  have ft_4 := ia_add et_4 (by omega) (by omega)
  refine lv_iload_n hx hb dX12_closes__24 rfl (lv_at hl 3 rfl) ?_
  obtain ⟨f_5, ef_5⟩ : ∃ zz_ : Nat → Int32, upd f_3 (Int32.toNatClampNeg t_4) w = zz_ := ⟨_, rfl⟩
  refine gq_iast (ws' := [((am 20), .inl (G.2.2 0, 110, .inl f_5)), (m0, .inr (12, [.ref (am 0), .int v1, .int v2, .ref (am 3), .ref (am 4), .ref (am 5), .ref (am 6), .ref (am 7), .int v8, .int v9, .int v10, .int v11, .int v12, .int v13, .int v14, .ref (am 15), .int v16, .ref (am 17), .int v18, .ref (am 19), .ref (am 20), .int v21, .int v22, .int v23, .int v24, .int v25, .ref (am 26), .int v27, .ref (am 28), .ref (am 29), .ref (am 30), .ref (am 31), .long v32, .ref (am 33), .ref (am 34), .ref (am 35), .ref (am 36)]))] ++ wt) hx hb hK hP hD hS 0 rfl f_5 (ia_in (n := 110) (by omega) (by omega)) ef_5 rfl dX12_closes__25 (fun H locs hP hD hS => ?_)
  rw [show Int32.toNatClampNeg t_4 = 38 + 4 * b.toInt.toNat from ix_n (by omega)] at ef_5
  have hSD := hSD.free ef_5 (by omega) (by omega) (fun b hb => by omega) (fun l hl => by omega)
  have hKH := hKH.st ef_5 (by omega) (by omega)
  have hLF := hLF.st ef_5 (fun k a c => by omega)
  have hS2 : (f_5 (36 + 4 * b.toInt.toNat)).toInt = 2 := by rw [upd_ne ef_5 (by omega)]; exact hS2
  refine lv_aload_n hx hb dX12_closes__26 rfl (lv_at hl 1 rfl) ?_
  refine gq_get hx hb ht hown hK hP i_X12 1 rfl rfl 20 (by decide) wd_1272 rfl rfl dX12_closes__27 ?_
  refine lv_iload hx hb dX12_closes__30 (lv_at hl 0 rfl) ?_
  refine lv_iconst (v := 3) hx hb dX12_closes__32 (by decide +kernel) ?_
  obtain ⟨t_6, et_6⟩ : ∃ zz_ : Int32, t_2 + 3 = zz_ := ⟨_, rfl⟩
  refine gq_iadd hx hb t_6 et_6 dX12_closes__33 ?_
  have ft_6 := ia_add et_6 (by omega) (by omega)
  refine lv_iload_n hx hb dX12_closes__34 rfl (lv_at hl 4 rfl) ?_
  obtain ⟨f_7, ef_7⟩ : ∃ zz_ : Nat → Int32, upd f_5 (Int32.toNatClampNeg t_6) z = zz_ := ⟨_, rfl⟩
  refine gq_iast (ws' := [((am 20), .inl (G.2.2 0, 110, .inl f_7)), (m0, .inr (12, [.ref (am 0), .int v1, .int v2, .ref (am 3), .ref (am 4), .ref (am 5), .ref (am 6), .ref (am 7), .int v8, .int v9, .int v10, .int v11, .int v12, .int v13, .int v14, .ref (am 15), .int v16, .ref (am 17), .int v18, .ref (am 19), .ref (am 20), .int v21, .int v22, .int v23, .int v24, .int v25, .ref (am 26), .int v27, .ref (am 28), .ref (am 29), .ref (am 30), .ref (am 31), .long v32, .ref (am 33), .ref (am 34), .ref (am 35), .ref (am 36)]))] ++ wt) hx hb hK hP hD hS 0 rfl f_7 (ia_in (n := 110) (by omega) (by omega)) ef_7 rfl dX12_closes__35 (fun H locs hP hD hS => ?_)
  rw [show Int32.toNatClampNeg t_6 = 39 + 4 * b.toInt.toNat from ix_n (by omega)] at ef_7
  have hSD := hSD.free ef_7 (by omega) (by omega) (fun b hb => by omega) (fun l hl => by omega)
  have hKH := hKH.st ef_7 (by omega) (by omega)
  have hLF := hLF.st ef_7 (fun k a c => by omega)
  have hS2 : (f_7 (36 + 4 * b.toInt.toNat)).toInt = 2 := by rw [upd_ne ef_7 (by omega)]; exact hS2
  refine lv_iload_n hx hb dX12_closes__36 rfl (lv_at hl 3 rfl) ?_
  refine lv_if_lt (tgt := 55) hx hb dX12_closes__37 (by decide) (fun c_8 => ?_) (fun c_8 => ?_)
  · rw [Int32.lt_iff_toInt_lt] at c_8
    refine lv_iconst (v := 0) hx hb dX12_closes__55 (by decide +kernel) ?_
    refine lv_istore (lv' := [(5, .int 0), (4, .int t_2), (0, .ref m0), (1, .int b), (2, .int w), (3, .int z)]) hx hb dX12_closes__56 hl (by decide) rfl (fun ls hl => ?_)
    refine tl_loopE (Γ := Γ) (nL := 6) (fun (zz_ : Int32 × (Nat → Int32)) => match zz_ with | (x58_0, g58_0) => (0 ≤ x58_0.toInt) ∧ (x58_0.toInt ≤ 5) ∧ (SD g58_0) ∧ (KH sd g58_0) ∧ (LF sd g58_0 b.toInt.toNat) ∧ ((g58_0 (36 + 4 * b.toInt.toNat)).toInt = 2)) (fun (zz_ : Int32 × (Nat → Int32)) => match zz_ with | (x58_0, g58_0) => (5 - x58_0.toInt).toNat) (fun (zz_ : Int32 × (Nat → Int32)) => match zz_ with | (x58_0, g58_0) => [(5, .int x58_0), (4, .int t_2), (0, .ref m0), (1, .int b), (2, .int w), (3, .int z)]) (fun (zz_ : Int32 × (Nat → Int32)) => match zz_ with | (x58_0, g58_0) => [((am 20), .inl (G.2.2 0, 110, .inl g58_0)), (m0, .inr (12, [.ref (am 0), .int v1, .int v2, .ref (am 3), .ref (am 4), .ref (am 5), .ref (am 6), .ref (am 7), .int v8, .int v9, .int v10, .int v11, .int v12, .int v13, .int v14, .ref (am 15), .int v16, .ref (am 17), .int v18, .ref (am 19), .ref (am 20), .int v21, .int v22, .int v23, .int v24, .int v25, .ref (am 26), .int v27, .ref (am 28), .ref (am 29), .ref (am 30), .ref (am 31), .long v32, .ref (am 33), .ref (am 34), .ref (am 35), .ref (am 36)]))]) (fun (zz_ : Int32 × (Nat → Int32)) (w : va_W) => match zz_ with | (x58_0, g58_0) => tk_kp [] w0 w) (fun zz_ hI H locs wt ls hT hW hP hD hS hl ih58 => ?_) (0, f_7) (show (0 ≤ (0 : Int32).toInt) ∧ ((0 : Int32).toInt ≤ 5) ∧ (SD f_7) ∧ (KH sd f_7) ∧ (LF sd f_7 b.toInt.toNat) ∧ ((f_7 (36 + 4 * b.toInt.toNat)).toInt = 2) from ⟨by omega, by omega, hSD, hKH, hLF, hS2⟩) _ _ wt ls hT hW hP hD hS hl
    obtain ⟨x58_0, g58_0⟩ := zz_
    have hW : tk_kp [] w0 wt := hW
    have hI : (0 ≤ x58_0.toInt) ∧ (x58_0.toInt ≤ 5) ∧ (SD g58_0) ∧ (KH sd g58_0) ∧ (LF sd g58_0 b.toInt.toNat) ∧ ((g58_0 (36 + 4 * b.toInt.toNat)).toInt = 2) := hI
    obtain ⟨j58_0, j58_1, hSD, hKH, hLF, hS2⟩ := hI
    have hl : lv_has ls 6 [(5, .int x58_0), (4, .int t_2), (0, .ref m0), (1, .int b), (2, .int w), (3, .int z)] := hl
    have hP : va_P (gg_D G) classes ([((am 20), .inl (G.2.2 0, 110, .inl g58_0)), (m0, .inr (12, [.ref (am 0), .int v1, .int v2, .ref (am 3), .ref (am 4), .ref (am 5), .ref (am 6), .ref (am 7), .int v8, .int v9, .int v10, .int v11, .int v12, .int v13, .int v14, .ref (am 15), .int v16, .ref (am 17), .int v18, .ref (am 19), .ref (am 20), .int v21, .int v22, .int v23, .int v24, .int v25, .ref (am 26), .int v27, .ref (am 28), .ref (am 29), .ref (am 30), .ref (am 31), .long v32, .ref (am 33), .ref (am 34), .ref (am 35), .ref (am 36)]))] ++ wt) H := hP
    have hD : va_D A ([((am 20), .inl (G.2.2 0, 110, .inl g58_0)), (m0, .inr (12, [.ref (am 0), .int v1, .int v2, .ref (am 3), .ref (am 4), .ref (am 5), .ref (am 6), .ref (am 7), .int v8, .int v9, .int v10, .int v11, .int v12, .int v13, .int v14, .ref (am 15), .int v16, .ref (am 17), .int v18, .ref (am 19), .ref (am 20), .int v21, .int v22, .int v23, .int v24, .int v25, .ref (am 26), .int v27, .ref (am 28), .ref (am 29), .ref (am 30), .ref (am 31), .long v32, .ref (am 33), .ref (am 34), .ref (am 35), .ref (am 36)]))] ++ wt) := hD
    refine lv_iload hx hb dX12_closes__58 (lv_at hl 0 rfl) ?_
    refine lv_aload_n hx hb dX12_closes__60 rfl (lv_at hl 2 rfl) ?_
    refine gq_get hx hb ht hown hK hP i_X12 1 rfl rfl 20 (by decide) wd_1272 rfl rfl dX12_closes__61 ?_
    refine lv_iconst (v := 1) hx hb dX12_closes__64 (by decide +kernel) ?_
    obtain ⟨n_9, en_9⟩ : ∃ zz_ : Int32, g58_0 (Int32.toNatClampNeg 1) = zz_ := ⟨_, rfl⟩
    refine gq_iald hx hb hK hP 0 rfl n_9 (ia_in (n := 110) (by omega) (by omega)) en_9 dX12_closes__65 ?_
    have En_9 : g58_0 (1) = n_9 := by rw [← show Int32.toNatClampNeg 1 = 1 from ix_n (by omega)]; exact en_9
    have hn_9 : (g58_0 (1)).toInt = n_9.toInt := by rw [En_9]
    have gn_9 := hSD.r1
    refine lv_icmp_ge (tgt := 119) hx hb dX12_closes__66 (by decide) (fun c_10 => ?_) (fun c_10 => ?_)
    · rw [Int32.le_iff_toInt_le] at c_10
      have hP9 : va_P (gg_D G) classes ([((am 20), .inl (G.2.2 0, 110, .inl g58_0)), (m0, .inr (12, [.ref (am 0), .int v1, .int v2, .ref (am 3), .ref (am 4), .ref (am 5), .ref (am 6), .ref (am 7), .int v8, .int v9, .int v10, .int v11, .int v12, .int v13, .int v14, .ref (am 15), .int v16, .ref (am 17), .int v18, .ref (am 19), .ref (am 20), .int v21, .int v22, .int v23, .int v24, .int v25, .ref (am 26), .int v27, .ref (am 28), .ref (am 29), .ref (am 30), .ref (am 31), .long v32, .ref (am 33), .ref (am 34), .ref (am 35), .ref (am 36)]))] ++ wt) _ := hP
      have hD9 : va_D A ([((am 20), .inl (G.2.2 0, 110, .inl g58_0)), (m0, .inr (12, [.ref (am 0), .int v1, .int v2, .ref (am 3), .ref (am 4), .ref (am 5), .ref (am 6), .ref (am 7), .int v8, .int v9, .int v10, .int v11, .int v12, .int v13, .int v14, .ref (am 15), .int v16, .ref (am 17), .int v18, .ref (am 19), .ref (am 20), .int v21, .int v22, .int v23, .int v24, .int v25, .ref (am 26), .int v27, .ref (am 28), .ref (am 29), .ref (am 30), .ref (am 31), .long v32, .ref (am 33), .ref (am 34), .ref (am 35), .ref (am 36)]))] ++ wt) := hD
      exact W.vret hx hb hr (gq_endV (g58_0, wt) ⟨hT, hW, hSD, hKH, hLF, hS2⟩ hP9 hD9 hS) hS.2.2 dX12_closes__119
    · rw [Int32.le_iff_toInt_le] at c_10
      refine lv_aload_n hx hb dX12_closes__69 rfl (lv_at hl 2 rfl) ?_
      refine lv_iload hx hb dX12_closes__70 (lv_at hl 0 rfl) ?_
      refine lv_iconst (v := 2) hx hb dX12_closes__72 (by decide +kernel) ?_
      have hP : va_P (gg_D G) classes ([] ++ ([((am 20), .inl (G.2.2 0, 110, .inl g58_0)), (m0, .inr (12, [.ref (am 0), .int v1, .int v2, .ref (am 3), .ref (am 4), .ref (am 5), .ref (am 6), .ref (am 7), .int v8, .int v9, .int v10, .int v11, .int v12, .int v13, .int v14, .ref (am 15), .int v16, .ref (am 17), .int v18, .ref (am 19), .ref (am 20), .int v21, .int v22, .int v23, .int v24, .int v25, .ref (am 26), .int v27, .ref (am 28), .ref (am 29), .ref (am 30), .ref (am 31), .long v32, .ref (am 33), .ref (am 34), .ref (am 35), .ref (am 36)]))] ++ wt)) H := hP
      have hD : va_D A ([] ++ ([((am 20), .inl (G.2.2 0, 110, .inl g58_0)), (m0, .inr (12, [.ref (am 0), .int v1, .int v2, .ref (am 3), .ref (am 4), .ref (am 5), .ref (am 6), .ref (am 7), .int v8, .int v9, .int v10, .int v11, .int v12, .int v13, .int v14, .ref (am 15), .int v16, .ref (am 17), .int v18, .ref (am 19), .ref (am 20), .int v21, .int v22, .int v23, .int v24, .int v25, .ref (am 26), .int v27, .ref (am 28), .ref (am 29), .ref (am 30), .ref (am 31), .long v32, .ref (am 33), .ref (am 34), .ref (am 35), .ref (am 36)]))] ++ wt)) := hD
      refine gt_callI (wr := []) (va_runV (As := [.int x58_0, .int 2]) (rest := []) ⟨hx, hb, hml, hown, ht⟩ (d_m_bid2 l G Γ H.size wt hT x58_0 m0 am v1 v2 v8 v9 v10 v11 v12 v13 v14 v16 v18 v21 v22 v23 v24 v25 v27 v32 g58_0 (by omega) (by omega) (by first | assumption | exact hSD.1 | exact hSD.w _ | (rw [hKH 2 (by omega)]; exact hKP) | omega) (by first | assumption | exact hSD.1 | exact hSD.w _ | (rw [hKH 2 (by omega)]; exact hKP) | omega) (by first | assumption | exact hSD.1 | exact hSD.w _ | (rw [hKH 2 (by omega)]; exact hKP) | omega) (by first | assumption | exact hSD.1 | exact hSD.w _ | (rw [hKH 2 (by omega)]; exact hKP) | omega) (by first | assumption | exact hSD.1 | exact hSD.w _ | (rw [hKH 2 (by omega)]; exact hKP) | omega) (by first | assumption | exact hSD.1 | exact hSD.w _ | (rw [hKH 2 (by omega)]; exact hKP) | omega) (by first | assumption | exact hSD.1 | exact hSD.w _ | (rw [hKH 2 (by omega)]; exact hKP) | omega) (by first | assumption | exact hSD.1 | exact hSD.w _ | (rw [hKH 2 (by omega)]; exact hKP) | omega) (by first | assumption | exact hSD.1 | exact hSD.w _ | (rw [hKH 2 (by omega)]; exact hKP) | omega) (by first | assumption | exact hSD.1 | exact hSD.w _ | (rw [hKH 2 (by omega)]; exact hKP) | omega) (by first | assumption | exact hSD.1 | exact hSD.w _ | (rw [hKH 2 (by omega)]; exact hKP) | omega) (by first | assumption | exact hSD.1 | exact hSD.w _ | (rw [hKH 2 (by omega)]; exact hKP) | omega) (by first | assumption | exact hSD.1 | exact hSD.w _ | (rw [hKH 2 (by omega)]; exact hKP) | omega) (by first | assumption | exact hSD.1 | exact hSD.w _ | (rw [hKH 2 (by omega)]; exact hKP) | omega) (by first | assumption | exact hSD.1 | exact hSD.w _ | (rw [hKH 2 (by omega)]; exact hKP) | omega) (by first | assumption | exact hSD.1 | exact hSD.w _ | (rw [hKH 2 (by omega)]; exact hKP) | omega) (by first | assumption | exact hSD.1 | exact hSD.w _ | (rw [hKH 2 (by omega)]; exact hKP) | omega) (by first | assumption | exact hSD.1 | exact hSD.w _ | (rw [hKH 2 (by omega)]; exact hKP) | omega) (by first | assumption | exact hSD.1 | exact hSD.w _ | (rw [hKH 2 (by omega)]; exact hKP) | omega) (by first | assumption | exact hSD.1 | exact hSD.w _ | (rw [hKH 2 (by omega)]; exact hKP) | omega) (by first | assumption | exact hSD.1 | exact hSD.w _ | (rw [hKH 2 (by omega)]; exact hKP) | omega) (by first | assumption | exact hSD.1 | exact hSD.w _ | (rw [hKH 2 (by omega)]; exact hKP) | omega) (by first | assumption | exact hSD.1 | exact hSD.w _ | (rw [hKH 2 (by omega)]; exact hKP) | omega) (by first | assumption | exact hSD.1 | exact hSD.w _ | (rw [hKH 2 (by omega)]; exact hKP) | omega)) (cwV 2 ht (ts_gV wd_1558 wd_1560 wd_74 wd_134 wd_1561) rfl rfl rfl (by decide +kernel) ⟨Nat.le_of_ble_eq_true rfl, Nat.le_of_ble_eq_true rfl⟩) (gc_preV (ci := 12) (q0 := 1) hK (tw_right hP) (tw_rightD hD) rfl rfl) rfl rfl hl.1 rfl (lv_room (Nat.le_of_ble_eq_true rfl)) dX12_closes__73 ⟨Nat.le_of_ble_eq_true rfl, Nat.le_of_ble_eq_true rfl⟩) hP hD hS hA (fun r_11 wt H locs hw hP hD hS => ?_)
      obtain ⟨hT, hkp, lo_r_11, hi_r_11, rp_r_11⟩ := hw
      have hW := hW.call (show ∀ x ∈ [], x ∈ [] by decide) hkp
      have hP : va_P (gg_D G) classes ([((am 20), .inl (G.2.2 0, 110, .inl g58_0)), (m0, .inr (12, [.ref (am 0), .int v1, .int v2, .ref (am 3), .ref (am 4), .ref (am 5), .ref (am 6), .ref (am 7), .int v8, .int v9, .int v10, .int v11, .int v12, .int v13, .int v14, .ref (am 15), .int v16, .ref (am 17), .int v18, .ref (am 19), .ref (am 20), .int v21, .int v22, .int v23, .int v24, .int v25, .ref (am 26), .int v27, .ref (am 28), .ref (am 29), .ref (am 30), .ref (am 31), .long v32, .ref (am 33), .ref (am 34), .ref (am 35), .ref (am 36)]))] ++ wt) H := hP
      have hD : va_D A ([((am 20), .inl (G.2.2 0, 110, .inl g58_0)), (m0, .inr (12, [.ref (am 0), .int v1, .int v2, .ref (am 3), .ref (am 4), .ref (am 5), .ref (am 6), .ref (am 7), .int v8, .int v9, .int v10, .int v11, .int v12, .int v13, .int v14, .ref (am 15), .int v16, .ref (am 17), .int v18, .ref (am 19), .ref (am 20), .int v21, .int v22, .int v23, .int v24, .int v25, .ref (am 26), .int v27, .ref (am 28), .ref (am 29), .ref (am 30), .ref (am 31), .long v32, .ref (am 33), .ref (am 34), .ref (am 35), .ref (am 36)]))] ++ wt) := hD
      refine lv_iload_n hx hb dX12_closes__76 rfl (lv_at hl 3 rfl) ?_
      refine lv_icmp_eq (tgt := 83) hx hb dX12_closes__77 (by decide) (fun c_12 => ?_) (fun c_12 => ?_)
      · rw [← Int32.toInt_inj] at c_12
        refine lv_aload_n hx hb dX12_closes__83 rfl (lv_at hl 2 rfl) ?_
        refine gq_get hx hb ht hown hK hP i_X12 1 rfl rfl 20 (by decide) wd_1272 rfl rfl dX12_closes__84 ?_
        refine lv_bipush (v := 11) hx hb dX12_closes__87 (by decide +kernel) ?_
        refine lv_iconst (v := 5) hx hb dX12_closes__89 (by decide +kernel) ?_
        refine lv_iload hx hb dX12_closes__90 (lv_at hl 0 rfl) ?_
        obtain ⟨t_13, et_13⟩ : ∃ zz_ : Int32, 5 * x58_0 = zz_ := ⟨_, rfl⟩
        refine gq_imul hx hb t_13 et_13 dX12_closes__92 ?_
        have ft_13 := ia_mul et_13 (by rw [l5]; omega) (by rw [l5]; omega)
        rw [l5] at ft_13
        obtain ⟨t_14, et_14⟩ : ∃ zz_ : Int32, 11 + t_13 = zz_ := ⟨_, rfl⟩
        refine gq_iadd hx hb t_14 et_14 dX12_closes__93 ?_
        have ft_14 := ia_add et_14 (by omega) (by omega)
        refine lv_iconst (v := 2) hx hb dX12_closes__94 (by decide +kernel) ?_
        obtain ⟨t_15, et_15⟩ : ∃ zz_ : Int32, t_14 + 2 = zz_ := ⟨_, rfl⟩
        refine gq_iadd hx hb t_15 et_15 dX12_closes__95 ?_
        have ft_15 := ia_add et_15 (by omega) (by omega)
        refine lv_iconst (v := (-1)) hx hb dX12_closes__96 (by decide +kernel) ?_
        obtain ⟨f_16, ef_16⟩ : ∃ zz_ : Nat → Int32, upd g58_0 (Int32.toNatClampNeg t_15) (-1) = zz_ := ⟨_, rfl⟩
        refine gq_iast (ws' := [((am 20), .inl (G.2.2 0, 110, .inl f_16)), (m0, .inr (12, [.ref (am 0), .int v1, .int v2, .ref (am 3), .ref (am 4), .ref (am 5), .ref (am 6), .ref (am 7), .int v8, .int v9, .int v10, .int v11, .int v12, .int v13, .int v14, .ref (am 15), .int v16, .ref (am 17), .int v18, .ref (am 19), .ref (am 20), .int v21, .int v22, .int v23, .int v24, .int v25, .ref (am 26), .int v27, .ref (am 28), .ref (am 29), .ref (am 30), .ref (am 31), .long v32, .ref (am 33), .ref (am 34), .ref (am 35), .ref (am 36)]))] ++ wt) hx hb hK hP hD hS 0 rfl f_16 (ia_in (n := 110) (by omega) (by omega)) ef_16 rfl dX12_closes__97 (fun H locs hP hD hS => ?_)
        rw [show Int32.toNatClampNeg t_15 = 13 + 5 * x58_0.toInt.toNat from ix_n (by omega)] at ef_16
        have eA := ef_16
        have hKH := hKH.st ef_16 (by omega) (by omega)
        have hLF := hLF.st ef_16 (fun k a c => by omega)
        have hS2 : (f_16 (36 + 4 * b.toInt.toNat)).toInt = 2 := by rw [upd_ne ef_16 (by omega)]; exact hS2
        refine lv_aload_n hx hb dX12_closes__98 rfl (lv_at hl 2 rfl) ?_
        refine gq_get hx hb ht hown hK hP i_X12 1 rfl rfl 20 (by decide) wd_1272 rfl rfl dX12_closes__99 ?_
        refine lv_bipush (v := 11) hx hb dX12_closes__102 (by decide +kernel) ?_
        refine lv_iconst (v := 5) hx hb dX12_closes__104 (by decide +kernel) ?_
        refine lv_iload hx hb dX12_closes__105 (lv_at hl 0 rfl) ?_
        refine gq_imul hx hb t_13 et_13 dX12_closes__107 ?_
        refine gq_iadd hx hb t_14 et_14 dX12_closes__108 ?_
        refine lv_iconst (v := 3) hx hb dX12_closes__109 (by decide +kernel) ?_
        obtain ⟨t_17, et_17⟩ : ∃ zz_ : Int32, t_14 + 3 = zz_ := ⟨_, rfl⟩
        refine gq_iadd hx hb t_17 et_17 dX12_closes__110 ?_
        have ft_17 := ia_add et_17 (by omega) (by omega)
        refine lv_iconst (v := 0) hx hb dX12_closes__111 (by decide +kernel) ?_
        obtain ⟨f_18, ef_18⟩ : ∃ zz_ : Nat → Int32, upd f_16 (Int32.toNatClampNeg t_17) 0 = zz_ := ⟨_, rfl⟩
        refine gq_iast (ws' := [((am 20), .inl (G.2.2 0, 110, .inl f_18)), (m0, .inr (12, [.ref (am 0), .int v1, .int v2, .ref (am 3), .ref (am 4), .ref (am 5), .ref (am 6), .ref (am 7), .int v8, .int v9, .int v10, .int v11, .int v12, .int v13, .int v14, .ref (am 15), .int v16, .ref (am 17), .int v18, .ref (am 19), .ref (am 20), .int v21, .int v22, .int v23, .int v24, .int v25, .ref (am 26), .int v27, .ref (am 28), .ref (am 29), .ref (am 30), .ref (am 31), .long v32, .ref (am 33), .ref (am 34), .ref (am 35), .ref (am 36)]))] ++ wt) hx hb hK hP hD hS 0 rfl f_18 (ia_in (n := 110) (by omega) (by omega)) ef_18 rfl dX12_closes__112 (fun H locs hP hD hS => ?_)
        rw [show Int32.toNatClampNeg t_17 = 14 + 5 * x58_0.toInt.toNat from ix_n (by omega)] at ef_18
        have hSD := hSD.rise eA ef_18 (b := x58_0.toInt.toNat) rfl rfl (by omega) (by omega) (by omega)
        have hKH := hKH.st ef_18 (by omega) (by omega)
        have hLF := hLF.st ef_18 (fun k a c => by omega)
        have hS2 : (f_18 (36 + 4 * b.toInt.toNat)).toInt = 2 := by rw [upd_ne ef_18 (by omega)]; exact hS2
        obtain ⟨t_19, et_19⟩ : ∃ zz_ : Int32, x58_0 + Int32.ofInt (1) = zz_ := ⟨_, rfl⟩
        have ft_19 : t_19.toInt = x58_0.toInt + (1 : Int32).toInt := ia_add (y := 1) et_19 (by omega) (by omega)
        refine lv_iinc (v := t_19) (lv' := [(5, .int t_19), (4, .int t_2), (0, .ref m0), (1, .int b), (2, .int w), (3, .int z)]) hx hb dX12_closes__113 hl (k := 0) rfl et_19 (by decide) rfl (fun ls hl => ?_)
        refine lv_goto (tgt := 58) hx hb dX12_closes__116 (by decide) ?_
        exact ih58 (t_19, f_18) (show (0 ≤ t_19.toInt) ∧ (t_19.toInt ≤ 5) ∧ (SD f_18) ∧ (KH sd f_18) ∧ (LF sd f_18 b.toInt.toNat) ∧ ((f_18 (36 + 4 * b.toInt.toNat)).toInt = 2) from ⟨by omega, by omega, hSD, hKH, hLF, hS2⟩) (show (5 - t_19.toInt).toNat < (5 - x58_0.toInt).toNat by omega) H locs wt ls hT hW hP hD hS (lv_sub hl [0, 1, 2, 3, 4, 5] rfl)
      · rw [← Int32.toInt_inj] at c_12
        refine lv_goto (tgt := 113) hx hb dX12_closes__80 (by decide) ?_
        obtain ⟨t_20, et_20⟩ : ∃ zz_ : Int32, x58_0 + Int32.ofInt (1) = zz_ := ⟨_, rfl⟩
        have ft_20 : t_20.toInt = x58_0.toInt + (1 : Int32).toInt := ia_add (y := 1) et_20 (by omega) (by omega)
        refine lv_iinc (v := t_20) (lv' := [(5, .int t_20), (4, .int t_2), (0, .ref m0), (1, .int b), (2, .int w), (3, .int z)]) hx hb dX12_closes__113 hl (k := 0) rfl et_20 (by decide) rfl (fun ls hl => ?_)
        refine lv_goto (tgt := 58) hx hb dX12_closes__116 (by decide) ?_
        exact ih58 (t_20, g58_0) (show (0 ≤ t_20.toInt) ∧ (t_20.toInt ≤ 5) ∧ (SD g58_0) ∧ (KH sd g58_0) ∧ (LF sd g58_0 b.toInt.toNat) ∧ ((g58_0 (36 + 4 * b.toInt.toNat)).toInt = 2) from ⟨by omega, by omega, hSD, hKH, hLF, hS2⟩) (show (5 - t_20.toInt).toNat < (5 - x58_0.toInt).toNat by omega) H locs wt ls hT hW hP hD hS (lv_sub hl [0, 1, 2, 3, 4, 5] rfl)
  · rw [Int32.lt_iff_toInt_lt] at c_8
    refine lv_aload_n hx hb dX12_closes__40 rfl (lv_at hl 1 rfl) ?_
    refine gq_get hx hb ht hown hK hP i_X12 1 rfl rfl 20 (by decide) wd_1272 rfl rfl dX12_closes__41 ?_
    refine lv_bipush (v := 11) hx hb dX12_closes__44 (by decide +kernel) ?_
    refine lv_iconst (v := 5) hx hb dX12_closes__46 (by decide +kernel) ?_
    refine lv_iload_n hx hb dX12_closes__47 rfl (lv_at hl 3 rfl) ?_
    obtain ⟨t_21, et_21⟩ : ∃ zz_ : Int32, 5 * w = zz_ := ⟨_, rfl⟩
    refine gq_imul hx hb t_21 et_21 dX12_closes__48 ?_
    have ft_21 := ia_mul et_21 (by rw [l5]; omega) (by rw [l5]; omega)
    rw [l5] at ft_21
    obtain ⟨t_22, et_22⟩ : ∃ zz_ : Int32, 11 + t_21 = zz_ := ⟨_, rfl⟩
    refine gq_iadd hx hb t_22 et_22 dX12_closes__49 ?_
    have ft_22 := ia_add et_22 (by omega) (by omega)
    refine lv_dup2_11 hx hb dX12_closes__50 rfl rfl ?_
    obtain ⟨n_23, en_23⟩ : ∃ zz_ : Int32, f_7 (Int32.toNatClampNeg t_22) = zz_ := ⟨_, rfl⟩
    refine gq_iald hx hb hK hP 0 rfl n_23 (ia_in (n := 110) (by omega) (by omega)) en_23 dX12_closes__51 ?_
    refine lv_iload_n hx hb dX12_closes__52 rfl (lv_at hl 4 rfl) ?_
    obtain ⟨t_24, et_24⟩ : ∃ zz_ : Int32, n_23 - z = zz_ := ⟨_, rfl⟩
    refine gq_isub hx hb t_24 et_24 dX12_closes__53 ?_
    obtain ⟨f_25, ef_25⟩ : ∃ zz_ : Nat → Int32, upd f_7 (Int32.toNatClampNeg t_22) t_24 = zz_ := ⟨_, rfl⟩
    refine gq_iast (ws' := [((am 20), .inl (G.2.2 0, 110, .inl f_25)), (m0, .inr (12, [.ref (am 0), .int v1, .int v2, .ref (am 3), .ref (am 4), .ref (am 5), .ref (am 6), .ref (am 7), .int v8, .int v9, .int v10, .int v11, .int v12, .int v13, .int v14, .ref (am 15), .int v16, .ref (am 17), .int v18, .ref (am 19), .ref (am 20), .int v21, .int v22, .int v23, .int v24, .int v25, .ref (am 26), .int v27, .ref (am 28), .ref (am 29), .ref (am 30), .ref (am 31), .long v32, .ref (am 33), .ref (am 34), .ref (am 35), .ref (am 36)]))] ++ wt) hx hb hK hP hD hS 0 rfl f_25 (ia_in (n := 110) (by omega) (by omega)) ef_25 rfl dX12_closes__54 (fun H locs hP hD hS => ?_)
    rw [show Int32.toNatClampNeg t_22 = 11 + 5 * w.toInt.toNat from ix_n (by omega)] at ef_25
    have hSD := hSD.free ef_25 (by omega) (by omega) (fun b hb => by omega) (fun l hl => by omega)
    have hKH := hKH.st ef_25 (by omega) (by omega)
    have hLF := hLF.st ef_25 (fun k a c => by omega)
    have hS2 : (f_25 (36 + 4 * b.toInt.toNat)).toInt = 2 := by rw [upd_ne ef_25 (by omega)]; exact hS2
    refine lv_iconst (v := 0) hx hb dX12_closes__55 (by decide +kernel) ?_
    refine lv_istore (lv' := [(5, .int 0), (4, .int t_2), (0, .ref m0), (1, .int b), (2, .int w), (3, .int z)]) hx hb dX12_closes__56 hl (by decide) rfl (fun ls hl => ?_)
    refine tl_loopE (Γ := Γ) (nL := 6) (fun (zz_ : Int32 × (Nat → Int32)) => match zz_ with | (x58_0, g58_0) => (0 ≤ x58_0.toInt) ∧ (x58_0.toInt ≤ 5) ∧ (SD g58_0) ∧ (KH sd g58_0) ∧ (LF sd g58_0 b.toInt.toNat) ∧ ((g58_0 (36 + 4 * b.toInt.toNat)).toInt = 2)) (fun (zz_ : Int32 × (Nat → Int32)) => match zz_ with | (x58_0, g58_0) => (5 - x58_0.toInt).toNat) (fun (zz_ : Int32 × (Nat → Int32)) => match zz_ with | (x58_0, g58_0) => [(5, .int x58_0), (4, .int t_2), (0, .ref m0), (1, .int b), (2, .int w), (3, .int z)]) (fun (zz_ : Int32 × (Nat → Int32)) => match zz_ with | (x58_0, g58_0) => [((am 20), .inl (G.2.2 0, 110, .inl g58_0)), (m0, .inr (12, [.ref (am 0), .int v1, .int v2, .ref (am 3), .ref (am 4), .ref (am 5), .ref (am 6), .ref (am 7), .int v8, .int v9, .int v10, .int v11, .int v12, .int v13, .int v14, .ref (am 15), .int v16, .ref (am 17), .int v18, .ref (am 19), .ref (am 20), .int v21, .int v22, .int v23, .int v24, .int v25, .ref (am 26), .int v27, .ref (am 28), .ref (am 29), .ref (am 30), .ref (am 31), .long v32, .ref (am 33), .ref (am 34), .ref (am 35), .ref (am 36)]))]) (fun (zz_ : Int32 × (Nat → Int32)) (w : va_W) => match zz_ with | (x58_0, g58_0) => tk_kp [] w0 w) (fun zz_ hI H locs wt ls hT hW hP hD hS hl ih58 => ?_) (0, f_25) (show (0 ≤ (0 : Int32).toInt) ∧ ((0 : Int32).toInt ≤ 5) ∧ (SD f_25) ∧ (KH sd f_25) ∧ (LF sd f_25 b.toInt.toNat) ∧ ((f_25 (36 + 4 * b.toInt.toNat)).toInt = 2) from ⟨by omega, by omega, hSD, hKH, hLF, hS2⟩) _ _ wt ls hT hW hP hD hS hl
    obtain ⟨x58_0, g58_0⟩ := zz_
    have hW : tk_kp [] w0 wt := hW
    have hI : (0 ≤ x58_0.toInt) ∧ (x58_0.toInt ≤ 5) ∧ (SD g58_0) ∧ (KH sd g58_0) ∧ (LF sd g58_0 b.toInt.toNat) ∧ ((g58_0 (36 + 4 * b.toInt.toNat)).toInt = 2) := hI
    obtain ⟨j58_0, j58_1, hSD, hKH, hLF, hS2⟩ := hI
    have hl : lv_has ls 6 [(5, .int x58_0), (4, .int t_2), (0, .ref m0), (1, .int b), (2, .int w), (3, .int z)] := hl
    have hP : va_P (gg_D G) classes ([((am 20), .inl (G.2.2 0, 110, .inl g58_0)), (m0, .inr (12, [.ref (am 0), .int v1, .int v2, .ref (am 3), .ref (am 4), .ref (am 5), .ref (am 6), .ref (am 7), .int v8, .int v9, .int v10, .int v11, .int v12, .int v13, .int v14, .ref (am 15), .int v16, .ref (am 17), .int v18, .ref (am 19), .ref (am 20), .int v21, .int v22, .int v23, .int v24, .int v25, .ref (am 26), .int v27, .ref (am 28), .ref (am 29), .ref (am 30), .ref (am 31), .long v32, .ref (am 33), .ref (am 34), .ref (am 35), .ref (am 36)]))] ++ wt) H := hP
    have hD : va_D A ([((am 20), .inl (G.2.2 0, 110, .inl g58_0)), (m0, .inr (12, [.ref (am 0), .int v1, .int v2, .ref (am 3), .ref (am 4), .ref (am 5), .ref (am 6), .ref (am 7), .int v8, .int v9, .int v10, .int v11, .int v12, .int v13, .int v14, .ref (am 15), .int v16, .ref (am 17), .int v18, .ref (am 19), .ref (am 20), .int v21, .int v22, .int v23, .int v24, .int v25, .ref (am 26), .int v27, .ref (am 28), .ref (am 29), .ref (am 30), .ref (am 31), .long v32, .ref (am 33), .ref (am 34), .ref (am 35), .ref (am 36)]))] ++ wt) := hD
    refine lv_iload hx hb dX12_closes__58 (lv_at hl 0 rfl) ?_
    refine lv_aload_n hx hb dX12_closes__60 rfl (lv_at hl 2 rfl) ?_
    refine gq_get hx hb ht hown hK hP i_X12 1 rfl rfl 20 (by decide) wd_1272 rfl rfl dX12_closes__61 ?_
    refine lv_iconst (v := 1) hx hb dX12_closes__64 (by decide +kernel) ?_
    obtain ⟨n_26, en_26⟩ : ∃ zz_ : Int32, g58_0 (Int32.toNatClampNeg 1) = zz_ := ⟨_, rfl⟩
    refine gq_iald hx hb hK hP 0 rfl n_26 (ia_in (n := 110) (by omega) (by omega)) en_26 dX12_closes__65 ?_
    have En_26 : g58_0 (1) = n_26 := by rw [← show Int32.toNatClampNeg 1 = 1 from ix_n (by omega)]; exact en_26
    have hn_26 : (g58_0 (1)).toInt = n_26.toInt := by rw [En_26]
    have gn_26 := hSD.r1
    refine lv_icmp_ge (tgt := 119) hx hb dX12_closes__66 (by decide) (fun c_27 => ?_) (fun c_27 => ?_)
    · rw [Int32.le_iff_toInt_le] at c_27
      have hP9 : va_P (gg_D G) classes ([((am 20), .inl (G.2.2 0, 110, .inl g58_0)), (m0, .inr (12, [.ref (am 0), .int v1, .int v2, .ref (am 3), .ref (am 4), .ref (am 5), .ref (am 6), .ref (am 7), .int v8, .int v9, .int v10, .int v11, .int v12, .int v13, .int v14, .ref (am 15), .int v16, .ref (am 17), .int v18, .ref (am 19), .ref (am 20), .int v21, .int v22, .int v23, .int v24, .int v25, .ref (am 26), .int v27, .ref (am 28), .ref (am 29), .ref (am 30), .ref (am 31), .long v32, .ref (am 33), .ref (am 34), .ref (am 35), .ref (am 36)]))] ++ wt) _ := hP
      have hD9 : va_D A ([((am 20), .inl (G.2.2 0, 110, .inl g58_0)), (m0, .inr (12, [.ref (am 0), .int v1, .int v2, .ref (am 3), .ref (am 4), .ref (am 5), .ref (am 6), .ref (am 7), .int v8, .int v9, .int v10, .int v11, .int v12, .int v13, .int v14, .ref (am 15), .int v16, .ref (am 17), .int v18, .ref (am 19), .ref (am 20), .int v21, .int v22, .int v23, .int v24, .int v25, .ref (am 26), .int v27, .ref (am 28), .ref (am 29), .ref (am 30), .ref (am 31), .long v32, .ref (am 33), .ref (am 34), .ref (am 35), .ref (am 36)]))] ++ wt) := hD
      exact W.vret hx hb hr (gq_endV (g58_0, wt) ⟨hT, hW, hSD, hKH, hLF, hS2⟩ hP9 hD9 hS) hS.2.2 dX12_closes__119
    · rw [Int32.le_iff_toInt_le] at c_27
      refine lv_aload_n hx hb dX12_closes__69 rfl (lv_at hl 2 rfl) ?_
      refine lv_iload hx hb dX12_closes__70 (lv_at hl 0 rfl) ?_
      refine lv_iconst (v := 2) hx hb dX12_closes__72 (by decide +kernel) ?_
      have hP : va_P (gg_D G) classes ([] ++ ([((am 20), .inl (G.2.2 0, 110, .inl g58_0)), (m0, .inr (12, [.ref (am 0), .int v1, .int v2, .ref (am 3), .ref (am 4), .ref (am 5), .ref (am 6), .ref (am 7), .int v8, .int v9, .int v10, .int v11, .int v12, .int v13, .int v14, .ref (am 15), .int v16, .ref (am 17), .int v18, .ref (am 19), .ref (am 20), .int v21, .int v22, .int v23, .int v24, .int v25, .ref (am 26), .int v27, .ref (am 28), .ref (am 29), .ref (am 30), .ref (am 31), .long v32, .ref (am 33), .ref (am 34), .ref (am 35), .ref (am 36)]))] ++ wt)) H := hP
      have hD : va_D A ([] ++ ([((am 20), .inl (G.2.2 0, 110, .inl g58_0)), (m0, .inr (12, [.ref (am 0), .int v1, .int v2, .ref (am 3), .ref (am 4), .ref (am 5), .ref (am 6), .ref (am 7), .int v8, .int v9, .int v10, .int v11, .int v12, .int v13, .int v14, .ref (am 15), .int v16, .ref (am 17), .int v18, .ref (am 19), .ref (am 20), .int v21, .int v22, .int v23, .int v24, .int v25, .ref (am 26), .int v27, .ref (am 28), .ref (am 29), .ref (am 30), .ref (am 31), .long v32, .ref (am 33), .ref (am 34), .ref (am 35), .ref (am 36)]))] ++ wt)) := hD
      refine gt_callI (wr := []) (va_runV (As := [.int x58_0, .int 2]) (rest := []) ⟨hx, hb, hml, hown, ht⟩ (d_m_bid2 l G Γ H.size wt hT x58_0 m0 am v1 v2 v8 v9 v10 v11 v12 v13 v14 v16 v18 v21 v22 v23 v24 v25 v27 v32 g58_0 (by omega) (by omega) (by first | assumption | exact hSD.1 | exact hSD.w _ | (rw [hKH 2 (by omega)]; exact hKP) | omega) (by first | assumption | exact hSD.1 | exact hSD.w _ | (rw [hKH 2 (by omega)]; exact hKP) | omega) (by first | assumption | exact hSD.1 | exact hSD.w _ | (rw [hKH 2 (by omega)]; exact hKP) | omega) (by first | assumption | exact hSD.1 | exact hSD.w _ | (rw [hKH 2 (by omega)]; exact hKP) | omega) (by first | assumption | exact hSD.1 | exact hSD.w _ | (rw [hKH 2 (by omega)]; exact hKP) | omega) (by first | assumption | exact hSD.1 | exact hSD.w _ | (rw [hKH 2 (by omega)]; exact hKP) | omega) (by first | assumption | exact hSD.1 | exact hSD.w _ | (rw [hKH 2 (by omega)]; exact hKP) | omega) (by first | assumption | exact hSD.1 | exact hSD.w _ | (rw [hKH 2 (by omega)]; exact hKP) | omega) (by first | assumption | exact hSD.1 | exact hSD.w _ | (rw [hKH 2 (by omega)]; exact hKP) | omega) (by first | assumption | exact hSD.1 | exact hSD.w _ | (rw [hKH 2 (by omega)]; exact hKP) | omega) (by first | assumption | exact hSD.1 | exact hSD.w _ | (rw [hKH 2 (by omega)]; exact hKP) | omega) (by first | assumption | exact hSD.1 | exact hSD.w _ | (rw [hKH 2 (by omega)]; exact hKP) | omega) (by first | assumption | exact hSD.1 | exact hSD.w _ | (rw [hKH 2 (by omega)]; exact hKP) | omega) (by first | assumption | exact hSD.1 | exact hSD.w _ | (rw [hKH 2 (by omega)]; exact hKP) | omega) (by first | assumption | exact hSD.1 | exact hSD.w _ | (rw [hKH 2 (by omega)]; exact hKP) | omega) (by first | assumption | exact hSD.1 | exact hSD.w _ | (rw [hKH 2 (by omega)]; exact hKP) | omega) (by first | assumption | exact hSD.1 | exact hSD.w _ | (rw [hKH 2 (by omega)]; exact hKP) | omega) (by first | assumption | exact hSD.1 | exact hSD.w _ | (rw [hKH 2 (by omega)]; exact hKP) | omega) (by first | assumption | exact hSD.1 | exact hSD.w _ | (rw [hKH 2 (by omega)]; exact hKP) | omega) (by first | assumption | exact hSD.1 | exact hSD.w _ | (rw [hKH 2 (by omega)]; exact hKP) | omega) (by first | assumption | exact hSD.1 | exact hSD.w _ | (rw [hKH 2 (by omega)]; exact hKP) | omega) (by first | assumption | exact hSD.1 | exact hSD.w _ | (rw [hKH 2 (by omega)]; exact hKP) | omega) (by first | assumption | exact hSD.1 | exact hSD.w _ | (rw [hKH 2 (by omega)]; exact hKP) | omega) (by first | assumption | exact hSD.1 | exact hSD.w _ | (rw [hKH 2 (by omega)]; exact hKP) | omega)) (cwV 2 ht (ts_gV wd_1558 wd_1560 wd_74 wd_134 wd_1561) rfl rfl rfl (by decide +kernel) ⟨Nat.le_of_ble_eq_true rfl, Nat.le_of_ble_eq_true rfl⟩) (gc_preV (ci := 12) (q0 := 1) hK (tw_right hP) (tw_rightD hD) rfl rfl) rfl rfl hl.1 rfl (lv_room (Nat.le_of_ble_eq_true rfl)) dX12_closes__73 ⟨Nat.le_of_ble_eq_true rfl, Nat.le_of_ble_eq_true rfl⟩) hP hD hS hA (fun r_28 wt H locs hw hP hD hS => ?_)
      obtain ⟨hT, hkp, lo_r_28, hi_r_28, rp_r_28⟩ := hw
      have hW := hW.call (show ∀ x ∈ [], x ∈ [] by decide) hkp
      have hP : va_P (gg_D G) classes ([((am 20), .inl (G.2.2 0, 110, .inl g58_0)), (m0, .inr (12, [.ref (am 0), .int v1, .int v2, .ref (am 3), .ref (am 4), .ref (am 5), .ref (am 6), .ref (am 7), .int v8, .int v9, .int v10, .int v11, .int v12, .int v13, .int v14, .ref (am 15), .int v16, .ref (am 17), .int v18, .ref (am 19), .ref (am 20), .int v21, .int v22, .int v23, .int v24, .int v25, .ref (am 26), .int v27, .ref (am 28), .ref (am 29), .ref (am 30), .ref (am 31), .long v32, .ref (am 33), .ref (am 34), .ref (am 35), .ref (am 36)]))] ++ wt) H := hP
      have hD : va_D A ([((am 20), .inl (G.2.2 0, 110, .inl g58_0)), (m0, .inr (12, [.ref (am 0), .int v1, .int v2, .ref (am 3), .ref (am 4), .ref (am 5), .ref (am 6), .ref (am 7), .int v8, .int v9, .int v10, .int v11, .int v12, .int v13, .int v14, .ref (am 15), .int v16, .ref (am 17), .int v18, .ref (am 19), .ref (am 20), .int v21, .int v22, .int v23, .int v24, .int v25, .ref (am 26), .int v27, .ref (am 28), .ref (am 29), .ref (am 30), .ref (am 31), .long v32, .ref (am 33), .ref (am 34), .ref (am 35), .ref (am 36)]))] ++ wt) := hD
      refine lv_iload_n hx hb dX12_closes__76 rfl (lv_at hl 3 rfl) ?_
      refine lv_icmp_eq (tgt := 83) hx hb dX12_closes__77 (by decide) (fun c_29 => ?_) (fun c_29 => ?_)
      · rw [← Int32.toInt_inj] at c_29
        refine lv_aload_n hx hb dX12_closes__83 rfl (lv_at hl 2 rfl) ?_
        refine gq_get hx hb ht hown hK hP i_X12 1 rfl rfl 20 (by decide) wd_1272 rfl rfl dX12_closes__84 ?_
        refine lv_bipush (v := 11) hx hb dX12_closes__87 (by decide +kernel) ?_
        refine lv_iconst (v := 5) hx hb dX12_closes__89 (by decide +kernel) ?_
        refine lv_iload hx hb dX12_closes__90 (lv_at hl 0 rfl) ?_
        obtain ⟨t_30, et_30⟩ : ∃ zz_ : Int32, 5 * x58_0 = zz_ := ⟨_, rfl⟩
        refine gq_imul hx hb t_30 et_30 dX12_closes__92 ?_
        have ft_30 := ia_mul et_30 (by rw [l5]; omega) (by rw [l5]; omega)
        rw [l5] at ft_30
        obtain ⟨t_31, et_31⟩ : ∃ zz_ : Int32, 11 + t_30 = zz_ := ⟨_, rfl⟩
        refine gq_iadd hx hb t_31 et_31 dX12_closes__93 ?_
        have ft_31 := ia_add et_31 (by omega) (by omega)
        refine lv_iconst (v := 2) hx hb dX12_closes__94 (by decide +kernel) ?_
        obtain ⟨t_32, et_32⟩ : ∃ zz_ : Int32, t_31 + 2 = zz_ := ⟨_, rfl⟩
        refine gq_iadd hx hb t_32 et_32 dX12_closes__95 ?_
        have ft_32 := ia_add et_32 (by omega) (by omega)
        refine lv_iconst (v := (-1)) hx hb dX12_closes__96 (by decide +kernel) ?_
        obtain ⟨f_33, ef_33⟩ : ∃ zz_ : Nat → Int32, upd g58_0 (Int32.toNatClampNeg t_32) (-1) = zz_ := ⟨_, rfl⟩
        refine gq_iast (ws' := [((am 20), .inl (G.2.2 0, 110, .inl f_33)), (m0, .inr (12, [.ref (am 0), .int v1, .int v2, .ref (am 3), .ref (am 4), .ref (am 5), .ref (am 6), .ref (am 7), .int v8, .int v9, .int v10, .int v11, .int v12, .int v13, .int v14, .ref (am 15), .int v16, .ref (am 17), .int v18, .ref (am 19), .ref (am 20), .int v21, .int v22, .int v23, .int v24, .int v25, .ref (am 26), .int v27, .ref (am 28), .ref (am 29), .ref (am 30), .ref (am 31), .long v32, .ref (am 33), .ref (am 34), .ref (am 35), .ref (am 36)]))] ++ wt) hx hb hK hP hD hS 0 rfl f_33 (ia_in (n := 110) (by omega) (by omega)) ef_33 rfl dX12_closes__97 (fun H locs hP hD hS => ?_)
        rw [show Int32.toNatClampNeg t_32 = 13 + 5 * x58_0.toInt.toNat from ix_n (by omega)] at ef_33
        have eA := ef_33
        have hKH := hKH.st ef_33 (by omega) (by omega)
        have hLF := hLF.st ef_33 (fun k a c => by omega)
        have hS2 : (f_33 (36 + 4 * b.toInt.toNat)).toInt = 2 := by rw [upd_ne ef_33 (by omega)]; exact hS2
        refine lv_aload_n hx hb dX12_closes__98 rfl (lv_at hl 2 rfl) ?_
        refine gq_get hx hb ht hown hK hP i_X12 1 rfl rfl 20 (by decide) wd_1272 rfl rfl dX12_closes__99 ?_
        refine lv_bipush (v := 11) hx hb dX12_closes__102 (by decide +kernel) ?_
        refine lv_iconst (v := 5) hx hb dX12_closes__104 (by decide +kernel) ?_
        refine lv_iload hx hb dX12_closes__105 (lv_at hl 0 rfl) ?_
        refine gq_imul hx hb t_30 et_30 dX12_closes__107 ?_
        refine gq_iadd hx hb t_31 et_31 dX12_closes__108 ?_
        refine lv_iconst (v := 3) hx hb dX12_closes__109 (by decide +kernel) ?_
        obtain ⟨t_34, et_34⟩ : ∃ zz_ : Int32, t_31 + 3 = zz_ := ⟨_, rfl⟩
        refine gq_iadd hx hb t_34 et_34 dX12_closes__110 ?_
        have ft_34 := ia_add et_34 (by omega) (by omega)
        refine lv_iconst (v := 0) hx hb dX12_closes__111 (by decide +kernel) ?_
        obtain ⟨f_35, ef_35⟩ : ∃ zz_ : Nat → Int32, upd f_33 (Int32.toNatClampNeg t_34) 0 = zz_ := ⟨_, rfl⟩
        refine gq_iast (ws' := [((am 20), .inl (G.2.2 0, 110, .inl f_35)), (m0, .inr (12, [.ref (am 0), .int v1, .int v2, .ref (am 3), .ref (am 4), .ref (am 5), .ref (am 6), .ref (am 7), .int v8, .int v9, .int v10, .int v11, .int v12, .int v13, .int v14, .ref (am 15), .int v16, .ref (am 17), .int v18, .ref (am 19), .ref (am 20), .int v21, .int v22, .int v23, .int v24, .int v25, .ref (am 26), .int v27, .ref (am 28), .ref (am 29), .ref (am 30), .ref (am 31), .long v32, .ref (am 33), .ref (am 34), .ref (am 35), .ref (am 36)]))] ++ wt) hx hb hK hP hD hS 0 rfl f_35 (ia_in (n := 110) (by omega) (by omega)) ef_35 rfl dX12_closes__112 (fun H locs hP hD hS => ?_)
        rw [show Int32.toNatClampNeg t_34 = 14 + 5 * x58_0.toInt.toNat from ix_n (by omega)] at ef_35
        have hSD := hSD.rise eA ef_35 (b := x58_0.toInt.toNat) rfl rfl (by omega) (by omega) (by omega)
        have hKH := hKH.st ef_35 (by omega) (by omega)
        have hLF := hLF.st ef_35 (fun k a c => by omega)
        have hS2 : (f_35 (36 + 4 * b.toInt.toNat)).toInt = 2 := by rw [upd_ne ef_35 (by omega)]; exact hS2
        obtain ⟨t_36, et_36⟩ : ∃ zz_ : Int32, x58_0 + Int32.ofInt (1) = zz_ := ⟨_, rfl⟩
        have ft_36 : t_36.toInt = x58_0.toInt + (1 : Int32).toInt := ia_add (y := 1) et_36 (by omega) (by omega)
        refine lv_iinc (v := t_36) (lv' := [(5, .int t_36), (4, .int t_2), (0, .ref m0), (1, .int b), (2, .int w), (3, .int z)]) hx hb dX12_closes__113 hl (k := 0) rfl et_36 (by decide) rfl (fun ls hl => ?_)
        refine lv_goto (tgt := 58) hx hb dX12_closes__116 (by decide) ?_
        exact ih58 (t_36, f_35) (show (0 ≤ t_36.toInt) ∧ (t_36.toInt ≤ 5) ∧ (SD f_35) ∧ (KH sd f_35) ∧ (LF sd f_35 b.toInt.toNat) ∧ ((f_35 (36 + 4 * b.toInt.toNat)).toInt = 2) from ⟨by omega, by omega, hSD, hKH, hLF, hS2⟩) (show (5 - t_36.toInt).toNat < (5 - x58_0.toInt).toNat by omega) H locs wt ls hT hW hP hD hS (lv_sub hl [0, 1, 2, 3, 4, 5] rfl)
      · rw [← Int32.toInt_inj] at c_29
        refine lv_goto (tgt := 113) hx hb dX12_closes__80 (by decide) ?_
        obtain ⟨t_37, et_37⟩ : ∃ zz_ : Int32, x58_0 + Int32.ofInt (1) = zz_ := ⟨_, rfl⟩
        have ft_37 : t_37.toInt = x58_0.toInt + (1 : Int32).toInt := ia_add (y := 1) et_37 (by omega) (by omega)
        refine lv_iinc (v := t_37) (lv' := [(5, .int t_37), (4, .int t_2), (0, .ref m0), (1, .int b), (2, .int w), (3, .int z)]) hx hb dX12_closes__113 hl (k := 0) rfl et_37 (by decide) rfl (fun ls hl => ?_)
        refine lv_goto (tgt := 58) hx hb dX12_closes__116 (by decide) ?_
        exact ih58 (t_37, g58_0) (show (0 ≤ t_37.toInt) ∧ (t_37.toInt ≤ 5) ∧ (SD g58_0) ∧ (KH sd g58_0) ∧ (LF sd g58_0 b.toInt.toNat) ∧ ((g58_0 (36 + 4 * b.toInt.toNat)).toInt = 2) from ⟨by omega, by omega, hSD, hKH, hLF, hS2⟩) (show (5 - t_37.toInt).toNat < (5 - x58_0.toInt).toNat by omega) H locs wt ls hT hW hP hD hS (lv_sub hl [0, 1, 2, 3, 4, 5] rfl)
set_option maxHeartbeats 4000000 in
set_option maxRecDepth 100000 in
theorem d_m_priceOf (l : Launch) (G : gg_T) (Γ : Nat → Nat) (sz : Nat) (wt : va_W) (hT : tk_ty G Γ wt) (b : Int32) (m0 : Nat) (am : Nat → Nat) (v1 : Int32) (v2 : Int32) (v8 : Int32) (v9 : Int32) (v10 : Int32) (v11 : Int32) (v12 : Int32) (v13 : Int32) (v14 : Int32) (v16 : Int32) (v18 : Int32) (v21 : Int32) (v22 : Int32) (v23 : Int32) (v24 : Int32) (v25 : Int32) (v27 : Int32) (v32 : Int64) (sd : Nat → Int32) (lo_b : 0 ≤ b.toInt) (hi_b : b.toInt ≤ 2) (k17 : Γ (am 17) = 32) (k19 : Γ (am 19) = 30) (k30 : Γ (am 30) = 28) (k31 : Γ (am 31) = 28) (lo_v1 : 0 ≤ v1.toInt) (hi_v1 : v1.toInt ≤ 400) (lo_v2 : 0 ≤ v2.toInt) (hi_v2 : v2.toInt ≤ 6) (lo_v8 : 0 ≤ v8.toInt) (hi_v8 : v8.toInt ≤ 400) (lo_v11 : 0 ≤ v11.toInt) (hi_v11 : v11.toInt ≤ 6) (lo_v12 : 0 ≤ v12.toInt) (hi_v12 : v12.toInt ≤ 60) (lo_v16 : 0 ≤ v16.toInt) (hi_v16 : v16.toInt ≤ 400) (lo_v21 : -1 ≤ v21.toInt) (hi_v21 : v21.toInt ≤ 5) (lo_v23 : 0 ≤ v23.toInt) (hi_v23 : v23.toInt ≤ 31) (lo_v27 : 0 ≤ v27.toInt) (hi_v27 : v27.toInt ≤ 20) (xfr : v21.toInt < v2.toInt) (hSD : SD sd) : Met l yX12_priceOf (ts_L yX12_priceOf cX12_priceOf 2 (some .int)) ({ frames := 0, cells := 0, slots := 0, locals := 0 }) (gc_P G ([((am 20), .inl (G.2.2 0, 110, .inl sd)), (m0, .inr (12, [.ref (am 0), .int v1, .int v2, .ref (am 3), .ref (am 4), .ref (am 5), .ref (am 6), .ref (am 7), .int v8, .int v9, .int v10, .int v11, .int v12, .int v13, .int v14, .ref (am 15), .int v16, .ref (am 17), .int v18, .ref (am 19), .ref (am 20), .int v21, .int v22, .int v23, .int v24, .int v25, .ref (am 26), .int v27, .ref (am 28), .ref (am 29), .ref (am 30), .ref (am 31), .long v32, .ref (am 33), .ref (am 34), .ref (am 35), .ref (am 36)]))] ++ wt) sz [.ref m0, .int b]) (gc_I G (va_A ([((am 20), .inl (G.2.2 0, 110, .inl sd)), (m0, .inr (12, [.ref (am 0), .int v1, .int v2, .ref (am 3), .ref (am 4), .ref (am 5), .ref (am 6), .ref (am 7), .int v8, .int v9, .int v10, .int v11, .int v12, .int v13, .int v14, .ref (am 15), .int v16, .ref (am 17), .int v18, .ref (am 19), .ref (am 20), .int v21, .int v22, .int v23, .int v24, .int v25, .ref (am 26), .int v27, .ref (am 28), .ref (am 29), .ref (am 30), .ref (am 31), .long v32, .ref (am 33), .ref (am 34), .ref (am 35), .ref (am 36)]))] ++ wt) sz) (fun r (u : va_W) => match u with | wt1 => tk_ty G Γ wt1 ∧ tk_kp [] wt wt1) (fun (u : va_W) => match u with | wt1 => [((am 20), .inl (G.2.2 0, 110, .inl sd)), (m0, .inr (12, [.ref (am 0), .int v1, .int v2, .ref (am 3), .ref (am 4), .ref (am 5), .ref (am 6), .ref (am 7), .int v8, .int v9, .int v10, .int v11, .int v12, .int v13, .int v14, .ref (am 15), .int v16, .ref (am 17), .int v18, .ref (am 19), .ref (am 20), .int v21, .int v22, .int v23, .int v24, .int v25, .ref (am 26), .int v27, .ref (am 28), .ref (am 29), .ref (am 30), .ref (am 31), .long v32, .ref (am 33), .ref (am 34), .ref (am 35), .ref (am 36)]))] ++ wt1)) 0 0 (va_A ([((am 20), .inl (G.2.2 0, 110, .inl sd)), (m0, .inr (12, [.ref (am 0), .int v1, .int v2, .ref (am 3), .ref (am 4), .ref (am 5), .ref (am 6), .ref (am 7), .int v8, .int v9, .int v10, .int v11, .int v12, .int v13, .int v14, .ref (am 15), .int v16, .ref (am 17), .int v18, .ref (am 19), .ref (am 20), .int v21, .int v22, .int v23, .int v24, .int v25, .ref (am 26), .int v27, .ref (am 28), .ref (am 29), .ref (am 30), .ref (am 31), .long v32, .ref (am 33), .ref (am 34), .ref (am 35), .ref (am 36)]))] ++ wt) sz) := by
  refine Met.ofW (cc := cX12_priceOf) (maxL := 2) (ret := (some .int)) (by decide) rfl ?_
  intro p e s m args below meth c s₁ B hml hv
  obtain ⟨rfl, hsz, hP, hK, hD0⟩ := hv
  have hx := B.exec
  have hb := B.bytes
  have hr := B.returns
  have ht := ts_ht (atoms_spec (ws := ts_L yX12_priceOf cX12_priceOf 2 (some .int)) B.pre)
  have hown : s.vm.findClass RX12 = some m.cls := findClass_of_methodNamed B.named
  have hlocks := B.notSynchronized
  subst hsz
  have hD := hD0.self (sz := s.heap.size)
  generalize hAe : va_A ([((am 20), .inl (G.2.2 0, 110, .inl sd)), (m0, .inr (12, [.ref (am 0), .int v1, .int v2, .ref (am 3), .ref (am 4), .ref (am 5), .ref (am 6), .ref (am 7), .int v8, .int v9, .int v10, .int v11, .int v12, .int v13, .int v14, .ref (am 15), .int v16, .ref (am 17), .int v18, .ref (am 19), .ref (am 20), .int v21, .int v22, .int v23, .int v24, .int v25, .ref (am 26), .int v27, .ref (am 28), .ref (am 29), .ref (am 30), .ref (am 31), .long v32, .ref (am 33), .ref (am 34), .ref (am 35), .ref (am 36)]))] ++ wt) s.heap.size = A at hD ⊢
  have hA : ∀ q : Nat, s.heap.size ≤ q → A q := fun q h => by rw [← hAe]; exact Or.inr h
  clear hAe hD0
  have hS : va_S A s.heap s.heap [] := va_S.rf
  obtain ⟨w0, hw0⟩ : ∃ z, z = wt := ⟨_, rfl⟩
  have hW : tk_kp [] w0 wt := by rw [hw0]; exact tk_kp.rf
  rw [← hw0]
  clear hw0
  have hP : va_P (gg_D G) classes ([((am 20), .inl (G.2.2 0, 110, .inl sd)), (m0, .inr (12, [.ref (am 0), .int v1, .int v2, .ref (am 3), .ref (am 4), .ref (am 5), .ref (am 6), .ref (am 7), .int v8, .int v9, .int v10, .int v11, .int v12, .int v13, .int v14, .ref (am 15), .int v16, .ref (am 17), .int v18, .ref (am 19), .ref (am 20), .int v21, .int v22, .int v23, .int v24, .int v25, .ref (am 26), .int v27, .ref (am 28), .ref (am 29), .ref (am 30), .ref (am 31), .long v32, .ref (am 33), .ref (am 34), .ref (am 35), .ref (am 36)]))] ++ wt) s.heap := hP
  have hD : va_D A ([((am 20), .inl (G.2.2 0, 110, .inl sd)), (m0, .inr (12, [.ref (am 0), .int v1, .int v2, .ref (am 3), .ref (am 4), .ref (am 5), .ref (am 6), .ref (am 7), .int v8, .int v9, .int v10, .int v11, .int v12, .int v13, .int v14, .ref (am 15), .int v16, .ref (am 17), .int v18, .ref (am 19), .ref (am 20), .int v21, .int v22, .int v23, .int v24, .int v25, .ref (am 26), .int v27, .ref (am 28), .ref (am 29), .ref (am 30), .ref (am 31), .long v32, .ref (am 33), .ref (am 34), .ref (am 35), .ref (am 36)]))] ++ wt) := hD
  have hl := lv_entry ([.ref m0, .int b]) (n := 2) (Nat.le_of_ble_eq_true rfl)
  rw [lg_entry_eq]
  generalize (lg_sl ([.ref m0, .int b]) ++ List.replicate (2 - (lg_sl ([.ref m0, .int b])).length) Slot.unset).toArray = ls at hl ⊢
  have hl : lv_has ls 2 [(0, .ref m0), (1, .int b)] := hl
  have hKH : KH sd sd := KH.rf
  have l2 : (2 : Int32).toInt = 2 := by decide +kernel
  have l63 : (63 : Int32).toInt = 63 := by decide +kernel
  refine lv_aload_n hx hb dX12_priceOf_0 rfl (lv_at hl 0 rfl) ?_
  refine gq_get hx hb ht hown hK hP i_X12 1 rfl rfl 20 (by decide) wd_1272 rfl rfl dX12_priceOf_1 ?_
  refine lv_bipush (v := 63) hx hb dX12_priceOf_4 (by decide +kernel) ?_
  refine lv_iconst (v := 2) hx hb dX12_priceOf_6 (by decide +kernel) ?_
  refine lv_iload_n hx hb dX12_priceOf_7 rfl (lv_at hl 1 rfl) ?_
  obtain ⟨t_1, et_1⟩ : ∃ zz_ : Int32, 2 * b = zz_ := ⟨_, rfl⟩
  refine gq_imul hx hb t_1 et_1 dX12_priceOf_8 ?_
  have ft_1 := ia_mul et_1 (by rw [l2]; omega) (by rw [l2]; omega)
  rw [l2] at ft_1
  obtain ⟨t_2, et_2⟩ : ∃ zz_ : Int32, 63 + t_1 = zz_ := ⟨_, rfl⟩
  refine gq_iadd hx hb t_2 et_2 dX12_priceOf_9 ?_
  have ft_2 := ia_add et_2 (by omega) (by omega)
  obtain ⟨n_3, en_3⟩ : ∃ zz_ : Int32, sd (Int32.toNatClampNeg t_2) = zz_ := ⟨_, rfl⟩
  refine gq_iald hx hb hK hP 0 rfl n_3 (ia_in (n := 110) (by omega) (by omega)) en_3 dX12_priceOf_10 ?_
  have hP9 : va_P (gg_D G) classes ([((am 20), .inl (G.2.2 0, 110, .inl sd)), (m0, .inr (12, [.ref (am 0), .int v1, .int v2, .ref (am 3), .ref (am 4), .ref (am 5), .ref (am 6), .ref (am 7), .int v8, .int v9, .int v10, .int v11, .int v12, .int v13, .int v14, .ref (am 15), .int v16, .ref (am 17), .int v18, .ref (am 19), .ref (am 20), .int v21, .int v22, .int v23, .int v24, .int v25, .ref (am 26), .int v27, .ref (am 28), .ref (am 29), .ref (am 30), .ref (am 31), .long v32, .ref (am 33), .ref (am 34), .ref (am 35), .ref (am 36)]))] ++ wt) _ := hP
  have hD9 : va_D A ([((am 20), .inl (G.2.2 0, 110, .inl sd)), (m0, .inr (12, [.ref (am 0), .int v1, .int v2, .ref (am 3), .ref (am 4), .ref (am 5), .ref (am 6), .ref (am 7), .int v8, .int v9, .int v10, .int v11, .int v12, .int v13, .int v14, .ref (am 15), .int v16, .ref (am 17), .int v18, .ref (am 19), .ref (am 20), .int v21, .int v22, .int v23, .int v24, .int v25, .ref (am 26), .int v27, .ref (am 28), .ref (am 29), .ref (am 30), .ref (am 31), .long v32, .ref (am 33), .ref (am 34), .ref (am 35), .ref (am 36)]))] ++ wt) := hD
  exact W.iret (v := n_3) hx hb hr (gq_endI wt ⟨hT, hW⟩ hP9 hD9 hS) hS.2.2 dX12_priceOf_11
set_option maxHeartbeats 4000000 in
set_option maxRecDepth 100000 in
theorem d_m_effectOf (l : Launch) (G : gg_T) (Γ : Nat → Nat) (sz : Nat) (wt : va_W) (hT : tk_ty G Γ wt) (b : Int32) (m0 : Nat) (am : Nat → Nat) (v1 : Int32) (v2 : Int32) (v8 : Int32) (v9 : Int32) (v10 : Int32) (v11 : Int32) (v12 : Int32) (v13 : Int32) (v14 : Int32) (v16 : Int32) (v18 : Int32) (v21 : Int32) (v22 : Int32) (v23 : Int32) (v24 : Int32) (v25 : Int32) (v27 : Int32) (v32 : Int64) (sd : Nat → Int32) (lo_b : 0 ≤ b.toInt) (hi_b : b.toInt ≤ 2) (k17 : Γ (am 17) = 32) (k19 : Γ (am 19) = 30) (k30 : Γ (am 30) = 28) (k31 : Γ (am 31) = 28) (lo_v1 : 0 ≤ v1.toInt) (hi_v1 : v1.toInt ≤ 400) (lo_v2 : 0 ≤ v2.toInt) (hi_v2 : v2.toInt ≤ 6) (lo_v8 : 0 ≤ v8.toInt) (hi_v8 : v8.toInt ≤ 400) (lo_v11 : 0 ≤ v11.toInt) (hi_v11 : v11.toInt ≤ 6) (lo_v12 : 0 ≤ v12.toInt) (hi_v12 : v12.toInt ≤ 60) (lo_v16 : 0 ≤ v16.toInt) (hi_v16 : v16.toInt ≤ 400) (lo_v21 : -1 ≤ v21.toInt) (hi_v21 : v21.toInt ≤ 5) (lo_v23 : 0 ≤ v23.toInt) (hi_v23 : v23.toInt ≤ 31) (lo_v27 : 0 ≤ v27.toInt) (hi_v27 : v27.toInt ≤ 20) (xfr : v21.toInt < v2.toInt) (hSD : SD sd) : Met l yX12_effectOf (ts_L yX12_effectOf cX12_effectOf 2 (some .int)) ({ frames := 0, cells := 0, slots := 0, locals := 0 }) (gc_P G ([((am 20), .inl (G.2.2 0, 110, .inl sd)), (m0, .inr (12, [.ref (am 0), .int v1, .int v2, .ref (am 3), .ref (am 4), .ref (am 5), .ref (am 6), .ref (am 7), .int v8, .int v9, .int v10, .int v11, .int v12, .int v13, .int v14, .ref (am 15), .int v16, .ref (am 17), .int v18, .ref (am 19), .ref (am 20), .int v21, .int v22, .int v23, .int v24, .int v25, .ref (am 26), .int v27, .ref (am 28), .ref (am 29), .ref (am 30), .ref (am 31), .long v32, .ref (am 33), .ref (am 34), .ref (am 35), .ref (am 36)]))] ++ wt) sz [.ref m0, .int b]) (gc_I G (va_A ([((am 20), .inl (G.2.2 0, 110, .inl sd)), (m0, .inr (12, [.ref (am 0), .int v1, .int v2, .ref (am 3), .ref (am 4), .ref (am 5), .ref (am 6), .ref (am 7), .int v8, .int v9, .int v10, .int v11, .int v12, .int v13, .int v14, .ref (am 15), .int v16, .ref (am 17), .int v18, .ref (am 19), .ref (am 20), .int v21, .int v22, .int v23, .int v24, .int v25, .ref (am 26), .int v27, .ref (am 28), .ref (am 29), .ref (am 30), .ref (am 31), .long v32, .ref (am 33), .ref (am 34), .ref (am 35), .ref (am 36)]))] ++ wt) sz) (fun r (u : va_W) => match u with | wt1 => tk_ty G Γ wt1 ∧ tk_kp [] wt wt1) (fun (u : va_W) => match u with | wt1 => [((am 20), .inl (G.2.2 0, 110, .inl sd)), (m0, .inr (12, [.ref (am 0), .int v1, .int v2, .ref (am 3), .ref (am 4), .ref (am 5), .ref (am 6), .ref (am 7), .int v8, .int v9, .int v10, .int v11, .int v12, .int v13, .int v14, .ref (am 15), .int v16, .ref (am 17), .int v18, .ref (am 19), .ref (am 20), .int v21, .int v22, .int v23, .int v24, .int v25, .ref (am 26), .int v27, .ref (am 28), .ref (am 29), .ref (am 30), .ref (am 31), .long v32, .ref (am 33), .ref (am 34), .ref (am 35), .ref (am 36)]))] ++ wt1)) 0 0 (va_A ([((am 20), .inl (G.2.2 0, 110, .inl sd)), (m0, .inr (12, [.ref (am 0), .int v1, .int v2, .ref (am 3), .ref (am 4), .ref (am 5), .ref (am 6), .ref (am 7), .int v8, .int v9, .int v10, .int v11, .int v12, .int v13, .int v14, .ref (am 15), .int v16, .ref (am 17), .int v18, .ref (am 19), .ref (am 20), .int v21, .int v22, .int v23, .int v24, .int v25, .ref (am 26), .int v27, .ref (am 28), .ref (am 29), .ref (am 30), .ref (am 31), .long v32, .ref (am 33), .ref (am 34), .ref (am 35), .ref (am 36)]))] ++ wt) sz) := by
  refine Met.ofW (cc := cX12_effectOf) (maxL := 2) (ret := (some .int)) (by decide) rfl ?_
  intro p e s m args below meth c s₁ B hml hv
  obtain ⟨rfl, hsz, hP, hK, hD0⟩ := hv
  have hx := B.exec
  have hb := B.bytes
  have hr := B.returns
  have ht := ts_ht (atoms_spec (ws := ts_L yX12_effectOf cX12_effectOf 2 (some .int)) B.pre)
  have hown : s.vm.findClass RX12 = some m.cls := findClass_of_methodNamed B.named
  have hlocks := B.notSynchronized
  subst hsz
  have hD := hD0.self (sz := s.heap.size)
  generalize hAe : va_A ([((am 20), .inl (G.2.2 0, 110, .inl sd)), (m0, .inr (12, [.ref (am 0), .int v1, .int v2, .ref (am 3), .ref (am 4), .ref (am 5), .ref (am 6), .ref (am 7), .int v8, .int v9, .int v10, .int v11, .int v12, .int v13, .int v14, .ref (am 15), .int v16, .ref (am 17), .int v18, .ref (am 19), .ref (am 20), .int v21, .int v22, .int v23, .int v24, .int v25, .ref (am 26), .int v27, .ref (am 28), .ref (am 29), .ref (am 30), .ref (am 31), .long v32, .ref (am 33), .ref (am 34), .ref (am 35), .ref (am 36)]))] ++ wt) s.heap.size = A at hD ⊢
  have hA : ∀ q : Nat, s.heap.size ≤ q → A q := fun q h => by rw [← hAe]; exact Or.inr h
  clear hAe hD0
  have hS : va_S A s.heap s.heap [] := va_S.rf
  obtain ⟨w0, hw0⟩ : ∃ z, z = wt := ⟨_, rfl⟩
  have hW : tk_kp [] w0 wt := by rw [hw0]; exact tk_kp.rf
  rw [← hw0]
  clear hw0
  have hP : va_P (gg_D G) classes ([((am 20), .inl (G.2.2 0, 110, .inl sd)), (m0, .inr (12, [.ref (am 0), .int v1, .int v2, .ref (am 3), .ref (am 4), .ref (am 5), .ref (am 6), .ref (am 7), .int v8, .int v9, .int v10, .int v11, .int v12, .int v13, .int v14, .ref (am 15), .int v16, .ref (am 17), .int v18, .ref (am 19), .ref (am 20), .int v21, .int v22, .int v23, .int v24, .int v25, .ref (am 26), .int v27, .ref (am 28), .ref (am 29), .ref (am 30), .ref (am 31), .long v32, .ref (am 33), .ref (am 34), .ref (am 35), .ref (am 36)]))] ++ wt) s.heap := hP
  have hD : va_D A ([((am 20), .inl (G.2.2 0, 110, .inl sd)), (m0, .inr (12, [.ref (am 0), .int v1, .int v2, .ref (am 3), .ref (am 4), .ref (am 5), .ref (am 6), .ref (am 7), .int v8, .int v9, .int v10, .int v11, .int v12, .int v13, .int v14, .ref (am 15), .int v16, .ref (am 17), .int v18, .ref (am 19), .ref (am 20), .int v21, .int v22, .int v23, .int v24, .int v25, .ref (am 26), .int v27, .ref (am 28), .ref (am 29), .ref (am 30), .ref (am 31), .long v32, .ref (am 33), .ref (am 34), .ref (am 35), .ref (am 36)]))] ++ wt) := hD
  have hl := lv_entry ([.ref m0, .int b]) (n := 2) (Nat.le_of_ble_eq_true rfl)
  rw [lg_entry_eq]
  generalize (lg_sl ([.ref m0, .int b]) ++ List.replicate (2 - (lg_sl ([.ref m0, .int b])).length) Slot.unset).toArray = ls at hl ⊢
  have hl : lv_has ls 2 [(0, .ref m0), (1, .int b)] := hl
  have hKH : KH sd sd := KH.rf
  have l1 : (1 : Int32).toInt = 1 := by decide +kernel
  have l2 : (2 : Int32).toInt = 2 := by decide +kernel
  have l63 : (63 : Int32).toInt = 63 := by decide +kernel
  refine lv_aload_n hx hb dX12_effectOf_0 rfl (lv_at hl 0 rfl) ?_
  refine gq_get hx hb ht hown hK hP i_X12 1 rfl rfl 20 (by decide) wd_1272 rfl rfl dX12_effectOf_1 ?_
  refine lv_bipush (v := 63) hx hb dX12_effectOf_4 (by decide +kernel) ?_
  refine lv_iconst (v := 2) hx hb dX12_effectOf_6 (by decide +kernel) ?_
  refine lv_iload_n hx hb dX12_effectOf_7 rfl (lv_at hl 1 rfl) ?_
  obtain ⟨t_1, et_1⟩ : ∃ zz_ : Int32, 2 * b = zz_ := ⟨_, rfl⟩
  refine gq_imul hx hb t_1 et_1 dX12_effectOf_8 ?_
  have ft_1 := ia_mul et_1 (by rw [l2]; omega) (by rw [l2]; omega)
  rw [l2] at ft_1
  obtain ⟨t_2, et_2⟩ : ∃ zz_ : Int32, 63 + t_1 = zz_ := ⟨_, rfl⟩
  refine gq_iadd hx hb t_2 et_2 dX12_effectOf_9 ?_
  have ft_2 := ia_add et_2 (by omega) (by omega)
  refine lv_iconst (v := 1) hx hb dX12_effectOf_10 (by decide +kernel) ?_
  obtain ⟨t_3, et_3⟩ : ∃ zz_ : Int32, t_2 + 1 = zz_ := ⟨_, rfl⟩
  refine gq_iadd hx hb t_3 et_3 dX12_effectOf_11 ?_
  have ft_3 := ia_add et_3 (by omega) (by omega)
  obtain ⟨n_4, en_4⟩ : ∃ zz_ : Int32, sd (Int32.toNatClampNeg t_3) = zz_ := ⟨_, rfl⟩
  refine gq_iald hx hb hK hP 0 rfl n_4 (ia_in (n := 110) (by omega) (by omega)) en_4 dX12_effectOf_12 ?_
  have hP9 : va_P (gg_D G) classes ([((am 20), .inl (G.2.2 0, 110, .inl sd)), (m0, .inr (12, [.ref (am 0), .int v1, .int v2, .ref (am 3), .ref (am 4), .ref (am 5), .ref (am 6), .ref (am 7), .int v8, .int v9, .int v10, .int v11, .int v12, .int v13, .int v14, .ref (am 15), .int v16, .ref (am 17), .int v18, .ref (am 19), .ref (am 20), .int v21, .int v22, .int v23, .int v24, .int v25, .ref (am 26), .int v27, .ref (am 28), .ref (am 29), .ref (am 30), .ref (am 31), .long v32, .ref (am 33), .ref (am 34), .ref (am 35), .ref (am 36)]))] ++ wt) _ := hP
  have hD9 : va_D A ([((am 20), .inl (G.2.2 0, 110, .inl sd)), (m0, .inr (12, [.ref (am 0), .int v1, .int v2, .ref (am 3), .ref (am 4), .ref (am 5), .ref (am 6), .ref (am 7), .int v8, .int v9, .int v10, .int v11, .int v12, .int v13, .int v14, .ref (am 15), .int v16, .ref (am 17), .int v18, .ref (am 19), .ref (am 20), .int v21, .int v22, .int v23, .int v24, .int v25, .ref (am 26), .int v27, .ref (am 28), .ref (am 29), .ref (am 30), .ref (am 31), .long v32, .ref (am 33), .ref (am 34), .ref (am 35), .ref (am 36)]))] ++ wt) := hD
  exact W.iret (v := n_4) hx hb hr (gq_endI wt ⟨hT, hW⟩ hP9 hD9 hS) hS.2.2 dX12_effectOf_13
set_option maxHeartbeats 4000000 in
set_option maxRecDepth 100000 in
theorem d_m_canPlay (l : Launch) (G : gg_T) (Γ : Nat → Nat) (sz : Nat) (wt : va_W) (hT : tk_ty G Γ wt) (b : Int32) (w : Int32) (z : Int32) (m0 : Nat) (am : Nat → Nat) (v1 : Int32) (v2 : Int32) (v8 : Int32) (v9 : Int32) (v10 : Int32) (v11 : Int32) (v12 : Int32) (v13 : Int32) (v14 : Int32) (v16 : Int32) (v18 : Int32) (v21 : Int32) (v22 : Int32) (v23 : Int32) (v24 : Int32) (v25 : Int32) (v27 : Int32) (v32 : Int64) (sd : Nat → Int32) (lo_b : 0 ≤ b.toInt) (hi_b : b.toInt ≤ 4) (lo_w : 0 ≤ w.toInt) (hi_w : w.toInt ≤ 4) (lo_z : 0 ≤ z.toInt) (hi_z : z.toInt ≤ 2) (k17 : Γ (am 17) = 32) (k19 : Γ (am 19) = 30) (k30 : Γ (am 30) = 28) (k31 : Γ (am 31) = 28) (lo_v1 : 0 ≤ v1.toInt) (hi_v1 : v1.toInt ≤ 400) (lo_v2 : 0 ≤ v2.toInt) (hi_v2 : v2.toInt ≤ 6) (lo_v8 : 0 ≤ v8.toInt) (hi_v8 : v8.toInt ≤ 400) (lo_v11 : 0 ≤ v11.toInt) (hi_v11 : v11.toInt ≤ 6) (lo_v12 : 0 ≤ v12.toInt) (hi_v12 : v12.toInt ≤ 60) (lo_v16 : 0 ≤ v16.toInt) (hi_v16 : v16.toInt ≤ 400) (lo_v21 : -1 ≤ v21.toInt) (hi_v21 : v21.toInt ≤ 5) (lo_v23 : 0 ≤ v23.toInt) (hi_v23 : v23.toInt ≤ 31) (lo_v27 : 0 ≤ v27.toInt) (hi_v27 : v27.toInt ≤ 20) (xfr : v21.toInt < v2.toInt) (hSD : SD sd) : Met l yX12_canPlay (ts_L yX12_canPlay cX12_canPlay 4 (some .boolean)) ({ frames := 2, cells := 0, slots := 0, locals := 43 }) (gc_P G ([((am 20), .inl (G.2.2 0, 110, .inl sd)), (m0, .inr (12, [.ref (am 0), .int v1, .int v2, .ref (am 3), .ref (am 4), .ref (am 5), .ref (am 6), .ref (am 7), .int v8, .int v9, .int v10, .int v11, .int v12, .int v13, .int v14, .ref (am 15), .int v16, .ref (am 17), .int v18, .ref (am 19), .ref (am 20), .int v21, .int v22, .int v23, .int v24, .int v25, .ref (am 26), .int v27, .ref (am 28), .ref (am 29), .ref (am 30), .ref (am 31), .long v32, .ref (am 33), .ref (am 34), .ref (am 35), .ref (am 36)]))] ++ wt) sz [.ref m0, .int b, .int w, .int z]) (gc_I G (va_A ([((am 20), .inl (G.2.2 0, 110, .inl sd)), (m0, .inr (12, [.ref (am 0), .int v1, .int v2, .ref (am 3), .ref (am 4), .ref (am 5), .ref (am 6), .ref (am 7), .int v8, .int v9, .int v10, .int v11, .int v12, .int v13, .int v14, .ref (am 15), .int v16, .ref (am 17), .int v18, .ref (am 19), .ref (am 20), .int v21, .int v22, .int v23, .int v24, .int v25, .ref (am 26), .int v27, .ref (am 28), .ref (am 29), .ref (am 30), .ref (am 31), .long v32, .ref (am 33), .ref (am 34), .ref (am 35), .ref (am 36)]))] ++ wt) sz) (fun r (u : va_W) => match u with | wt1 => tk_ty G Γ wt1 ∧ tk_kp [] wt wt1 ∧ 0 ≤ r.toInt ∧ r.toInt ≤ 1) (fun (u : va_W) => match u with | wt1 => [((am 20), .inl (G.2.2 0, 110, .inl sd)), (m0, .inr (12, [.ref (am 0), .int v1, .int v2, .ref (am 3), .ref (am 4), .ref (am 5), .ref (am 6), .ref (am 7), .int v8, .int v9, .int v10, .int v11, .int v12, .int v13, .int v14, .ref (am 15), .int v16, .ref (am 17), .int v18, .ref (am 19), .ref (am 20), .int v21, .int v22, .int v23, .int v24, .int v25, .ref (am 26), .int v27, .ref (am 28), .ref (am 29), .ref (am 30), .ref (am 31), .long v32, .ref (am 33), .ref (am 34), .ref (am 35), .ref (am 36)]))] ++ wt1)) 0 0 (va_A ([((am 20), .inl (G.2.2 0, 110, .inl sd)), (m0, .inr (12, [.ref (am 0), .int v1, .int v2, .ref (am 3), .ref (am 4), .ref (am 5), .ref (am 6), .ref (am 7), .int v8, .int v9, .int v10, .int v11, .int v12, .int v13, .int v14, .ref (am 15), .int v16, .ref (am 17), .int v18, .ref (am 19), .ref (am 20), .int v21, .int v22, .int v23, .int v24, .int v25, .ref (am 26), .int v27, .ref (am 28), .ref (am 29), .ref (am 30), .ref (am 31), .long v32, .ref (am 33), .ref (am 34), .ref (am 35), .ref (am 36)]))] ++ wt) sz) := by
  refine Met.ofW (cc := cX12_canPlay) (maxL := 4) (ret := (some .boolean)) (by decide) rfl ?_
  intro p e s m args below meth c s₁ B hml hv
  obtain ⟨rfl, hsz, hP, hK, hD0⟩ := hv
  have hx := B.exec
  have hb := B.bytes
  have hr := B.returns
  have ht := ts_ht (atoms_spec (ws := ts_L yX12_canPlay cX12_canPlay 4 (some .boolean)) B.pre)
  have hown : s.vm.findClass RX12 = some m.cls := findClass_of_methodNamed B.named
  have hlocks := B.notSynchronized
  subst hsz
  have hD := hD0.self (sz := s.heap.size)
  generalize hAe : va_A ([((am 20), .inl (G.2.2 0, 110, .inl sd)), (m0, .inr (12, [.ref (am 0), .int v1, .int v2, .ref (am 3), .ref (am 4), .ref (am 5), .ref (am 6), .ref (am 7), .int v8, .int v9, .int v10, .int v11, .int v12, .int v13, .int v14, .ref (am 15), .int v16, .ref (am 17), .int v18, .ref (am 19), .ref (am 20), .int v21, .int v22, .int v23, .int v24, .int v25, .ref (am 26), .int v27, .ref (am 28), .ref (am 29), .ref (am 30), .ref (am 31), .long v32, .ref (am 33), .ref (am 34), .ref (am 35), .ref (am 36)]))] ++ wt) s.heap.size = A at hD ⊢
  have hA : ∀ q : Nat, s.heap.size ≤ q → A q := fun q h => by rw [← hAe]; exact Or.inr h
  clear hAe hD0
  have hS : va_S A s.heap s.heap [] := va_S.rf
  obtain ⟨w0, hw0⟩ : ∃ z, z = wt := ⟨_, rfl⟩
  have hW : tk_kp [] w0 wt := by rw [hw0]; exact tk_kp.rf
  rw [← hw0]
  clear hw0
  have hP : va_P (gg_D G) classes ([((am 20), .inl (G.2.2 0, 110, .inl sd)), (m0, .inr (12, [.ref (am 0), .int v1, .int v2, .ref (am 3), .ref (am 4), .ref (am 5), .ref (am 6), .ref (am 7), .int v8, .int v9, .int v10, .int v11, .int v12, .int v13, .int v14, .ref (am 15), .int v16, .ref (am 17), .int v18, .ref (am 19), .ref (am 20), .int v21, .int v22, .int v23, .int v24, .int v25, .ref (am 26), .int v27, .ref (am 28), .ref (am 29), .ref (am 30), .ref (am 31), .long v32, .ref (am 33), .ref (am 34), .ref (am 35), .ref (am 36)]))] ++ wt) s.heap := hP
  have hD : va_D A ([((am 20), .inl (G.2.2 0, 110, .inl sd)), (m0, .inr (12, [.ref (am 0), .int v1, .int v2, .ref (am 3), .ref (am 4), .ref (am 5), .ref (am 6), .ref (am 7), .int v8, .int v9, .int v10, .int v11, .int v12, .int v13, .int v14, .ref (am 15), .int v16, .ref (am 17), .int v18, .ref (am 19), .ref (am 20), .int v21, .int v22, .int v23, .int v24, .int v25, .ref (am 26), .int v27, .ref (am 28), .ref (am 29), .ref (am 30), .ref (am 31), .long v32, .ref (am 33), .ref (am 34), .ref (am 35), .ref (am 36)]))] ++ wt) := hD
  have hl := lv_entry ([.ref m0, .int b, .int w, .int z]) (n := 4) (Nat.le_of_ble_eq_true rfl)
  rw [lg_entry_eq]
  generalize (lg_sl ([.ref m0, .int b, .int w, .int z]) ++ List.replicate (4 - (lg_sl ([.ref m0, .int b, .int w, .int z])).length) Slot.unset).toArray = ls at hl ⊢
  have hl : lv_has ls 4 [(0, .ref m0), (1, .int b), (2, .int w), (3, .int z)] := hl
  have hKH : KH sd sd := KH.rf
  have l0 : (0 : Int32).toInt = 0 := by decide +kernel
  have l1 : (1 : Int32).toInt = 1 := by decide +kernel
  refine lv_iload_n hx hb dX12_canPlay_0 rfl (lv_at hl 1 rfl) ?_
  refine lv_iload_n hx hb dX12_canPlay_1 rfl (lv_at hl 2 rfl) ?_
  refine lv_icmp_eq (tgt := 45) hx hb dX12_canPlay_2 (by decide) (fun c_1 => ?_) (fun c_1 => ?_)
  · rw [← Int32.toInt_inj] at c_1
    refine lv_iconst (v := 0) hx hb dX12_canPlay_45 (by decide +kernel) ?_
    have hP9 : va_P (gg_D G) classes ([((am 20), .inl (G.2.2 0, 110, .inl sd)), (m0, .inr (12, [.ref (am 0), .int v1, .int v2, .ref (am 3), .ref (am 4), .ref (am 5), .ref (am 6), .ref (am 7), .int v8, .int v9, .int v10, .int v11, .int v12, .int v13, .int v14, .ref (am 15), .int v16, .ref (am 17), .int v18, .ref (am 19), .ref (am 20), .int v21, .int v22, .int v23, .int v24, .int v25, .ref (am 26), .int v27, .ref (am 28), .ref (am 29), .ref (am 30), .ref (am 31), .long v32, .ref (am 33), .ref (am 34), .ref (am 35), .ref (am 36)]))] ++ wt) _ := hP
    have hD9 : va_D A ([((am 20), .inl (G.2.2 0, 110, .inl sd)), (m0, .inr (12, [.ref (am 0), .int v1, .int v2, .ref (am 3), .ref (am 4), .ref (am 5), .ref (am 6), .ref (am 7), .int v8, .int v9, .int v10, .int v11, .int v12, .int v13, .int v14, .ref (am 15), .int v16, .ref (am 17), .int v18, .ref (am 19), .ref (am 20), .int v21, .int v22, .int v23, .int v24, .int v25, .ref (am 26), .int v27, .ref (am 28), .ref (am 29), .ref (am 30), .ref (am 31), .long v32, .ref (am 33), .ref (am 34), .ref (am 35), .ref (am 36)]))] ++ wt) := hD
    exact W.zret (v := 0) hx hb hr (by decide +kernel) (gq_endI wt ⟨hT, hW, (by omega), (by omega)⟩ hP9 hD9 hS) hS.2.2 dX12_canPlay_46
  · rw [← Int32.toInt_inj] at c_1
    refine lv_aload_n hx hb dX12_canPlay_5 rfl (lv_at hl 0 rfl) ?_
    refine lv_iload_n hx hb dX12_canPlay_6 rfl (lv_at hl 1 rfl) ?_
    refine lv_iconst (v := 0) hx hb dX12_canPlay_7 (by decide +kernel) ?_
    have hP : va_P (gg_D G) classes ([] ++ ([((am 20), .inl (G.2.2 0, 110, .inl sd)), (m0, .inr (12, [.ref (am 0), .int v1, .int v2, .ref (am 3), .ref (am 4), .ref (am 5), .ref (am 6), .ref (am 7), .int v8, .int v9, .int v10, .int v11, .int v12, .int v13, .int v14, .ref (am 15), .int v16, .ref (am 17), .int v18, .ref (am 19), .ref (am 20), .int v21, .int v22, .int v23, .int v24, .int v25, .ref (am 26), .int v27, .ref (am 28), .ref (am 29), .ref (am 30), .ref (am 31), .long v32, .ref (am 33), .ref (am 34), .ref (am 35), .ref (am 36)]))] ++ wt)) s.heap := hP
    have hD : va_D A ([] ++ ([((am 20), .inl (G.2.2 0, 110, .inl sd)), (m0, .inr (12, [.ref (am 0), .int v1, .int v2, .ref (am 3), .ref (am 4), .ref (am 5), .ref (am 6), .ref (am 7), .int v8, .int v9, .int v10, .int v11, .int v12, .int v13, .int v14, .ref (am 15), .int v16, .ref (am 17), .int v18, .ref (am 19), .ref (am 20), .int v21, .int v22, .int v23, .int v24, .int v25, .ref (am 26), .int v27, .ref (am 28), .ref (am 29), .ref (am 30), .ref (am 31), .long v32, .ref (am 33), .ref (am 34), .ref (am 35), .ref (am 36)]))] ++ wt)) := hD
    refine gt_callI (wr := []) (va_runV (As := [.int b, .int 0]) (rest := []) ⟨hx, hb, hml, hown, ht⟩ (d_m_bid0 l G Γ s.heap.size wt hT b m0 am v1 v2 v8 v9 v10 v11 v12 v13 v14 v16 v18 v21 v22 v23 v24 v25 v27 v32 sd (by omega) (by omega) (by first | assumption | exact hSD.1 | exact hSD.w _ | (rw [hKH 2 (by omega)]; exact hKP) | omega) (by first | assumption | exact hSD.1 | exact hSD.w _ | (rw [hKH 2 (by omega)]; exact hKP) | omega) (by first | assumption | exact hSD.1 | exact hSD.w _ | (rw [hKH 2 (by omega)]; exact hKP) | omega) (by first | assumption | exact hSD.1 | exact hSD.w _ | (rw [hKH 2 (by omega)]; exact hKP) | omega) (by first | assumption | exact hSD.1 | exact hSD.w _ | (rw [hKH 2 (by omega)]; exact hKP) | omega) (by first | assumption | exact hSD.1 | exact hSD.w _ | (rw [hKH 2 (by omega)]; exact hKP) | omega) (by first | assumption | exact hSD.1 | exact hSD.w _ | (rw [hKH 2 (by omega)]; exact hKP) | omega) (by first | assumption | exact hSD.1 | exact hSD.w _ | (rw [hKH 2 (by omega)]; exact hKP) | omega) (by first | assumption | exact hSD.1 | exact hSD.w _ | (rw [hKH 2 (by omega)]; exact hKP) | omega) (by first | assumption | exact hSD.1 | exact hSD.w _ | (rw [hKH 2 (by omega)]; exact hKP) | omega) (by first | assumption | exact hSD.1 | exact hSD.w _ | (rw [hKH 2 (by omega)]; exact hKP) | omega) (by first | assumption | exact hSD.1 | exact hSD.w _ | (rw [hKH 2 (by omega)]; exact hKP) | omega) (by first | assumption | exact hSD.1 | exact hSD.w _ | (rw [hKH 2 (by omega)]; exact hKP) | omega) (by first | assumption | exact hSD.1 | exact hSD.w _ | (rw [hKH 2 (by omega)]; exact hKP) | omega) (by first | assumption | exact hSD.1 | exact hSD.w _ | (rw [hKH 2 (by omega)]; exact hKP) | omega) (by first | assumption | exact hSD.1 | exact hSD.w _ | (rw [hKH 2 (by omega)]; exact hKP) | omega) (by first | assumption | exact hSD.1 | exact hSD.w _ | (rw [hKH 2 (by omega)]; exact hKP) | omega) (by first | assumption | exact hSD.1 | exact hSD.w _ | (rw [hKH 2 (by omega)]; exact hKP) | omega) (by first | assumption | exact hSD.1 | exact hSD.w _ | (rw [hKH 2 (by omega)]; exact hKP) | omega) (by first | assumption | exact hSD.1 | exact hSD.w _ | (rw [hKH 2 (by omega)]; exact hKP) | omega) (by first | assumption | exact hSD.1 | exact hSD.w _ | (rw [hKH 2 (by omega)]; exact hKP) | omega) (by first | assumption | exact hSD.1 | exact hSD.w _ | (rw [hKH 2 (by omega)]; exact hKP) | omega) (by first | assumption | exact hSD.1 | exact hSD.w _ | (rw [hKH 2 (by omega)]; exact hKP) | omega)) (cwV 2 ht (ts_gV wd_1558 wd_1560 wd_74 wd_134 wd_1561) rfl rfl rfl (by decide +kernel) ⟨Nat.le_of_ble_eq_true rfl, Nat.le_of_ble_eq_true rfl⟩) (gc_preV (ci := 12) (q0 := 1) hK (tw_right hP) (tw_rightD hD) rfl rfl) rfl rfl hl.1 rfl (lv_room (Nat.le_of_ble_eq_true rfl)) dX12_canPlay_8 ⟨Nat.le_of_ble_eq_true rfl, Nat.le_of_ble_eq_true rfl⟩) hP hD hS hA (fun r_2 wt H locs hw hP hD hS => ?_)
    obtain ⟨hT, hkp, rp_r_2⟩ := hw
    have hW := hW.call (show ∀ x ∈ [], x ∈ [] by decide) hkp
    have hP : va_P (gg_D G) classes ([((am 20), .inl (G.2.2 0, 110, .inl sd)), (m0, .inr (12, [.ref (am 0), .int v1, .int v2, .ref (am 3), .ref (am 4), .ref (am 5), .ref (am 6), .ref (am 7), .int v8, .int v9, .int v10, .int v11, .int v12, .int v13, .int v14, .ref (am 15), .int v16, .ref (am 17), .int v18, .ref (am 19), .ref (am 20), .int v21, .int v22, .int v23, .int v24, .int v25, .ref (am 26), .int v27, .ref (am 28), .ref (am 29), .ref (am 30), .ref (am 31), .long v32, .ref (am 33), .ref (am 34), .ref (am 35), .ref (am 36)]))] ++ wt) H := hP
    have hD : va_D A ([((am 20), .inl (G.2.2 0, 110, .inl sd)), (m0, .inr (12, [.ref (am 0), .int v1, .int v2, .ref (am 3), .ref (am 4), .ref (am 5), .ref (am 6), .ref (am 7), .int v8, .int v9, .int v10, .int v11, .int v12, .int v13, .int v14, .ref (am 15), .int v16, .ref (am 17), .int v18, .ref (am 19), .ref (am 20), .int v21, .int v22, .int v23, .int v24, .int v25, .ref (am 26), .int v27, .ref (am 28), .ref (am 29), .ref (am 30), .ref (am 31), .long v32, .ref (am 33), .ref (am 34), .ref (am 35), .ref (am 36)]))] ++ wt) := hD
    refine lv_aload_n hx hb dX12_canPlay_11 rfl (lv_at hl 0 rfl) ?_
    refine lv_iload_n hx hb dX12_canPlay_12 rfl (lv_at hl 3 rfl) ?_
    have hP : va_P (gg_D G) classes ([] ++ ([((am 20), .inl (G.2.2 0, 110, .inl sd)), (m0, .inr (12, [.ref (am 0), .int v1, .int v2, .ref (am 3), .ref (am 4), .ref (am 5), .ref (am 6), .ref (am 7), .int v8, .int v9, .int v10, .int v11, .int v12, .int v13, .int v14, .ref (am 15), .int v16, .ref (am 17), .int v18, .ref (am 19), .ref (am 20), .int v21, .int v22, .int v23, .int v24, .int v25, .ref (am 26), .int v27, .ref (am 28), .ref (am 29), .ref (am 30), .ref (am 31), .long v32, .ref (am 33), .ref (am 34), .ref (am 35), .ref (am 36)]))] ++ wt)) H := hP
    have hD : va_D A ([] ++ ([((am 20), .inl (G.2.2 0, 110, .inl sd)), (m0, .inr (12, [.ref (am 0), .int v1, .int v2, .ref (am 3), .ref (am 4), .ref (am 5), .ref (am 6), .ref (am 7), .int v8, .int v9, .int v10, .int v11, .int v12, .int v13, .int v14, .ref (am 15), .int v16, .ref (am 17), .int v18, .ref (am 19), .ref (am 20), .int v21, .int v22, .int v23, .int v24, .int v25, .ref (am 26), .int v27, .ref (am 28), .ref (am 29), .ref (am 30), .ref (am 31), .long v32, .ref (am 33), .ref (am 34), .ref (am 35), .ref (am 36)]))] ++ wt)) := hD
    refine gt_callI (wr := []) (va_runV (As := [.int z]) (rest := [.int r_2]) ⟨hx, hb, hml, hown, ht⟩ (d_m_priceOf l G Γ H.size wt hT z m0 am v1 v2 v8 v9 v10 v11 v12 v13 v14 v16 v18 v21 v22 v23 v24 v25 v27 v32 sd (by omega) (by omega) (by first | assumption | exact hSD.1 | exact hSD.w _ | (rw [hKH 2 (by omega)]; exact hKP) | omega) (by first | assumption | exact hSD.1 | exact hSD.w _ | (rw [hKH 2 (by omega)]; exact hKP) | omega) (by first | assumption | exact hSD.1 | exact hSD.w _ | (rw [hKH 2 (by omega)]; exact hKP) | omega) (by first | assumption | exact hSD.1 | exact hSD.w _ | (rw [hKH 2 (by omega)]; exact hKP) | omega) (by first | assumption | exact hSD.1 | exact hSD.w _ | (rw [hKH 2 (by omega)]; exact hKP) | omega) (by first | assumption | exact hSD.1 | exact hSD.w _ | (rw [hKH 2 (by omega)]; exact hKP) | omega) (by first | assumption | exact hSD.1 | exact hSD.w _ | (rw [hKH 2 (by omega)]; exact hKP) | omega) (by first | assumption | exact hSD.1 | exact hSD.w _ | (rw [hKH 2 (by omega)]; exact hKP) | omega) (by first | assumption | exact hSD.1 | exact hSD.w _ | (rw [hKH 2 (by omega)]; exact hKP) | omega) (by first | assumption | exact hSD.1 | exact hSD.w _ | (rw [hKH 2 (by omega)]; exact hKP) | omega) (by first | assumption | exact hSD.1 | exact hSD.w _ | (rw [hKH 2 (by omega)]; exact hKP) | omega) (by first | assumption | exact hSD.1 | exact hSD.w _ | (rw [hKH 2 (by omega)]; exact hKP) | omega) (by first | assumption | exact hSD.1 | exact hSD.w _ | (rw [hKH 2 (by omega)]; exact hKP) | omega) (by first | assumption | exact hSD.1 | exact hSD.w _ | (rw [hKH 2 (by omega)]; exact hKP) | omega) (by first | assumption | exact hSD.1 | exact hSD.w _ | (rw [hKH 2 (by omega)]; exact hKP) | omega) (by first | assumption | exact hSD.1 | exact hSD.w _ | (rw [hKH 2 (by omega)]; exact hKP) | omega) (by first | assumption | exact hSD.1 | exact hSD.w _ | (rw [hKH 2 (by omega)]; exact hKP) | omega) (by first | assumption | exact hSD.1 | exact hSD.w _ | (rw [hKH 2 (by omega)]; exact hKP) | omega) (by first | assumption | exact hSD.1 | exact hSD.w _ | (rw [hKH 2 (by omega)]; exact hKP) | omega) (by first | assumption | exact hSD.1 | exact hSD.w _ | (rw [hKH 2 (by omega)]; exact hKP) | omega) (by first | assumption | exact hSD.1 | exact hSD.w _ | (rw [hKH 2 (by omega)]; exact hKP) | omega) (by first | assumption | exact hSD.1 | exact hSD.w _ | (rw [hKH 2 (by omega)]; exact hKP) | omega) (by first | assumption | exact hSD.1 | exact hSD.w _ | (rw [hKH 2 (by omega)]; exact hKP) | omega) (by first | assumption | exact hSD.1 | exact hSD.w _ | (rw [hKH 2 (by omega)]; exact hKP) | omega)) (cwV 1 ht (ts_gV wd_1700 wd_1702 wd_99 wd_134 wd_1703) rfl rfl rfl (by decide +kernel) ⟨Nat.le_of_ble_eq_true rfl, Nat.le_of_ble_eq_true rfl⟩) (gc_preV (ci := 12) (q0 := 1) hK (tw_right hP) (tw_rightD hD) rfl rfl) rfl rfl hl.1 rfl (lv_room (Nat.le_of_ble_eq_true rfl)) dX12_canPlay_13 ⟨Nat.le_of_ble_eq_true rfl, Nat.le_of_ble_eq_true rfl⟩) hP hD hS hA (fun r_3 wt H locs hw hP hD hS => ?_)
    obtain ⟨hT, hkp⟩ := hw
    have hW := hW.call (show ∀ x ∈ [], x ∈ [] by decide) hkp
    have hP : va_P (gg_D G) classes ([((am 20), .inl (G.2.2 0, 110, .inl sd)), (m0, .inr (12, [.ref (am 0), .int v1, .int v2, .ref (am 3), .ref (am 4), .ref (am 5), .ref (am 6), .ref (am 7), .int v8, .int v9, .int v10, .int v11, .int v12, .int v13, .int v14, .ref (am 15), .int v16, .ref (am 17), .int v18, .ref (am 19), .ref (am 20), .int v21, .int v22, .int v23, .int v24, .int v25, .ref (am 26), .int v27, .ref (am 28), .ref (am 29), .ref (am 30), .ref (am 31), .long v32, .ref (am 33), .ref (am 34), .ref (am 35), .ref (am 36)]))] ++ wt) H := hP
    have hD : va_D A ([((am 20), .inl (G.2.2 0, 110, .inl sd)), (m0, .inr (12, [.ref (am 0), .int v1, .int v2, .ref (am 3), .ref (am 4), .ref (am 5), .ref (am 6), .ref (am 7), .int v8, .int v9, .int v10, .int v11, .int v12, .int v13, .int v14, .ref (am 15), .int v16, .ref (am 17), .int v18, .ref (am 19), .ref (am 20), .int v21, .int v22, .int v23, .int v24, .int v25, .ref (am 26), .int v27, .ref (am 28), .ref (am 29), .ref (am 30), .ref (am 31), .long v32, .ref (am 33), .ref (am 34), .ref (am 35), .ref (am 36)]))] ++ wt) := hD
    refine lv_icmp_lt (tgt := 45) hx hb dX12_canPlay_16 (by decide) (fun c_4 => ?_) (fun c_4 => ?_)
    · rw [Int32.lt_iff_toInt_lt] at c_4
      refine lv_iconst (v := 0) hx hb dX12_canPlay_45 (by decide +kernel) ?_
      have hP9 : va_P (gg_D G) classes ([((am 20), .inl (G.2.2 0, 110, .inl sd)), (m0, .inr (12, [.ref (am 0), .int v1, .int v2, .ref (am 3), .ref (am 4), .ref (am 5), .ref (am 6), .ref (am 7), .int v8, .int v9, .int v10, .int v11, .int v12, .int v13, .int v14, .ref (am 15), .int v16, .ref (am 17), .int v18, .ref (am 19), .ref (am 20), .int v21, .int v22, .int v23, .int v24, .int v25, .ref (am 26), .int v27, .ref (am 28), .ref (am 29), .ref (am 30), .ref (am 31), .long v32, .ref (am 33), .ref (am 34), .ref (am 35), .ref (am 36)]))] ++ wt) _ := hP
      have hD9 : va_D A ([((am 20), .inl (G.2.2 0, 110, .inl sd)), (m0, .inr (12, [.ref (am 0), .int v1, .int v2, .ref (am 3), .ref (am 4), .ref (am 5), .ref (am 6), .ref (am 7), .int v8, .int v9, .int v10, .int v11, .int v12, .int v13, .int v14, .ref (am 15), .int v16, .ref (am 17), .int v18, .ref (am 19), .ref (am 20), .int v21, .int v22, .int v23, .int v24, .int v25, .ref (am 26), .int v27, .ref (am 28), .ref (am 29), .ref (am 30), .ref (am 31), .long v32, .ref (am 33), .ref (am 34), .ref (am 35), .ref (am 36)]))] ++ wt) := hD
      exact W.zret (v := 0) hx hb hr (by decide +kernel) (gq_endI wt ⟨hT, hW, (by omega), (by omega)⟩ hP9 hD9 hS) hS.2.2 dX12_canPlay_46
    · rw [Int32.lt_iff_toInt_lt] at c_4
      refine lv_aload_n hx hb dX12_canPlay_19 rfl (lv_at hl 0 rfl) ?_
      refine lv_iload_n hx hb dX12_canPlay_20 rfl (lv_at hl 2 rfl) ?_
      have hP : va_P (gg_D G) classes ([] ++ ([((am 20), .inl (G.2.2 0, 110, .inl sd)), (m0, .inr (12, [.ref (am 0), .int v1, .int v2, .ref (am 3), .ref (am 4), .ref (am 5), .ref (am 6), .ref (am 7), .int v8, .int v9, .int v10, .int v11, .int v12, .int v13, .int v14, .ref (am 15), .int v16, .ref (am 17), .int v18, .ref (am 19), .ref (am 20), .int v21, .int v22, .int v23, .int v24, .int v25, .ref (am 26), .int v27, .ref (am 28), .ref (am 29), .ref (am 30), .ref (am 31), .long v32, .ref (am 33), .ref (am 34), .ref (am 35), .ref (am 36)]))] ++ wt)) H := hP
      have hD : va_D A ([] ++ ([((am 20), .inl (G.2.2 0, 110, .inl sd)), (m0, .inr (12, [.ref (am 0), .int v1, .int v2, .ref (am 3), .ref (am 4), .ref (am 5), .ref (am 6), .ref (am 7), .int v8, .int v9, .int v10, .int v11, .int v12, .int v13, .int v14, .ref (am 15), .int v16, .ref (am 17), .int v18, .ref (am 19), .ref (am 20), .int v21, .int v22, .int v23, .int v24, .int v25, .ref (am 26), .int v27, .ref (am 28), .ref (am 29), .ref (am 30), .ref (am 31), .long v32, .ref (am 33), .ref (am 34), .ref (am 35), .ref (am 36)]))] ++ wt)) := hD
      refine gt_callI (wr := []) (va_runV (As := [.int w]) (rest := []) ⟨hx, hb, hml, hown, ht⟩ (d_m_isSilent l G Γ H.size wt hT w m0 am v1 v2 v8 v9 v10 v11 v12 v13 v14 v16 v18 v21 v22 v23 v24 v25 v27 v32 sd (by omega) (by omega) (by first | assumption | exact hSD.1 | exact hSD.w _ | (rw [hKH 2 (by omega)]; exact hKP) | omega) (by first | assumption | exact hSD.1 | exact hSD.w _ | (rw [hKH 2 (by omega)]; exact hKP) | omega) (by first | assumption | exact hSD.1 | exact hSD.w _ | (rw [hKH 2 (by omega)]; exact hKP) | omega) (by first | assumption | exact hSD.1 | exact hSD.w _ | (rw [hKH 2 (by omega)]; exact hKP) | omega) (by first | assumption | exact hSD.1 | exact hSD.w _ | (rw [hKH 2 (by omega)]; exact hKP) | omega) (by first | assumption | exact hSD.1 | exact hSD.w _ | (rw [hKH 2 (by omega)]; exact hKP) | omega) (by first | assumption | exact hSD.1 | exact hSD.w _ | (rw [hKH 2 (by omega)]; exact hKP) | omega) (by first | assumption | exact hSD.1 | exact hSD.w _ | (rw [hKH 2 (by omega)]; exact hKP) | omega) (by first | assumption | exact hSD.1 | exact hSD.w _ | (rw [hKH 2 (by omega)]; exact hKP) | omega) (by first | assumption | exact hSD.1 | exact hSD.w _ | (rw [hKH 2 (by omega)]; exact hKP) | omega) (by first | assumption | exact hSD.1 | exact hSD.w _ | (rw [hKH 2 (by omega)]; exact hKP) | omega) (by first | assumption | exact hSD.1 | exact hSD.w _ | (rw [hKH 2 (by omega)]; exact hKP) | omega) (by first | assumption | exact hSD.1 | exact hSD.w _ | (rw [hKH 2 (by omega)]; exact hKP) | omega) (by first | assumption | exact hSD.1 | exact hSD.w _ | (rw [hKH 2 (by omega)]; exact hKP) | omega) (by first | assumption | exact hSD.1 | exact hSD.w _ | (rw [hKH 2 (by omega)]; exact hKP) | omega) (by first | assumption | exact hSD.1 | exact hSD.w _ | (rw [hKH 2 (by omega)]; exact hKP) | omega) (by first | assumption | exact hSD.1 | exact hSD.w _ | (rw [hKH 2 (by omega)]; exact hKP) | omega) (by first | assumption | exact hSD.1 | exact hSD.w _ | (rw [hKH 2 (by omega)]; exact hKP) | omega) (by first | assumption | exact hSD.1 | exact hSD.w _ | (rw [hKH 2 (by omega)]; exact hKP) | omega) (by first | assumption | exact hSD.1 | exact hSD.w _ | (rw [hKH 2 (by omega)]; exact hKP) | omega) (by first | assumption | exact hSD.1 | exact hSD.w _ | (rw [hKH 2 (by omega)]; exact hKP) | omega) (by first | assumption | exact hSD.1 | exact hSD.w _ | (rw [hKH 2 (by omega)]; exact hKP) | omega) (by first | assumption | exact hSD.1 | exact hSD.w _ | (rw [hKH 2 (by omega)]; exact hKP) | omega) (by first | assumption | exact hSD.1 | exact hSD.w _ | (rw [hKH 2 (by omega)]; exact hKP) | omega)) (cwV 1 ht (ts_gV wd_1595 wd_1597 wd_82 wd_134 wd_1598) rfl rfl rfl (by decide +kernel) ⟨Nat.le_of_ble_eq_true rfl, Nat.le_of_ble_eq_true rfl⟩) (gc_preV (ci := 12) (q0 := 1) hK (tw_right hP) (tw_rightD hD) rfl rfl) rfl rfl hl.1 rfl (lv_room (Nat.le_of_ble_eq_true rfl)) dX12_canPlay_21 ⟨Nat.le_of_ble_eq_true rfl, Nat.le_of_ble_eq_true rfl⟩) hP hD hS hA (fun r_5 wt H locs hw hP hD hS => ?_)
      obtain ⟨hT, hkp, lo_r_5, hi_r_5, rp_r_5⟩ := hw
      have hW := hW.call (show ∀ x ∈ [], x ∈ [] by decide) hkp
      have hP : va_P (gg_D G) classes ([((am 20), .inl (G.2.2 0, 110, .inl sd)), (m0, .inr (12, [.ref (am 0), .int v1, .int v2, .ref (am 3), .ref (am 4), .ref (am 5), .ref (am 6), .ref (am 7), .int v8, .int v9, .int v10, .int v11, .int v12, .int v13, .int v14, .ref (am 15), .int v16, .ref (am 17), .int v18, .ref (am 19), .ref (am 20), .int v21, .int v22, .int v23, .int v24, .int v25, .ref (am 26), .int v27, .ref (am 28), .ref (am 29), .ref (am 30), .ref (am 31), .long v32, .ref (am 33), .ref (am 34), .ref (am 35), .ref (am 36)]))] ++ wt) H := hP
      have hD : va_D A ([((am 20), .inl (G.2.2 0, 110, .inl sd)), (m0, .inr (12, [.ref (am 0), .int v1, .int v2, .ref (am 3), .ref (am 4), .ref (am 5), .ref (am 6), .ref (am 7), .int v8, .int v9, .int v10, .int v11, .int v12, .int v13, .int v14, .ref (am 15), .int v16, .ref (am 17), .int v18, .ref (am 19), .ref (am 20), .int v21, .int v22, .int v23, .int v24, .int v25, .ref (am 26), .int v27, .ref (am 28), .ref (am 29), .ref (am 30), .ref (am 31), .long v32, .ref (am 33), .ref (am 34), .ref (am 35), .ref (am 36)]))] ++ wt) := hD
      refine lv_if_eq (tgt := 45) hx hb dX12_canPlay_24 (by decide) (fun c_6 => ?_) (fun c_6 => ?_)
      · rw [← Int32.toInt_inj] at c_6
        refine lv_iconst (v := 0) hx hb dX12_canPlay_45 (by decide +kernel) ?_
        have hP9 : va_P (gg_D G) classes ([((am 20), .inl (G.2.2 0, 110, .inl sd)), (m0, .inr (12, [.ref (am 0), .int v1, .int v2, .ref (am 3), .ref (am 4), .ref (am 5), .ref (am 6), .ref (am 7), .int v8, .int v9, .int v10, .int v11, .int v12, .int v13, .int v14, .ref (am 15), .int v16, .ref (am 17), .int v18, .ref (am 19), .ref (am 20), .int v21, .int v22, .int v23, .int v24, .int v25, .ref (am 26), .int v27, .ref (am 28), .ref (am 29), .ref (am 30), .ref (am 31), .long v32, .ref (am 33), .ref (am 34), .ref (am 35), .ref (am 36)]))] ++ wt) _ := hP
        have hD9 : va_D A ([((am 20), .inl (G.2.2 0, 110, .inl sd)), (m0, .inr (12, [.ref (am 0), .int v1, .int v2, .ref (am 3), .ref (am 4), .ref (am 5), .ref (am 6), .ref (am 7), .int v8, .int v9, .int v10, .int v11, .int v12, .int v13, .int v14, .ref (am 15), .int v16, .ref (am 17), .int v18, .ref (am 19), .ref (am 20), .int v21, .int v22, .int v23, .int v24, .int v25, .ref (am 26), .int v27, .ref (am 28), .ref (am 29), .ref (am 30), .ref (am 31), .long v32, .ref (am 33), .ref (am 34), .ref (am 35), .ref (am 36)]))] ++ wt) := hD
        exact W.zret (v := 0) hx hb hr (by decide +kernel) (gq_endI wt ⟨hT, hW, (by omega), (by omega)⟩ hP9 hD9 hS) hS.2.2 dX12_canPlay_46
      · rw [← Int32.toInt_inj] at c_6
        refine lv_aload_n hx hb dX12_canPlay_27 rfl (lv_at hl 0 rfl) ?_
        refine lv_iload_n hx hb dX12_canPlay_28 rfl (lv_at hl 2 rfl) ?_
        refine lv_iconst (v := 1) hx hb dX12_canPlay_29 (by decide +kernel) ?_
        have hP : va_P (gg_D G) classes ([] ++ ([((am 20), .inl (G.2.2 0, 110, .inl sd)), (m0, .inr (12, [.ref (am 0), .int v1, .int v2, .ref (am 3), .ref (am 4), .ref (am 5), .ref (am 6), .ref (am 7), .int v8, .int v9, .int v10, .int v11, .int v12, .int v13, .int v14, .ref (am 15), .int v16, .ref (am 17), .int v18, .ref (am 19), .ref (am 20), .int v21, .int v22, .int v23, .int v24, .int v25, .ref (am 26), .int v27, .ref (am 28), .ref (am 29), .ref (am 30), .ref (am 31), .long v32, .ref (am 33), .ref (am 34), .ref (am 35), .ref (am 36)]))] ++ wt)) H := hP
        have hD : va_D A ([] ++ ([((am 20), .inl (G.2.2 0, 110, .inl sd)), (m0, .inr (12, [.ref (am 0), .int v1, .int v2, .ref (am 3), .ref (am 4), .ref (am 5), .ref (am 6), .ref (am 7), .int v8, .int v9, .int v10, .int v11, .int v12, .int v13, .int v14, .ref (am 15), .int v16, .ref (am 17), .int v18, .ref (am 19), .ref (am 20), .int v21, .int v22, .int v23, .int v24, .int v25, .ref (am 26), .int v27, .ref (am 28), .ref (am 29), .ref (am 30), .ref (am 31), .long v32, .ref (am 33), .ref (am 34), .ref (am 35), .ref (am 36)]))] ++ wt)) := hD
        refine gt_callI (wr := []) (va_runV (As := [.int w, .int 1]) (rest := []) ⟨hx, hb, hml, hown, ht⟩ (d_m_bid1 l G Γ H.size wt hT w m0 am v1 v2 v8 v9 v10 v11 v12 v13 v14 v16 v18 v21 v22 v23 v24 v25 v27 v32 sd (by omega) (by omega) (by first | assumption | exact hSD.1 | exact hSD.w _ | (rw [hKH 2 (by omega)]; exact hKP) | omega) (by first | assumption | exact hSD.1 | exact hSD.w _ | (rw [hKH 2 (by omega)]; exact hKP) | omega) (by first | assumption | exact hSD.1 | exact hSD.w _ | (rw [hKH 2 (by omega)]; exact hKP) | omega) (by first | assumption | exact hSD.1 | exact hSD.w _ | (rw [hKH 2 (by omega)]; exact hKP) | omega) (by first | assumption | exact hSD.1 | exact hSD.w _ | (rw [hKH 2 (by omega)]; exact hKP) | omega) (by first | assumption | exact hSD.1 | exact hSD.w _ | (rw [hKH 2 (by omega)]; exact hKP) | omega) (by first | assumption | exact hSD.1 | exact hSD.w _ | (rw [hKH 2 (by omega)]; exact hKP) | omega) (by first | assumption | exact hSD.1 | exact hSD.w _ | (rw [hKH 2 (by omega)]; exact hKP) | omega) (by first | assumption | exact hSD.1 | exact hSD.w _ | (rw [hKH 2 (by omega)]; exact hKP) | omega) (by first | assumption | exact hSD.1 | exact hSD.w _ | (rw [hKH 2 (by omega)]; exact hKP) | omega) (by first | assumption | exact hSD.1 | exact hSD.w _ | (rw [hKH 2 (by omega)]; exact hKP) | omega) (by first | assumption | exact hSD.1 | exact hSD.w _ | (rw [hKH 2 (by omega)]; exact hKP) | omega) (by first | assumption | exact hSD.1 | exact hSD.w _ | (rw [hKH 2 (by omega)]; exact hKP) | omega) (by first | assumption | exact hSD.1 | exact hSD.w _ | (rw [hKH 2 (by omega)]; exact hKP) | omega) (by first | assumption | exact hSD.1 | exact hSD.w _ | (rw [hKH 2 (by omega)]; exact hKP) | omega) (by first | assumption | exact hSD.1 | exact hSD.w _ | (rw [hKH 2 (by omega)]; exact hKP) | omega) (by first | assumption | exact hSD.1 | exact hSD.w _ | (rw [hKH 2 (by omega)]; exact hKP) | omega) (by first | assumption | exact hSD.1 | exact hSD.w _ | (rw [hKH 2 (by omega)]; exact hKP) | omega) (by first | assumption | exact hSD.1 | exact hSD.w _ | (rw [hKH 2 (by omega)]; exact hKP) | omega) (by first | assumption | exact hSD.1 | exact hSD.w _ | (rw [hKH 2 (by omega)]; exact hKP) | omega) (by first | assumption | exact hSD.1 | exact hSD.w _ | (rw [hKH 2 (by omega)]; exact hKP) | omega) (by first | assumption | exact hSD.1 | exact hSD.w _ | (rw [hKH 2 (by omega)]; exact hKP) | omega) (by first | assumption | exact hSD.1 | exact hSD.w _ | (rw [hKH 2 (by omega)]; exact hKP) | omega)) (cwV 2 ht (ts_gV wd_1558 wd_1560 wd_74 wd_134 wd_1561) rfl rfl rfl (by decide +kernel) ⟨Nat.le_of_ble_eq_true rfl, Nat.le_of_ble_eq_true rfl⟩) (gc_preV (ci := 12) (q0 := 1) hK (tw_right hP) (tw_rightD hD) rfl rfl) rfl rfl hl.1 rfl (lv_room (Nat.le_of_ble_eq_true rfl)) dX12_canPlay_30 ⟨Nat.le_of_ble_eq_true rfl, Nat.le_of_ble_eq_true rfl⟩) hP hD hS hA (fun r_7 wt H locs hw hP hD hS => ?_)
        obtain ⟨hT, hkp, rp_r_7⟩ := hw
        have hW := hW.call (show ∀ x ∈ [], x ∈ [] by decide) hkp
        have hP : va_P (gg_D G) classes ([((am 20), .inl (G.2.2 0, 110, .inl sd)), (m0, .inr (12, [.ref (am 0), .int v1, .int v2, .ref (am 3), .ref (am 4), .ref (am 5), .ref (am 6), .ref (am 7), .int v8, .int v9, .int v10, .int v11, .int v12, .int v13, .int v14, .ref (am 15), .int v16, .ref (am 17), .int v18, .ref (am 19), .ref (am 20), .int v21, .int v22, .int v23, .int v24, .int v25, .ref (am 26), .int v27, .ref (am 28), .ref (am 29), .ref (am 30), .ref (am 31), .long v32, .ref (am 33), .ref (am 34), .ref (am 35), .ref (am 36)]))] ++ wt) H := hP
        have hD : va_D A ([((am 20), .inl (G.2.2 0, 110, .inl sd)), (m0, .inr (12, [.ref (am 0), .int v1, .int v2, .ref (am 3), .ref (am 4), .ref (am 5), .ref (am 6), .ref (am 7), .int v8, .int v9, .int v10, .int v11, .int v12, .int v13, .int v14, .ref (am 15), .int v16, .ref (am 17), .int v18, .ref (am 19), .ref (am 20), .int v21, .int v22, .int v23, .int v24, .int v25, .ref (am 26), .int v27, .ref (am 28), .ref (am 29), .ref (am 30), .ref (am 31), .long v32, .ref (am 33), .ref (am 34), .ref (am 35), .ref (am 36)]))] ++ wt) := hD
        refine lv_aload_n hx hb dX12_canPlay_33 rfl (lv_at hl 0 rfl) ?_
        refine lv_iload_n hx hb dX12_canPlay_34 rfl (lv_at hl 3 rfl) ?_
        have hP : va_P (gg_D G) classes ([] ++ ([((am 20), .inl (G.2.2 0, 110, .inl sd)), (m0, .inr (12, [.ref (am 0), .int v1, .int v2, .ref (am 3), .ref (am 4), .ref (am 5), .ref (am 6), .ref (am 7), .int v8, .int v9, .int v10, .int v11, .int v12, .int v13, .int v14, .ref (am 15), .int v16, .ref (am 17), .int v18, .ref (am 19), .ref (am 20), .int v21, .int v22, .int v23, .int v24, .int v25, .ref (am 26), .int v27, .ref (am 28), .ref (am 29), .ref (am 30), .ref (am 31), .long v32, .ref (am 33), .ref (am 34), .ref (am 35), .ref (am 36)]))] ++ wt)) H := hP
        have hD : va_D A ([] ++ ([((am 20), .inl (G.2.2 0, 110, .inl sd)), (m0, .inr (12, [.ref (am 0), .int v1, .int v2, .ref (am 3), .ref (am 4), .ref (am 5), .ref (am 6), .ref (am 7), .int v8, .int v9, .int v10, .int v11, .int v12, .int v13, .int v14, .ref (am 15), .int v16, .ref (am 17), .int v18, .ref (am 19), .ref (am 20), .int v21, .int v22, .int v23, .int v24, .int v25, .ref (am 26), .int v27, .ref (am 28), .ref (am 29), .ref (am 30), .ref (am 31), .long v32, .ref (am 33), .ref (am 34), .ref (am 35), .ref (am 36)]))] ++ wt)) := hD
        refine gt_callI (wr := []) (va_runV (As := [.int z]) (rest := [.int r_7]) ⟨hx, hb, hml, hown, ht⟩ (d_m_effectOf l G Γ H.size wt hT z m0 am v1 v2 v8 v9 v10 v11 v12 v13 v14 v16 v18 v21 v22 v23 v24 v25 v27 v32 sd (by omega) (by omega) (by first | assumption | exact hSD.1 | exact hSD.w _ | (rw [hKH 2 (by omega)]; exact hKP) | omega) (by first | assumption | exact hSD.1 | exact hSD.w _ | (rw [hKH 2 (by omega)]; exact hKP) | omega) (by first | assumption | exact hSD.1 | exact hSD.w _ | (rw [hKH 2 (by omega)]; exact hKP) | omega) (by first | assumption | exact hSD.1 | exact hSD.w _ | (rw [hKH 2 (by omega)]; exact hKP) | omega) (by first | assumption | exact hSD.1 | exact hSD.w _ | (rw [hKH 2 (by omega)]; exact hKP) | omega) (by first | assumption | exact hSD.1 | exact hSD.w _ | (rw [hKH 2 (by omega)]; exact hKP) | omega) (by first | assumption | exact hSD.1 | exact hSD.w _ | (rw [hKH 2 (by omega)]; exact hKP) | omega) (by first | assumption | exact hSD.1 | exact hSD.w _ | (rw [hKH 2 (by omega)]; exact hKP) | omega) (by first | assumption | exact hSD.1 | exact hSD.w _ | (rw [hKH 2 (by omega)]; exact hKP) | omega) (by first | assumption | exact hSD.1 | exact hSD.w _ | (rw [hKH 2 (by omega)]; exact hKP) | omega) (by first | assumption | exact hSD.1 | exact hSD.w _ | (rw [hKH 2 (by omega)]; exact hKP) | omega) (by first | assumption | exact hSD.1 | exact hSD.w _ | (rw [hKH 2 (by omega)]; exact hKP) | omega) (by first | assumption | exact hSD.1 | exact hSD.w _ | (rw [hKH 2 (by omega)]; exact hKP) | omega) (by first | assumption | exact hSD.1 | exact hSD.w _ | (rw [hKH 2 (by omega)]; exact hKP) | omega) (by first | assumption | exact hSD.1 | exact hSD.w _ | (rw [hKH 2 (by omega)]; exact hKP) | omega) (by first | assumption | exact hSD.1 | exact hSD.w _ | (rw [hKH 2 (by omega)]; exact hKP) | omega) (by first | assumption | exact hSD.1 | exact hSD.w _ | (rw [hKH 2 (by omega)]; exact hKP) | omega) (by first | assumption | exact hSD.1 | exact hSD.w _ | (rw [hKH 2 (by omega)]; exact hKP) | omega) (by first | assumption | exact hSD.1 | exact hSD.w _ | (rw [hKH 2 (by omega)]; exact hKP) | omega) (by first | assumption | exact hSD.1 | exact hSD.w _ | (rw [hKH 2 (by omega)]; exact hKP) | omega) (by first | assumption | exact hSD.1 | exact hSD.w _ | (rw [hKH 2 (by omega)]; exact hKP) | omega) (by first | assumption | exact hSD.1 | exact hSD.w _ | (rw [hKH 2 (by omega)]; exact hKP) | omega) (by first | assumption | exact hSD.1 | exact hSD.w _ | (rw [hKH 2 (by omega)]; exact hKP) | omega) (by first | assumption | exact hSD.1 | exact hSD.w _ | (rw [hKH 2 (by omega)]; exact hKP) | omega)) (cwV 1 ht (ts_gV wd_1704 wd_1706 wd_100 wd_134 wd_1707) rfl rfl rfl (by decide +kernel) ⟨Nat.le_of_ble_eq_true rfl, Nat.le_of_ble_eq_true rfl⟩) (gc_preV (ci := 12) (q0 := 1) hK (tw_right hP) (tw_rightD hD) rfl rfl) rfl rfl hl.1 rfl (lv_room (Nat.le_of_ble_eq_true rfl)) dX12_canPlay_35 ⟨Nat.le_of_ble_eq_true rfl, Nat.le_of_ble_eq_true rfl⟩) hP hD hS hA (fun r_8 wt H locs hw hP hD hS => ?_)
        obtain ⟨hT, hkp⟩ := hw
        have hW := hW.call (show ∀ x ∈ [], x ∈ [] by decide) hkp
        have hP : va_P (gg_D G) classes ([((am 20), .inl (G.2.2 0, 110, .inl sd)), (m0, .inr (12, [.ref (am 0), .int v1, .int v2, .ref (am 3), .ref (am 4), .ref (am 5), .ref (am 6), .ref (am 7), .int v8, .int v9, .int v10, .int v11, .int v12, .int v13, .int v14, .ref (am 15), .int v16, .ref (am 17), .int v18, .ref (am 19), .ref (am 20), .int v21, .int v22, .int v23, .int v24, .int v25, .ref (am 26), .int v27, .ref (am 28), .ref (am 29), .ref (am 30), .ref (am 31), .long v32, .ref (am 33), .ref (am 34), .ref (am 35), .ref (am 36)]))] ++ wt) H := hP
        have hD : va_D A ([((am 20), .inl (G.2.2 0, 110, .inl sd)), (m0, .inr (12, [.ref (am 0), .int v1, .int v2, .ref (am 3), .ref (am 4), .ref (am 5), .ref (am 6), .ref (am 7), .int v8, .int v9, .int v10, .int v11, .int v12, .int v13, .int v14, .ref (am 15), .int v16, .ref (am 17), .int v18, .ref (am 19), .ref (am 20), .int v21, .int v22, .int v23, .int v24, .int v25, .ref (am 26), .int v27, .ref (am 28), .ref (am 29), .ref (am 30), .ref (am 31), .long v32, .ref (am 33), .ref (am 34), .ref (am 35), .ref (am 36)]))] ++ wt) := hD
        refine lv_icmp_le (tgt := 45) hx hb dX12_canPlay_38 (by decide) (fun c_9 => ?_) (fun c_9 => ?_)
        · rw [Int32.le_iff_toInt_le] at c_9
          refine lv_iconst (v := 0) hx hb dX12_canPlay_45 (by decide +kernel) ?_
          have hP9 : va_P (gg_D G) classes ([((am 20), .inl (G.2.2 0, 110, .inl sd)), (m0, .inr (12, [.ref (am 0), .int v1, .int v2, .ref (am 3), .ref (am 4), .ref (am 5), .ref (am 6), .ref (am 7), .int v8, .int v9, .int v10, .int v11, .int v12, .int v13, .int v14, .ref (am 15), .int v16, .ref (am 17), .int v18, .ref (am 19), .ref (am 20), .int v21, .int v22, .int v23, .int v24, .int v25, .ref (am 26), .int v27, .ref (am 28), .ref (am 29), .ref (am 30), .ref (am 31), .long v32, .ref (am 33), .ref (am 34), .ref (am 35), .ref (am 36)]))] ++ wt) _ := hP
          have hD9 : va_D A ([((am 20), .inl (G.2.2 0, 110, .inl sd)), (m0, .inr (12, [.ref (am 0), .int v1, .int v2, .ref (am 3), .ref (am 4), .ref (am 5), .ref (am 6), .ref (am 7), .int v8, .int v9, .int v10, .int v11, .int v12, .int v13, .int v14, .ref (am 15), .int v16, .ref (am 17), .int v18, .ref (am 19), .ref (am 20), .int v21, .int v22, .int v23, .int v24, .int v25, .ref (am 26), .int v27, .ref (am 28), .ref (am 29), .ref (am 30), .ref (am 31), .long v32, .ref (am 33), .ref (am 34), .ref (am 35), .ref (am 36)]))] ++ wt) := hD
          exact W.zret (v := 0) hx hb hr (by decide +kernel) (gq_endI wt ⟨hT, hW, (by omega), (by omega)⟩ hP9 hD9 hS) hS.2.2 dX12_canPlay_46
        · rw [Int32.le_iff_toInt_le] at c_9
          refine lv_iconst (v := 1) hx hb dX12_canPlay_41 (by decide +kernel) ?_
          refine lv_goto (tgt := 46) hx hb dX12_canPlay_42 (by decide) ?_
          have hP9 : va_P (gg_D G) classes ([((am 20), .inl (G.2.2 0, 110, .inl sd)), (m0, .inr (12, [.ref (am 0), .int v1, .int v2, .ref (am 3), .ref (am 4), .ref (am 5), .ref (am 6), .ref (am 7), .int v8, .int v9, .int v10, .int v11, .int v12, .int v13, .int v14, .ref (am 15), .int v16, .ref (am 17), .int v18, .ref (am 19), .ref (am 20), .int v21, .int v22, .int v23, .int v24, .int v25, .ref (am 26), .int v27, .ref (am 28), .ref (am 29), .ref (am 30), .ref (am 31), .long v32, .ref (am 33), .ref (am 34), .ref (am 35), .ref (am 36)]))] ++ wt) _ := hP
          have hD9 : va_D A ([((am 20), .inl (G.2.2 0, 110, .inl sd)), (m0, .inr (12, [.ref (am 0), .int v1, .int v2, .ref (am 3), .ref (am 4), .ref (am 5), .ref (am 6), .ref (am 7), .int v8, .int v9, .int v10, .int v11, .int v12, .int v13, .int v14, .ref (am 15), .int v16, .ref (am 17), .int v18, .ref (am 19), .ref (am 20), .int v21, .int v22, .int v23, .int v24, .int v25, .ref (am 26), .int v27, .ref (am 28), .ref (am 29), .ref (am 30), .ref (am 31), .long v32, .ref (am 33), .ref (am 34), .ref (am 35), .ref (am 36)]))] ++ wt) := hD
          exact W.zret (v := 1) hx hb hr (by decide +kernel) (gq_endI wt ⟨hT, hW, (by omega), (by omega)⟩ hP9 hD9 hS) hS.2.2 dX12_canPlay_46
set_option maxHeartbeats 4000000 in
set_option maxRecDepth 100000 in
theorem d_m_plays (l : Launch) (G : gg_T) (Γ : Nat → Nat) (sz : Nat) (wt : va_W) (hT : tk_ty G Γ wt) (b : Int32) (w : Int32) (z : Int32) (m0 : Nat) (am : Nat → Nat) (v1 : Int32) (v2 : Int32) (v8 : Int32) (v9 : Int32) (v10 : Int32) (v11 : Int32) (v12 : Int32) (v13 : Int32) (v14 : Int32) (v16 : Int32) (v18 : Int32) (v21 : Int32) (v22 : Int32) (v23 : Int32) (v24 : Int32) (v25 : Int32) (v27 : Int32) (v32 : Int64) (sd : Nat → Int32) (lo_b : 0 ≤ b.toInt) (hi_b : b.toInt ≤ 4) (lo_w : 0 ≤ w.toInt) (hi_w : w.toInt ≤ 4) (lo_z : 0 ≤ z.toInt) (hi_z : z.toInt ≤ 2) (k17 : Γ (am 17) = 32) (k19 : Γ (am 19) = 30) (k30 : Γ (am 30) = 28) (k31 : Γ (am 31) = 28) (lo_v1 : 0 ≤ v1.toInt) (hi_v1 : v1.toInt ≤ 400) (lo_v2 : 0 ≤ v2.toInt) (hi_v2 : v2.toInt ≤ 6) (lo_v8 : 0 ≤ v8.toInt) (hi_v8 : v8.toInt ≤ 400) (lo_v11 : 0 ≤ v11.toInt) (hi_v11 : v11.toInt ≤ 6) (lo_v12 : 0 ≤ v12.toInt) (hi_v12 : v12.toInt ≤ 60) (lo_v16 : 0 ≤ v16.toInt) (hi_v16 : v16.toInt ≤ 400) (lo_v21 : -1 ≤ v21.toInt) (hi_v21 : v21.toInt ≤ 5) (lo_v23 : 0 ≤ v23.toInt) (hi_v23 : v23.toInt ≤ 31) (lo_v27 : 0 ≤ v27.toInt) (hi_v27 : v27.toInt ≤ 20) (xfr : v21.toInt < v2.toInt) (hSD : SD sd) : Met l yX12_plays (ts_L yX12_plays cX12_plays 4 none) ({ frames := 1, cells := 0, slots := 0, locals := 21 }) (gc_P G ([((am 20), .inl (G.2.2 0, 110, .inl sd)), (m0, .inr (12, [.ref (am 0), .int v1, .int v2, .ref (am 3), .ref (am 4), .ref (am 5), .ref (am 6), .ref (am 7), .int v8, .int v9, .int v10, .int v11, .int v12, .int v13, .int v14, .ref (am 15), .int v16, .ref (am 17), .int v18, .ref (am 19), .ref (am 20), .int v21, .int v22, .int v23, .int v24, .int v25, .ref (am 26), .int v27, .ref (am 28), .ref (am 29), .ref (am 30), .ref (am 31), .long v32, .ref (am 33), .ref (am 34), .ref (am 35), .ref (am 36)]))] ++ wt) sz [.ref m0, .int b, .int w, .int z]) (gc_V G (va_A ([((am 20), .inl (G.2.2 0, 110, .inl sd)), (m0, .inr (12, [.ref (am 0), .int v1, .int v2, .ref (am 3), .ref (am 4), .ref (am 5), .ref (am 6), .ref (am 7), .int v8, .int v9, .int v10, .int v11, .int v12, .int v13, .int v14, .ref (am 15), .int v16, .ref (am 17), .int v18, .ref (am 19), .ref (am 20), .int v21, .int v22, .int v23, .int v24, .int v25, .ref (am 26), .int v27, .ref (am 28), .ref (am 29), .ref (am 30), .ref (am 31), .long v32, .ref (am 33), .ref (am 34), .ref (am 35), .ref (am 36)]))] ++ wt) sz) (fun (u : (Nat → Int32) × va_W) => match u with | (sd1, wt1) => tk_ty G Γ wt1 ∧ tk_kp [] wt wt1 ∧ (SD sd1) ∧ (KH sd sd1)) (fun (u : (Nat → Int32) × va_W) => match u with | (sd1, wt1) => [((am 20), .inl (G.2.2 0, 110, .inl sd1)), (m0, .inr (12, [.ref (am 0), .int v1, .int v2, .ref (am 3), .ref (am 4), .ref (am 5), .ref (am 6), .ref (am 7), .int v8, .int v9, .int v10, .int v11, .int v12, .int v13, .int v14, .ref (am 15), .int v16, .ref (am 17), .int v18, .ref (am 19), .ref (am 20), .int v21, .int v22, .int v23, .int v24, .int v25, .ref (am 26), .int v27, .ref (am 28), .ref (am 29), .ref (am 30), .ref (am 31), .long v32, .ref (am 33), .ref (am 34), .ref (am 35), .ref (am 36)]))] ++ wt1)) 0 0 (va_A ([((am 20), .inl (G.2.2 0, 110, .inl sd)), (m0, .inr (12, [.ref (am 0), .int v1, .int v2, .ref (am 3), .ref (am 4), .ref (am 5), .ref (am 6), .ref (am 7), .int v8, .int v9, .int v10, .int v11, .int v12, .int v13, .int v14, .ref (am 15), .int v16, .ref (am 17), .int v18, .ref (am 19), .ref (am 20), .int v21, .int v22, .int v23, .int v24, .int v25, .ref (am 26), .int v27, .ref (am 28), .ref (am 29), .ref (am 30), .ref (am 31), .long v32, .ref (am 33), .ref (am 34), .ref (am 35), .ref (am 36)]))] ++ wt) sz) := by
  refine Met.ofW (cc := cX12_plays) (maxL := 4) (ret := none) (by decide) rfl ?_
  intro p e s m args below meth c s₁ B hml hv
  obtain ⟨rfl, hsz, hP, hK, hD0⟩ := hv
  have hx := B.exec
  have hb := B.bytes
  have hr := B.returns
  have ht := ts_ht (atoms_spec (ws := ts_L yX12_plays cX12_plays 4 none) B.pre)
  have hown : s.vm.findClass RX12 = some m.cls := findClass_of_methodNamed B.named
  have hlocks := B.notSynchronized
  subst hsz
  have hD := hD0.self (sz := s.heap.size)
  generalize hAe : va_A ([((am 20), .inl (G.2.2 0, 110, .inl sd)), (m0, .inr (12, [.ref (am 0), .int v1, .int v2, .ref (am 3), .ref (am 4), .ref (am 5), .ref (am 6), .ref (am 7), .int v8, .int v9, .int v10, .int v11, .int v12, .int v13, .int v14, .ref (am 15), .int v16, .ref (am 17), .int v18, .ref (am 19), .ref (am 20), .int v21, .int v22, .int v23, .int v24, .int v25, .ref (am 26), .int v27, .ref (am 28), .ref (am 29), .ref (am 30), .ref (am 31), .long v32, .ref (am 33), .ref (am 34), .ref (am 35), .ref (am 36)]))] ++ wt) s.heap.size = A at hD ⊢
  have hA : ∀ q : Nat, s.heap.size ≤ q → A q := fun q h => by rw [← hAe]; exact Or.inr h
  clear hAe hD0
  have hS : va_S A s.heap s.heap [] := va_S.rf
  obtain ⟨w0, hw0⟩ : ∃ z, z = wt := ⟨_, rfl⟩
  have hW : tk_kp [] w0 wt := by rw [hw0]; exact tk_kp.rf
  rw [← hw0]
  clear hw0
  have hP : va_P (gg_D G) classes ([((am 20), .inl (G.2.2 0, 110, .inl sd)), (m0, .inr (12, [.ref (am 0), .int v1, .int v2, .ref (am 3), .ref (am 4), .ref (am 5), .ref (am 6), .ref (am 7), .int v8, .int v9, .int v10, .int v11, .int v12, .int v13, .int v14, .ref (am 15), .int v16, .ref (am 17), .int v18, .ref (am 19), .ref (am 20), .int v21, .int v22, .int v23, .int v24, .int v25, .ref (am 26), .int v27, .ref (am 28), .ref (am 29), .ref (am 30), .ref (am 31), .long v32, .ref (am 33), .ref (am 34), .ref (am 35), .ref (am 36)]))] ++ wt) s.heap := hP
  have hD : va_D A ([((am 20), .inl (G.2.2 0, 110, .inl sd)), (m0, .inr (12, [.ref (am 0), .int v1, .int v2, .ref (am 3), .ref (am 4), .ref (am 5), .ref (am 6), .ref (am 7), .int v8, .int v9, .int v10, .int v11, .int v12, .int v13, .int v14, .ref (am 15), .int v16, .ref (am 17), .int v18, .ref (am 19), .ref (am 20), .int v21, .int v22, .int v23, .int v24, .int v25, .ref (am 26), .int v27, .ref (am 28), .ref (am 29), .ref (am 30), .ref (am 31), .long v32, .ref (am 33), .ref (am 34), .ref (am 35), .ref (am 36)]))] ++ wt) := hD
  have hl := lv_entry ([.ref m0, .int b, .int w, .int z]) (n := 4) (Nat.le_of_ble_eq_true rfl)
  rw [lg_entry_eq]
  generalize (lg_sl ([.ref m0, .int b, .int w, .int z]) ++ List.replicate (4 - (lg_sl ([.ref m0, .int b, .int w, .int z])).length) Slot.unset).toArray = ls at hl ⊢
  have hl : lv_has ls 4 [(0, .ref m0), (1, .int b), (2, .int w), (3, .int z)] := hl
  have hKH : KH sd sd := KH.rf
  have l1 : (1 : Int32).toInt = 1 := by decide +kernel
  have l4 : (4 : Int32).toInt = 4 := by decide +kernel
  have l5 : (5 : Int32).toInt = 5 := by decide +kernel
  have l11 : (11 : Int32).toInt = 11 := by decide +kernel
  refine lv_aload_n hx hb dX12_plays_0 rfl (lv_at hl 0 rfl) ?_
  refine gq_get hx hb ht hown hK hP i_X12 1 rfl rfl 20 (by decide) wd_1272 rfl rfl dX12_plays_1 ?_
  refine lv_bipush (v := 11) hx hb dX12_plays_4 (by decide +kernel) ?_
  refine lv_iconst (v := 5) hx hb dX12_plays_6 (by decide +kernel) ?_
  refine lv_iload_n hx hb dX12_plays_7 rfl (lv_at hl 1 rfl) ?_
  obtain ⟨t_1, et_1⟩ : ∃ zz_ : Int32, 5 * b = zz_ := ⟨_, rfl⟩
  refine gq_imul hx hb t_1 et_1 dX12_plays_8 ?_
  have ft_1 := ia_mul et_1 (by rw [l5]; omega) (by rw [l5]; omega)
  rw [l5] at ft_1
  obtain ⟨t_2, et_2⟩ : ∃ zz_ : Int32, 11 + t_1 = zz_ := ⟨_, rfl⟩
  refine gq_iadd hx hb t_2 et_2 dX12_plays_9 ?_
  have ft_2 := ia_add et_2 (by omega) (by omega)
  refine lv_dup2_11 hx hb dX12_plays_10 rfl rfl ?_
  obtain ⟨n_3, en_3⟩ : ∃ zz_ : Int32, sd (Int32.toNatClampNeg t_2) = zz_ := ⟨_, rfl⟩
  refine gq_iald hx hb hK hP 0 rfl n_3 (ia_in (n := 110) (by omega) (by omega)) en_3 dX12_plays_11 ?_
  refine lv_aload_n hx hb dX12_plays_12 rfl (lv_at hl 0 rfl) ?_
  refine lv_iload_n hx hb dX12_plays_13 rfl (lv_at hl 3 rfl) ?_
  have hP : va_P (gg_D G) classes ([] ++ ([((am 20), .inl (G.2.2 0, 110, .inl sd)), (m0, .inr (12, [.ref (am 0), .int v1, .int v2, .ref (am 3), .ref (am 4), .ref (am 5), .ref (am 6), .ref (am 7), .int v8, .int v9, .int v10, .int v11, .int v12, .int v13, .int v14, .ref (am 15), .int v16, .ref (am 17), .int v18, .ref (am 19), .ref (am 20), .int v21, .int v22, .int v23, .int v24, .int v25, .ref (am 26), .int v27, .ref (am 28), .ref (am 29), .ref (am 30), .ref (am 31), .long v32, .ref (am 33), .ref (am 34), .ref (am 35), .ref (am 36)]))] ++ wt)) s.heap := hP
  have hD : va_D A ([] ++ ([((am 20), .inl (G.2.2 0, 110, .inl sd)), (m0, .inr (12, [.ref (am 0), .int v1, .int v2, .ref (am 3), .ref (am 4), .ref (am 5), .ref (am 6), .ref (am 7), .int v8, .int v9, .int v10, .int v11, .int v12, .int v13, .int v14, .ref (am 15), .int v16, .ref (am 17), .int v18, .ref (am 19), .ref (am 20), .int v21, .int v22, .int v23, .int v24, .int v25, .ref (am 26), .int v27, .ref (am 28), .ref (am 29), .ref (am 30), .ref (am 31), .long v32, .ref (am 33), .ref (am 34), .ref (am 35), .ref (am 36)]))] ++ wt)) := hD
  refine gt_callI (wr := []) (va_runV (As := [.int z]) (rest := [.int n_3, .int t_2, .ref (am 20)]) ⟨hx, hb, hml, hown, ht⟩ (d_m_priceOf l G Γ s.heap.size wt hT z m0 am v1 v2 v8 v9 v10 v11 v12 v13 v14 v16 v18 v21 v22 v23 v24 v25 v27 v32 sd (by omega) (by omega) (by first | assumption | exact hSD.1 | exact hSD.w _ | (rw [hKH 2 (by omega)]; exact hKP) | omega) (by first | assumption | exact hSD.1 | exact hSD.w _ | (rw [hKH 2 (by omega)]; exact hKP) | omega) (by first | assumption | exact hSD.1 | exact hSD.w _ | (rw [hKH 2 (by omega)]; exact hKP) | omega) (by first | assumption | exact hSD.1 | exact hSD.w _ | (rw [hKH 2 (by omega)]; exact hKP) | omega) (by first | assumption | exact hSD.1 | exact hSD.w _ | (rw [hKH 2 (by omega)]; exact hKP) | omega) (by first | assumption | exact hSD.1 | exact hSD.w _ | (rw [hKH 2 (by omega)]; exact hKP) | omega) (by first | assumption | exact hSD.1 | exact hSD.w _ | (rw [hKH 2 (by omega)]; exact hKP) | omega) (by first | assumption | exact hSD.1 | exact hSD.w _ | (rw [hKH 2 (by omega)]; exact hKP) | omega) (by first | assumption | exact hSD.1 | exact hSD.w _ | (rw [hKH 2 (by omega)]; exact hKP) | omega) (by first | assumption | exact hSD.1 | exact hSD.w _ | (rw [hKH 2 (by omega)]; exact hKP) | omega) (by first | assumption | exact hSD.1 | exact hSD.w _ | (rw [hKH 2 (by omega)]; exact hKP) | omega) (by first | assumption | exact hSD.1 | exact hSD.w _ | (rw [hKH 2 (by omega)]; exact hKP) | omega) (by first | assumption | exact hSD.1 | exact hSD.w _ | (rw [hKH 2 (by omega)]; exact hKP) | omega) (by first | assumption | exact hSD.1 | exact hSD.w _ | (rw [hKH 2 (by omega)]; exact hKP) | omega) (by first | assumption | exact hSD.1 | exact hSD.w _ | (rw [hKH 2 (by omega)]; exact hKP) | omega) (by first | assumption | exact hSD.1 | exact hSD.w _ | (rw [hKH 2 (by omega)]; exact hKP) | omega) (by first | assumption | exact hSD.1 | exact hSD.w _ | (rw [hKH 2 (by omega)]; exact hKP) | omega) (by first | assumption | exact hSD.1 | exact hSD.w _ | (rw [hKH 2 (by omega)]; exact hKP) | omega) (by first | assumption | exact hSD.1 | exact hSD.w _ | (rw [hKH 2 (by omega)]; exact hKP) | omega) (by first | assumption | exact hSD.1 | exact hSD.w _ | (rw [hKH 2 (by omega)]; exact hKP) | omega) (by first | assumption | exact hSD.1 | exact hSD.w _ | (rw [hKH 2 (by omega)]; exact hKP) | omega) (by first | assumption | exact hSD.1 | exact hSD.w _ | (rw [hKH 2 (by omega)]; exact hKP) | omega) (by first | assumption | exact hSD.1 | exact hSD.w _ | (rw [hKH 2 (by omega)]; exact hKP) | omega) (by first | assumption | exact hSD.1 | exact hSD.w _ | (rw [hKH 2 (by omega)]; exact hKP) | omega)) (cwV 1 ht (ts_gV wd_1700 wd_1702 wd_99 wd_134 wd_1703) rfl rfl rfl (by decide +kernel) ⟨Nat.le_of_ble_eq_true rfl, Nat.le_of_ble_eq_true rfl⟩) (gc_preV (ci := 12) (q0 := 1) hK (tw_right hP) (tw_rightD hD) rfl rfl) rfl rfl hl.1 rfl (lv_room (Nat.le_of_ble_eq_true rfl)) dX12_plays_14 ⟨Nat.le_of_ble_eq_true rfl, Nat.le_of_ble_eq_true rfl⟩) hP hD hS hA (fun r_4 wt H locs hw hP hD hS => ?_)
  obtain ⟨hT, hkp⟩ := hw
  have hW := hW.call (show ∀ x ∈ [], x ∈ [] by decide) hkp
  have hP : va_P (gg_D G) classes ([((am 20), .inl (G.2.2 0, 110, .inl sd)), (m0, .inr (12, [.ref (am 0), .int v1, .int v2, .ref (am 3), .ref (am 4), .ref (am 5), .ref (am 6), .ref (am 7), .int v8, .int v9, .int v10, .int v11, .int v12, .int v13, .int v14, .ref (am 15), .int v16, .ref (am 17), .int v18, .ref (am 19), .ref (am 20), .int v21, .int v22, .int v23, .int v24, .int v25, .ref (am 26), .int v27, .ref (am 28), .ref (am 29), .ref (am 30), .ref (am 31), .long v32, .ref (am 33), .ref (am 34), .ref (am 35), .ref (am 36)]))] ++ wt) H := hP
  have hD : va_D A ([((am 20), .inl (G.2.2 0, 110, .inl sd)), (m0, .inr (12, [.ref (am 0), .int v1, .int v2, .ref (am 3), .ref (am 4), .ref (am 5), .ref (am 6), .ref (am 7), .int v8, .int v9, .int v10, .int v11, .int v12, .int v13, .int v14, .ref (am 15), .int v16, .ref (am 17), .int v18, .ref (am 19), .ref (am 20), .int v21, .int v22, .int v23, .int v24, .int v25, .ref (am 26), .int v27, .ref (am 28), .ref (am 29), .ref (am 30), .ref (am 31), .long v32, .ref (am 33), .ref (am 34), .ref (am 35), .ref (am 36)]))] ++ wt) := hD
  obtain ⟨t_5, et_5⟩ : ∃ zz_ : Int32, n_3 - r_4 = zz_ := ⟨_, rfl⟩
  refine gq_isub hx hb t_5 et_5 dX12_plays_17 ?_
  obtain ⟨f_6, ef_6⟩ : ∃ zz_ : Nat → Int32, upd sd (Int32.toNatClampNeg t_2) t_5 = zz_ := ⟨_, rfl⟩
  refine gq_iast (ws' := [((am 20), .inl (G.2.2 0, 110, .inl f_6)), (m0, .inr (12, [.ref (am 0), .int v1, .int v2, .ref (am 3), .ref (am 4), .ref (am 5), .ref (am 6), .ref (am 7), .int v8, .int v9, .int v10, .int v11, .int v12, .int v13, .int v14, .ref (am 15), .int v16, .ref (am 17), .int v18, .ref (am 19), .ref (am 20), .int v21, .int v22, .int v23, .int v24, .int v25, .ref (am 26), .int v27, .ref (am 28), .ref (am 29), .ref (am 30), .ref (am 31), .long v32, .ref (am 33), .ref (am 34), .ref (am 35), .ref (am 36)]))] ++ wt) hx hb hK hP hD hS 0 rfl f_6 (ia_in (n := 110) (by omega) (by omega)) ef_6 rfl dX12_plays_18 (fun H locs hP hD hS => ?_)
  rw [show Int32.toNatClampNeg t_2 = 11 + 5 * b.toInt.toNat from ix_n (by omega)] at ef_6
  have hSD := hSD.free ef_6 (by omega) (by omega) (fun b hb => by omega) (fun l hl => by omega)
  have hKH := hKH.st ef_6 (by omega) (by omega)
  refine lv_aload_n hx hb dX12_plays_19 rfl (lv_at hl 0 rfl) ?_
  refine gq_get hx hb ht hown hK hP i_X12 1 rfl rfl 20 (by decide) wd_1272 rfl rfl dX12_plays_20 ?_
  refine lv_bipush (v := 11) hx hb dX12_plays_23 (by decide +kernel) ?_
  refine lv_iconst (v := 5) hx hb dX12_plays_25 (by decide +kernel) ?_
  refine lv_iload_n hx hb dX12_plays_26 rfl (lv_at hl 2 rfl) ?_
  obtain ⟨t_7, et_7⟩ : ∃ zz_ : Int32, 5 * w = zz_ := ⟨_, rfl⟩
  refine gq_imul hx hb t_7 et_7 dX12_plays_27 ?_
  have ft_7 := ia_mul et_7 (by rw [l5]; omega) (by rw [l5]; omega)
  rw [l5] at ft_7
  obtain ⟨t_8, et_8⟩ : ∃ zz_ : Int32, 11 + t_7 = zz_ := ⟨_, rfl⟩
  refine gq_iadd hx hb t_8 et_8 dX12_plays_28 ?_
  have ft_8 := ia_add et_8 (by omega) (by omega)
  refine lv_iconst (v := 1) hx hb dX12_plays_29 (by decide +kernel) ?_
  obtain ⟨t_9, et_9⟩ : ∃ zz_ : Int32, t_8 + 1 = zz_ := ⟨_, rfl⟩
  refine gq_iadd hx hb t_9 et_9 dX12_plays_30 ?_
  have ft_9 := ia_add et_9 (by omega) (by omega)
  refine lv_dup2_11 hx hb dX12_plays_31 rfl rfl ?_
  obtain ⟨n_10, en_10⟩ : ∃ zz_ : Int32, f_6 (Int32.toNatClampNeg t_9) = zz_ := ⟨_, rfl⟩
  refine gq_iald hx hb hK hP 0 rfl n_10 (ia_in (n := 110) (by omega) (by omega)) en_10 dX12_plays_32 ?_
  refine lv_aload_n hx hb dX12_plays_33 rfl (lv_at hl 0 rfl) ?_
  refine lv_iload_n hx hb dX12_plays_34 rfl (lv_at hl 3 rfl) ?_
  have hP : va_P (gg_D G) classes ([] ++ ([((am 20), .inl (G.2.2 0, 110, .inl f_6)), (m0, .inr (12, [.ref (am 0), .int v1, .int v2, .ref (am 3), .ref (am 4), .ref (am 5), .ref (am 6), .ref (am 7), .int v8, .int v9, .int v10, .int v11, .int v12, .int v13, .int v14, .ref (am 15), .int v16, .ref (am 17), .int v18, .ref (am 19), .ref (am 20), .int v21, .int v22, .int v23, .int v24, .int v25, .ref (am 26), .int v27, .ref (am 28), .ref (am 29), .ref (am 30), .ref (am 31), .long v32, .ref (am 33), .ref (am 34), .ref (am 35), .ref (am 36)]))] ++ wt)) H := hP
  have hD : va_D A ([] ++ ([((am 20), .inl (G.2.2 0, 110, .inl f_6)), (m0, .inr (12, [.ref (am 0), .int v1, .int v2, .ref (am 3), .ref (am 4), .ref (am 5), .ref (am 6), .ref (am 7), .int v8, .int v9, .int v10, .int v11, .int v12, .int v13, .int v14, .ref (am 15), .int v16, .ref (am 17), .int v18, .ref (am 19), .ref (am 20), .int v21, .int v22, .int v23, .int v24, .int v25, .ref (am 26), .int v27, .ref (am 28), .ref (am 29), .ref (am 30), .ref (am 31), .long v32, .ref (am 33), .ref (am 34), .ref (am 35), .ref (am 36)]))] ++ wt)) := hD
  refine gt_callI (wr := []) (va_runV (As := [.int z]) (rest := [.int n_10, .int t_9, .ref (am 20)]) ⟨hx, hb, hml, hown, ht⟩ (d_m_effectOf l G Γ H.size wt hT z m0 am v1 v2 v8 v9 v10 v11 v12 v13 v14 v16 v18 v21 v22 v23 v24 v25 v27 v32 f_6 (by omega) (by omega) (by first | assumption | exact hSD.1 | exact hSD.w _ | (rw [hKH 2 (by omega)]; exact hKP) | omega) (by first | assumption | exact hSD.1 | exact hSD.w _ | (rw [hKH 2 (by omega)]; exact hKP) | omega) (by first | assumption | exact hSD.1 | exact hSD.w _ | (rw [hKH 2 (by omega)]; exact hKP) | omega) (by first | assumption | exact hSD.1 | exact hSD.w _ | (rw [hKH 2 (by omega)]; exact hKP) | omega) (by first | assumption | exact hSD.1 | exact hSD.w _ | (rw [hKH 2 (by omega)]; exact hKP) | omega) (by first | assumption | exact hSD.1 | exact hSD.w _ | (rw [hKH 2 (by omega)]; exact hKP) | omega) (by first | assumption | exact hSD.1 | exact hSD.w _ | (rw [hKH 2 (by omega)]; exact hKP) | omega) (by first | assumption | exact hSD.1 | exact hSD.w _ | (rw [hKH 2 (by omega)]; exact hKP) | omega) (by first | assumption | exact hSD.1 | exact hSD.w _ | (rw [hKH 2 (by omega)]; exact hKP) | omega) (by first | assumption | exact hSD.1 | exact hSD.w _ | (rw [hKH 2 (by omega)]; exact hKP) | omega) (by first | assumption | exact hSD.1 | exact hSD.w _ | (rw [hKH 2 (by omega)]; exact hKP) | omega) (by first | assumption | exact hSD.1 | exact hSD.w _ | (rw [hKH 2 (by omega)]; exact hKP) | omega) (by first | assumption | exact hSD.1 | exact hSD.w _ | (rw [hKH 2 (by omega)]; exact hKP) | omega) (by first | assumption | exact hSD.1 | exact hSD.w _ | (rw [hKH 2 (by omega)]; exact hKP) | omega) (by first | assumption | exact hSD.1 | exact hSD.w _ | (rw [hKH 2 (by omega)]; exact hKP) | omega) (by first | assumption | exact hSD.1 | exact hSD.w _ | (rw [hKH 2 (by omega)]; exact hKP) | omega) (by first | assumption | exact hSD.1 | exact hSD.w _ | (rw [hKH 2 (by omega)]; exact hKP) | omega) (by first | assumption | exact hSD.1 | exact hSD.w _ | (rw [hKH 2 (by omega)]; exact hKP) | omega) (by first | assumption | exact hSD.1 | exact hSD.w _ | (rw [hKH 2 (by omega)]; exact hKP) | omega) (by first | assumption | exact hSD.1 | exact hSD.w _ | (rw [hKH 2 (by omega)]; exact hKP) | omega) (by first | assumption | exact hSD.1 | exact hSD.w _ | (rw [hKH 2 (by omega)]; exact hKP) | omega) (by first | assumption | exact hSD.1 | exact hSD.w _ | (rw [hKH 2 (by omega)]; exact hKP) | omega) (by first | assumption | exact hSD.1 | exact hSD.w _ | (rw [hKH 2 (by omega)]; exact hKP) | omega) (by first | assumption | exact hSD.1 | exact hSD.w _ | (rw [hKH 2 (by omega)]; exact hKP) | omega)) (cwV 1 ht (ts_gV wd_1704 wd_1706 wd_100 wd_134 wd_1707) rfl rfl rfl (by decide +kernel) ⟨Nat.le_of_ble_eq_true rfl, Nat.le_of_ble_eq_true rfl⟩) (gc_preV (ci := 12) (q0 := 1) hK (tw_right hP) (tw_rightD hD) rfl rfl) rfl rfl hl.1 rfl (lv_room (Nat.le_of_ble_eq_true rfl)) dX12_plays_35 ⟨Nat.le_of_ble_eq_true rfl, Nat.le_of_ble_eq_true rfl⟩) hP hD hS hA (fun r_11 wt H locs hw hP hD hS => ?_)
  obtain ⟨hT, hkp⟩ := hw
  have hW := hW.call (show ∀ x ∈ [], x ∈ [] by decide) hkp
  have hP : va_P (gg_D G) classes ([((am 20), .inl (G.2.2 0, 110, .inl f_6)), (m0, .inr (12, [.ref (am 0), .int v1, .int v2, .ref (am 3), .ref (am 4), .ref (am 5), .ref (am 6), .ref (am 7), .int v8, .int v9, .int v10, .int v11, .int v12, .int v13, .int v14, .ref (am 15), .int v16, .ref (am 17), .int v18, .ref (am 19), .ref (am 20), .int v21, .int v22, .int v23, .int v24, .int v25, .ref (am 26), .int v27, .ref (am 28), .ref (am 29), .ref (am 30), .ref (am 31), .long v32, .ref (am 33), .ref (am 34), .ref (am 35), .ref (am 36)]))] ++ wt) H := hP
  have hD : va_D A ([((am 20), .inl (G.2.2 0, 110, .inl f_6)), (m0, .inr (12, [.ref (am 0), .int v1, .int v2, .ref (am 3), .ref (am 4), .ref (am 5), .ref (am 6), .ref (am 7), .int v8, .int v9, .int v10, .int v11, .int v12, .int v13, .int v14, .ref (am 15), .int v16, .ref (am 17), .int v18, .ref (am 19), .ref (am 20), .int v21, .int v22, .int v23, .int v24, .int v25, .ref (am 26), .int v27, .ref (am 28), .ref (am 29), .ref (am 30), .ref (am 31), .long v32, .ref (am 33), .ref (am 34), .ref (am 35), .ref (am 36)]))] ++ wt) := hD
  obtain ⟨t_12, et_12⟩ : ∃ zz_ : Int32, n_10 - r_11 = zz_ := ⟨_, rfl⟩
  refine gq_isub hx hb t_12 et_12 dX12_plays_38 ?_
  obtain ⟨f_13, ef_13⟩ : ∃ zz_ : Nat → Int32, upd f_6 (Int32.toNatClampNeg t_9) t_12 = zz_ := ⟨_, rfl⟩
  refine gq_iast (ws' := [((am 20), .inl (G.2.2 0, 110, .inl f_13)), (m0, .inr (12, [.ref (am 0), .int v1, .int v2, .ref (am 3), .ref (am 4), .ref (am 5), .ref (am 6), .ref (am 7), .int v8, .int v9, .int v10, .int v11, .int v12, .int v13, .int v14, .ref (am 15), .int v16, .ref (am 17), .int v18, .ref (am 19), .ref (am 20), .int v21, .int v22, .int v23, .int v24, .int v25, .ref (am 26), .int v27, .ref (am 28), .ref (am 29), .ref (am 30), .ref (am 31), .long v32, .ref (am 33), .ref (am 34), .ref (am 35), .ref (am 36)]))] ++ wt) hx hb hK hP hD hS 0 rfl f_13 (ia_in (n := 110) (by omega) (by omega)) ef_13 rfl dX12_plays_39 (fun H locs hP hD hS => ?_)
  rw [show Int32.toNatClampNeg t_9 = 12 + 5 * w.toInt.toNat from ix_n (by omega)] at ef_13
  have hSD := hSD.free ef_13 (by omega) (by omega) (fun b hb => by omega) (fun l hl => by omega)
  have hKH := hKH.st ef_13 (by omega) (by omega)
  refine lv_aload_n hx hb dX12_plays_40 rfl (lv_at hl 0 rfl) ?_
  refine gq_get hx hb ht hown hK hP i_X12 1 rfl rfl 20 (by decide) wd_1272 rfl rfl dX12_plays_41 ?_
  refine lv_bipush (v := 11) hx hb dX12_plays_44 (by decide +kernel) ?_
  refine lv_iconst (v := 5) hx hb dX12_plays_46 (by decide +kernel) ?_
  refine lv_iload_n hx hb dX12_plays_47 rfl (lv_at hl 2 rfl) ?_
  refine gq_imul hx hb t_7 et_7 dX12_plays_48 ?_
  refine gq_iadd hx hb t_8 et_8 dX12_plays_49 ?_
  refine lv_iconst (v := 4) hx hb dX12_plays_50 (by decide +kernel) ?_
  obtain ⟨t_14, et_14⟩ : ∃ zz_ : Int32, t_8 + 4 = zz_ := ⟨_, rfl⟩
  refine gq_iadd hx hb t_14 et_14 dX12_plays_51 ?_
  have ft_14 := ia_add et_14 (by omega) (by omega)
  refine lv_dup2_11 hx hb dX12_plays_52 rfl rfl ?_
  obtain ⟨n_15, en_15⟩ : ∃ zz_ : Int32, f_13 (Int32.toNatClampNeg t_14) = zz_ := ⟨_, rfl⟩
  refine gq_iald hx hb hK hP 0 rfl n_15 (ia_in (n := 110) (by omega) (by omega)) en_15 dX12_plays_53 ?_
  refine lv_iconst (v := 1) hx hb dX12_plays_54 (by decide +kernel) ?_
  obtain ⟨t_16, et_16⟩ : ∃ zz_ : Int32, n_15 + 1 = zz_ := ⟨_, rfl⟩
  refine gq_iadd hx hb t_16 et_16 dX12_plays_55 ?_
  obtain ⟨f_17, ef_17⟩ : ∃ zz_ : Nat → Int32, upd f_13 (Int32.toNatClampNeg t_14) t_16 = zz_ := ⟨_, rfl⟩
  refine gq_iast (ws' := [((am 20), .inl (G.2.2 0, 110, .inl f_17)), (m0, .inr (12, [.ref (am 0), .int v1, .int v2, .ref (am 3), .ref (am 4), .ref (am 5), .ref (am 6), .ref (am 7), .int v8, .int v9, .int v10, .int v11, .int v12, .int v13, .int v14, .ref (am 15), .int v16, .ref (am 17), .int v18, .ref (am 19), .ref (am 20), .int v21, .int v22, .int v23, .int v24, .int v25, .ref (am 26), .int v27, .ref (am 28), .ref (am 29), .ref (am 30), .ref (am 31), .long v32, .ref (am 33), .ref (am 34), .ref (am 35), .ref (am 36)]))] ++ wt) hx hb hK hP hD hS 0 rfl f_17 (ia_in (n := 110) (by omega) (by omega)) ef_17 rfl dX12_plays_56 (fun H locs hP hD hS => ?_)
  rw [show Int32.toNatClampNeg t_14 = 15 + 5 * w.toInt.toNat from ix_n (by omega)] at ef_17
  have hSD := hSD.free ef_17 (by omega) (by omega) (fun b hb => by omega) (fun l hl => by omega)
  have hKH := hKH.st ef_17 (by omega) (by omega)
  have hP9 : va_P (gg_D G) classes ([((am 20), .inl (G.2.2 0, 110, .inl f_17)), (m0, .inr (12, [.ref (am 0), .int v1, .int v2, .ref (am 3), .ref (am 4), .ref (am 5), .ref (am 6), .ref (am 7), .int v8, .int v9, .int v10, .int v11, .int v12, .int v13, .int v14, .ref (am 15), .int v16, .ref (am 17), .int v18, .ref (am 19), .ref (am 20), .int v21, .int v22, .int v23, .int v24, .int v25, .ref (am 26), .int v27, .ref (am 28), .ref (am 29), .ref (am 30), .ref (am 31), .long v32, .ref (am 33), .ref (am 34), .ref (am 35), .ref (am 36)]))] ++ wt) _ := hP
  have hD9 : va_D A ([((am 20), .inl (G.2.2 0, 110, .inl f_17)), (m0, .inr (12, [.ref (am 0), .int v1, .int v2, .ref (am 3), .ref (am 4), .ref (am 5), .ref (am 6), .ref (am 7), .int v8, .int v9, .int v10, .int v11, .int v12, .int v13, .int v14, .ref (am 15), .int v16, .ref (am 17), .int v18, .ref (am 19), .ref (am 20), .int v21, .int v22, .int v23, .int v24, .int v25, .ref (am 26), .int v27, .ref (am 28), .ref (am 29), .ref (am 30), .ref (am 31), .long v32, .ref (am 33), .ref (am 34), .ref (am 35), .ref (am 36)]))] ++ wt) := hD
  exact W.vret hx hb hr (gq_endV (f_17, wt) ⟨hT, hW, hSD, hKH⟩ hP9 hD9 hS) hS.2.2 dX12_plays_57
set_option maxHeartbeats 4000000 in
set_option maxRecDepth 100000 in
theorem d_m_canRing (l : Launch) (G : gg_T) (Γ : Nat → Nat) (sz : Nat) (wt : va_W) (hT : tk_ty G Γ wt) (b : Int32) (m0 : Nat) (am : Nat → Nat) (v1 : Int32) (v2 : Int32) (v8 : Int32) (v9 : Int32) (v10 : Int32) (v11 : Int32) (v12 : Int32) (v13 : Int32) (v14 : Int32) (v16 : Int32) (v18 : Int32) (v21 : Int32) (v22 : Int32) (v23 : Int32) (v24 : Int32) (v25 : Int32) (v27 : Int32) (v32 : Int64) (sd : Nat → Int32) (lo_b : 0 ≤ b.toInt) (hi_b : b.toInt ≤ 2) (k17 : Γ (am 17) = 32) (k19 : Γ (am 19) = 30) (k30 : Γ (am 30) = 28) (k31 : Γ (am 31) = 28) (lo_v1 : 0 ≤ v1.toInt) (hi_v1 : v1.toInt ≤ 400) (lo_v2 : 0 ≤ v2.toInt) (hi_v2 : v2.toInt ≤ 6) (lo_v8 : 0 ≤ v8.toInt) (hi_v8 : v8.toInt ≤ 400) (lo_v11 : 0 ≤ v11.toInt) (hi_v11 : v11.toInt ≤ 6) (lo_v12 : 0 ≤ v12.toInt) (hi_v12 : v12.toInt ≤ 60) (lo_v16 : 0 ≤ v16.toInt) (hi_v16 : v16.toInt ≤ 400) (lo_v21 : -1 ≤ v21.toInt) (hi_v21 : v21.toInt ≤ 5) (lo_v23 : 0 ≤ v23.toInt) (hi_v23 : v23.toInt ≤ 31) (lo_v27 : 0 ≤ v27.toInt) (hi_v27 : v27.toInt ≤ 20) (xfr : v21.toInt < v2.toInt) (hSD : SD sd) : Met l yX12_canRing (ts_L yX12_canRing cX12_canRing 2 (some .boolean)) ({ frames := 2, cells := 0, slots := 0, locals := 45 }) (gc_P G ([((am 20), .inl (G.2.2 0, 110, .inl sd)), (m0, .inr (12, [.ref (am 0), .int v1, .int v2, .ref (am 3), .ref (am 4), .ref (am 5), .ref (am 6), .ref (am 7), .int v8, .int v9, .int v10, .int v11, .int v12, .int v13, .int v14, .ref (am 15), .int v16, .ref (am 17), .int v18, .ref (am 19), .ref (am 20), .int v21, .int v22, .int v23, .int v24, .int v25, .ref (am 26), .int v27, .ref (am 28), .ref (am 29), .ref (am 30), .ref (am 31), .long v32, .ref (am 33), .ref (am 34), .ref (am 35), .ref (am 36)]))] ++ wt) sz [.ref m0, .int b]) (gc_I G (va_A ([((am 20), .inl (G.2.2 0, 110, .inl sd)), (m0, .inr (12, [.ref (am 0), .int v1, .int v2, .ref (am 3), .ref (am 4), .ref (am 5), .ref (am 6), .ref (am 7), .int v8, .int v9, .int v10, .int v11, .int v12, .int v13, .int v14, .ref (am 15), .int v16, .ref (am 17), .int v18, .ref (am 19), .ref (am 20), .int v21, .int v22, .int v23, .int v24, .int v25, .ref (am 26), .int v27, .ref (am 28), .ref (am 29), .ref (am 30), .ref (am 31), .long v32, .ref (am 33), .ref (am 34), .ref (am 35), .ref (am 36)]))] ++ wt) sz) (fun r (u : va_W) => match u with | wt1 => tk_ty G Γ wt1 ∧ tk_kp [] wt wt1 ∧ 0 ≤ r.toInt ∧ r.toInt ≤ 1 ∧ (r ≠ 0 → (sd (36 + 4 * b.toInt.toNat)).toInt = 0)) (fun (u : va_W) => match u with | wt1 => [((am 20), .inl (G.2.2 0, 110, .inl sd)), (m0, .inr (12, [.ref (am 0), .int v1, .int v2, .ref (am 3), .ref (am 4), .ref (am 5), .ref (am 6), .ref (am 7), .int v8, .int v9, .int v10, .int v11, .int v12, .int v13, .int v14, .ref (am 15), .int v16, .ref (am 17), .int v18, .ref (am 19), .ref (am 20), .int v21, .int v22, .int v23, .int v24, .int v25, .ref (am 26), .int v27, .ref (am 28), .ref (am 29), .ref (am 30), .ref (am 31), .long v32, .ref (am 33), .ref (am 34), .ref (am 35), .ref (am 36)]))] ++ wt1)) 0 0 (va_A ([((am 20), .inl (G.2.2 0, 110, .inl sd)), (m0, .inr (12, [.ref (am 0), .int v1, .int v2, .ref (am 3), .ref (am 4), .ref (am 5), .ref (am 6), .ref (am 7), .int v8, .int v9, .int v10, .int v11, .int v12, .int v13, .int v14, .ref (am 15), .int v16, .ref (am 17), .int v18, .ref (am 19), .ref (am 20), .int v21, .int v22, .int v23, .int v24, .int v25, .ref (am 26), .int v27, .ref (am 28), .ref (am 29), .ref (am 30), .ref (am 31), .long v32, .ref (am 33), .ref (am 34), .ref (am 35), .ref (am 36)]))] ++ wt) sz) := by
  refine Met.ofW (cc := cX12_canRing) (maxL := 2) (ret := (some .boolean)) (by decide) rfl ?_
  intro p e s m args below meth c s₁ B hml hv
  obtain ⟨rfl, hsz, hP, hK, hD0⟩ := hv
  have hx := B.exec
  have hb := B.bytes
  have hr := B.returns
  have ht := ts_ht (atoms_spec (ws := ts_L yX12_canRing cX12_canRing 2 (some .boolean)) B.pre)
  have hown : s.vm.findClass RX12 = some m.cls := findClass_of_methodNamed B.named
  have hlocks := B.notSynchronized
  subst hsz
  have hD := hD0.self (sz := s.heap.size)
  generalize hAe : va_A ([((am 20), .inl (G.2.2 0, 110, .inl sd)), (m0, .inr (12, [.ref (am 0), .int v1, .int v2, .ref (am 3), .ref (am 4), .ref (am 5), .ref (am 6), .ref (am 7), .int v8, .int v9, .int v10, .int v11, .int v12, .int v13, .int v14, .ref (am 15), .int v16, .ref (am 17), .int v18, .ref (am 19), .ref (am 20), .int v21, .int v22, .int v23, .int v24, .int v25, .ref (am 26), .int v27, .ref (am 28), .ref (am 29), .ref (am 30), .ref (am 31), .long v32, .ref (am 33), .ref (am 34), .ref (am 35), .ref (am 36)]))] ++ wt) s.heap.size = A at hD ⊢
  have hA : ∀ q : Nat, s.heap.size ≤ q → A q := fun q h => by rw [← hAe]; exact Or.inr h
  clear hAe hD0
  have hS : va_S A s.heap s.heap [] := va_S.rf
  obtain ⟨w0, hw0⟩ : ∃ z, z = wt := ⟨_, rfl⟩
  have hW : tk_kp [] w0 wt := by rw [hw0]; exact tk_kp.rf
  rw [← hw0]
  clear hw0
  have hP : va_P (gg_D G) classes ([((am 20), .inl (G.2.2 0, 110, .inl sd)), (m0, .inr (12, [.ref (am 0), .int v1, .int v2, .ref (am 3), .ref (am 4), .ref (am 5), .ref (am 6), .ref (am 7), .int v8, .int v9, .int v10, .int v11, .int v12, .int v13, .int v14, .ref (am 15), .int v16, .ref (am 17), .int v18, .ref (am 19), .ref (am 20), .int v21, .int v22, .int v23, .int v24, .int v25, .ref (am 26), .int v27, .ref (am 28), .ref (am 29), .ref (am 30), .ref (am 31), .long v32, .ref (am 33), .ref (am 34), .ref (am 35), .ref (am 36)]))] ++ wt) s.heap := hP
  have hD : va_D A ([((am 20), .inl (G.2.2 0, 110, .inl sd)), (m0, .inr (12, [.ref (am 0), .int v1, .int v2, .ref (am 3), .ref (am 4), .ref (am 5), .ref (am 6), .ref (am 7), .int v8, .int v9, .int v10, .int v11, .int v12, .int v13, .int v14, .ref (am 15), .int v16, .ref (am 17), .int v18, .ref (am 19), .ref (am 20), .int v21, .int v22, .int v23, .int v24, .int v25, .ref (am 26), .int v27, .ref (am 28), .ref (am 29), .ref (am 30), .ref (am 31), .long v32, .ref (am 33), .ref (am 34), .ref (am 35), .ref (am 36)]))] ++ wt) := hD
  have hl := lv_entry ([.ref m0, .int b]) (n := 2) (Nat.le_of_ble_eq_true rfl)
  rw [lg_entry_eq]
  generalize (lg_sl ([.ref m0, .int b]) ++ List.replicate (2 - (lg_sl ([.ref m0, .int b])).length) Slot.unset).toArray = ls at hl ⊢
  have hl : lv_has ls 2 [(0, .ref m0), (1, .int b)] := hl
  have hKH : KH sd sd := KH.rf
  have l0 : (0 : Int32).toInt = 0 := by decide +kernel
  have l1 : (1 : Int32).toInt = 1 := by decide +kernel
  refine lv_aload_n hx hb dX12_canRing_0 rfl (lv_at hl 0 rfl) ?_
  refine lv_iload_n hx hb dX12_canRing_1 rfl (lv_at hl 1 rfl) ?_
  refine lv_iconst (v := 0) hx hb dX12_canRing_2 (by decide +kernel) ?_
  have hP : va_P (gg_D G) classes ([] ++ ([((am 20), .inl (G.2.2 0, 110, .inl sd)), (m0, .inr (12, [.ref (am 0), .int v1, .int v2, .ref (am 3), .ref (am 4), .ref (am 5), .ref (am 6), .ref (am 7), .int v8, .int v9, .int v10, .int v11, .int v12, .int v13, .int v14, .ref (am 15), .int v16, .ref (am 17), .int v18, .ref (am 19), .ref (am 20), .int v21, .int v22, .int v23, .int v24, .int v25, .ref (am 26), .int v27, .ref (am 28), .ref (am 29), .ref (am 30), .ref (am 31), .long v32, .ref (am 33), .ref (am 34), .ref (am 35), .ref (am 36)]))] ++ wt)) s.heap := hP
  have hD : va_D A ([] ++ ([((am 20), .inl (G.2.2 0, 110, .inl sd)), (m0, .inr (12, [.ref (am 0), .int v1, .int v2, .ref (am 3), .ref (am 4), .ref (am 5), .ref (am 6), .ref (am 7), .int v8, .int v9, .int v10, .int v11, .int v12, .int v13, .int v14, .ref (am 15), .int v16, .ref (am 17), .int v18, .ref (am 19), .ref (am 20), .int v21, .int v22, .int v23, .int v24, .int v25, .ref (am 26), .int v27, .ref (am 28), .ref (am 29), .ref (am 30), .ref (am 31), .long v32, .ref (am 33), .ref (am 34), .ref (am 35), .ref (am 36)]))] ++ wt)) := hD
  refine gt_callI (wr := []) (va_runV (As := [.int b, .int 0]) (rest := []) ⟨hx, hb, hml, hown, ht⟩ (d_m_lot0 l G Γ s.heap.size wt hT b m0 am v1 v2 v8 v9 v10 v11 v12 v13 v14 v16 v18 v21 v22 v23 v24 v25 v27 v32 sd (by omega) (by omega) (by first | assumption | exact hSD.1 | exact hSD.w _ | (rw [hKH 2 (by omega)]; exact hKP) | omega) (by first | assumption | exact hSD.1 | exact hSD.w _ | (rw [hKH 2 (by omega)]; exact hKP) | omega) (by first | assumption | exact hSD.1 | exact hSD.w _ | (rw [hKH 2 (by omega)]; exact hKP) | omega) (by first | assumption | exact hSD.1 | exact hSD.w _ | (rw [hKH 2 (by omega)]; exact hKP) | omega) (by first | assumption | exact hSD.1 | exact hSD.w _ | (rw [hKH 2 (by omega)]; exact hKP) | omega) (by first | assumption | exact hSD.1 | exact hSD.w _ | (rw [hKH 2 (by omega)]; exact hKP) | omega) (by first | assumption | exact hSD.1 | exact hSD.w _ | (rw [hKH 2 (by omega)]; exact hKP) | omega) (by first | assumption | exact hSD.1 | exact hSD.w _ | (rw [hKH 2 (by omega)]; exact hKP) | omega) (by first | assumption | exact hSD.1 | exact hSD.w _ | (rw [hKH 2 (by omega)]; exact hKP) | omega) (by first | assumption | exact hSD.1 | exact hSD.w _ | (rw [hKH 2 (by omega)]; exact hKP) | omega) (by first | assumption | exact hSD.1 | exact hSD.w _ | (rw [hKH 2 (by omega)]; exact hKP) | omega) (by first | assumption | exact hSD.1 | exact hSD.w _ | (rw [hKH 2 (by omega)]; exact hKP) | omega) (by first | assumption | exact hSD.1 | exact hSD.w _ | (rw [hKH 2 (by omega)]; exact hKP) | omega) (by first | assumption | exact hSD.1 | exact hSD.w _ | (rw [hKH 2 (by omega)]; exact hKP) | omega) (by first | assumption | exact hSD.1 | exact hSD.w _ | (rw [hKH 2 (by omega)]; exact hKP) | omega) (by first | assumption | exact hSD.1 | exact hSD.w _ | (rw [hKH 2 (by omega)]; exact hKP) | omega) (by first | assumption | exact hSD.1 | exact hSD.w _ | (rw [hKH 2 (by omega)]; exact hKP) | omega) (by first | assumption | exact hSD.1 | exact hSD.w _ | (rw [hKH 2 (by omega)]; exact hKP) | omega) (by first | assumption | exact hSD.1 | exact hSD.w _ | (rw [hKH 2 (by omega)]; exact hKP) | omega) (by first | assumption | exact hSD.1 | exact hSD.w _ | (rw [hKH 2 (by omega)]; exact hKP) | omega) (by first | assumption | exact hSD.1 | exact hSD.w _ | (rw [hKH 2 (by omega)]; exact hKP) | omega) (by first | assumption | exact hSD.1 | exact hSD.w _ | (rw [hKH 2 (by omega)]; exact hKP) | omega) (by first | assumption | exact hSD.1 | exact hSD.w _ | (rw [hKH 2 (by omega)]; exact hKP) | omega)) (cwV 2 ht (ts_gV wd_1566 wd_1568 wd_76 wd_134 wd_1569) rfl rfl rfl (by decide +kernel) ⟨Nat.le_of_ble_eq_true rfl, Nat.le_of_ble_eq_true rfl⟩) (gc_preV (ci := 12) (q0 := 1) hK (tw_right hP) (tw_rightD hD) rfl rfl) rfl rfl hl.1 rfl (lv_room (Nat.le_of_ble_eq_true rfl)) dX12_canRing_3 ⟨Nat.le_of_ble_eq_true rfl, Nat.le_of_ble_eq_true rfl⟩) hP hD hS hA (fun r_1 wt H locs hw hP hD hS => ?_)
  obtain ⟨hT, hkp, rp_r_1⟩ := hw
  have hW := hW.call (show ∀ x ∈ [], x ∈ [] by decide) hkp
  have hP : va_P (gg_D G) classes ([((am 20), .inl (G.2.2 0, 110, .inl sd)), (m0, .inr (12, [.ref (am 0), .int v1, .int v2, .ref (am 3), .ref (am 4), .ref (am 5), .ref (am 6), .ref (am 7), .int v8, .int v9, .int v10, .int v11, .int v12, .int v13, .int v14, .ref (am 15), .int v16, .ref (am 17), .int v18, .ref (am 19), .ref (am 20), .int v21, .int v22, .int v23, .int v24, .int v25, .ref (am 26), .int v27, .ref (am 28), .ref (am 29), .ref (am 30), .ref (am 31), .long v32, .ref (am 33), .ref (am 34), .ref (am 35), .ref (am 36)]))] ++ wt) H := hP
  have hD : va_D A ([((am 20), .inl (G.2.2 0, 110, .inl sd)), (m0, .inr (12, [.ref (am 0), .int v1, .int v2, .ref (am 3), .ref (am 4), .ref (am 5), .ref (am 6), .ref (am 7), .int v8, .int v9, .int v10, .int v11, .int v12, .int v13, .int v14, .ref (am 15), .int v16, .ref (am 17), .int v18, .ref (am 19), .ref (am 20), .int v21, .int v22, .int v23, .int v24, .int v25, .ref (am 26), .int v27, .ref (am 28), .ref (am 29), .ref (am 30), .ref (am 31), .long v32, .ref (am 33), .ref (am 34), .ref (am 35), .ref (am 36)]))] ++ wt) := hD
  refine lv_if_ne (tgt := 21) hx hb dX12_canRing_6 (by decide) (fun c_2 => ?_) (fun c_2 => ?_)
  · rw [← Int32.toInt_inj] at c_2
    refine lv_iconst (v := 0) hx hb dX12_canRing_21 (by decide +kernel) ?_
    have hP9 : va_P (gg_D G) classes ([((am 20), .inl (G.2.2 0, 110, .inl sd)), (m0, .inr (12, [.ref (am 0), .int v1, .int v2, .ref (am 3), .ref (am 4), .ref (am 5), .ref (am 6), .ref (am 7), .int v8, .int v9, .int v10, .int v11, .int v12, .int v13, .int v14, .ref (am 15), .int v16, .ref (am 17), .int v18, .ref (am 19), .ref (am 20), .int v21, .int v22, .int v23, .int v24, .int v25, .ref (am 26), .int v27, .ref (am 28), .ref (am 29), .ref (am 30), .ref (am 31), .long v32, .ref (am 33), .ref (am 34), .ref (am 35), .ref (am 36)]))] ++ wt) _ := hP
    have hD9 : va_D A ([((am 20), .inl (G.2.2 0, 110, .inl sd)), (m0, .inr (12, [.ref (am 0), .int v1, .int v2, .ref (am 3), .ref (am 4), .ref (am 5), .ref (am 6), .ref (am 7), .int v8, .int v9, .int v10, .int v11, .int v12, .int v13, .int v14, .ref (am 15), .int v16, .ref (am 17), .int v18, .ref (am 19), .ref (am 20), .int v21, .int v22, .int v23, .int v24, .int v25, .ref (am 26), .int v27, .ref (am 28), .ref (am 29), .ref (am 30), .ref (am 31), .long v32, .ref (am 33), .ref (am 34), .ref (am 35), .ref (am 36)]))] ++ wt) := hD
    exact W.zret (v := 0) hx hb hr (by decide +kernel) (gq_endI wt ⟨hT, hW, (by omega), (by omega), (fun h => absurd rfl h)⟩ hP9 hD9 hS) hS.2.2 dX12_canRing_22
  · rw [← Int32.toInt_inj] at c_2
    refine lv_aload_n hx hb dX12_canRing_9 rfl (lv_at hl 0 rfl) ?_
    refine lv_iload_n hx hb dX12_canRing_10 rfl (lv_at hl 1 rfl) ?_
    have hP : va_P (gg_D G) classes ([] ++ ([((am 20), .inl (G.2.2 0, 110, .inl sd)), (m0, .inr (12, [.ref (am 0), .int v1, .int v2, .ref (am 3), .ref (am 4), .ref (am 5), .ref (am 6), .ref (am 7), .int v8, .int v9, .int v10, .int v11, .int v12, .int v13, .int v14, .ref (am 15), .int v16, .ref (am 17), .int v18, .ref (am 19), .ref (am 20), .int v21, .int v22, .int v23, .int v24, .int v25, .ref (am 26), .int v27, .ref (am 28), .ref (am 29), .ref (am 30), .ref (am 31), .long v32, .ref (am 33), .ref (am 34), .ref (am 35), .ref (am 36)]))] ++ wt)) H := hP
    have hD : va_D A ([] ++ ([((am 20), .inl (G.2.2 0, 110, .inl sd)), (m0, .inr (12, [.ref (am 0), .int v1, .int v2, .ref (am 3), .ref (am 4), .ref (am 5), .ref (am 6), .ref (am 7), .int v8, .int v9, .int v10, .int v11, .int v12, .int v13, .int v14, .ref (am 15), .int v16, .ref (am 17), .int v18, .ref (am 19), .ref (am 20), .int v21, .int v22, .int v23, .int v24, .int v25, .ref (am 26), .int v27, .ref (am 28), .ref (am 29), .ref (am 30), .ref (am 31), .long v32, .ref (am 33), .ref (am 34), .ref (am 35), .ref (am 36)]))] ++ wt)) := hD
    refine gt_callI (wr := []) (va_runV (As := [.int b]) (rest := []) ⟨hx, hb, hml, hown, ht⟩ (d_m_sitting l G Γ H.size wt hT b m0 am v1 v2 v8 v9 v10 v11 v12 v13 v14 v16 v18 v21 v22 v23 v24 v25 v27 v32 sd (by first | assumption | exact hSD.1 | exact hSD.w _ | (rw [hKH 2 (by omega)]; exact hKP) | omega) (by first | assumption | exact hSD.1 | exact hSD.w _ | (rw [hKH 2 (by omega)]; exact hKP) | omega) (by first | assumption | exact hSD.1 | exact hSD.w _ | (rw [hKH 2 (by omega)]; exact hKP) | omega) (by first | assumption | exact hSD.1 | exact hSD.w _ | (rw [hKH 2 (by omega)]; exact hKP) | omega) (by first | assumption | exact hSD.1 | exact hSD.w _ | (rw [hKH 2 (by omega)]; exact hKP) | omega) (by first | assumption | exact hSD.1 | exact hSD.w _ | (rw [hKH 2 (by omega)]; exact hKP) | omega) (by first | assumption | exact hSD.1 | exact hSD.w _ | (rw [hKH 2 (by omega)]; exact hKP) | omega) (by first | assumption | exact hSD.1 | exact hSD.w _ | (rw [hKH 2 (by omega)]; exact hKP) | omega) (by first | assumption | exact hSD.1 | exact hSD.w _ | (rw [hKH 2 (by omega)]; exact hKP) | omega) (by first | assumption | exact hSD.1 | exact hSD.w _ | (rw [hKH 2 (by omega)]; exact hKP) | omega) (by first | assumption | exact hSD.1 | exact hSD.w _ | (rw [hKH 2 (by omega)]; exact hKP) | omega) (by first | assumption | exact hSD.1 | exact hSD.w _ | (rw [hKH 2 (by omega)]; exact hKP) | omega) (by first | assumption | exact hSD.1 | exact hSD.w _ | (rw [hKH 2 (by omega)]; exact hKP) | omega) (by first | assumption | exact hSD.1 | exact hSD.w _ | (rw [hKH 2 (by omega)]; exact hKP) | omega) (by first | assumption | exact hSD.1 | exact hSD.w _ | (rw [hKH 2 (by omega)]; exact hKP) | omega) (by first | assumption | exact hSD.1 | exact hSD.w _ | (rw [hKH 2 (by omega)]; exact hKP) | omega) (by first | assumption | exact hSD.1 | exact hSD.w _ | (rw [hKH 2 (by omega)]; exact hKP) | omega) (by first | assumption | exact hSD.1 | exact hSD.w _ | (rw [hKH 2 (by omega)]; exact hKP) | omega) (by first | assumption | exact hSD.1 | exact hSD.w _ | (rw [hKH 2 (by omega)]; exact hKP) | omega) (by first | assumption | exact hSD.1 | exact hSD.w _ | (rw [hKH 2 (by omega)]; exact hKP) | omega) (by first | assumption | exact hSD.1 | exact hSD.w _ | (rw [hKH 2 (by omega)]; exact hKP) | omega) (by first | assumption | exact hSD.1 | exact hSD.w _ | (rw [hKH 2 (by omega)]; exact hKP) | omega) (by first | assumption | exact hSD.1 | exact hSD.w _ | (rw [hKH 2 (by omega)]; exact hKP) | omega) (by first | assumption | exact hSD.1 | exact hSD.w _ | (rw [hKH 2 (by omega)]; exact hKP) | omega)) (cwV 1 ht (ts_gV wd_1587 wd_1589 wd_80 wd_134 wd_1590) rfl rfl rfl (by decide +kernel) ⟨Nat.le_of_ble_eq_true rfl, Nat.le_of_ble_eq_true rfl⟩) (gc_preV (ci := 12) (q0 := 1) hK (tw_right hP) (tw_rightD hD) rfl rfl) rfl rfl hl.1 rfl (lv_room (Nat.le_of_ble_eq_true rfl)) dX12_canRing_11 ⟨Nat.le_of_ble_eq_true rfl, Nat.le_of_ble_eq_true rfl⟩) hP hD hS hA (fun r_3 wt H locs hw hP hD hS => ?_)
    obtain ⟨hT, hkp, lo_r_3, hi_r_3, rp_r_3⟩ := hw
    have hW := hW.call (show ∀ x ∈ [], x ∈ [] by decide) hkp
    have hP : va_P (gg_D G) classes ([((am 20), .inl (G.2.2 0, 110, .inl sd)), (m0, .inr (12, [.ref (am 0), .int v1, .int v2, .ref (am 3), .ref (am 4), .ref (am 5), .ref (am 6), .ref (am 7), .int v8, .int v9, .int v10, .int v11, .int v12, .int v13, .int v14, .ref (am 15), .int v16, .ref (am 17), .int v18, .ref (am 19), .ref (am 20), .int v21, .int v22, .int v23, .int v24, .int v25, .ref (am 26), .int v27, .ref (am 28), .ref (am 29), .ref (am 30), .ref (am 31), .long v32, .ref (am 33), .ref (am 34), .ref (am 35), .ref (am 36)]))] ++ wt) H := hP
    have hD : va_D A ([((am 20), .inl (G.2.2 0, 110, .inl sd)), (m0, .inr (12, [.ref (am 0), .int v1, .int v2, .ref (am 3), .ref (am 4), .ref (am 5), .ref (am 6), .ref (am 7), .int v8, .int v9, .int v10, .int v11, .int v12, .int v13, .int v14, .ref (am 15), .int v16, .ref (am 17), .int v18, .ref (am 19), .ref (am 20), .int v21, .int v22, .int v23, .int v24, .int v25, .ref (am 26), .int v27, .ref (am 28), .ref (am 29), .ref (am 30), .ref (am 31), .long v32, .ref (am 33), .ref (am 34), .ref (am 35), .ref (am 36)]))] ++ wt) := hD
    refine lv_if_eq (tgt := 21) hx hb dX12_canRing_14 (by decide) (fun c_4 => ?_) (fun c_4 => ?_)
    · rw [← Int32.toInt_inj] at c_4
      refine lv_iconst (v := 0) hx hb dX12_canRing_21 (by decide +kernel) ?_
      have hP9 : va_P (gg_D G) classes ([((am 20), .inl (G.2.2 0, 110, .inl sd)), (m0, .inr (12, [.ref (am 0), .int v1, .int v2, .ref (am 3), .ref (am 4), .ref (am 5), .ref (am 6), .ref (am 7), .int v8, .int v9, .int v10, .int v11, .int v12, .int v13, .int v14, .ref (am 15), .int v16, .ref (am 17), .int v18, .ref (am 19), .ref (am 20), .int v21, .int v22, .int v23, .int v24, .int v25, .ref (am 26), .int v27, .ref (am 28), .ref (am 29), .ref (am 30), .ref (am 31), .long v32, .ref (am 33), .ref (am 34), .ref (am 35), .ref (am 36)]))] ++ wt) _ := hP
      have hD9 : va_D A ([((am 20), .inl (G.2.2 0, 110, .inl sd)), (m0, .inr (12, [.ref (am 0), .int v1, .int v2, .ref (am 3), .ref (am 4), .ref (am 5), .ref (am 6), .ref (am 7), .int v8, .int v9, .int v10, .int v11, .int v12, .int v13, .int v14, .ref (am 15), .int v16, .ref (am 17), .int v18, .ref (am 19), .ref (am 20), .int v21, .int v22, .int v23, .int v24, .int v25, .ref (am 26), .int v27, .ref (am 28), .ref (am 29), .ref (am 30), .ref (am 31), .long v32, .ref (am 33), .ref (am 34), .ref (am 35), .ref (am 36)]))] ++ wt) := hD
      exact W.zret (v := 0) hx hb hr (by decide +kernel) (gq_endI wt ⟨hT, hW, (by omega), (by omega), (fun h => absurd rfl h)⟩ hP9 hD9 hS) hS.2.2 dX12_canRing_22
    · rw [← Int32.toInt_inj] at c_4
      refine lv_iconst (v := 1) hx hb dX12_canRing_17 (by decide +kernel) ?_
      refine lv_goto (tgt := 22) hx hb dX12_canRing_18 (by decide) ?_
      have hP9 : va_P (gg_D G) classes ([((am 20), .inl (G.2.2 0, 110, .inl sd)), (m0, .inr (12, [.ref (am 0), .int v1, .int v2, .ref (am 3), .ref (am 4), .ref (am 5), .ref (am 6), .ref (am 7), .int v8, .int v9, .int v10, .int v11, .int v12, .int v13, .int v14, .ref (am 15), .int v16, .ref (am 17), .int v18, .ref (am 19), .ref (am 20), .int v21, .int v22, .int v23, .int v24, .int v25, .ref (am 26), .int v27, .ref (am 28), .ref (am 29), .ref (am 30), .ref (am 31), .long v32, .ref (am 33), .ref (am 34), .ref (am 35), .ref (am 36)]))] ++ wt) _ := hP
      have hD9 : va_D A ([((am 20), .inl (G.2.2 0, 110, .inl sd)), (m0, .inr (12, [.ref (am 0), .int v1, .int v2, .ref (am 3), .ref (am 4), .ref (am 5), .ref (am 6), .ref (am 7), .int v8, .int v9, .int v10, .int v11, .int v12, .int v13, .int v14, .ref (am 15), .int v16, .ref (am 17), .int v18, .ref (am 19), .ref (am 20), .int v21, .int v22, .int v23, .int v24, .int v25, .ref (am 26), .int v27, .ref (am 28), .ref (am 29), .ref (am 30), .ref (am 31), .long v32, .ref (am 33), .ref (am 34), .ref (am 35), .ref (am 36)]))] ++ wt) := hD
      exact W.zret (v := 1) hx hb hr (by decide +kernel) (gq_endI wt ⟨hT, hW, (by omega), (by omega), (fun _ => (by omega))⟩ hP9 hD9 hS) hS.2.2 dX12_canRing_22
set_option maxHeartbeats 4000000 in
set_option maxRecDepth 100000 in
theorem d_m_rings (l : Launch) (G : gg_T) (Γ : Nat → Nat) (sz : Nat) (wt : va_W) (hT : tk_ty G Γ wt) (b : Int32) (m0 : Nat) (am : Nat → Nat) (v1 : Int32) (v2 : Int32) (v8 : Int32) (v9 : Int32) (v10 : Int32) (v11 : Int32) (v12 : Int32) (v13 : Int32) (v14 : Int32) (v16 : Int32) (v18 : Int32) (v21 : Int32) (v22 : Int32) (v23 : Int32) (v24 : Int32) (v25 : Int32) (v27 : Int32) (v32 : Int64) (sd : Nat → Int32) (lo_b : 0 ≤ b.toInt) (hi_b : b.toInt ≤ 2) (k17 : Γ (am 17) = 32) (k19 : Γ (am 19) = 30) (k30 : Γ (am 30) = 28) (k31 : Γ (am 31) = 28) (lo_v1 : 0 ≤ v1.toInt) (hi_v1 : v1.toInt ≤ 400) (lo_v2 : 0 ≤ v2.toInt) (hi_v2 : v2.toInt ≤ 6) (lo_v8 : 0 ≤ v8.toInt) (hi_v8 : v8.toInt ≤ 400) (lo_v11 : 0 ≤ v11.toInt) (hi_v11 : v11.toInt ≤ 6) (lo_v12 : 0 ≤ v12.toInt) (hi_v12 : v12.toInt ≤ 60) (lo_v16 : 0 ≤ v16.toInt) (hi_v16 : v16.toInt ≤ 400) (lo_v21 : -1 ≤ v21.toInt) (hi_v21 : v21.toInt ≤ 5) (lo_v23 : 0 ≤ v23.toInt) (hi_v23 : v23.toInt ≤ 31) (lo_v27 : 0 ≤ v27.toInt) (hi_v27 : v27.toInt ≤ 20) (xfr : v21.toInt < v2.toInt) (hSD : SD sd) (hl2 : b.toInt < (sd 2).toInt) (hn2 : (sd (36 + 4 * b.toInt.toNat)).toInt ≠ 2) : Met l yX12_rings (ts_L yX12_rings cX12_rings 4 none) ({ frames := 2, cells := 0, slots := 0, locals := 47 }) (gc_P G ([((am 20), .inl (G.2.2 0, 110, .inl sd)), (m0, .inr (12, [.ref (am 0), .int v1, .int v2, .ref (am 3), .ref (am 4), .ref (am 5), .ref (am 6), .ref (am 7), .int v8, .int v9, .int v10, .int v11, .int v12, .int v13, .int v14, .ref (am 15), .int v16, .ref (am 17), .int v18, .ref (am 19), .ref (am 20), .int v21, .int v22, .int v23, .int v24, .int v25, .ref (am 26), .int v27, .ref (am 28), .ref (am 29), .ref (am 30), .ref (am 31), .long v32, .ref (am 33), .ref (am 34), .ref (am 35), .ref (am 36)]))] ++ wt) sz [.ref m0, .int b]) (gc_V G (va_A ([((am 20), .inl (G.2.2 0, 110, .inl sd)), (m0, .inr (12, [.ref (am 0), .int v1, .int v2, .ref (am 3), .ref (am 4), .ref (am 5), .ref (am 6), .ref (am 7), .int v8, .int v9, .int v10, .int v11, .int v12, .int v13, .int v14, .ref (am 15), .int v16, .ref (am 17), .int v18, .ref (am 19), .ref (am 20), .int v21, .int v22, .int v23, .int v24, .int v25, .ref (am 26), .int v27, .ref (am 28), .ref (am 29), .ref (am 30), .ref (am 31), .long v32, .ref (am 33), .ref (am 34), .ref (am 35), .ref (am 36)]))] ++ wt) sz) (fun (u : (Nat → Int32) × va_W) => match u with | (sd1, wt1) => tk_ty G Γ wt1 ∧ tk_kp [] wt wt1 ∧ (SD sd1) ∧ (KH sd sd1)) (fun (u : (Nat → Int32) × va_W) => match u with | (sd1, wt1) => [((am 20), .inl (G.2.2 0, 110, .inl sd1)), (m0, .inr (12, [.ref (am 0), .int v1, .int v2, .ref (am 3), .ref (am 4), .ref (am 5), .ref (am 6), .ref (am 7), .int v8, .int v9, .int v10, .int v11, .int v12, .int v13, .int v14, .ref (am 15), .int v16, .ref (am 17), .int v18, .ref (am 19), .ref (am 20), .int v21, .int v22, .int v23, .int v24, .int v25, .ref (am 26), .int v27, .ref (am 28), .ref (am 29), .ref (am 30), .ref (am 31), .long v32, .ref (am 33), .ref (am 34), .ref (am 35), .ref (am 36)]))] ++ wt1)) 0 0 (va_A ([((am 20), .inl (G.2.2 0, 110, .inl sd)), (m0, .inr (12, [.ref (am 0), .int v1, .int v2, .ref (am 3), .ref (am 4), .ref (am 5), .ref (am 6), .ref (am 7), .int v8, .int v9, .int v10, .int v11, .int v12, .int v13, .int v14, .ref (am 15), .int v16, .ref (am 17), .int v18, .ref (am 19), .ref (am 20), .int v21, .int v22, .int v23, .int v24, .int v25, .ref (am 26), .int v27, .ref (am 28), .ref (am 29), .ref (am 30), .ref (am 31), .long v32, .ref (am 33), .ref (am 34), .ref (am 35), .ref (am 36)]))] ++ wt) sz) := by
  refine Met.ofW (cc := cX12_rings) (maxL := 4) (ret := none) (by decide) rfl ?_
  intro p e s m args below meth c s₁ B hml hv
  obtain ⟨rfl, hsz, hP, hK, hD0⟩ := hv
  have hx := B.exec
  have hb := B.bytes
  have hr := B.returns
  have ht := ts_ht (atoms_spec (ws := ts_L yX12_rings cX12_rings 4 none) B.pre)
  have hown : s.vm.findClass RX12 = some m.cls := findClass_of_methodNamed B.named
  have hlocks := B.notSynchronized
  subst hsz
  have hD := hD0.self (sz := s.heap.size)
  generalize hAe : va_A ([((am 20), .inl (G.2.2 0, 110, .inl sd)), (m0, .inr (12, [.ref (am 0), .int v1, .int v2, .ref (am 3), .ref (am 4), .ref (am 5), .ref (am 6), .ref (am 7), .int v8, .int v9, .int v10, .int v11, .int v12, .int v13, .int v14, .ref (am 15), .int v16, .ref (am 17), .int v18, .ref (am 19), .ref (am 20), .int v21, .int v22, .int v23, .int v24, .int v25, .ref (am 26), .int v27, .ref (am 28), .ref (am 29), .ref (am 30), .ref (am 31), .long v32, .ref (am 33), .ref (am 34), .ref (am 35), .ref (am 36)]))] ++ wt) s.heap.size = A at hD ⊢
  have hA : ∀ q : Nat, s.heap.size ≤ q → A q := fun q h => by rw [← hAe]; exact Or.inr h
  clear hAe hD0
  have hS : va_S A s.heap s.heap [] := va_S.rf
  obtain ⟨w0, hw0⟩ : ∃ z, z = wt := ⟨_, rfl⟩
  have hW : tk_kp [] w0 wt := by rw [hw0]; exact tk_kp.rf
  rw [← hw0]
  clear hw0
  have hP : va_P (gg_D G) classes ([((am 20), .inl (G.2.2 0, 110, .inl sd)), (m0, .inr (12, [.ref (am 0), .int v1, .int v2, .ref (am 3), .ref (am 4), .ref (am 5), .ref (am 6), .ref (am 7), .int v8, .int v9, .int v10, .int v11, .int v12, .int v13, .int v14, .ref (am 15), .int v16, .ref (am 17), .int v18, .ref (am 19), .ref (am 20), .int v21, .int v22, .int v23, .int v24, .int v25, .ref (am 26), .int v27, .ref (am 28), .ref (am 29), .ref (am 30), .ref (am 31), .long v32, .ref (am 33), .ref (am 34), .ref (am 35), .ref (am 36)]))] ++ wt) s.heap := hP
  have hD : va_D A ([((am 20), .inl (G.2.2 0, 110, .inl sd)), (m0, .inr (12, [.ref (am 0), .int v1, .int v2, .ref (am 3), .ref (am 4), .ref (am 5), .ref (am 6), .ref (am 7), .int v8, .int v9, .int v10, .int v11, .int v12, .int v13, .int v14, .ref (am 15), .int v16, .ref (am 17), .int v18, .ref (am 19), .ref (am 20), .int v21, .int v22, .int v23, .int v24, .int v25, .ref (am 26), .int v27, .ref (am 28), .ref (am 29), .ref (am 30), .ref (am 31), .long v32, .ref (am 33), .ref (am 34), .ref (am 35), .ref (am 36)]))] ++ wt) := hD
  have hl := lv_entry ([.ref m0, .int b]) (n := 4) (Nat.le_of_ble_eq_true rfl)
  rw [lg_entry_eq]
  generalize (lg_sl ([.ref m0, .int b]) ++ List.replicate (4 - (lg_sl ([.ref m0, .int b])).length) Slot.unset).toArray = ls at hl ⊢
  have hl : lv_has ls 4 [(0, .ref m0), (1, .int b)] := hl
  have hKH : KH sd sd := KH.rf
  have l0 : (0 : Int32).toInt = 0 := by decide +kernel
  have l1 : (1 : Int32).toInt = 1 := by decide +kernel
  have l3 : (3 : Int32).toInt = 3 := by decide +kernel
  have l4 : (4 : Int32).toInt = 4 := by decide +kernel
  have l5 : (5 : Int32).toInt = 5 := by decide +kernel
  have l11 : (11 : Int32).toInt = 11 := by decide +kernel
  have l36 : (36 : Int32).toInt = 36 := by decide +kernel
  refine lv_aload_n hx hb dX12_rings_0 rfl (lv_at hl 0 rfl) ?_
  refine lv_iload_n hx hb dX12_rings_1 rfl (lv_at hl 1 rfl) ?_
  have hP : va_P (gg_D G) classes ([] ++ ([((am 20), .inl (G.2.2 0, 110, .inl sd)), (m0, .inr (12, [.ref (am 0), .int v1, .int v2, .ref (am 3), .ref (am 4), .ref (am 5), .ref (am 6), .ref (am 7), .int v8, .int v9, .int v10, .int v11, .int v12, .int v13, .int v14, .ref (am 15), .int v16, .ref (am 17), .int v18, .ref (am 19), .ref (am 20), .int v21, .int v22, .int v23, .int v24, .int v25, .ref (am 26), .int v27, .ref (am 28), .ref (am 29), .ref (am 30), .ref (am 31), .long v32, .ref (am 33), .ref (am 34), .ref (am 35), .ref (am 36)]))] ++ wt)) s.heap := hP
  have hD : va_D A ([] ++ ([((am 20), .inl (G.2.2 0, 110, .inl sd)), (m0, .inr (12, [.ref (am 0), .int v1, .int v2, .ref (am 3), .ref (am 4), .ref (am 5), .ref (am 6), .ref (am 7), .int v8, .int v9, .int v10, .int v11, .int v12, .int v13, .int v14, .ref (am 15), .int v16, .ref (am 17), .int v18, .ref (am 19), .ref (am 20), .int v21, .int v22, .int v23, .int v24, .int v25, .ref (am 26), .int v27, .ref (am 28), .ref (am 29), .ref (am 30), .ref (am 31), .long v32, .ref (am 33), .ref (am 34), .ref (am 35), .ref (am 36)]))] ++ wt)) := hD
  refine gt_callI (wr := []) (va_runV (As := [.int b]) (rest := []) ⟨hx, hb, hml, hown, ht⟩ (d_m_sitting l G Γ s.heap.size wt hT b m0 am v1 v2 v8 v9 v10 v11 v12 v13 v14 v16 v18 v21 v22 v23 v24 v25 v27 v32 sd (by first | assumption | exact hSD.1 | exact hSD.w _ | (rw [hKH 2 (by omega)]; exact hKP) | omega) (by first | assumption | exact hSD.1 | exact hSD.w _ | (rw [hKH 2 (by omega)]; exact hKP) | omega) (by first | assumption | exact hSD.1 | exact hSD.w _ | (rw [hKH 2 (by omega)]; exact hKP) | omega) (by first | assumption | exact hSD.1 | exact hSD.w _ | (rw [hKH 2 (by omega)]; exact hKP) | omega) (by first | assumption | exact hSD.1 | exact hSD.w _ | (rw [hKH 2 (by omega)]; exact hKP) | omega) (by first | assumption | exact hSD.1 | exact hSD.w _ | (rw [hKH 2 (by omega)]; exact hKP) | omega) (by first | assumption | exact hSD.1 | exact hSD.w _ | (rw [hKH 2 (by omega)]; exact hKP) | omega) (by first | assumption | exact hSD.1 | exact hSD.w _ | (rw [hKH 2 (by omega)]; exact hKP) | omega) (by first | assumption | exact hSD.1 | exact hSD.w _ | (rw [hKH 2 (by omega)]; exact hKP) | omega) (by first | assumption | exact hSD.1 | exact hSD.w _ | (rw [hKH 2 (by omega)]; exact hKP) | omega) (by first | assumption | exact hSD.1 | exact hSD.w _ | (rw [hKH 2 (by omega)]; exact hKP) | omega) (by first | assumption | exact hSD.1 | exact hSD.w _ | (rw [hKH 2 (by omega)]; exact hKP) | omega) (by first | assumption | exact hSD.1 | exact hSD.w _ | (rw [hKH 2 (by omega)]; exact hKP) | omega) (by first | assumption | exact hSD.1 | exact hSD.w _ | (rw [hKH 2 (by omega)]; exact hKP) | omega) (by first | assumption | exact hSD.1 | exact hSD.w _ | (rw [hKH 2 (by omega)]; exact hKP) | omega) (by first | assumption | exact hSD.1 | exact hSD.w _ | (rw [hKH 2 (by omega)]; exact hKP) | omega) (by first | assumption | exact hSD.1 | exact hSD.w _ | (rw [hKH 2 (by omega)]; exact hKP) | omega) (by first | assumption | exact hSD.1 | exact hSD.w _ | (rw [hKH 2 (by omega)]; exact hKP) | omega) (by first | assumption | exact hSD.1 | exact hSD.w _ | (rw [hKH 2 (by omega)]; exact hKP) | omega) (by first | assumption | exact hSD.1 | exact hSD.w _ | (rw [hKH 2 (by omega)]; exact hKP) | omega) (by first | assumption | exact hSD.1 | exact hSD.w _ | (rw [hKH 2 (by omega)]; exact hKP) | omega) (by first | assumption | exact hSD.1 | exact hSD.w _ | (rw [hKH 2 (by omega)]; exact hKP) | omega) (by first | assumption | exact hSD.1 | exact hSD.w _ | (rw [hKH 2 (by omega)]; exact hKP) | omega) (by first | assumption | exact hSD.1 | exact hSD.w _ | (rw [hKH 2 (by omega)]; exact hKP) | omega)) (cwV 1 ht (ts_gV wd_1587 wd_1589 wd_80 wd_134 wd_1590) rfl rfl rfl (by decide +kernel) ⟨Nat.le_of_ble_eq_true rfl, Nat.le_of_ble_eq_true rfl⟩) (gc_preV (ci := 12) (q0 := 1) hK (tw_right hP) (tw_rightD hD) rfl rfl) rfl rfl hl.1 rfl (lv_room (Nat.le_of_ble_eq_true rfl)) dX12_rings_2 ⟨Nat.le_of_ble_eq_true rfl, Nat.le_of_ble_eq_true rfl⟩) hP hD hS hA (fun r_1 wt H locs hw hP hD hS => ?_)
  obtain ⟨hT, hkp, lo_r_1, hi_r_1, rp_r_1⟩ := hw
  have hW := hW.call (show ∀ x ∈ [], x ∈ [] by decide) hkp
  have hP : va_P (gg_D G) classes ([((am 20), .inl (G.2.2 0, 110, .inl sd)), (m0, .inr (12, [.ref (am 0), .int v1, .int v2, .ref (am 3), .ref (am 4), .ref (am 5), .ref (am 6), .ref (am 7), .int v8, .int v9, .int v10, .int v11, .int v12, .int v13, .int v14, .ref (am 15), .int v16, .ref (am 17), .int v18, .ref (am 19), .ref (am 20), .int v21, .int v22, .int v23, .int v24, .int v25, .ref (am 26), .int v27, .ref (am 28), .ref (am 29), .ref (am 30), .ref (am 31), .long v32, .ref (am 33), .ref (am 34), .ref (am 35), .ref (am 36)]))] ++ wt) H := hP
  have hD : va_D A ([((am 20), .inl (G.2.2 0, 110, .inl sd)), (m0, .inr (12, [.ref (am 0), .int v1, .int v2, .ref (am 3), .ref (am 4), .ref (am 5), .ref (am 6), .ref (am 7), .int v8, .int v9, .int v10, .int v11, .int v12, .int v13, .int v14, .ref (am 15), .int v16, .ref (am 17), .int v18, .ref (am 19), .ref (am 20), .int v21, .int v22, .int v23, .int v24, .int v25, .ref (am 26), .int v27, .ref (am 28), .ref (am 29), .ref (am 30), .ref (am 31), .long v32, .ref (am 33), .ref (am 34), .ref (am 35), .ref (am 36)]))] ++ wt) := hD
  refine lv_istore_n (lv' := [(2, .int r_1), (0, .ref m0), (1, .int b)]) hx hb dX12_rings_5 rfl hl (by decide) rfl (fun ls hl => ?_)
  refine lv_iload_n hx hb dX12_rings_6 rfl (lv_at hl 0 rfl) ?_
  refine gt_callI (wr := [((am 20), .inl (G.2.2 0, 110, .inl sd)), (m0, .inr (12, [.ref (am 0), .int v1, .int v2, .ref (am 3), .ref (am 4), .ref (am 5), .ref (am 6), .ref (am 7), .int v8, .int v9, .int v10, .int v11, .int v12, .int v13, .int v14, .ref (am 15), .int v16, .ref (am 17), .int v18, .ref (am 19), .ref (am 20), .int v21, .int v22, .int v23, .int v24, .int v25, .ref (am 26), .int v27, .ref (am 28), .ref (am 29), .ref (am 30), .ref (am 31), .long v32, .ref (am 33), .ref (am 34), .ref (am 35), .ref (am 36)]))]) (va_runS (As := [.int r_1]) (rest := []) ⟨hx, hb, hml, hown, ht⟩ (d_m_bits l G Γ H.size wt hT r_1 (by omega) (by omega)) (va_cwS 1 ht (ts_gS wd_1646 wd_1647 wd_134 wd_1648) rfl rfl rfl (by decide +kernel) ⟨Nat.le_of_ble_eq_true rfl, Nat.le_of_ble_eq_true rfl⟩) (gc_preS hK (tw_right hP) (tw_rightD hD)) rfl rfl hl.1 rfl (lv_room (Nat.le_of_ble_eq_true rfl)) dX12_rings_7 ⟨Nat.le_of_ble_eq_true rfl, Nat.le_of_ble_eq_true rfl⟩) hP hD hS hA (fun r_2 wt H locs hw hP hD hS => ?_)
  obtain ⟨hT, hkp, lo_r_2, hi_r_2, rp_r_2⟩ := hw
  have hW := hW.call (show ∀ x ∈ [], x ∈ [] by decide) hkp
  have hP : va_P (gg_D G) classes ([((am 20), .inl (G.2.2 0, 110, .inl sd)), (m0, .inr (12, [.ref (am 0), .int v1, .int v2, .ref (am 3), .ref (am 4), .ref (am 5), .ref (am 6), .ref (am 7), .int v8, .int v9, .int v10, .int v11, .int v12, .int v13, .int v14, .ref (am 15), .int v16, .ref (am 17), .int v18, .ref (am 19), .ref (am 20), .int v21, .int v22, .int v23, .int v24, .int v25, .ref (am 26), .int v27, .ref (am 28), .ref (am 29), .ref (am 30), .ref (am 31), .long v32, .ref (am 33), .ref (am 34), .ref (am 35), .ref (am 36)]))] ++ wt) H := hP
  have hD : va_D A ([((am 20), .inl (G.2.2 0, 110, .inl sd)), (m0, .inr (12, [.ref (am 0), .int v1, .int v2, .ref (am 3), .ref (am 4), .ref (am 5), .ref (am 6), .ref (am 7), .int v8, .int v9, .int v10, .int v11, .int v12, .int v13, .int v14, .ref (am 15), .int v16, .ref (am 17), .int v18, .ref (am 19), .ref (am 20), .int v21, .int v22, .int v23, .int v24, .int v25, .ref (am 26), .int v27, .ref (am 28), .ref (am 29), .ref (am 30), .ref (am 31), .long v32, .ref (am 33), .ref (am 34), .ref (am 35), .ref (am 36)]))] ++ wt) := hD
  refine lv_iconst (v := 1) hx hb dX12_rings_10 (by decide +kernel) ?_
  refine lv_icmp_ne (tgt := 26) hx hb dX12_rings_11 (by decide) (fun c_3 => ?_) (fun c_3 => ?_)
  · rw [← Int32.toInt_inj] at c_3
    refine lv_aload_n hx hb dX12_rings_26 rfl (lv_at hl 1 rfl) ?_
    refine gq_get hx hb ht hown hK hP i_X12 1 rfl rfl 20 (by decide) wd_1272 rfl rfl dX12_rings_27 ?_
    refine lv_bipush (v := 36) hx hb dX12_rings_30 (by decide +kernel) ?_
    refine lv_iconst (v := 4) hx hb dX12_rings_32 (by decide +kernel) ?_
    refine lv_iload_n hx hb dX12_rings_33 rfl (lv_at hl 2 rfl) ?_
    obtain ⟨t_4, et_4⟩ : ∃ zz_ : Int32, 4 * b = zz_ := ⟨_, rfl⟩
    refine gq_imul hx hb t_4 et_4 dX12_rings_34 ?_
    have ft_4 := ia_mul et_4 (by rw [l4]; omega) (by rw [l4]; omega)
    rw [l4] at ft_4
    obtain ⟨t_5, et_5⟩ : ∃ zz_ : Int32, 36 + t_4 = zz_ := ⟨_, rfl⟩
    refine gq_iadd hx hb t_5 et_5 dX12_rings_35 ?_
    have ft_5 := ia_add et_5 (by omega) (by omega)
    refine lv_iconst (v := 1) hx hb dX12_rings_36 (by decide +kernel) ?_
    obtain ⟨f_6, ef_6⟩ : ∃ zz_ : Nat → Int32, upd sd (Int32.toNatClampNeg t_5) 1 = zz_ := ⟨_, rfl⟩
    refine gq_iast (ws' := [((am 20), .inl (G.2.2 0, 110, .inl f_6)), (m0, .inr (12, [.ref (am 0), .int v1, .int v2, .ref (am 3), .ref (am 4), .ref (am 5), .ref (am 6), .ref (am 7), .int v8, .int v9, .int v10, .int v11, .int v12, .int v13, .int v14, .ref (am 15), .int v16, .ref (am 17), .int v18, .ref (am 19), .ref (am 20), .int v21, .int v22, .int v23, .int v24, .int v25, .ref (am 26), .int v27, .ref (am 28), .ref (am 29), .ref (am 30), .ref (am 31), .long v32, .ref (am 33), .ref (am 34), .ref (am 35), .ref (am 36)]))] ++ wt) hx hb hK hP hD hS 0 rfl f_6 (ia_in (n := 110) (by omega) (by omega)) ef_6 rfl dX12_rings_37 (fun H locs hP hD hS => ?_)
    rw [show Int32.toNatClampNeg t_5 = 36 + 4 * b.toInt.toNat from ix_n (by omega)] at ef_6
    have q4 := hSD.q4 (l := b.toInt.toNat) (by omega)
    have hSD := (hSD.w _).st ef_6 (l := b.toInt.toNat) rfl (by omega) (by omega) (by omega)
    have hKH := hKH.st ef_6 (by omega) (by omega)
    have hSB := rp_r_1.keep ef_6 (by omega) (by omega) (fun b hb => by omega)
    refine lv_iconst (v := 0) hx hb dX12_rings_38 (by decide +kernel) ?_
    refine lv_istore_n (lv' := [(3, .int 0), (2, .int r_1), (0, .ref m0), (1, .int b)]) hx hb dX12_rings_39 rfl hl (by decide) rfl (fun ls hl => ?_)
    refine tl_loopE (Γ := Γ) (nL := 4) (fun (zz_ : Int32 × (Nat → Int32)) => match zz_ with | (x40_0, g40_0) => (0 ≤ x40_0.toInt) ∧ (x40_0.toInt ≤ 5) ∧ (SD g40_0) ∧ (KH sd g40_0) ∧ (SB g40_0 r_1 b.toInt)) (fun (zz_ : Int32 × (Nat → Int32)) => match zz_ with | (x40_0, g40_0) => (5 - x40_0.toInt).toNat) (fun (zz_ : Int32 × (Nat → Int32)) => match zz_ with | (x40_0, g40_0) => [(3, .int x40_0), (2, .int r_1), (0, .ref m0), (1, .int b)]) (fun (zz_ : Int32 × (Nat → Int32)) => match zz_ with | (x40_0, g40_0) => [((am 20), .inl (G.2.2 0, 110, .inl g40_0)), (m0, .inr (12, [.ref (am 0), .int v1, .int v2, .ref (am 3), .ref (am 4), .ref (am 5), .ref (am 6), .ref (am 7), .int v8, .int v9, .int v10, .int v11, .int v12, .int v13, .int v14, .ref (am 15), .int v16, .ref (am 17), .int v18, .ref (am 19), .ref (am 20), .int v21, .int v22, .int v23, .int v24, .int v25, .ref (am 26), .int v27, .ref (am 28), .ref (am 29), .ref (am 30), .ref (am 31), .long v32, .ref (am 33), .ref (am 34), .ref (am 35), .ref (am 36)]))]) (fun (zz_ : Int32 × (Nat → Int32)) (w : va_W) => match zz_ with | (x40_0, g40_0) => tk_kp [] w0 w) (fun zz_ hI H locs wt ls hT hW hP hD hS hl ih40 => ?_) (0, f_6) (show (0 ≤ (0 : Int32).toInt) ∧ ((0 : Int32).toInt ≤ 5) ∧ (SD f_6) ∧ (KH sd f_6) ∧ (SB f_6 r_1 b.toInt) from ⟨by omega, by omega, hSD, hKH, hSB⟩) _ _ wt ls hT hW hP hD hS hl
    obtain ⟨x40_0, g40_0⟩ := zz_
    have hW : tk_kp [] w0 wt := hW
    have hI : (0 ≤ x40_0.toInt) ∧ (x40_0.toInt ≤ 5) ∧ (SD g40_0) ∧ (KH sd g40_0) ∧ (SB g40_0 r_1 b.toInt) := hI
    obtain ⟨j40_0, j40_1, hSD, hKH, hSB⟩ := hI
    have hl : lv_has ls 4 [(3, .int x40_0), (2, .int r_1), (0, .ref m0), (1, .int b)] := hl
    have hP : va_P (gg_D G) classes ([((am 20), .inl (G.2.2 0, 110, .inl g40_0)), (m0, .inr (12, [.ref (am 0), .int v1, .int v2, .ref (am 3), .ref (am 4), .ref (am 5), .ref (am 6), .ref (am 7), .int v8, .int v9, .int v10, .int v11, .int v12, .int v13, .int v14, .ref (am 15), .int v16, .ref (am 17), .int v18, .ref (am 19), .ref (am 20), .int v21, .int v22, .int v23, .int v24, .int v25, .ref (am 26), .int v27, .ref (am 28), .ref (am 29), .ref (am 30), .ref (am 31), .long v32, .ref (am 33), .ref (am 34), .ref (am 35), .ref (am 36)]))] ++ wt) H := hP
    have hD : va_D A ([((am 20), .inl (G.2.2 0, 110, .inl g40_0)), (m0, .inr (12, [.ref (am 0), .int v1, .int v2, .ref (am 3), .ref (am 4), .ref (am 5), .ref (am 6), .ref (am 7), .int v8, .int v9, .int v10, .int v11, .int v12, .int v13, .int v14, .ref (am 15), .int v16, .ref (am 17), .int v18, .ref (am 19), .ref (am 20), .int v21, .int v22, .int v23, .int v24, .int v25, .ref (am 26), .int v27, .ref (am 28), .ref (am 29), .ref (am 30), .ref (am 31), .long v32, .ref (am 33), .ref (am 34), .ref (am 35), .ref (am 36)]))] ++ wt) := hD
    refine lv_iload_n hx hb dX12_rings_40 rfl (lv_at hl 0 rfl) ?_
    refine lv_aload_n hx hb dX12_rings_41 rfl (lv_at hl 2 rfl) ?_
    refine gq_get hx hb ht hown hK hP i_X12 1 rfl rfl 20 (by decide) wd_1272 rfl rfl dX12_rings_42 ?_
    refine lv_iconst (v := 1) hx hb dX12_rings_45 (by decide +kernel) ?_
    obtain ⟨n_7, en_7⟩ : ∃ zz_ : Int32, g40_0 (Int32.toNatClampNeg 1) = zz_ := ⟨_, rfl⟩
    refine gq_iald hx hb hK hP 0 rfl n_7 (ia_in (n := 110) (by omega) (by omega)) en_7 dX12_rings_46 ?_
    have En_7 : g40_0 (1) = n_7 := by rw [← show Int32.toNatClampNeg 1 = 1 from ix_n (by omega)]; exact en_7
    have hn_7 : (g40_0 (1)).toInt = n_7.toInt := by rw [En_7]
    have gn_7 := hSD.r1
    refine lv_icmp_ge (tgt := 78) hx hb dX12_rings_47 (by decide) (fun c_8 => ?_) (fun c_8 => ?_)
    · rw [Int32.le_iff_toInt_le] at c_8
      have hP9 : va_P (gg_D G) classes ([((am 20), .inl (G.2.2 0, 110, .inl g40_0)), (m0, .inr (12, [.ref (am 0), .int v1, .int v2, .ref (am 3), .ref (am 4), .ref (am 5), .ref (am 6), .ref (am 7), .int v8, .int v9, .int v10, .int v11, .int v12, .int v13, .int v14, .ref (am 15), .int v16, .ref (am 17), .int v18, .ref (am 19), .ref (am 20), .int v21, .int v22, .int v23, .int v24, .int v25, .ref (am 26), .int v27, .ref (am 28), .ref (am 29), .ref (am 30), .ref (am 31), .long v32, .ref (am 33), .ref (am 34), .ref (am 35), .ref (am 36)]))] ++ wt) _ := hP
      have hD9 : va_D A ([((am 20), .inl (G.2.2 0, 110, .inl g40_0)), (m0, .inr (12, [.ref (am 0), .int v1, .int v2, .ref (am 3), .ref (am 4), .ref (am 5), .ref (am 6), .ref (am 7), .int v8, .int v9, .int v10, .int v11, .int v12, .int v13, .int v14, .ref (am 15), .int v16, .ref (am 17), .int v18, .ref (am 19), .ref (am 20), .int v21, .int v22, .int v23, .int v24, .int v25, .ref (am 26), .int v27, .ref (am 28), .ref (am 29), .ref (am 30), .ref (am 31), .long v32, .ref (am 33), .ref (am 34), .ref (am 35), .ref (am 36)]))] ++ wt) := hD
      exact W.vret hx hb hr (gq_endV (g40_0, wt) ⟨hT, hW, hSD, hKH⟩ hP9 hD9 hS) hS.2.2 dX12_rings_78
    · rw [Int32.le_iff_toInt_le] at c_8
      refine lv_iload_n hx hb dX12_rings_50 rfl (lv_at hl 1 rfl) ?_
      refine lv_iload_n hx hb dX12_rings_51 rfl (lv_at hl 0 rfl) ?_
      refine gt_callI (wr := [((am 20), .inl (G.2.2 0, 110, .inl g40_0)), (m0, .inr (12, [.ref (am 0), .int v1, .int v2, .ref (am 3), .ref (am 4), .ref (am 5), .ref (am 6), .ref (am 7), .int v8, .int v9, .int v10, .int v11, .int v12, .int v13, .int v14, .ref (am 15), .int v16, .ref (am 17), .int v18, .ref (am 19), .ref (am 20), .int v21, .int v22, .int v23, .int v24, .int v25, .ref (am 26), .int v27, .ref (am 28), .ref (am 29), .ref (am 30), .ref (am 31), .long v32, .ref (am 33), .ref (am 34), .ref (am 35), .ref (am 36)]))]) (va_runS (As := [.int r_1, .int x40_0]) (rest := []) ⟨hx, hb, hml, hown, ht⟩ (d_m_isOf l G Γ H.size wt hT r_1 x40_0 (by omega) (by omega) (by omega) (by omega)) (va_cwS 2 ht (ts_gS wd_1635 wd_1636 wd_134 wd_1637) rfl rfl rfl (by decide +kernel) ⟨Nat.le_of_ble_eq_true rfl, Nat.le_of_ble_eq_true rfl⟩) (gc_preS hK (tw_right hP) (tw_rightD hD)) rfl rfl hl.1 rfl (lv_room (Nat.le_of_ble_eq_true rfl)) dX12_rings_52 ⟨Nat.le_of_ble_eq_true rfl, Nat.le_of_ble_eq_true rfl⟩) hP hD hS hA (fun r_9 wt H locs hw hP hD hS => ?_)
      obtain ⟨hT, hkp, lo_r_9, hi_r_9, rp_r_9⟩ := hw
      have hW := hW.call (show ∀ x ∈ [], x ∈ [] by decide) hkp
      have hP : va_P (gg_D G) classes ([((am 20), .inl (G.2.2 0, 110, .inl g40_0)), (m0, .inr (12, [.ref (am 0), .int v1, .int v2, .ref (am 3), .ref (am 4), .ref (am 5), .ref (am 6), .ref (am 7), .int v8, .int v9, .int v10, .int v11, .int v12, .int v13, .int v14, .ref (am 15), .int v16, .ref (am 17), .int v18, .ref (am 19), .ref (am 20), .int v21, .int v22, .int v23, .int v24, .int v25, .ref (am 26), .int v27, .ref (am 28), .ref (am 29), .ref (am 30), .ref (am 31), .long v32, .ref (am 33), .ref (am 34), .ref (am 35), .ref (am 36)]))] ++ wt) H := hP
      have hD : va_D A ([((am 20), .inl (G.2.2 0, 110, .inl g40_0)), (m0, .inr (12, [.ref (am 0), .int v1, .int v2, .ref (am 3), .ref (am 4), .ref (am 5), .ref (am 6), .ref (am 7), .int v8, .int v9, .int v10, .int v11, .int v12, .int v13, .int v14, .ref (am 15), .int v16, .ref (am 17), .int v18, .ref (am 19), .ref (am 20), .int v21, .int v22, .int v23, .int v24, .int v25, .ref (am 26), .int v27, .ref (am 28), .ref (am 29), .ref (am 30), .ref (am 31), .long v32, .ref (am 33), .ref (am 34), .ref (am 35), .ref (am 36)]))] ++ wt) := hD
      refine lv_if_eq (tgt := 72) hx hb dX12_rings_55 (by decide) (fun c_10 => ?_) (fun c_10 => ?_)
      · rw [← Int32.toInt_inj] at c_10
        obtain ⟨t_11, et_11⟩ : ∃ zz_ : Int32, x40_0 + Int32.ofInt (1) = zz_ := ⟨_, rfl⟩
        have ft_11 : t_11.toInt = x40_0.toInt + (1 : Int32).toInt := ia_add (y := 1) et_11 (by omega) (by omega)
        refine lv_iinc (v := t_11) (lv' := [(3, .int t_11), (2, .int r_1), (0, .ref m0), (1, .int b)]) hx hb dX12_rings_72 hl (k := 0) rfl et_11 (by decide) rfl (fun ls hl => ?_)
        refine lv_goto (tgt := 40) hx hb dX12_rings_75 (by decide) ?_
        exact ih40 (t_11, g40_0) (show (0 ≤ t_11.toInt) ∧ (t_11.toInt ≤ 5) ∧ (SD g40_0) ∧ (KH sd g40_0) ∧ (SB g40_0 r_1 b.toInt) from ⟨by omega, by omega, hSD, hKH, hSB⟩) (show (5 - t_11.toInt).toNat < (5 - x40_0.toInt).toNat by omega) H locs wt ls hT hW hP hD hS (lv_sub hl [0, 1, 2, 3] rfl)
      · rw [← Int32.toInt_inj] at c_10
        refine lv_aload_n hx hb dX12_rings_58 rfl (lv_at hl 2 rfl) ?_
        refine gq_get hx hb ht hown hK hP i_X12 1 rfl rfl 20 (by decide) wd_1272 rfl rfl dX12_rings_59 ?_
        refine lv_bipush (v := 11) hx hb dX12_rings_62 (by decide +kernel) ?_
        refine lv_iconst (v := 5) hx hb dX12_rings_64 (by decide +kernel) ?_
        refine lv_iload_n hx hb dX12_rings_65 rfl (lv_at hl 0 rfl) ?_
        obtain ⟨t_12, et_12⟩ : ∃ zz_ : Int32, 5 * x40_0 = zz_ := ⟨_, rfl⟩
        refine gq_imul hx hb t_12 et_12 dX12_rings_66 ?_
        have ft_12 := ia_mul et_12 (by rw [l5]; omega) (by rw [l5]; omega)
        rw [l5] at ft_12
        obtain ⟨t_13, et_13⟩ : ∃ zz_ : Int32, 11 + t_12 = zz_ := ⟨_, rfl⟩
        refine gq_iadd hx hb t_13 et_13 dX12_rings_67 ?_
        have ft_13 := ia_add et_13 (by omega) (by omega)
        refine lv_iconst (v := 3) hx hb dX12_rings_68 (by decide +kernel) ?_
        obtain ⟨t_14, et_14⟩ : ∃ zz_ : Int32, t_13 + 3 = zz_ := ⟨_, rfl⟩
        refine gq_iadd hx hb t_14 et_14 dX12_rings_69 ?_
        have ft_14 := ia_add et_14 (by omega) (by omega)
        refine lv_iconst (v := 1) hx hb dX12_rings_70 (by decide +kernel) ?_
        obtain ⟨f_15, ef_15⟩ : ∃ zz_ : Nat → Int32, upd g40_0 (Int32.toNatClampNeg t_14) 1 = zz_ := ⟨_, rfl⟩
        refine gq_iast (ws' := [((am 20), .inl (G.2.2 0, 110, .inl f_15)), (m0, .inr (12, [.ref (am 0), .int v1, .int v2, .ref (am 3), .ref (am 4), .ref (am 5), .ref (am 6), .ref (am 7), .int v8, .int v9, .int v10, .int v11, .int v12, .int v13, .int v14, .ref (am 15), .int v16, .ref (am 17), .int v18, .ref (am 19), .ref (am 20), .int v21, .int v22, .int v23, .int v24, .int v25, .ref (am 26), .int v27, .ref (am 28), .ref (am 29), .ref (am 30), .ref (am 31), .long v32, .ref (am 33), .ref (am 34), .ref (am 35), .ref (am 36)]))] ++ wt) hx hb hK hP hD hS 0 rfl f_15 (ia_in (n := 110) (by omega) (by omega)) ef_15 rfl dX12_rings_71 (fun H locs hP hD hS => ?_)
        rw [show Int32.toNatClampNeg t_14 = 14 + 5 * x40_0.toInt.toNat from ix_n (by omega)] at ef_15
        have hsit := hSB _ (rp_r_9.mp (by omega))
        have hSD := hSD.sil ef_15 (b := x40_0.toInt.toNat) rfl (by omega) (by omega)
        have hKH := hKH.st ef_15 (by omega) (by omega)
        have hSB := hSB.keep ef_15 (by omega) (by omega) (fun b hb => by omega)
        obtain ⟨t_16, et_16⟩ : ∃ zz_ : Int32, x40_0 + Int32.ofInt (1) = zz_ := ⟨_, rfl⟩
        have ft_16 : t_16.toInt = x40_0.toInt + (1 : Int32).toInt := ia_add (y := 1) et_16 (by omega) (by omega)
        refine lv_iinc (v := t_16) (lv' := [(3, .int t_16), (2, .int r_1), (0, .ref m0), (1, .int b)]) hx hb dX12_rings_72 hl (k := 0) rfl et_16 (by decide) rfl (fun ls hl => ?_)
        refine lv_goto (tgt := 40) hx hb dX12_rings_75 (by decide) ?_
        exact ih40 (t_16, f_15) (show (0 ≤ t_16.toInt) ∧ (t_16.toInt ≤ 5) ∧ (SD f_15) ∧ (KH sd f_15) ∧ (SB f_15 r_1 b.toInt) from ⟨by omega, by omega, hSD, hKH, hSB⟩) (show (5 - t_16.toInt).toNat < (5 - x40_0.toInt).toNat by omega) H locs wt ls hT hW hP hD hS (lv_sub hl [0, 1, 2, 3] rfl)
  · rw [← Int32.toInt_inj] at c_3
    refine lv_aload_n hx hb dX12_rings_14 rfl (lv_at hl 1 rfl) ?_
    refine lv_iload_n hx hb dX12_rings_15 rfl (lv_at hl 2 rfl) ?_
    refine lv_aload_n hx hb dX12_rings_16 rfl (lv_at hl 1 rfl) ?_
    refine lv_iload_n hx hb dX12_rings_17 rfl (lv_at hl 0 rfl) ?_
    have hP : va_P (gg_D G) classes ([((am 20), .inl (G.2.2 0, 110, .inl sd))] ++ ([(m0, .inr (12, [.ref (am 0), .int v1, .int v2, .ref (am 3), .ref (am 4), .ref (am 5), .ref (am 6), .ref (am 7), .int v8, .int v9, .int v10, .int v11, .int v12, .int v13, .int v14, .ref (am 15), .int v16, .ref (am 17), .int v18, .ref (am 19), .ref (am 20), .int v21, .int v22, .int v23, .int v24, .int v25, .ref (am 26), .int v27, .ref (am 28), .ref (am 29), .ref (am 30), .ref (am 31), .long v32, .ref (am 33), .ref (am 34), .ref (am 35), .ref (am 36)]))] ++ wt)) H := hP
    have hD : va_D A ([((am 20), .inl (G.2.2 0, 110, .inl sd))] ++ ([(m0, .inr (12, [.ref (am 0), .int v1, .int v2, .ref (am 3), .ref (am 4), .ref (am 5), .ref (am 6), .ref (am 7), .int v8, .int v9, .int v10, .int v11, .int v12, .int v13, .int v14, .ref (am 15), .int v16, .ref (am 17), .int v18, .ref (am 19), .ref (am 20), .int v21, .int v22, .int v23, .int v24, .int v25, .ref (am 26), .int v27, .ref (am 28), .ref (am 29), .ref (am 30), .ref (am 31), .long v32, .ref (am 33), .ref (am 34), .ref (am 35), .ref (am 36)]))] ++ wt)) := hD
    refine gt_callI (wr := [((am 20), .inl (G.2.2 0, 110, .inl sd))]) (va_runV (As := [.int r_1]) (rest := [.int b, .ref m0]) ⟨hx, hb, hml, hown, ht⟩ (d_m_firstOf l G Γ H.size wt hT r_1 m0 am v1 v2 v8 v9 v10 v11 v12 v13 v14 v16 v18 v21 v22 v23 v24 v25 v27 v32 (by omega) (by omega) (by first | assumption | exact hSD.1 | exact hSD.w _ | (rw [hKH 2 (by omega)]; exact hKP) | omega) (by first | assumption | exact hSD.1 | exact hSD.w _ | (rw [hKH 2 (by omega)]; exact hKP) | omega) (by first | assumption | exact hSD.1 | exact hSD.w _ | (rw [hKH 2 (by omega)]; exact hKP) | omega) (by first | assumption | exact hSD.1 | exact hSD.w _ | (rw [hKH 2 (by omega)]; exact hKP) | omega) (by first | assumption | exact hSD.1 | exact hSD.w _ | (rw [hKH 2 (by omega)]; exact hKP) | omega) (by first | assumption | exact hSD.1 | exact hSD.w _ | (rw [hKH 2 (by omega)]; exact hKP) | omega) (by first | assumption | exact hSD.1 | exact hSD.w _ | (rw [hKH 2 (by omega)]; exact hKP) | omega) (by first | assumption | exact hSD.1 | exact hSD.w _ | (rw [hKH 2 (by omega)]; exact hKP) | omega) (by first | assumption | exact hSD.1 | exact hSD.w _ | (rw [hKH 2 (by omega)]; exact hKP) | omega) (by first | assumption | exact hSD.1 | exact hSD.w _ | (rw [hKH 2 (by omega)]; exact hKP) | omega) (by first | assumption | exact hSD.1 | exact hSD.w _ | (rw [hKH 2 (by omega)]; exact hKP) | omega) (by first | assumption | exact hSD.1 | exact hSD.w _ | (rw [hKH 2 (by omega)]; exact hKP) | omega) (by first | assumption | exact hSD.1 | exact hSD.w _ | (rw [hKH 2 (by omega)]; exact hKP) | omega) (by first | assumption | exact hSD.1 | exact hSD.w _ | (rw [hKH 2 (by omega)]; exact hKP) | omega) (by first | assumption | exact hSD.1 | exact hSD.w _ | (rw [hKH 2 (by omega)]; exact hKP) | omega) (by first | assumption | exact hSD.1 | exact hSD.w _ | (rw [hKH 2 (by omega)]; exact hKP) | omega) (by first | assumption | exact hSD.1 | exact hSD.w _ | (rw [hKH 2 (by omega)]; exact hKP) | omega) (by first | assumption | exact hSD.1 | exact hSD.w _ | (rw [hKH 2 (by omega)]; exact hKP) | omega) (by first | assumption | exact hSD.1 | exact hSD.w _ | (rw [hKH 2 (by omega)]; exact hKP) | omega) (by first | assumption | exact hSD.1 | exact hSD.w _ | (rw [hKH 2 (by omega)]; exact hKP) | omega) (by first | assumption | exact hSD.1 | exact hSD.w _ | (rw [hKH 2 (by omega)]; exact hKP) | omega) (by first | assumption | exact hSD.1 | exact hSD.w _ | (rw [hKH 2 (by omega)]; exact hKP) | omega) (by first | assumption | exact hSD.1 | exact hSD.w _ | (rw [hKH 2 (by omega)]; exact hKP) | omega)) (cwV 1 ht (ts_gV wd_1668 wd_1670 wd_94 wd_134 wd_1671) rfl rfl rfl (by decide +kernel) ⟨Nat.le_of_ble_eq_true rfl, Nat.le_of_ble_eq_true rfl⟩) (gc_preV (ci := 12) (q0 := 0) hK (tw_right hP) (tw_rightD hD) rfl rfl) rfl rfl hl.1 rfl (lv_room (Nat.le_of_ble_eq_true rfl)) dX12_rings_18 ⟨Nat.le_of_ble_eq_true rfl, Nat.le_of_ble_eq_true rfl⟩) hP hD hS hA (fun r_17 wt H locs hw hP hD hS => ?_)
    obtain ⟨hT, hkp, lo_r_17, hi_r_17⟩ := hw
    have hW := hW.call (show ∀ x ∈ [], x ∈ [] by decide) hkp
    have hP : va_P (gg_D G) classes ([((am 20), .inl (G.2.2 0, 110, .inl sd)), (m0, .inr (12, [.ref (am 0), .int v1, .int v2, .ref (am 3), .ref (am 4), .ref (am 5), .ref (am 6), .ref (am 7), .int v8, .int v9, .int v10, .int v11, .int v12, .int v13, .int v14, .ref (am 15), .int v16, .ref (am 17), .int v18, .ref (am 19), .ref (am 20), .int v21, .int v22, .int v23, .int v24, .int v25, .ref (am 26), .int v27, .ref (am 28), .ref (am 29), .ref (am 30), .ref (am 31), .long v32, .ref (am 33), .ref (am 34), .ref (am 35), .ref (am 36)]))] ++ wt) H := hP
    have hD : va_D A ([((am 20), .inl (G.2.2 0, 110, .inl sd)), (m0, .inr (12, [.ref (am 0), .int v1, .int v2, .ref (am 3), .ref (am 4), .ref (am 5), .ref (am 6), .ref (am 7), .int v8, .int v9, .int v10, .int v11, .int v12, .int v13, .int v14, .ref (am 15), .int v16, .ref (am 17), .int v18, .ref (am 19), .ref (am 20), .int v21, .int v22, .int v23, .int v24, .int v25, .ref (am 26), .int v27, .ref (am 28), .ref (am 29), .ref (am 30), .ref (am 31), .long v32, .ref (am 33), .ref (am 34), .ref (am 35), .ref (am 36)]))] ++ wt) := hD
    refine lv_iconst (v := 0) hx hb dX12_rings_21 (by decide +kernel) ?_
    have hP : va_P (gg_D G) classes ([] ++ ([((am 20), .inl (G.2.2 0, 110, .inl sd)), (m0, .inr (12, [.ref (am 0), .int v1, .int v2, .ref (am 3), .ref (am 4), .ref (am 5), .ref (am 6), .ref (am 7), .int v8, .int v9, .int v10, .int v11, .int v12, .int v13, .int v14, .ref (am 15), .int v16, .ref (am 17), .int v18, .ref (am 19), .ref (am 20), .int v21, .int v22, .int v23, .int v24, .int v25, .ref (am 26), .int v27, .ref (am 28), .ref (am 29), .ref (am 30), .ref (am 31), .long v32, .ref (am 33), .ref (am 34), .ref (am 35), .ref (am 36)]))] ++ wt)) H := hP
    have hD : va_D A ([] ++ ([((am 20), .inl (G.2.2 0, 110, .inl sd)), (m0, .inr (12, [.ref (am 0), .int v1, .int v2, .ref (am 3), .ref (am 4), .ref (am 5), .ref (am 6), .ref (am 7), .int v8, .int v9, .int v10, .int v11, .int v12, .int v13, .int v14, .ref (am 15), .int v16, .ref (am 17), .int v18, .ref (am 19), .ref (am 20), .int v21, .int v22, .int v23, .int v24, .int v25, .ref (am 26), .int v27, .ref (am 28), .ref (am 29), .ref (am 30), .ref (am 31), .long v32, .ref (am 33), .ref (am 34), .ref (am 35), .ref (am 36)]))] ++ wt)) := hD
    refine gt_callV (wr := []) (va_runV (As := [.int b, .int r_17, .int 0]) (rest := []) ⟨hx, hb, hml, hown, ht⟩ (d_m_closes l G Γ H.size wt hT b r_17 0 m0 am v1 v2 v8 v9 v10 v11 v12 v13 v14 v16 v18 v21 v22 v23 v24 v25 v27 v32 sd (by omega) (by omega) (by omega) (by omega) (by first | assumption | exact hSD.1 | exact hSD.w _ | (rw [hKH 2 (by omega)]; exact hKP) | omega) (by first | assumption | exact hSD.1 | exact hSD.w _ | (rw [hKH 2 (by omega)]; exact hKP) | omega) (by first | assumption | exact hSD.1 | exact hSD.w _ | (rw [hKH 2 (by omega)]; exact hKP) | omega) (by first | assumption | exact hSD.1 | exact hSD.w _ | (rw [hKH 2 (by omega)]; exact hKP) | omega) (by first | assumption | exact hSD.1 | exact hSD.w _ | (rw [hKH 2 (by omega)]; exact hKP) | omega) (by first | assumption | exact hSD.1 | exact hSD.w _ | (rw [hKH 2 (by omega)]; exact hKP) | omega) (by first | assumption | exact hSD.1 | exact hSD.w _ | (rw [hKH 2 (by omega)]; exact hKP) | omega) (by first | assumption | exact hSD.1 | exact hSD.w _ | (rw [hKH 2 (by omega)]; exact hKP) | omega) (by first | assumption | exact hSD.1 | exact hSD.w _ | (rw [hKH 2 (by omega)]; exact hKP) | omega) (by first | assumption | exact hSD.1 | exact hSD.w _ | (rw [hKH 2 (by omega)]; exact hKP) | omega) (by first | assumption | exact hSD.1 | exact hSD.w _ | (rw [hKH 2 (by omega)]; exact hKP) | omega) (by first | assumption | exact hSD.1 | exact hSD.w _ | (rw [hKH 2 (by omega)]; exact hKP) | omega) (by first | assumption | exact hSD.1 | exact hSD.w _ | (rw [hKH 2 (by omega)]; exact hKP) | omega) (by first | assumption | exact hSD.1 | exact hSD.w _ | (rw [hKH 2 (by omega)]; exact hKP) | omega) (by first | assumption | exact hSD.1 | exact hSD.w _ | (rw [hKH 2 (by omega)]; exact hKP) | omega) (by first | assumption | exact hSD.1 | exact hSD.w _ | (rw [hKH 2 (by omega)]; exact hKP) | omega) (by first | assumption | exact hSD.1 | exact hSD.w _ | (rw [hKH 2 (by omega)]; exact hKP) | omega) (by first | assumption | exact hSD.1 | exact hSD.w _ | (rw [hKH 2 (by omega)]; exact hKP) | omega) (by first | assumption | exact hSD.1 | exact hSD.w _ | (rw [hKH 2 (by omega)]; exact hKP) | omega) (by first | assumption | exact hSD.1 | exact hSD.w _ | (rw [hKH 2 (by omega)]; exact hKP) | omega) (by first | assumption | exact hSD.1 | exact hSD.w _ | (rw [hKH 2 (by omega)]; exact hKP) | omega) (by first | assumption | exact hSD.1 | exact hSD.w _ | (rw [hKH 2 (by omega)]; exact hKP) | omega) (by first | assumption | exact hSD.1 | exact hSD.w _ | (rw [hKH 2 (by omega)]; exact hKP) | omega) (by first | assumption | exact hSD.1 | exact hSD.w _ | (rw [hKH 2 (by omega)]; exact hKP) | omega)) (cwV 3 ht (ts_gV wd_1672 wd_1674 wd_95 wd_134 wd_1675) rfl rfl rfl (by decide +kernel) ⟨Nat.le_of_ble_eq_true rfl, Nat.le_of_ble_eq_true rfl⟩) (gc_preV (ci := 12) (q0 := 1) hK (tw_right hP) (tw_rightD hD) rfl rfl) rfl rfl hl.1 rfl (lv_room (Nat.le_of_ble_eq_true rfl)) dX12_rings_22 ⟨Nat.le_of_ble_eq_true rfl, Nat.le_of_ble_eq_true rfl⟩) hP hD hS hA (fun u H locs hw hP hD hS => ?_)
    obtain ⟨y_18, wt⟩ := u
    obtain ⟨hT, hkp, w_19, w_20, w_21, w_22⟩ := hw
    have hW := hW.call (show ∀ x ∈ [], x ∈ [] by decide) hkp
    have hP : va_P (gg_D G) classes ([((am 20), .inl (G.2.2 0, 110, .inl y_18)), (m0, .inr (12, [.ref (am 0), .int v1, .int v2, .ref (am 3), .ref (am 4), .ref (am 5), .ref (am 6), .ref (am 7), .int v8, .int v9, .int v10, .int v11, .int v12, .int v13, .int v14, .ref (am 15), .int v16, .ref (am 17), .int v18, .ref (am 19), .ref (am 20), .int v21, .int v22, .int v23, .int v24, .int v25, .ref (am 26), .int v27, .ref (am 28), .ref (am 29), .ref (am 30), .ref (am 31), .long v32, .ref (am 33), .ref (am 34), .ref (am 35), .ref (am 36)]))] ++ wt) H := hP
    have hD : va_D A ([((am 20), .inl (G.2.2 0, 110, .inl y_18)), (m0, .inr (12, [.ref (am 0), .int v1, .int v2, .ref (am 3), .ref (am 4), .ref (am 5), .ref (am 6), .ref (am 7), .int v8, .int v9, .int v10, .int v11, .int v12, .int v13, .int v14, .ref (am 15), .int v16, .ref (am 17), .int v18, .ref (am 19), .ref (am 20), .int v21, .int v22, .int v23, .int v24, .int v25, .ref (am 26), .int v27, .ref (am 28), .ref (am 29), .ref (am 30), .ref (am 31), .long v32, .ref (am 33), .ref (am 34), .ref (am 35), .ref (am 36)]))] ++ wt) := hD
    have c_SD := w_19
    have hSD := w_19
    have c_KH := w_20
    have hKH := hKH.tr w_20
    have c_LF := w_21
    have c_S2 := w_22
    have hP9 : va_P (gg_D G) classes ([((am 20), .inl (G.2.2 0, 110, .inl y_18)), (m0, .inr (12, [.ref (am 0), .int v1, .int v2, .ref (am 3), .ref (am 4), .ref (am 5), .ref (am 6), .ref (am 7), .int v8, .int v9, .int v10, .int v11, .int v12, .int v13, .int v14, .ref (am 15), .int v16, .ref (am 17), .int v18, .ref (am 19), .ref (am 20), .int v21, .int v22, .int v23, .int v24, .int v25, .ref (am 26), .int v27, .ref (am 28), .ref (am 29), .ref (am 30), .ref (am 31), .long v32, .ref (am 33), .ref (am 34), .ref (am 35), .ref (am 36)]))] ++ wt) _ := hP
    have hD9 : va_D A ([((am 20), .inl (G.2.2 0, 110, .inl y_18)), (m0, .inr (12, [.ref (am 0), .int v1, .int v2, .ref (am 3), .ref (am 4), .ref (am 5), .ref (am 6), .ref (am 7), .int v8, .int v9, .int v10, .int v11, .int v12, .int v13, .int v14, .ref (am 15), .int v16, .ref (am 17), .int v18, .ref (am 19), .ref (am 20), .int v21, .int v22, .int v23, .int v24, .int v25, .ref (am 26), .int v27, .ref (am 28), .ref (am 29), .ref (am 30), .ref (am 31), .long v32, .ref (am 33), .ref (am 34), .ref (am 35), .ref (am 36)]))] ++ wt) := hD
    exact W.vret hx hb hr (gq_endV (y_18, wt) ⟨hT, hW, hSD, hKH⟩ hP9 hD9 hS) hS.2.2 dX12_rings_25
set_option maxHeartbeats 4000000 in
set_option maxRecDepth 100000 in
theorem d_m_keeps (l : Launch) (G : gg_T) (Γ : Nat → Nat) (sz : Nat) (wt : va_W) (hT : tk_ty G Γ wt) (m0 : Nat) (am : Nat → Nat) (v1 : Int32) (v2 : Int32) (v8 : Int32) (v9 : Int32) (v10 : Int32) (v11 : Int32) (v12 : Int32) (v13 : Int32) (v14 : Int32) (v16 : Int32) (v18 : Int32) (v21 : Int32) (v22 : Int32) (v23 : Int32) (v24 : Int32) (v25 : Int32) (v27 : Int32) (v32 : Int64) (kp : Nat → Int32) (sd : Nat → Int32) (k17 : Γ (am 17) = 32) (k19 : Γ (am 19) = 30) (k30 : Γ (am 30) = 28) (k31 : Γ (am 31) = 28) (lo_v1 : 0 ≤ v1.toInt) (hi_v1 : v1.toInt ≤ 400) (lo_v2 : 0 ≤ v2.toInt) (hi_v2 : v2.toInt ≤ 6) (lo_v8 : 0 ≤ v8.toInt) (hi_v8 : v8.toInt ≤ 400) (lo_v11 : 0 ≤ v11.toInt) (hi_v11 : v11.toInt ≤ 6) (lo_v12 : 0 ≤ v12.toInt) (hi_v12 : v12.toInt ≤ 60) (lo_v16 : 0 ≤ v16.toInt) (hi_v16 : v16.toInt ≤ 400) (lo_v21 : -1 ≤ v21.toInt) (hi_v21 : v21.toInt ≤ 5) (lo_v23 : 0 ≤ v23.toInt) (hi_v23 : v23.toInt ≤ 31) (lo_v27 : 0 ≤ v27.toInt) (hi_v27 : v27.toInt ≤ 20) (xfr : v21.toInt < v2.toInt) (hSD : SD sd) : Met l yX12_keeps (ts_L yX12_keeps cX12_keeps 2 none) ({ frames := 0, cells := 0, slots := 0, locals := 0 }) (gc_P G ([((am 28), .inl (G.2.2 0, 38, .inl kp)), ((am 20), .inl (G.2.2 0, 110, .inl sd)), (m0, .inr (12, [.ref (am 0), .int v1, .int v2, .ref (am 3), .ref (am 4), .ref (am 5), .ref (am 6), .ref (am 7), .int v8, .int v9, .int v10, .int v11, .int v12, .int v13, .int v14, .ref (am 15), .int v16, .ref (am 17), .int v18, .ref (am 19), .ref (am 20), .int v21, .int v22, .int v23, .int v24, .int v25, .ref (am 26), .int v27, .ref (am 28), .ref (am 29), .ref (am 30), .ref (am 31), .long v32, .ref (am 33), .ref (am 34), .ref (am 35), .ref (am 36)]))] ++ wt) sz [.ref m0]) (gc_V G (va_A ([((am 28), .inl (G.2.2 0, 38, .inl kp)), ((am 20), .inl (G.2.2 0, 110, .inl sd)), (m0, .inr (12, [.ref (am 0), .int v1, .int v2, .ref (am 3), .ref (am 4), .ref (am 5), .ref (am 6), .ref (am 7), .int v8, .int v9, .int v10, .int v11, .int v12, .int v13, .int v14, .ref (am 15), .int v16, .ref (am 17), .int v18, .ref (am 19), .ref (am 20), .int v21, .int v22, .int v23, .int v24, .int v25, .ref (am 26), .int v27, .ref (am 28), .ref (am 29), .ref (am 30), .ref (am 31), .long v32, .ref (am 33), .ref (am 34), .ref (am 35), .ref (am 36)]))] ++ wt) sz) (fun (u : (Nat → Int32) × va_W) => match u with | (kp1, wt1) => tk_ty G Γ wt1 ∧ tk_kp [] wt wt1 ∧ (SL kp1 0 (sd 2).toInt)) (fun (u : (Nat → Int32) × va_W) => match u with | (kp1, wt1) => [((am 28), .inl (G.2.2 0, 38, .inl kp1)), ((am 20), .inl (G.2.2 0, 110, .inl sd)), (m0, .inr (12, [.ref (am 0), .int v1, .int v2, .ref (am 3), .ref (am 4), .ref (am 5), .ref (am 6), .ref (am 7), .int v8, .int v9, .int v10, .int v11, .int v12, .int v13, .int v14, .ref (am 15), .int v16, .ref (am 17), .int v18, .ref (am 19), .ref (am 20), .int v21, .int v22, .int v23, .int v24, .int v25, .ref (am 26), .int v27, .ref (am 28), .ref (am 29), .ref (am 30), .ref (am 31), .long v32, .ref (am 33), .ref (am 34), .ref (am 35), .ref (am 36)]))] ++ wt1)) 0 0 (va_A ([((am 28), .inl (G.2.2 0, 38, .inl kp)), ((am 20), .inl (G.2.2 0, 110, .inl sd)), (m0, .inr (12, [.ref (am 0), .int v1, .int v2, .ref (am 3), .ref (am 4), .ref (am 5), .ref (am 6), .ref (am 7), .int v8, .int v9, .int v10, .int v11, .int v12, .int v13, .int v14, .ref (am 15), .int v16, .ref (am 17), .int v18, .ref (am 19), .ref (am 20), .int v21, .int v22, .int v23, .int v24, .int v25, .ref (am 26), .int v27, .ref (am 28), .ref (am 29), .ref (am 30), .ref (am 31), .long v32, .ref (am 33), .ref (am 34), .ref (am 35), .ref (am 36)]))] ++ wt) sz) := by
  refine Met.ofW (cc := cX12_keeps) (maxL := 2) (ret := none) (by decide) rfl ?_
  intro p e s m args below meth c s₁ B hml hv
  obtain ⟨rfl, hsz, hP, hK, hD0⟩ := hv
  have hx := B.exec
  have hb := B.bytes
  have hr := B.returns
  have ht := ts_ht (atoms_spec (ws := ts_L yX12_keeps cX12_keeps 2 none) B.pre)
  have hown : s.vm.findClass RX12 = some m.cls := findClass_of_methodNamed B.named
  have hlocks := B.notSynchronized
  subst hsz
  have hD := hD0.self (sz := s.heap.size)
  generalize hAe : va_A ([((am 28), .inl (G.2.2 0, 38, .inl kp)), ((am 20), .inl (G.2.2 0, 110, .inl sd)), (m0, .inr (12, [.ref (am 0), .int v1, .int v2, .ref (am 3), .ref (am 4), .ref (am 5), .ref (am 6), .ref (am 7), .int v8, .int v9, .int v10, .int v11, .int v12, .int v13, .int v14, .ref (am 15), .int v16, .ref (am 17), .int v18, .ref (am 19), .ref (am 20), .int v21, .int v22, .int v23, .int v24, .int v25, .ref (am 26), .int v27, .ref (am 28), .ref (am 29), .ref (am 30), .ref (am 31), .long v32, .ref (am 33), .ref (am 34), .ref (am 35), .ref (am 36)]))] ++ wt) s.heap.size = A at hD ⊢
  have hA : ∀ q : Nat, s.heap.size ≤ q → A q := fun q h => by rw [← hAe]; exact Or.inr h
  clear hAe hD0
  have hS : va_S A s.heap s.heap [] := va_S.rf
  obtain ⟨w0, hw0⟩ : ∃ z, z = wt := ⟨_, rfl⟩
  have hW : tk_kp [] w0 wt := by rw [hw0]; exact tk_kp.rf
  rw [← hw0]
  clear hw0
  have hP : va_P (gg_D G) classes ([((am 28), .inl (G.2.2 0, 38, .inl kp)), ((am 20), .inl (G.2.2 0, 110, .inl sd)), (m0, .inr (12, [.ref (am 0), .int v1, .int v2, .ref (am 3), .ref (am 4), .ref (am 5), .ref (am 6), .ref (am 7), .int v8, .int v9, .int v10, .int v11, .int v12, .int v13, .int v14, .ref (am 15), .int v16, .ref (am 17), .int v18, .ref (am 19), .ref (am 20), .int v21, .int v22, .int v23, .int v24, .int v25, .ref (am 26), .int v27, .ref (am 28), .ref (am 29), .ref (am 30), .ref (am 31), .long v32, .ref (am 33), .ref (am 34), .ref (am 35), .ref (am 36)]))] ++ wt) s.heap := hP
  have hD : va_D A ([((am 28), .inl (G.2.2 0, 38, .inl kp)), ((am 20), .inl (G.2.2 0, 110, .inl sd)), (m0, .inr (12, [.ref (am 0), .int v1, .int v2, .ref (am 3), .ref (am 4), .ref (am 5), .ref (am 6), .ref (am 7), .int v8, .int v9, .int v10, .int v11, .int v12, .int v13, .int v14, .ref (am 15), .int v16, .ref (am 17), .int v18, .ref (am 19), .ref (am 20), .int v21, .int v22, .int v23, .int v24, .int v25, .ref (am 26), .int v27, .ref (am 28), .ref (am 29), .ref (am 30), .ref (am 31), .long v32, .ref (am 33), .ref (am 34), .ref (am 35), .ref (am 36)]))] ++ wt) := hD
  have hl := lv_entry ([.ref m0]) (n := 2) (Nat.le_of_ble_eq_true rfl)
  rw [lg_entry_eq]
  generalize (lg_sl ([.ref m0]) ++ List.replicate (2 - (lg_sl ([.ref m0])).length) Slot.unset).toArray = ls at hl ⊢
  have hl : lv_has ls 2 [(0, .ref m0)] := hl
  have hKH : KH sd sd := KH.rf
  have l0 : (0 : Int32).toInt = 0 := by decide +kernel
  have l1 : (1 : Int32).toInt = 1 := by decide +kernel
  have l10 : (10 : Int32).toInt = 10 := by decide +kernel
  have l38 : (38 : Int32).toInt = 38 := by decide +kernel
  refine lv_iconst (v := 0) hx hb dX12_keeps_0 (by decide +kernel) ?_
  refine lv_istore_n (lv' := [(1, .int 0), (0, .ref m0)]) hx hb dX12_keeps_1 rfl hl (by decide) rfl (fun ls hl => ?_)
  have hCP : CP kp sd 0 10 (0 : Int32).toInt := CP.z
  refine tl_loopE (Γ := Γ) (nL := 2) (fun (zz_ : Int32 × (Nat → Int32)) => match zz_ with | (x2_0, g2_0) => (0 ≤ x2_0.toInt) ∧ (x2_0.toInt ≤ 38) ∧ (CP g2_0 sd 0 10 x2_0.toInt)) (fun (zz_ : Int32 × (Nat → Int32)) => match zz_ with | (x2_0, g2_0) => (38 - x2_0.toInt).toNat) (fun (zz_ : Int32 × (Nat → Int32)) => match zz_ with | (x2_0, g2_0) => [(1, .int x2_0), (0, .ref m0)]) (fun (zz_ : Int32 × (Nat → Int32)) => match zz_ with | (x2_0, g2_0) => [((am 28), .inl (G.2.2 0, 38, .inl g2_0)), ((am 20), .inl (G.2.2 0, 110, .inl sd)), (m0, .inr (12, [.ref (am 0), .int v1, .int v2, .ref (am 3), .ref (am 4), .ref (am 5), .ref (am 6), .ref (am 7), .int v8, .int v9, .int v10, .int v11, .int v12, .int v13, .int v14, .ref (am 15), .int v16, .ref (am 17), .int v18, .ref (am 19), .ref (am 20), .int v21, .int v22, .int v23, .int v24, .int v25, .ref (am 26), .int v27, .ref (am 28), .ref (am 29), .ref (am 30), .ref (am 31), .long v32, .ref (am 33), .ref (am 34), .ref (am 35), .ref (am 36)]))]) (fun (zz_ : Int32 × (Nat → Int32)) (w : va_W) => match zz_ with | (x2_0, g2_0) => tk_kp [] w0 w) (fun zz_ hI H locs wt ls hT hW hP hD hS hl ih2 => ?_) (0, kp) (show (0 ≤ (0 : Int32).toInt) ∧ ((0 : Int32).toInt ≤ 38) ∧ (CP kp sd 0 10 (0 : Int32).toInt) from ⟨by omega, by omega, hCP⟩) _ _ wt ls hT hW hP hD hS hl
  obtain ⟨x2_0, g2_0⟩ := zz_
  have hW : tk_kp [] w0 wt := hW
  have hI : (0 ≤ x2_0.toInt) ∧ (x2_0.toInt ≤ 38) ∧ (CP g2_0 sd 0 10 x2_0.toInt) := hI
  obtain ⟨j2_0, j2_1, hCP⟩ := hI
  have hl : lv_has ls 2 [(1, .int x2_0), (0, .ref m0)] := hl
  have hP : va_P (gg_D G) classes ([((am 28), .inl (G.2.2 0, 38, .inl g2_0)), ((am 20), .inl (G.2.2 0, 110, .inl sd)), (m0, .inr (12, [.ref (am 0), .int v1, .int v2, .ref (am 3), .ref (am 4), .ref (am 5), .ref (am 6), .ref (am 7), .int v8, .int v9, .int v10, .int v11, .int v12, .int v13, .int v14, .ref (am 15), .int v16, .ref (am 17), .int v18, .ref (am 19), .ref (am 20), .int v21, .int v22, .int v23, .int v24, .int v25, .ref (am 26), .int v27, .ref (am 28), .ref (am 29), .ref (am 30), .ref (am 31), .long v32, .ref (am 33), .ref (am 34), .ref (am 35), .ref (am 36)]))] ++ wt) H := hP
  have hD : va_D A ([((am 28), .inl (G.2.2 0, 38, .inl g2_0)), ((am 20), .inl (G.2.2 0, 110, .inl sd)), (m0, .inr (12, [.ref (am 0), .int v1, .int v2, .ref (am 3), .ref (am 4), .ref (am 5), .ref (am 6), .ref (am 7), .int v8, .int v9, .int v10, .int v11, .int v12, .int v13, .int v14, .ref (am 15), .int v16, .ref (am 17), .int v18, .ref (am 19), .ref (am 20), .int v21, .int v22, .int v23, .int v24, .int v25, .ref (am 26), .int v27, .ref (am 28), .ref (am 29), .ref (am 30), .ref (am 31), .long v32, .ref (am 33), .ref (am 34), .ref (am 35), .ref (am 36)]))] ++ wt) := hD
  refine lv_iload_n hx hb dX12_keeps_2 rfl (lv_at hl 0 rfl) ?_
  refine lv_bipush (v := 38) hx hb dX12_keeps_3 (by decide +kernel) ?_
  refine lv_icmp_ge (tgt := 29) hx hb dX12_keeps_5 (by decide) (fun c_1 => ?_) (fun c_1 => ?_)
  · rw [Int32.le_iff_toInt_le] at c_1
    have hP9 : va_P (gg_D G) classes ([((am 28), .inl (G.2.2 0, 38, .inl g2_0)), ((am 20), .inl (G.2.2 0, 110, .inl sd)), (m0, .inr (12, [.ref (am 0), .int v1, .int v2, .ref (am 3), .ref (am 4), .ref (am 5), .ref (am 6), .ref (am 7), .int v8, .int v9, .int v10, .int v11, .int v12, .int v13, .int v14, .ref (am 15), .int v16, .ref (am 17), .int v18, .ref (am 19), .ref (am 20), .int v21, .int v22, .int v23, .int v24, .int v25, .ref (am 26), .int v27, .ref (am 28), .ref (am 29), .ref (am 30), .ref (am 31), .long v32, .ref (am 33), .ref (am 34), .ref (am 35), .ref (am 36)]))] ++ wt) _ := hP
    have hD9 : va_D A ([((am 28), .inl (G.2.2 0, 38, .inl g2_0)), ((am 20), .inl (G.2.2 0, 110, .inl sd)), (m0, .inr (12, [.ref (am 0), .int v1, .int v2, .ref (am 3), .ref (am 4), .ref (am 5), .ref (am 6), .ref (am 7), .int v8, .int v9, .int v10, .int v11, .int v12, .int v13, .int v14, .ref (am 15), .int v16, .ref (am 17), .int v18, .ref (am 19), .ref (am 20), .int v21, .int v22, .int v23, .int v24, .int v25, .ref (am 26), .int v27, .ref (am 28), .ref (am 29), .ref (am 30), .ref (am 31), .long v32, .ref (am 33), .ref (am 34), .ref (am 35), .ref (am 36)]))] ++ wt) := hD
    exact W.vret hx hb hr (gq_endV (g2_0, wt) ⟨hT, hW, (SL.copy hSD.2 (fun i hi => by have := hCP i (by omega); exact this))⟩ hP9 hD9 hS) hS.2.2 dX12_keeps_29
  · rw [Int32.le_iff_toInt_le] at c_1
    refine lv_aload_n hx hb dX12_keeps_8 rfl (lv_at hl 1 rfl) ?_
    refine gq_get hx hb ht hown hK hP i_X12 2 rfl rfl 28 (by decide) wd_1280 rfl rfl dX12_keeps_9 ?_
    refine lv_iload_n hx hb dX12_keeps_12 rfl (lv_at hl 0 rfl) ?_
    refine lv_aload_n hx hb dX12_keeps_13 rfl (lv_at hl 1 rfl) ?_
    refine gq_get hx hb ht hown hK hP i_X12 2 rfl rfl 20 (by decide) wd_1272 rfl rfl dX12_keeps_14 ?_
    refine lv_bipush (v := 10) hx hb dX12_keeps_17 (by decide +kernel) ?_
    refine lv_iload_n hx hb dX12_keeps_19 rfl (lv_at hl 0 rfl) ?_
    obtain ⟨t_2, et_2⟩ : ∃ zz_ : Int32, 10 + x2_0 = zz_ := ⟨_, rfl⟩
    refine gq_iadd hx hb t_2 et_2 dX12_keeps_20 ?_
    have ft_2 := ia_add et_2 (by omega) (by omega)
    obtain ⟨n_3, en_3⟩ : ∃ zz_ : Int32, sd (Int32.toNatClampNeg t_2) = zz_ := ⟨_, rfl⟩
    refine gq_iald hx hb hK hP 1 rfl n_3 (ia_in (n := 110) (by omega) (by omega)) en_3 dX12_keeps_21 ?_
    have En_3 : sd (10 + x2_0.toInt.toNat) = n_3 := by rw [← show Int32.toNatClampNeg t_2 = 10 + x2_0.toInt.toNat from ix_n (by omega)]; exact en_3
    have hn_3 : (sd (10 + x2_0.toInt.toNat)).toInt = n_3.toInt := by rw [En_3]
    obtain ⟨f_4, ef_4⟩ : ∃ zz_ : Nat → Int32, upd g2_0 (Int32.toNatClampNeg x2_0) n_3 = zz_ := ⟨_, rfl⟩
    refine gq_iast (ws' := [((am 28), .inl (G.2.2 0, 38, .inl f_4)), ((am 20), .inl (G.2.2 0, 110, .inl sd)), (m0, .inr (12, [.ref (am 0), .int v1, .int v2, .ref (am 3), .ref (am 4), .ref (am 5), .ref (am 6), .ref (am 7), .int v8, .int v9, .int v10, .int v11, .int v12, .int v13, .int v14, .ref (am 15), .int v16, .ref (am 17), .int v18, .ref (am 19), .ref (am 20), .int v21, .int v22, .int v23, .int v24, .int v25, .ref (am 26), .int v27, .ref (am 28), .ref (am 29), .ref (am 30), .ref (am 31), .long v32, .ref (am 33), .ref (am 34), .ref (am 35), .ref (am 36)]))] ++ wt) hx hb hK hP hD hS 0 rfl f_4 (ia_in (n := 38) (by omega) (by omega)) ef_4 rfl dX12_keeps_22 (fun H locs hP hD hS => ?_)
    rw [show Int32.toNatClampNeg x2_0 = 0 + x2_0.toInt.toNat from ix_n (by omega)] at ef_4
    have hCP := hCP.step ef_4 (k := x2_0.toInt.toNat) rfl En_3 (by omega)
    obtain ⟨t_5, et_5⟩ : ∃ zz_ : Int32, x2_0 + Int32.ofInt (1) = zz_ := ⟨_, rfl⟩
    have ft_5 : t_5.toInt = x2_0.toInt + (1 : Int32).toInt := ia_add (y := 1) et_5 (by omega) (by omega)
    refine lv_iinc (v := t_5) (lv' := [(1, .int t_5), (0, .ref m0)]) hx hb dX12_keeps_23 hl (k := 0) rfl et_5 (by decide) rfl (fun ls hl => ?_)
    refine lv_goto (tgt := 2) hx hb dX12_keeps_26 (by decide) ?_
    have hCP : CP f_4 sd 0 10 t_5.toInt := by rw [show t_5.toInt = x2_0.toInt + 1 by omega]; exact hCP
    exact ih2 (t_5, f_4) (show (0 ≤ t_5.toInt) ∧ (t_5.toInt ≤ 38) ∧ (CP f_4 sd 0 10 t_5.toInt) from ⟨by omega, by omega, hCP⟩) (show (38 - t_5.toInt).toNat < (38 - x2_0.toInt).toNat by omega) H locs wt ls hT hW hP hD hS (lv_sub hl [0, 1] rfl)
set_option maxHeartbeats 4000000 in
set_option maxRecDepth 100000 in
theorem d_m_laysBack (l : Launch) (G : gg_T) (Γ : Nat → Nat) (sz : Nat) (wt : va_W) (hT : tk_ty G Γ wt) (m0 : Nat) (am : Nat → Nat) (v1 : Int32) (v2 : Int32) (v8 : Int32) (v9 : Int32) (v10 : Int32) (v11 : Int32) (v12 : Int32) (v13 : Int32) (v14 : Int32) (v16 : Int32) (v18 : Int32) (v21 : Int32) (v22 : Int32) (v23 : Int32) (v24 : Int32) (v25 : Int32) (v27 : Int32) (v32 : Int64) (kp : Nat → Int32) (sd : Nat → Int32) (k17 : Γ (am 17) = 32) (k19 : Γ (am 19) = 30) (k30 : Γ (am 30) = 28) (k31 : Γ (am 31) = 28) (lo_v1 : 0 ≤ v1.toInt) (hi_v1 : v1.toInt ≤ 400) (lo_v2 : 0 ≤ v2.toInt) (hi_v2 : v2.toInt ≤ 6) (lo_v8 : 0 ≤ v8.toInt) (hi_v8 : v8.toInt ≤ 400) (lo_v11 : 0 ≤ v11.toInt) (hi_v11 : v11.toInt ≤ 6) (lo_v12 : 0 ≤ v12.toInt) (hi_v12 : v12.toInt ≤ 60) (lo_v16 : 0 ≤ v16.toInt) (hi_v16 : v16.toInt ≤ 400) (lo_v21 : -1 ≤ v21.toInt) (hi_v21 : v21.toInt ≤ 5) (lo_v23 : 0 ≤ v23.toInt) (hi_v23 : v23.toInt ≤ 31) (lo_v27 : 0 ≤ v27.toInt) (hi_v27 : v27.toInt ≤ 20) (xfr : v21.toInt < v2.toInt) (hSD : SD sd) (hKP : SL kp 0 (sd 2).toInt) : Met l yX12_laysBack (ts_L yX12_laysBack cX12_laysBack 2 none) ({ frames := 0, cells := 0, slots := 0, locals := 0 }) (gc_P G ([((am 28), .inl (G.2.2 0, 38, .inl kp)), ((am 20), .inl (G.2.2 0, 110, .inl sd)), (m0, .inr (12, [.ref (am 0), .int v1, .int v2, .ref (am 3), .ref (am 4), .ref (am 5), .ref (am 6), .ref (am 7), .int v8, .int v9, .int v10, .int v11, .int v12, .int v13, .int v14, .ref (am 15), .int v16, .ref (am 17), .int v18, .ref (am 19), .ref (am 20), .int v21, .int v22, .int v23, .int v24, .int v25, .ref (am 26), .int v27, .ref (am 28), .ref (am 29), .ref (am 30), .ref (am 31), .long v32, .ref (am 33), .ref (am 34), .ref (am 35), .ref (am 36)]))] ++ wt) sz [.ref m0]) (gc_V G (va_A ([((am 28), .inl (G.2.2 0, 38, .inl kp)), ((am 20), .inl (G.2.2 0, 110, .inl sd)), (m0, .inr (12, [.ref (am 0), .int v1, .int v2, .ref (am 3), .ref (am 4), .ref (am 5), .ref (am 6), .ref (am 7), .int v8, .int v9, .int v10, .int v11, .int v12, .int v13, .int v14, .ref (am 15), .int v16, .ref (am 17), .int v18, .ref (am 19), .ref (am 20), .int v21, .int v22, .int v23, .int v24, .int v25, .ref (am 26), .int v27, .ref (am 28), .ref (am 29), .ref (am 30), .ref (am 31), .long v32, .ref (am 33), .ref (am 34), .ref (am 35), .ref (am 36)]))] ++ wt) sz) (fun (u : (Nat → Int32) × va_W) => match u with | (sd1, wt1) => tk_ty G Γ wt1 ∧ tk_kp [] wt wt1 ∧ (SD sd1) ∧ (KH sd sd1)) (fun (u : (Nat → Int32) × va_W) => match u with | (sd1, wt1) => [((am 28), .inl (G.2.2 0, 38, .inl kp)), ((am 20), .inl (G.2.2 0, 110, .inl sd1)), (m0, .inr (12, [.ref (am 0), .int v1, .int v2, .ref (am 3), .ref (am 4), .ref (am 5), .ref (am 6), .ref (am 7), .int v8, .int v9, .int v10, .int v11, .int v12, .int v13, .int v14, .ref (am 15), .int v16, .ref (am 17), .int v18, .ref (am 19), .ref (am 20), .int v21, .int v22, .int v23, .int v24, .int v25, .ref (am 26), .int v27, .ref (am 28), .ref (am 29), .ref (am 30), .ref (am 31), .long v32, .ref (am 33), .ref (am 34), .ref (am 35), .ref (am 36)]))] ++ wt1)) 0 0 (va_A ([((am 28), .inl (G.2.2 0, 38, .inl kp)), ((am 20), .inl (G.2.2 0, 110, .inl sd)), (m0, .inr (12, [.ref (am 0), .int v1, .int v2, .ref (am 3), .ref (am 4), .ref (am 5), .ref (am 6), .ref (am 7), .int v8, .int v9, .int v10, .int v11, .int v12, .int v13, .int v14, .ref (am 15), .int v16, .ref (am 17), .int v18, .ref (am 19), .ref (am 20), .int v21, .int v22, .int v23, .int v24, .int v25, .ref (am 26), .int v27, .ref (am 28), .ref (am 29), .ref (am 30), .ref (am 31), .long v32, .ref (am 33), .ref (am 34), .ref (am 35), .ref (am 36)]))] ++ wt) sz) := by
  refine Met.ofW (cc := cX12_laysBack) (maxL := 2) (ret := none) (by decide) rfl ?_
  intro p e s m args below meth c s₁ B hml hv
  obtain ⟨rfl, hsz, hP, hK, hD0⟩ := hv
  have hx := B.exec
  have hb := B.bytes
  have hr := B.returns
  have ht := ts_ht (atoms_spec (ws := ts_L yX12_laysBack cX12_laysBack 2 none) B.pre)
  have hown : s.vm.findClass RX12 = some m.cls := findClass_of_methodNamed B.named
  have hlocks := B.notSynchronized
  subst hsz
  have hD := hD0.self (sz := s.heap.size)
  generalize hAe : va_A ([((am 28), .inl (G.2.2 0, 38, .inl kp)), ((am 20), .inl (G.2.2 0, 110, .inl sd)), (m0, .inr (12, [.ref (am 0), .int v1, .int v2, .ref (am 3), .ref (am 4), .ref (am 5), .ref (am 6), .ref (am 7), .int v8, .int v9, .int v10, .int v11, .int v12, .int v13, .int v14, .ref (am 15), .int v16, .ref (am 17), .int v18, .ref (am 19), .ref (am 20), .int v21, .int v22, .int v23, .int v24, .int v25, .ref (am 26), .int v27, .ref (am 28), .ref (am 29), .ref (am 30), .ref (am 31), .long v32, .ref (am 33), .ref (am 34), .ref (am 35), .ref (am 36)]))] ++ wt) s.heap.size = A at hD ⊢
  have hA : ∀ q : Nat, s.heap.size ≤ q → A q := fun q h => by rw [← hAe]; exact Or.inr h
  clear hAe hD0
  have hS : va_S A s.heap s.heap [] := va_S.rf
  obtain ⟨w0, hw0⟩ : ∃ z, z = wt := ⟨_, rfl⟩
  have hW : tk_kp [] w0 wt := by rw [hw0]; exact tk_kp.rf
  rw [← hw0]
  clear hw0
  have hP : va_P (gg_D G) classes ([((am 28), .inl (G.2.2 0, 38, .inl kp)), ((am 20), .inl (G.2.2 0, 110, .inl sd)), (m0, .inr (12, [.ref (am 0), .int v1, .int v2, .ref (am 3), .ref (am 4), .ref (am 5), .ref (am 6), .ref (am 7), .int v8, .int v9, .int v10, .int v11, .int v12, .int v13, .int v14, .ref (am 15), .int v16, .ref (am 17), .int v18, .ref (am 19), .ref (am 20), .int v21, .int v22, .int v23, .int v24, .int v25, .ref (am 26), .int v27, .ref (am 28), .ref (am 29), .ref (am 30), .ref (am 31), .long v32, .ref (am 33), .ref (am 34), .ref (am 35), .ref (am 36)]))] ++ wt) s.heap := hP
  have hD : va_D A ([((am 28), .inl (G.2.2 0, 38, .inl kp)), ((am 20), .inl (G.2.2 0, 110, .inl sd)), (m0, .inr (12, [.ref (am 0), .int v1, .int v2, .ref (am 3), .ref (am 4), .ref (am 5), .ref (am 6), .ref (am 7), .int v8, .int v9, .int v10, .int v11, .int v12, .int v13, .int v14, .ref (am 15), .int v16, .ref (am 17), .int v18, .ref (am 19), .ref (am 20), .int v21, .int v22, .int v23, .int v24, .int v25, .ref (am 26), .int v27, .ref (am 28), .ref (am 29), .ref (am 30), .ref (am 31), .long v32, .ref (am 33), .ref (am 34), .ref (am 35), .ref (am 36)]))] ++ wt) := hD
  have hl := lv_entry ([.ref m0]) (n := 2) (Nat.le_of_ble_eq_true rfl)
  rw [lg_entry_eq]
  generalize (lg_sl ([.ref m0]) ++ List.replicate (2 - (lg_sl ([.ref m0])).length) Slot.unset).toArray = ls at hl ⊢
  have hl : lv_has ls 2 [(0, .ref m0)] := hl
  have hKH : KH sd sd := KH.rf
  have l0 : (0 : Int32).toInt = 0 := by decide +kernel
  have l1 : (1 : Int32).toInt = 1 := by decide +kernel
  have l10 : (10 : Int32).toInt = 10 := by decide +kernel
  have l38 : (38 : Int32).toInt = 38 := by decide +kernel
  refine lv_iconst (v := 0) hx hb dX12_laysBack_0 (by decide +kernel) ?_
  refine lv_istore_n (lv' := [(1, .int 0), (0, .ref m0)]) hx hb dX12_laysBack_1 rfl hl (by decide) rfl (fun ls hl => ?_)
  have hCP : CP sd kp 10 0 (0 : Int32).toInt := CP.z
  refine tl_loopE (Γ := Γ) (nL := 2) (fun (zz_ : Int32 × (Nat → Int32)) => match zz_ with | (x2_0, g2_0) => (0 ≤ x2_0.toInt) ∧ (x2_0.toInt ≤ 38) ∧ (KH sd g2_0) ∧ (CP g2_0 kp 10 0 x2_0.toInt)) (fun (zz_ : Int32 × (Nat → Int32)) => match zz_ with | (x2_0, g2_0) => (38 - x2_0.toInt).toNat) (fun (zz_ : Int32 × (Nat → Int32)) => match zz_ with | (x2_0, g2_0) => [(1, .int x2_0), (0, .ref m0)]) (fun (zz_ : Int32 × (Nat → Int32)) => match zz_ with | (x2_0, g2_0) => [((am 28), .inl (G.2.2 0, 38, .inl kp)), ((am 20), .inl (G.2.2 0, 110, .inl g2_0)), (m0, .inr (12, [.ref (am 0), .int v1, .int v2, .ref (am 3), .ref (am 4), .ref (am 5), .ref (am 6), .ref (am 7), .int v8, .int v9, .int v10, .int v11, .int v12, .int v13, .int v14, .ref (am 15), .int v16, .ref (am 17), .int v18, .ref (am 19), .ref (am 20), .int v21, .int v22, .int v23, .int v24, .int v25, .ref (am 26), .int v27, .ref (am 28), .ref (am 29), .ref (am 30), .ref (am 31), .long v32, .ref (am 33), .ref (am 34), .ref (am 35), .ref (am 36)]))]) (fun (zz_ : Int32 × (Nat → Int32)) (w : va_W) => match zz_ with | (x2_0, g2_0) => tk_kp [] w0 w) (fun zz_ hI H locs wt ls hT hW hP hD hS hl ih2 => ?_) (0, sd) (show (0 ≤ (0 : Int32).toInt) ∧ ((0 : Int32).toInt ≤ 38) ∧ (KH sd sd) ∧ (CP sd kp 10 0 (0 : Int32).toInt) from ⟨by omega, by omega, hKH, hCP⟩) _ _ wt ls hT hW hP hD hS hl
  obtain ⟨x2_0, g2_0⟩ := zz_
  have hW : tk_kp [] w0 wt := hW
  have hI : (0 ≤ x2_0.toInt) ∧ (x2_0.toInt ≤ 38) ∧ (KH sd g2_0) ∧ (CP g2_0 kp 10 0 x2_0.toInt) := hI
  obtain ⟨j2_0, j2_1, hKH, hCP⟩ := hI
  have hl : lv_has ls 2 [(1, .int x2_0), (0, .ref m0)] := hl
  have hP : va_P (gg_D G) classes ([((am 28), .inl (G.2.2 0, 38, .inl kp)), ((am 20), .inl (G.2.2 0, 110, .inl g2_0)), (m0, .inr (12, [.ref (am 0), .int v1, .int v2, .ref (am 3), .ref (am 4), .ref (am 5), .ref (am 6), .ref (am 7), .int v8, .int v9, .int v10, .int v11, .int v12, .int v13, .int v14, .ref (am 15), .int v16, .ref (am 17), .int v18, .ref (am 19), .ref (am 20), .int v21, .int v22, .int v23, .int v24, .int v25, .ref (am 26), .int v27, .ref (am 28), .ref (am 29), .ref (am 30), .ref (am 31), .long v32, .ref (am 33), .ref (am 34), .ref (am 35), .ref (am 36)]))] ++ wt) H := hP
  have hD : va_D A ([((am 28), .inl (G.2.2 0, 38, .inl kp)), ((am 20), .inl (G.2.2 0, 110, .inl g2_0)), (m0, .inr (12, [.ref (am 0), .int v1, .int v2, .ref (am 3), .ref (am 4), .ref (am 5), .ref (am 6), .ref (am 7), .int v8, .int v9, .int v10, .int v11, .int v12, .int v13, .int v14, .ref (am 15), .int v16, .ref (am 17), .int v18, .ref (am 19), .ref (am 20), .int v21, .int v22, .int v23, .int v24, .int v25, .ref (am 26), .int v27, .ref (am 28), .ref (am 29), .ref (am 30), .ref (am 31), .long v32, .ref (am 33), .ref (am 34), .ref (am 35), .ref (am 36)]))] ++ wt) := hD
  refine lv_iload_n hx hb dX12_laysBack_2 rfl (lv_at hl 0 rfl) ?_
  refine lv_bipush (v := 38) hx hb dX12_laysBack_3 (by decide +kernel) ?_
  refine lv_icmp_ge (tgt := 29) hx hb dX12_laysBack_5 (by decide) (fun c_1 => ?_) (fun c_1 => ?_)
  · rw [Int32.le_iff_toInt_le] at c_1
    have hP9 : va_P (gg_D G) classes ([((am 28), .inl (G.2.2 0, 38, .inl kp)), ((am 20), .inl (G.2.2 0, 110, .inl g2_0)), (m0, .inr (12, [.ref (am 0), .int v1, .int v2, .ref (am 3), .ref (am 4), .ref (am 5), .ref (am 6), .ref (am 7), .int v8, .int v9, .int v10, .int v11, .int v12, .int v13, .int v14, .ref (am 15), .int v16, .ref (am 17), .int v18, .ref (am 19), .ref (am 20), .int v21, .int v22, .int v23, .int v24, .int v25, .ref (am 26), .int v27, .ref (am 28), .ref (am 29), .ref (am 30), .ref (am 31), .long v32, .ref (am 33), .ref (am 34), .ref (am 35), .ref (am 36)]))] ++ wt) _ := hP
    have hD9 : va_D A ([((am 28), .inl (G.2.2 0, 38, .inl kp)), ((am 20), .inl (G.2.2 0, 110, .inl g2_0)), (m0, .inr (12, [.ref (am 0), .int v1, .int v2, .ref (am 3), .ref (am 4), .ref (am 5), .ref (am 6), .ref (am 7), .int v8, .int v9, .int v10, .int v11, .int v12, .int v13, .int v14, .ref (am 15), .int v16, .ref (am 17), .int v18, .ref (am 19), .ref (am 20), .int v21, .int v22, .int v23, .int v24, .int v25, .ref (am 26), .int v27, .ref (am 28), .ref (am 29), .ref (am 30), .ref (am 31), .long v32, .ref (am 33), .ref (am 34), .ref (am 35), .ref (am 36)]))] ++ wt) := hD
    exact W.vret hx hb hr (gq_endV (g2_0, wt) ⟨hT, hW, (SD.lay hSD hKH hKP (fun i hi => hCP i (by omega))), hKH⟩ hP9 hD9 hS) hS.2.2 dX12_laysBack_29
  · rw [Int32.le_iff_toInt_le] at c_1
    refine lv_aload_n hx hb dX12_laysBack_8 rfl (lv_at hl 1 rfl) ?_
    refine gq_get hx hb ht hown hK hP i_X12 2 rfl rfl 20 (by decide) wd_1272 rfl rfl dX12_laysBack_9 ?_
    refine lv_bipush (v := 10) hx hb dX12_laysBack_12 (by decide +kernel) ?_
    refine lv_iload_n hx hb dX12_laysBack_14 rfl (lv_at hl 0 rfl) ?_
    obtain ⟨t_2, et_2⟩ : ∃ zz_ : Int32, 10 + x2_0 = zz_ := ⟨_, rfl⟩
    refine gq_iadd hx hb t_2 et_2 dX12_laysBack_15 ?_
    have ft_2 := ia_add et_2 (by omega) (by omega)
    refine lv_aload_n hx hb dX12_laysBack_16 rfl (lv_at hl 1 rfl) ?_
    refine gq_get hx hb ht hown hK hP i_X12 2 rfl rfl 28 (by decide) wd_1280 rfl rfl dX12_laysBack_17 ?_
    refine lv_iload_n hx hb dX12_laysBack_20 rfl (lv_at hl 0 rfl) ?_
    obtain ⟨n_3, en_3⟩ : ∃ zz_ : Int32, kp (Int32.toNatClampNeg x2_0) = zz_ := ⟨_, rfl⟩
    refine gq_iald hx hb hK hP 0 rfl n_3 (ia_in (n := 38) (by omega) (by omega)) en_3 dX12_laysBack_21 ?_
    have En_3 : kp (0 + x2_0.toInt.toNat) = n_3 := by rw [← show Int32.toNatClampNeg x2_0 = 0 + x2_0.toInt.toNat from ix_n (by omega)]; exact en_3
    have hn_3 : (kp (0 + x2_0.toInt.toNat)).toInt = n_3.toInt := by rw [En_3]
    obtain ⟨f_4, ef_4⟩ : ∃ zz_ : Nat → Int32, upd g2_0 (Int32.toNatClampNeg t_2) n_3 = zz_ := ⟨_, rfl⟩
    refine gq_iast (ws' := [((am 28), .inl (G.2.2 0, 38, .inl kp)), ((am 20), .inl (G.2.2 0, 110, .inl f_4)), (m0, .inr (12, [.ref (am 0), .int v1, .int v2, .ref (am 3), .ref (am 4), .ref (am 5), .ref (am 6), .ref (am 7), .int v8, .int v9, .int v10, .int v11, .int v12, .int v13, .int v14, .ref (am 15), .int v16, .ref (am 17), .int v18, .ref (am 19), .ref (am 20), .int v21, .int v22, .int v23, .int v24, .int v25, .ref (am 26), .int v27, .ref (am 28), .ref (am 29), .ref (am 30), .ref (am 31), .long v32, .ref (am 33), .ref (am 34), .ref (am 35), .ref (am 36)]))] ++ wt) hx hb hK hP hD hS 1 rfl f_4 (ia_in (n := 110) (by omega) (by omega)) ef_4 rfl dX12_laysBack_22 (fun H locs hP hD hS => ?_)
    rw [show Int32.toNatClampNeg t_2 = 10 + x2_0.toInt.toNat from ix_n (by omega)] at ef_4
    have hCP := hCP.step ef_4 (k := x2_0.toInt.toNat) rfl En_3 (by omega)
    have hKH := hKH.st ef_4 (by omega) (by omega)
    obtain ⟨t_5, et_5⟩ : ∃ zz_ : Int32, x2_0 + Int32.ofInt (1) = zz_ := ⟨_, rfl⟩
    have ft_5 : t_5.toInt = x2_0.toInt + (1 : Int32).toInt := ia_add (y := 1) et_5 (by omega) (by omega)
    refine lv_iinc (v := t_5) (lv' := [(1, .int t_5), (0, .ref m0)]) hx hb dX12_laysBack_23 hl (k := 0) rfl et_5 (by decide) rfl (fun ls hl => ?_)
    refine lv_goto (tgt := 2) hx hb dX12_laysBack_26 (by decide) ?_
    have hCP : CP f_4 kp 10 0 t_5.toInt := by rw [show t_5.toInt = x2_0.toInt + 1 by omega]; exact hCP
    exact ih2 (t_5, f_4) (show (0 ≤ t_5.toInt) ∧ (t_5.toInt ≤ 38) ∧ (KH sd f_4) ∧ (CP f_4 kp 10 0 t_5.toInt) from ⟨by omega, by omega, hKH, hCP⟩) (show (38 - t_5.toInt).toNat < (38 - x2_0.toInt).toNat by omega) H locs wt ls hT hW hP hD hS (lv_sub hl [0, 1] rfl)

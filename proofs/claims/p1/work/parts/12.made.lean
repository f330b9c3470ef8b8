theorem wd_148 : (Jvm.Cond.instanceMethod ({ cls := "java/lang/Object", name := "<init>", desc := "()V" } : Jvm.MethodName)) ∈ tb_L := tb_in (i := 148) (by decide +kernel) (by decide +kernel)
theorem wd_149 : (Jvm.Cond.code ({ cls := "java/lang/Object", name := "<init>", desc := "()V" } : Jvm.MethodName) object_method_1_code (1 : Nat) (Option.none : Option Jvm.ClassFile.FieldType)) ∈ tb_L := tb_in (i := 149) (by decide +kernel) (by decide +kernel)
theorem wd_154 : (Jvm.Cond.code ({ cls := "SilentSale$Tape", name := "<init>", desc := "()V" } : Jvm.MethodName) prog_10_method_1_code (1 : Nat) (Option.none : Option Jvm.ClassFile.FieldType)) ∈ tb_L := tb_in (i := 154) (by decide +kernel) (by decide +kernel)
theorem wd_155 : (Jvm.Cond.methodLink "SilentSale$Tape" (3 : Nat) ({ cls := "java/lang/Object", name := "<init>", desc := "()V" } : Jvm.MethodName)) ∈ tb_L := tb_in (i := 155) (by decide +kernel) (by decide +kernel)
theorem wd_172 : (Jvm.Cond.arrayClass Jvm.ClassFile.FieldType.int) ∈ tb_L := tb_in (i := 172) (by decide +kernel) (by decide +kernel)
theorem dX8_init_0 : decode cX8_init 0 = .ok (.aload_n 0, 1) := by decide +kernel
theorem dX8_init_1 : decode cX8_init 1 = .ok (.invokespecial 3, 3) := by decide +kernel
theorem dX8_init_4 : decode cX8_init 4 = .ok (.aload_n 0, 1) := by decide +kernel
theorem dX8_init_5 : decode cX8_init 5 = .ok (.sipush 400, 3) := by decide +kernel
theorem dX8_init_8 : decode cX8_init 8 = .ok (.newarray .int, 2) := by decide +kernel
theorem dX8_init_10 : decode cX8_init 10 = .ok (.putfield 9, 3) := by decide +kernel
theorem dX8_init_13 : decode cX8_init 13 = .ok (.aload_n 0, 1) := by decide +kernel
theorem dX8_init_14 : decode cX8_init 14 = .ok (.iconst 0, 1) := by decide +kernel
theorem dX8_init_15 : decode cX8_init 15 = .ok (.putfield 15, 3) := by decide +kernel
theorem dX8_init_18 : decode cX8_init 18 = .ok (.aload_n 0, 1) := by decide +kernel
theorem dX8_init_19 : decode cX8_init 19 = .ok (.iconst 0, 1) := by decide +kernel
theorem dX8_init_20 : decode cX8_init 20 = .ok (.putfield 19, 3) := by decide +kernel
theorem dX8_init_23 : decode cX8_init 23 = .ok (.aload_n 0, 1) := by decide +kernel
theorem dX8_init_24 : decode cX8_init 24 = .ok (.iconst 0, 1) := by decide +kernel
theorem dX8_init_25 : decode cX8_init 25 = .ok (.putfield 22, 3) := by decide +kernel
theorem dX8_init_28 : decode cX8_init 28 = .ok (.aload_n 0, 1) := by decide +kernel
theorem dX8_init_29 : decode cX8_init 29 = .ok (.iconst 0, 1) := by decide +kernel
theorem dX8_init_30 : decode cX8_init 30 = .ok (.putfield 25, 3) := by decide +kernel
theorem dX8_init_33 : decode cX8_init 33 = .ok (.return_, 1) := by decide +kernel
theorem wd_177 : (Jvm.Cond.code ({ cls := "SilentSale$Terms", name := "<init>", desc := "()V" } : Jvm.MethodName) prog_11_method_1_code (1 : Nat) (Option.none : Option Jvm.ClassFile.FieldType)) ∈ tb_L := tb_in (i := 177) (by decide +kernel) (by decide +kernel)
theorem wd_178 : (Jvm.Cond.methodLink "SilentSale$Terms" (3 : Nat) ({ cls := "java/lang/Object", name := "<init>", desc := "()V" } : Jvm.MethodName)) ∈ tb_L := tb_in (i := 178) (by decide +kernel) (by decide +kernel)
theorem wd_179 : (Jvm.Cond.fieldLink "SilentSale$Terms" (9 : Nat) "SilentSale$Terms" "longest" "I") ∈ tb_L := tb_in (i := 179) (by decide +kernel) (by decide +kernel)
theorem wd_182 : (Jvm.Cond.fieldLink "SilentSale$Terms" (15 : Nat) "SilentSale$Terms" "bidders" "I") ∈ tb_L := tb_in (i := 182) (by decide +kernel) (by decide +kernel)
theorem wd_187 : (Jvm.Cond.fieldLink "SilentSale$Terms" (18 : Nat) "SilentSale$Terms" "lots" "I") ∈ tb_L := tb_in (i := 187) (by decide +kernel) (by decide +kernel)
theorem wd_191 : (Jvm.Cond.fieldLink "SilentSale$Terms" (21 : Nat) "SilentSale$Terms" "tricks" "I") ∈ tb_L := tb_in (i := 191) (by decide +kernel) (by decide +kernel)
theorem wd_194 : (Jvm.Cond.fieldLink "SilentSale$Terms" (24 : Nat) "SilentSale$Terms" "purse" "[I") ∈ tb_L := tb_in (i := 194) (by decide +kernel) (by decide +kernel)
theorem wd_196 : (Jvm.Cond.fieldLink "SilentSale$Terms" (28 : Nat) "SilentSale$Terms" "patience" "[I") ∈ tb_L := tb_in (i := 196) (by decide +kernel) (by decide +kernel)
theorem wd_198 : (Jvm.Cond.fieldLink "SilentSale$Terms" (31 : Nat) "SilentSale$Terms" "worths" "[I") ∈ tb_L := tb_in (i := 198) (by decide +kernel) (by decide +kernel)
theorem wd_199 : (Jvm.Cond.fieldLink "SilentSale$Terms" (34 : Nat) "SilentSale$Terms" "price" "[I") ∈ tb_L := tb_in (i := 199) (by decide +kernel) (by decide +kernel)
theorem wd_203 : (Jvm.Cond.fieldLink "SilentSale$Terms" (37 : Nat) "SilentSale$Terms" "effect" "[I") ∈ tb_L := tb_in (i := 203) (by decide +kernel) (by decide +kernel)
theorem dX9_init_0 : decode cX9_init 0 = .ok (.aload_n 0, 1) := by decide +kernel
theorem dX9_init_1 : decode cX9_init 1 = .ok (.invokespecial 3, 3) := by decide +kernel
theorem dX9_init_4 : decode cX9_init 4 = .ok (.aload_n 0, 1) := by decide +kernel
theorem dX9_init_5 : decode cX9_init 5 = .ok (.iconst 0, 1) := by decide +kernel
theorem dX9_init_6 : decode cX9_init 6 = .ok (.putfield 9, 3) := by decide +kernel
theorem dX9_init_9 : decode cX9_init 9 = .ok (.aload_n 0, 1) := by decide +kernel
theorem dX9_init_10 : decode cX9_init 10 = .ok (.iconst 0, 1) := by decide +kernel
theorem dX9_init_11 : decode cX9_init 11 = .ok (.putfield 15, 3) := by decide +kernel
theorem dX9_init_14 : decode cX9_init 14 = .ok (.aload_n 0, 1) := by decide +kernel
theorem dX9_init_15 : decode cX9_init 15 = .ok (.iconst 0, 1) := by decide +kernel
theorem dX9_init_16 : decode cX9_init 16 = .ok (.putfield 18, 3) := by decide +kernel
theorem dX9_init_19 : decode cX9_init 19 = .ok (.aload_n 0, 1) := by decide +kernel
theorem dX9_init_20 : decode cX9_init 20 = .ok (.iconst 0, 1) := by decide +kernel
theorem dX9_init_21 : decode cX9_init 21 = .ok (.putfield 21, 3) := by decide +kernel
theorem dX9_init_24 : decode cX9_init 24 = .ok (.aload_n 0, 1) := by decide +kernel
theorem dX9_init_25 : decode cX9_init 25 = .ok (.iconst 5, 1) := by decide +kernel
theorem dX9_init_26 : decode cX9_init 26 = .ok (.newarray .int, 2) := by decide +kernel
theorem dX9_init_28 : decode cX9_init 28 = .ok (.putfield 24, 3) := by decide +kernel
theorem dX9_init_31 : decode cX9_init 31 = .ok (.aload_n 0, 1) := by decide +kernel
theorem dX9_init_32 : decode cX9_init 32 = .ok (.iconst 5, 1) := by decide +kernel
theorem dX9_init_33 : decode cX9_init 33 = .ok (.newarray .int, 2) := by decide +kernel
theorem dX9_init_35 : decode cX9_init 35 = .ok (.putfield 28, 3) := by decide +kernel
theorem dX9_init_38 : decode cX9_init 38 = .ok (.aload_n 0, 1) := by decide +kernel
theorem dX9_init_39 : decode cX9_init 39 = .ok (.bipush 15, 2) := by decide +kernel
theorem dX9_init_41 : decode cX9_init 41 = .ok (.newarray .int, 2) := by decide +kernel
theorem dX9_init_43 : decode cX9_init 43 = .ok (.putfield 31, 3) := by decide +kernel
theorem dX9_init_46 : decode cX9_init 46 = .ok (.aload_n 0, 1) := by decide +kernel
theorem dX9_init_47 : decode cX9_init 47 = .ok (.iconst 3, 1) := by decide +kernel
theorem dX9_init_48 : decode cX9_init 48 = .ok (.newarray .int, 2) := by decide +kernel
theorem dX9_init_50 : decode cX9_init 50 = .ok (.putfield 34, 3) := by decide +kernel
theorem dX9_init_53 : decode cX9_init 53 = .ok (.aload_n 0, 1) := by decide +kernel
theorem dX9_init_54 : decode cX9_init 54 = .ok (.iconst 3, 1) := by decide +kernel
theorem dX9_init_55 : decode cX9_init 55 = .ok (.newarray .int, 2) := by decide +kernel
theorem dX9_init_57 : decode cX9_init 57 = .ok (.putfield 37, 3) := by decide +kernel
theorem dX9_init_60 : decode cX9_init 60 = .ok (.return_, 1) := by decide +kernel
theorem wd_229 : (Jvm.Cond.code ({ cls := "SilentSale$State", name := "<init>", desc := "()V" } : Jvm.MethodName) prog_9_method_1_code (1 : Nat) (Option.none : Option Jvm.ClassFile.FieldType)) ∈ tb_L := tb_in (i := 229) (by decide +kernel) (by decide +kernel)
theorem wd_230 : (Jvm.Cond.methodLink "SilentSale$State" (3 : Nat) ({ cls := "java/lang/Object", name := "<init>", desc := "()V" } : Jvm.MethodName)) ∈ tb_L := tb_in (i := 230) (by decide +kernel) (by decide +kernel)
theorem wd_231 : (Jvm.Cond.fieldLink "SilentSale$State" (9 : Nat) "SilentSale$State" "purse" "[I") ∈ tb_L := tb_in (i := 231) (by decide +kernel) (by decide +kernel)
theorem wd_235 : (Jvm.Cond.fieldLink "SilentSale$State" (15 : Nat) "SilentSale$State" "patience" "[I") ∈ tb_L := tb_in (i := 235) (by decide +kernel) (by decide +kernel)
theorem wd_239 : (Jvm.Cond.fieldLink "SilentSale$State" (18 : Nat) "SilentSale$State" "seat" "[I") ∈ tb_L := tb_in (i := 239) (by decide +kernel) (by decide +kernel)
theorem wd_243 : (Jvm.Cond.fieldLink "SilentSale$State" (21 : Nat) "SilentSale$State" "tricked" "[I") ∈ tb_L := tb_in (i := 243) (by decide +kernel) (by decide +kernel)
theorem wd_246 : (Jvm.Cond.fieldLink "SilentSale$State" (24 : Nat) "SilentSale$State" "stage" "[I") ∈ tb_L := tb_in (i := 246) (by decide +kernel) (by decide +kernel)
theorem wd_250 : (Jvm.Cond.fieldLink "SilentSale$State" (27 : Nat) "SilentSale$State" "gone" "[I") ∈ tb_L := tb_in (i := 250) (by decide +kernel) (by decide +kernel)
theorem wd_254 : (Jvm.Cond.fieldLink "SilentSale$State" (30 : Nat) "SilentSale$State" "owner" "[I") ∈ tb_L := tb_in (i := 254) (by decide +kernel) (by decide +kernel)
theorem wd_258 : (Jvm.Cond.fieldLink "SilentSale$State" (33 : Nat) "SilentSale$State" "paid" "[I") ∈ tb_L := tb_in (i := 258) (by decide +kernel) (by decide +kernel)
theorem wd_261 : (Jvm.Cond.fieldLink "SilentSale$State" (36 : Nat) "SilentSale$State" "silentAt" "[I") ∈ tb_L := tb_in (i := 261) (by decide +kernel) (by decide +kernel)
theorem wd_266 : (Jvm.Cond.fieldLink "SilentSale$State" (39 : Nat) "SilentSale$State" "minutes" "I") ∈ tb_L := tb_in (i := 266) (by decide +kernel) (by decide +kernel)
theorem dX7_init_0 : decode cX7_init 0 = .ok (.aload_n 0, 1) := by decide +kernel
theorem dX7_init_1 : decode cX7_init 1 = .ok (.invokespecial 3, 3) := by decide +kernel
theorem dX7_init_4 : decode cX7_init 4 = .ok (.aload_n 0, 1) := by decide +kernel
theorem dX7_init_5 : decode cX7_init 5 = .ok (.iconst 5, 1) := by decide +kernel
theorem dX7_init_6 : decode cX7_init 6 = .ok (.newarray .int, 2) := by decide +kernel
theorem dX7_init_8 : decode cX7_init 8 = .ok (.putfield 9, 3) := by decide +kernel
theorem dX7_init_11 : decode cX7_init 11 = .ok (.aload_n 0, 1) := by decide +kernel
theorem dX7_init_12 : decode cX7_init 12 = .ok (.iconst 5, 1) := by decide +kernel
theorem dX7_init_13 : decode cX7_init 13 = .ok (.newarray .int, 2) := by decide +kernel
theorem dX7_init_15 : decode cX7_init 15 = .ok (.putfield 15, 3) := by decide +kernel
theorem dX7_init_18 : decode cX7_init 18 = .ok (.aload_n 0, 1) := by decide +kernel
theorem dX7_init_19 : decode cX7_init 19 = .ok (.iconst 5, 1) := by decide +kernel
theorem dX7_init_20 : decode cX7_init 20 = .ok (.newarray .int, 2) := by decide +kernel
theorem dX7_init_22 : decode cX7_init 22 = .ok (.putfield 18, 3) := by decide +kernel
theorem dX7_init_25 : decode cX7_init 25 = .ok (.aload_n 0, 1) := by decide +kernel
theorem dX7_init_26 : decode cX7_init 26 = .ok (.iconst 5, 1) := by decide +kernel
theorem dX7_init_27 : decode cX7_init 27 = .ok (.newarray .int, 2) := by decide +kernel
theorem dX7_init_29 : decode cX7_init 29 = .ok (.putfield 21, 3) := by decide +kernel
theorem dX7_init_32 : decode cX7_init 32 = .ok (.aload_n 0, 1) := by decide +kernel
theorem dX7_init_33 : decode cX7_init 33 = .ok (.iconst 3, 1) := by decide +kernel
theorem dX7_init_34 : decode cX7_init 34 = .ok (.newarray .int, 2) := by decide +kernel
theorem dX7_init_36 : decode cX7_init 36 = .ok (.putfield 24, 3) := by decide +kernel
theorem dX7_init_39 : decode cX7_init 39 = .ok (.aload_n 0, 1) := by decide +kernel
theorem dX7_init_40 : decode cX7_init 40 = .ok (.iconst 3, 1) := by decide +kernel
theorem dX7_init_41 : decode cX7_init 41 = .ok (.newarray .int, 2) := by decide +kernel
theorem dX7_init_43 : decode cX7_init 43 = .ok (.putfield 27, 3) := by decide +kernel
theorem dX7_init_46 : decode cX7_init 46 = .ok (.aload_n 0, 1) := by decide +kernel
theorem dX7_init_47 : decode cX7_init 47 = .ok (.iconst 3, 1) := by decide +kernel
theorem dX7_init_48 : decode cX7_init 48 = .ok (.newarray .int, 2) := by decide +kernel
theorem dX7_init_50 : decode cX7_init 50 = .ok (.putfield 30, 3) := by decide +kernel
theorem dX7_init_53 : decode cX7_init 53 = .ok (.aload_n 0, 1) := by decide +kernel
theorem dX7_init_54 : decode cX7_init 54 = .ok (.iconst 3, 1) := by decide +kernel
theorem dX7_init_55 : decode cX7_init 55 = .ok (.newarray .int, 2) := by decide +kernel
theorem dX7_init_57 : decode cX7_init 57 = .ok (.putfield 33, 3) := by decide +kernel
theorem dX7_init_60 : decode cX7_init 60 = .ok (.aload_n 0, 1) := by decide +kernel
theorem dX7_init_61 : decode cX7_init 61 = .ok (.iconst 3, 1) := by decide +kernel
theorem dX7_init_62 : decode cX7_init 62 = .ok (.newarray .int, 2) := by decide +kernel
theorem dX7_init_64 : decode cX7_init 64 = .ok (.putfield 36, 3) := by decide +kernel
theorem dX7_init_67 : decode cX7_init 67 = .ok (.aload_n 0, 1) := by decide +kernel
theorem dX7_init_68 : decode cX7_init 68 = .ok (.iconst 0, 1) := by decide +kernel
theorem dX7_init_69 : decode cX7_init 69 = .ok (.putfield 39, 3) := by decide +kernel
theorem dX7_init_72 : decode cX7_init 72 = .ok (.return_, 1) := by decide +kernel
theorem wd_314 : (Jvm.Cond.code ({ cls := "SilentSale$Logs", name := "<init>", desc := "()V" } : Jvm.MethodName) prog_4_method_1_code (1 : Nat) (Option.none : Option Jvm.ClassFile.FieldType)) ∈ tb_L := tb_in (i := 314) (by decide +kernel) (by decide +kernel)
theorem wd_315 : (Jvm.Cond.methodLink "SilentSale$Logs" (3 : Nat) ({ cls := "java/lang/Object", name := "<init>", desc := "()V" } : Jvm.MethodName)) ∈ tb_L := tb_in (i := 315) (by decide +kernel) (by decide +kernel)
theorem wd_316 : (Jvm.Cond.fieldLink "SilentSale$Logs" (9 : Nat) "SilentSale$Logs" "lots" "[I") ∈ tb_L := tb_in (i := 316) (by decide +kernel) (by decide +kernel)
theorem wd_317 : (Jvm.Cond.fieldLink "SilentSale$Logs" (15 : Nat) "SilentSale$Logs" "bidders" "[I") ∈ tb_L := tb_in (i := 317) (by decide +kernel) (by decide +kernel)
theorem wd_318 : (Jvm.Cond.fieldLink "SilentSale$Logs" (18 : Nat) "SilentSale$Logs" "coins" "[I") ∈ tb_L := tb_in (i := 318) (by decide +kernel) (by decide +kernel)
theorem wd_319 : (Jvm.Cond.fieldLink "SilentSale$Logs" (21 : Nat) "SilentSale$Logs" "size" "I") ∈ tb_L := tb_in (i := 319) (by decide +kernel) (by decide +kernel)
theorem dX2_init_0 : decode cX2_init 0 = .ok (.aload_n 0, 1) := by decide +kernel
theorem dX2_init_1 : decode cX2_init 1 = .ok (.invokespecial 3, 3) := by decide +kernel
theorem dX2_init_4 : decode cX2_init 4 = .ok (.aload_n 0, 1) := by decide +kernel
theorem dX2_init_5 : decode cX2_init 5 = .ok (.bipush 10, 2) := by decide +kernel
theorem dX2_init_7 : decode cX2_init 7 = .ok (.newarray .int, 2) := by decide +kernel
theorem dX2_init_9 : decode cX2_init 9 = .ok (.putfield 9, 3) := by decide +kernel
theorem dX2_init_12 : decode cX2_init 12 = .ok (.aload_n 0, 1) := by decide +kernel
theorem dX2_init_13 : decode cX2_init 13 = .ok (.bipush 10, 2) := by decide +kernel
theorem dX2_init_15 : decode cX2_init 15 = .ok (.newarray .int, 2) := by decide +kernel
theorem dX2_init_17 : decode cX2_init 17 = .ok (.putfield 15, 3) := by decide +kernel
theorem dX2_init_20 : decode cX2_init 20 = .ok (.aload_n 0, 1) := by decide +kernel
theorem dX2_init_21 : decode cX2_init 21 = .ok (.bipush 10, 2) := by decide +kernel
theorem dX2_init_23 : decode cX2_init 23 = .ok (.newarray .int, 2) := by decide +kernel
theorem dX2_init_25 : decode cX2_init 25 = .ok (.putfield 18, 3) := by decide +kernel
theorem dX2_init_28 : decode cX2_init 28 = .ok (.aload_n 0, 1) := by decide +kernel
theorem dX2_init_29 : decode cX2_init 29 = .ok (.iconst 0, 1) := by decide +kernel
theorem dX2_init_30 : decode cX2_init 30 = .ok (.putfield 21, 3) := by decide +kernel
theorem dX2_init_33 : decode cX2_init 33 = .ok (.return_, 1) := by decide +kernel
theorem wd_335 : (Jvm.Cond.code ({ cls := "SilentSale$Rule", name := "<init>", desc := "()V" } : Jvm.MethodName) prog_6_method_1_code (1 : Nat) (Option.none : Option Jvm.ClassFile.FieldType)) ∈ tb_L := tb_in (i := 335) (by decide +kernel) (by decide +kernel)
theorem wd_336 : (Jvm.Cond.methodLink "SilentSale$Rule" (3 : Nat) ({ cls := "java/lang/Object", name := "<init>", desc := "()V" } : Jvm.MethodName)) ∈ tb_L := tb_in (i := 336) (by decide +kernel) (by decide +kernel)
theorem wd_337 : (Jvm.Cond.fieldLink "SilentSale$Rule" (9 : Nat) "SilentSale$Rule" "steps" "[I") ∈ tb_L := tb_in (i := 337) (by decide +kernel) (by decide +kernel)
theorem wd_338 : (Jvm.Cond.fieldLink "SilentSale$Rule" (15 : Nat) "SilentSale$Rule" "words" "[J") ∈ tb_L := tb_in (i := 338) (by decide +kernel) (by decide +kernel)
theorem wd_339 : (Jvm.Cond.fieldLink "SilentSale$Rule" (19 : Nat) "SilentSale$Rule" "pile" "[J") ∈ tb_L := tb_in (i := 339) (by decide +kernel) (by decide +kernel)
theorem wd_340 : (Jvm.Cond.fieldLink "SilentSale$Rule" (22 : Nat) "SilentSale$Rule" "opened" "[I") ∈ tb_L := tb_in (i := 340) (by decide +kernel) (by decide +kernel)
theorem wd_341 : (Jvm.Cond.fieldLink "SilentSale$Rule" (25 : Nat) "SilentSale$Rule" "waiting" "[I") ∈ tb_L := tb_in (i := 341) (by decide +kernel) (by decide +kernel)
theorem wd_342 : (Jvm.Cond.fieldLink "SilentSale$Rule" (28 : Nat) "SilentSale$Rule" "depth" "I") ∈ tb_L := tb_in (i := 342) (by decide +kernel) (by decide +kernel)
theorem wd_343 : (Jvm.Cond.fieldLink "SilentSale$Rule" (32 : Nat) "SilentSale$Rule" "size" "I") ∈ tb_L := tb_in (i := 343) (by decide +kernel) (by decide +kernel)
theorem wd_344 : (Jvm.Cond.fieldLink "SilentSale$Rule" (35 : Nat) "SilentSale$Rule" "pieces" "I") ∈ tb_L := tb_in (i := 344) (by decide +kernel) (by decide +kernel)
theorem wd_345 : (Jvm.Cond.fieldLink "SilentSale$Rule" (38 : Nat) "SilentSale$Rule" "wordsUsed" "I") ∈ tb_L := tb_in (i := 345) (by decide +kernel) (by decide +kernel)
theorem wd_365 : (Jvm.Cond.arrayClass Jvm.ClassFile.FieldType.long) ∈ tb_L := tb_in (i := 365) (by decide +kernel) (by decide +kernel)
theorem dX4_init_0 : decode cX4_init 0 = .ok (.aload_n 0, 1) := by decide +kernel
theorem dX4_init_1 : decode cX4_init 1 = .ok (.invokespecial 3, 3) := by decide +kernel
theorem dX4_init_4 : decode cX4_init 4 = .ok (.aload_n 0, 1) := by decide +kernel
theorem dX4_init_5 : decode cX4_init 5 = .ok (.sipush 400, 3) := by decide +kernel
theorem dX4_init_8 : decode cX4_init 8 = .ok (.newarray .int, 2) := by decide +kernel
theorem dX4_init_10 : decode cX4_init 10 = .ok (.putfield 9, 3) := by decide +kernel
theorem dX4_init_13 : decode cX4_init 13 = .ok (.aload_n 0, 1) := by decide +kernel
theorem dX4_init_14 : decode cX4_init 14 = .ok (.bipush 10, 2) := by decide +kernel
theorem dX4_init_16 : decode cX4_init 16 = .ok (.newarray .long, 2) := by decide +kernel
theorem dX4_init_18 : decode cX4_init 18 = .ok (.putfield 15, 3) := by decide +kernel
theorem dX4_init_21 : decode cX4_init 21 = .ok (.aload_n 0, 1) := by decide +kernel
theorem dX4_init_22 : decode cX4_init 22 = .ok (.bipush 60, 2) := by decide +kernel
theorem dX4_init_24 : decode cX4_init 24 = .ok (.newarray .long, 2) := by decide +kernel
theorem dX4_init_26 : decode cX4_init 26 = .ok (.putfield 19, 3) := by decide +kernel
theorem dX4_init_29 : decode cX4_init 29 = .ok (.aload_n 0, 1) := by decide +kernel
theorem dX4_init_30 : decode cX4_init 30 = .ok (.bipush 11, 2) := by decide +kernel
theorem dX4_init_32 : decode cX4_init 32 = .ok (.newarray .int, 2) := by decide +kernel
theorem dX4_init_34 : decode cX4_init 34 = .ok (.putfield 22, 3) := by decide +kernel
theorem dX4_init_37 : decode cX4_init 37 = .ok (.aload_n 0, 1) := by decide +kernel
theorem dX4_init_38 : decode cX4_init 38 = .ok (.bipush 11, 2) := by decide +kernel
theorem dX4_init_40 : decode cX4_init 40 = .ok (.newarray .int, 2) := by decide +kernel
theorem dX4_init_42 : decode cX4_init 42 = .ok (.putfield 25, 3) := by decide +kernel
theorem dX4_init_45 : decode cX4_init 45 = .ok (.aload_n 0, 1) := by decide +kernel
theorem dX4_init_46 : decode cX4_init 46 = .ok (.iconst 0, 1) := by decide +kernel
theorem dX4_init_47 : decode cX4_init 47 = .ok (.putfield 28, 3) := by decide +kernel
theorem dX4_init_50 : decode cX4_init 50 = .ok (.aload_n 0, 1) := by decide +kernel
theorem dX4_init_51 : decode cX4_init 51 = .ok (.iconst 0, 1) := by decide +kernel
theorem dX4_init_52 : decode cX4_init 52 = .ok (.putfield 32, 3) := by decide +kernel
theorem dX4_init_55 : decode cX4_init 55 = .ok (.aload_n 0, 1) := by decide +kernel
theorem dX4_init_56 : decode cX4_init 56 = .ok (.iconst 0, 1) := by decide +kernel
theorem dX4_init_57 : decode cX4_init 57 = .ok (.putfield 35, 3) := by decide +kernel
theorem dX4_init_60 : decode cX4_init 60 = .ok (.aload_n 0, 1) := by decide +kernel
theorem dX4_init_61 : decode cX4_init 61 = .ok (.iconst 0, 1) := by decide +kernel
theorem dX4_init_62 : decode cX4_init 62 = .ok (.putfield 38, 3) := by decide +kernel
theorem dX4_init_65 : decode cX4_init 65 = .ok (.return_, 1) := by decide +kernel
theorem wd_125 : (Jvm.Cond.initialized "SilentSale$State") ∈ tb_L := tb_in (i := 125) (by decide +kernel) (by decide +kernel)
theorem wd_226 : (Jvm.Cond.instantiable "SilentSale$State" (10 : Nat)) ∈ tb_L := tb_in (i := 226) (by decide +kernel) (by decide +kernel)
theorem wd_228 : (Jvm.Cond.instanceMethod ({ cls := "SilentSale$State", name := "<init>", desc := "()V" } : Jvm.MethodName)) ∈ tb_L := tb_in (i := 228) (by decide +kernel) (by decide +kernel)
theorem wd_294 : (Jvm.Cond.code ({ cls := "SilentSale$Past", name := "<init>", desc := "()V" } : Jvm.MethodName) prog_5_method_1_code (2 : Nat) (Option.none : Option Jvm.ClassFile.FieldType)) ∈ tb_L := tb_in (i := 294) (by decide +kernel) (by decide +kernel)
theorem wd_295 : (Jvm.Cond.methodLink "SilentSale$Past" (3 : Nat) ({ cls := "java/lang/Object", name := "<init>", desc := "()V" } : Jvm.MethodName)) ∈ tb_L := tb_in (i := 295) (by decide +kernel) (by decide +kernel)
theorem wd_296 : (Jvm.Cond.classLink "SilentSale$Past" (9 : Nat) "SilentSale$State") ∈ tb_L := tb_in (i := 296) (by decide +kernel) (by decide +kernel)
theorem wd_299 : (Jvm.Cond.fieldLink "SilentSale$Past" (11 : Nat) "SilentSale$Past" "states" "[LSilentSale$State;") ∈ tb_L := tb_in (i := 299) (by decide +kernel) (by decide +kernel)
theorem wd_300 : (Jvm.Cond.fieldLink "SilentSale$Past" (17 : Nat) "SilentSale$Past" "next" "I") ∈ tb_L := tb_in (i := 300) (by decide +kernel) (by decide +kernel)
theorem wd_301 : (Jvm.Cond.fieldLink "SilentSale$Past" (21 : Nat) "SilentSale$Past" "size" "I") ∈ tb_L := tb_in (i := 301) (by decide +kernel) (by decide +kernel)
theorem wn_298 : (Jvm.Cond.methodLinkNest "SilentSale$Past" (24 : Nat) ({ cls := "SilentSale$State", name := "<init>", desc := "()V" } : Jvm.MethodName) "SilentSale") ∈ lw_tbl := List.mem_of_getElem? (i := 298) (by decide +kernel)
theorem dX3_init_0 : decode cX3_init 0 = .ok (.aload_n 0, 1) := by decide +kernel
theorem dX3_init_1 : decode cX3_init 1 = .ok (.invokespecial 3, 3) := by decide +kernel
theorem dX3_init_4 : decode cX3_init 4 = .ok (.aload_n 0, 1) := by decide +kernel
theorem dX3_init_5 : decode cX3_init 5 = .ok (.bipush 20, 2) := by decide +kernel
theorem dX3_init_7 : decode cX3_init 7 = .ok (.anewarray 9, 3) := by decide +kernel
theorem dX3_init_10 : decode cX3_init 10 = .ok (.putfield 11, 3) := by decide +kernel
theorem dX3_init_13 : decode cX3_init 13 = .ok (.aload_n 0, 1) := by decide +kernel
theorem dX3_init_14 : decode cX3_init 14 = .ok (.iconst 0, 1) := by decide +kernel
theorem dX3_init_15 : decode cX3_init 15 = .ok (.putfield 17, 3) := by decide +kernel
theorem dX3_init_18 : decode cX3_init 18 = .ok (.aload_n 0, 1) := by decide +kernel
theorem dX3_init_19 : decode cX3_init 19 = .ok (.iconst 0, 1) := by decide +kernel
theorem dX3_init_20 : decode cX3_init 20 = .ok (.putfield 21, 3) := by decide +kernel
theorem dX3_init_23 : decode cX3_init 23 = .ok (.iconst 0, 1) := by decide +kernel
theorem dX3_init_24 : decode cX3_init 24 = .ok (.istore_n 1, 1) := by decide +kernel
theorem dX3_init_25 : decode cX3_init 25 = .ok (.iload_n 1, 1) := by decide +kernel
theorem dX3_init_26 : decode cX3_init 26 = .ok (.bipush 20, 2) := by decide +kernel
theorem dX3_init_28 : decode cX3_init 28 = .ok (.if_icmp .ge 22, 3) := by decide +kernel
theorem dX3_init_31 : decode cX3_init 31 = .ok (.aload_n 0, 1) := by decide +kernel
theorem dX3_init_32 : decode cX3_init 32 = .ok (.getfield 11, 3) := by decide +kernel
theorem dX3_init_35 : decode cX3_init 35 = .ok (.iload_n 1, 1) := by decide +kernel
theorem dX3_init_36 : decode cX3_init 36 = .ok (.new 9, 3) := by decide +kernel
theorem dX3_init_39 : decode cX3_init 39 = .ok (.dup, 1) := by decide +kernel
theorem dX3_init_40 : decode cX3_init 40 = .ok (.invokespecial 24, 3) := by decide +kernel
theorem dX3_init_43 : decode cX3_init 43 = .ok (.aastore, 1) := by decide +kernel
theorem dX3_init_44 : decode cX3_init 44 = .ok (.iinc 1 1, 3) := by decide +kernel
theorem dX3_init_47 : decode cX3_init 47 = .ok (.goto (-22), 3) := by decide +kernel
theorem dX3_init_50 : decode cX3_init 50 = .ok (.return_, 1) := by decide +kernel
theorem wd_124 : (Jvm.Cond.initialized "SilentSale$Terms") ∈ tb_L := tb_in (i := 124) (by decide +kernel) (by decide +kernel)
theorem wd_127 : (Jvm.Cond.initialized "SilentSale$Logs") ∈ tb_L := tb_in (i := 127) (by decide +kernel) (by decide +kernel)
theorem wd_174 : (Jvm.Cond.instantiable "SilentSale$Terms" (9 : Nat)) ∈ tb_L := tb_in (i := 174) (by decide +kernel) (by decide +kernel)
theorem wd_176 : (Jvm.Cond.instanceMethod ({ cls := "SilentSale$Terms", name := "<init>", desc := "()V" } : Jvm.MethodName)) ∈ tb_L := tb_in (i := 176) (by decide +kernel) (by decide +kernel)
theorem wd_311 : (Jvm.Cond.instantiable "SilentSale$Logs" (4 : Nat)) ∈ tb_L := tb_in (i := 311) (by decide +kernel) (by decide +kernel)
theorem wd_313 : (Jvm.Cond.instanceMethod ({ cls := "SilentSale$Logs", name := "<init>", desc := "()V" } : Jvm.MethodName)) ∈ tb_L := tb_in (i := 313) (by decide +kernel) (by decide +kernel)
theorem wd_371 : (Jvm.Cond.code ({ cls := "SilentSale$Image", name := "<init>", desc := "()V" } : Jvm.MethodName) prog_3_method_1_code (1 : Nat) (Option.none : Option Jvm.ClassFile.FieldType)) ∈ tb_L := tb_in (i := 371) (by decide +kernel) (by decide +kernel)
theorem wd_372 : (Jvm.Cond.methodLink "SilentSale$Image" (3 : Nat) ({ cls := "java/lang/Object", name := "<init>", desc := "()V" } : Jvm.MethodName)) ∈ tb_L := tb_in (i := 372) (by decide +kernel) (by decide +kernel)
theorem wd_373 : (Jvm.Cond.classLink "SilentSale$Image" (9 : Nat) "SilentSale$Terms") ∈ tb_L := tb_in (i := 373) (by decide +kernel) (by decide +kernel)
theorem wd_375 : (Jvm.Cond.classLink "SilentSale$Image" (18 : Nat) "SilentSale$State") ∈ tb_L := tb_in (i := 375) (by decide +kernel) (by decide +kernel)
theorem wd_377 : (Jvm.Cond.classLink "SilentSale$Image" (25 : Nat) "SilentSale$Logs") ∈ tb_L := tb_in (i := 377) (by decide +kernel) (by decide +kernel)
theorem wd_379 : (Jvm.Cond.fieldLink "SilentSale$Image" (12 : Nat) "SilentSale$Image" "terms" "LSilentSale$Terms;") ∈ tb_L := tb_in (i := 379) (by decide +kernel) (by decide +kernel)
theorem wd_380 : (Jvm.Cond.fieldLink "SilentSale$Image" (21 : Nat) "SilentSale$Image" "state" "LSilentSale$State;") ∈ tb_L := tb_in (i := 380) (by decide +kernel) (by decide +kernel)
theorem wd_381 : (Jvm.Cond.fieldLink "SilentSale$Image" (28 : Nat) "SilentSale$Image" "logs" "LSilentSale$Logs;") ∈ tb_L := tb_in (i := 381) (by decide +kernel) (by decide +kernel)
theorem wd_382 : (Jvm.Cond.fieldLink "SilentSale$Image" (32 : Nat) "SilentSale$Image" "made" "Z") ∈ tb_L := tb_in (i := 382) (by decide +kernel) (by decide +kernel)
theorem wd_384 : (Jvm.Cond.fieldLink "SilentSale$Image" (36 : Nat) "SilentSale$Image" "inForce" "I") ∈ tb_L := tb_in (i := 384) (by decide +kernel) (by decide +kernel)
theorem wd_386 : (Jvm.Cond.fieldLink "SilentSale$Image" (40 : Nat) "SilentSale$Image" "x" "I") ∈ tb_L := tb_in (i := 386) (by decide +kernel) (by decide +kernel)
theorem wn_374 : (Jvm.Cond.methodLinkNest "SilentSale$Image" (11 : Nat) ({ cls := "SilentSale$Terms", name := "<init>", desc := "()V" } : Jvm.MethodName) "SilentSale") ∈ lw_tbl := List.mem_of_getElem? (i := 374) (by decide +kernel)
theorem wn_376 : (Jvm.Cond.methodLinkNest "SilentSale$Image" (20 : Nat) ({ cls := "SilentSale$State", name := "<init>", desc := "()V" } : Jvm.MethodName) "SilentSale") ∈ lw_tbl := List.mem_of_getElem? (i := 376) (by decide +kernel)
theorem wn_378 : (Jvm.Cond.methodLinkNest "SilentSale$Image" (27 : Nat) ({ cls := "SilentSale$Logs", name := "<init>", desc := "()V" } : Jvm.MethodName) "SilentSale") ∈ lw_tbl := List.mem_of_getElem? (i := 378) (by decide +kernel)
theorem dX1_init_0 : decode cX1_init 0 = .ok (.aload_n 0, 1) := by decide +kernel
theorem dX1_init_1 : decode cX1_init 1 = .ok (.invokespecial 3, 3) := by decide +kernel
theorem dX1_init_4 : decode cX1_init 4 = .ok (.aload_n 0, 1) := by decide +kernel
theorem dX1_init_5 : decode cX1_init 5 = .ok (.new 9, 3) := by decide +kernel
theorem dX1_init_8 : decode cX1_init 8 = .ok (.dup, 1) := by decide +kernel
theorem dX1_init_9 : decode cX1_init 9 = .ok (.invokespecial 11, 3) := by decide +kernel
theorem dX1_init_12 : decode cX1_init 12 = .ok (.putfield 12, 3) := by decide +kernel
theorem dX1_init_15 : decode cX1_init 15 = .ok (.aload_n 0, 1) := by decide +kernel
theorem dX1_init_16 : decode cX1_init 16 = .ok (.new 18, 3) := by decide +kernel
theorem dX1_init_19 : decode cX1_init 19 = .ok (.dup, 1) := by decide +kernel
theorem dX1_init_20 : decode cX1_init 20 = .ok (.invokespecial 20, 3) := by decide +kernel
theorem dX1_init_23 : decode cX1_init 23 = .ok (.putfield 21, 3) := by decide +kernel
theorem dX1_init_26 : decode cX1_init 26 = .ok (.aload_n 0, 1) := by decide +kernel
theorem dX1_init_27 : decode cX1_init 27 = .ok (.new 25, 3) := by decide +kernel
theorem dX1_init_30 : decode cX1_init 30 = .ok (.dup, 1) := by decide +kernel
theorem dX1_init_31 : decode cX1_init 31 = .ok (.invokespecial 27, 3) := by decide +kernel
theorem dX1_init_34 : decode cX1_init 34 = .ok (.putfield 28, 3) := by decide +kernel
theorem dX1_init_37 : decode cX1_init 37 = .ok (.aload_n 0, 1) := by decide +kernel
theorem dX1_init_38 : decode cX1_init 38 = .ok (.iconst 0, 1) := by decide +kernel
theorem dX1_init_39 : decode cX1_init 39 = .ok (.putfield 32, 3) := by decide +kernel
theorem dX1_init_42 : decode cX1_init 42 = .ok (.aload_n 0, 1) := by decide +kernel
theorem dX1_init_43 : decode cX1_init 43 = .ok (.iconst (-1), 1) := by decide +kernel
theorem dX1_init_44 : decode cX1_init 44 = .ok (.putfield 36, 3) := by decide +kernel
theorem dX1_init_47 : decode cX1_init 47 = .ok (.aload_n 0, 1) := by decide +kernel
theorem dX1_init_48 : decode cX1_init 48 = .ok (.iconst 0, 1) := by decide +kernel
theorem dX1_init_49 : decode cX1_init 49 = .ok (.putfield 40, 3) := by decide +kernel
theorem dX1_init_52 : decode cX1_init 52 = .ok (.return_, 1) := by decide +kernel
theorem wd_405 : (Jvm.Cond.code ({ cls := "SilentSale$Clerk", name := "<init>", desc := "()V" } : Jvm.MethodName) prog_2_method_1_code (1 : Nat) (Option.none : Option Jvm.ClassFile.FieldType)) ∈ tb_L := tb_in (i := 405) (by decide +kernel) (by decide +kernel)
theorem wd_406 : (Jvm.Cond.methodLink "SilentSale$Clerk" (3 : Nat) ({ cls := "java/lang/Object", name := "<init>", desc := "()V" } : Jvm.MethodName)) ∈ tb_L := tb_in (i := 406) (by decide +kernel) (by decide +kernel)
theorem wd_407 : (Jvm.Cond.classLink "SilentSale$Clerk" (9 : Nat) "SilentSale$Terms") ∈ tb_L := tb_in (i := 407) (by decide +kernel) (by decide +kernel)
theorem wd_409 : (Jvm.Cond.fieldLink "SilentSale$Clerk" (12 : Nat) "SilentSale$Clerk" "terms" "LSilentSale$Terms;") ∈ tb_L := tb_in (i := 409) (by decide +kernel) (by decide +kernel)
theorem wd_410 : (Jvm.Cond.fieldLink "SilentSale$Clerk" (18 : Nat) "SilentSale$Clerk" "rule" "LSilentSale$Rule;") ∈ tb_L := tb_in (i := 410) (by decide +kernel) (by decide +kernel)
theorem wd_411 : (Jvm.Cond.fieldLink "SilentSale$Clerk" (22 : Nat) "SilentSale$Clerk" "holder" "I") ∈ tb_L := tb_in (i := 411) (by decide +kernel) (by decide +kernel)
theorem wd_412 : (Jvm.Cond.fieldLink "SilentSale$Clerk" (26 : Nat) "SilentSale$Clerk" "drawn" "J") ∈ tb_L := tb_in (i := 412) (by decide +kernel) (by decide +kernel)
theorem wn_408 : (Jvm.Cond.methodLinkNest "SilentSale$Clerk" (11 : Nat) ({ cls := "SilentSale$Terms", name := "<init>", desc := "()V" } : Jvm.MethodName) "SilentSale") ∈ lw_tbl := List.mem_of_getElem? (i := 408) (by decide +kernel)
theorem dX0_init_0 : decode cX0_init 0 = .ok (.aload_n 0, 1) := by decide +kernel
theorem dX0_init_1 : decode cX0_init 1 = .ok (.invokespecial 3, 3) := by decide +kernel
theorem dX0_init_4 : decode cX0_init 4 = .ok (.aload_n 0, 1) := by decide +kernel
theorem dX0_init_5 : decode cX0_init 5 = .ok (.new 9, 3) := by decide +kernel
theorem dX0_init_8 : decode cX0_init 8 = .ok (.dup, 1) := by decide +kernel
theorem dX0_init_9 : decode cX0_init 9 = .ok (.invokespecial 11, 3) := by decide +kernel
theorem dX0_init_12 : decode cX0_init 12 = .ok (.putfield 12, 3) := by decide +kernel
theorem dX0_init_15 : decode cX0_init 15 = .ok (.aload_n 0, 1) := by decide +kernel
theorem dX0_init_16 : decode cX0_init 16 = .ok (.aconst_null, 1) := by decide +kernel
theorem dX0_init_17 : decode cX0_init 17 = .ok (.putfield 18, 3) := by decide +kernel
theorem dX0_init_20 : decode cX0_init 20 = .ok (.aload_n 0, 1) := by decide +kernel
theorem dX0_init_21 : decode cX0_init 21 = .ok (.iconst 0, 1) := by decide +kernel
theorem dX0_init_22 : decode cX0_init 22 = .ok (.putfield 22, 3) := by decide +kernel
theorem dX0_init_25 : decode cX0_init 25 = .ok (.aload_n 0, 1) := by decide +kernel
theorem dX0_init_26 : decode cX0_init 26 = .ok (.lconst 0, 1) := by decide +kernel
theorem dX0_init_27 : decode cX0_init 27 = .ok (.putfield 26, 3) := by decide +kernel
theorem dX0_init_30 : decode cX0_init 30 = .ok (.return_, 1) := by decide +kernel
theorem wd_426 : (Jvm.Cond.code ({ cls := "SilentSale$Seating", name := "<init>", desc := "()V" } : Jvm.MethodName) prog_7_method_1_code (1 : Nat) (Option.none : Option Jvm.ClassFile.FieldType)) ∈ tb_L := tb_in (i := 426) (by decide +kernel) (by decide +kernel)
theorem wd_427 : (Jvm.Cond.methodLink "SilentSale$Seating" (3 : Nat) ({ cls := "java/lang/Object", name := "<init>", desc := "()V" } : Jvm.MethodName)) ∈ tb_L := tb_in (i := 427) (by decide +kernel) (by decide +kernel)
theorem wd_428 : (Jvm.Cond.classLink "SilentSale$Seating" (9 : Nat) "SilentSale$State") ∈ tb_L := tb_in (i := 428) (by decide +kernel) (by decide +kernel)
theorem wd_430 : (Jvm.Cond.fieldLink "SilentSale$Seating" (12 : Nat) "SilentSale$Seating" "trial" "LSilentSale$State;") ∈ tb_L := tb_in (i := 430) (by decide +kernel) (by decide +kernel)
theorem wd_431 : (Jvm.Cond.fieldLink "SilentSale$Seating" (18 : Nat) "SilentSale$Seating" "row" "[I") ∈ tb_L := tb_in (i := 431) (by decide +kernel) (by decide +kernel)
theorem wd_432 : (Jvm.Cond.fieldLink "SilentSale$Seating" (22 : Nat) "SilentSale$Seating" "gainsBySet" "[I") ∈ tb_L := tb_in (i := 432) (by decide +kernel) (by decide +kernel)
theorem wd_433 : (Jvm.Cond.fieldLink "SilentSale$Seating" (25 : Nat) "SilentSale$Seating" "best" "[I") ∈ tb_L := tb_in (i := 433) (by decide +kernel) (by decide +kernel)
theorem wd_435 : (Jvm.Cond.fieldLink "SilentSale$Seating" (28 : Nat) "SilentSale$Seating" "gains" "I") ∈ tb_L := tb_in (i := 435) (by decide +kernel) (by decide +kernel)
theorem wn_429 : (Jvm.Cond.methodLinkNest "SilentSale$Seating" (11 : Nat) ({ cls := "SilentSale$State", name := "<init>", desc := "()V" } : Jvm.MethodName) "SilentSale") ∈ lw_tbl := List.mem_of_getElem? (i := 429) (by decide +kernel)
theorem dX5_init_0 : decode cX5_init 0 = .ok (.aload_n 0, 1) := by decide +kernel
theorem dX5_init_1 : decode cX5_init 1 = .ok (.invokespecial 3, 3) := by decide +kernel
theorem dX5_init_4 : decode cX5_init 4 = .ok (.aload_n 0, 1) := by decide +kernel
theorem dX5_init_5 : decode cX5_init 5 = .ok (.new 9, 3) := by decide +kernel
theorem dX5_init_8 : decode cX5_init 8 = .ok (.dup, 1) := by decide +kernel
theorem dX5_init_9 : decode cX5_init 9 = .ok (.invokespecial 11, 3) := by decide +kernel
theorem dX5_init_12 : decode cX5_init 12 = .ok (.putfield 12, 3) := by decide +kernel
theorem dX5_init_15 : decode cX5_init 15 = .ok (.aload_n 0, 1) := by decide +kernel
theorem dX5_init_16 : decode cX5_init 16 = .ok (.iconst 5, 1) := by decide +kernel
theorem dX5_init_17 : decode cX5_init 17 = .ok (.newarray .int, 2) := by decide +kernel
theorem dX5_init_19 : decode cX5_init 19 = .ok (.putfield 18, 3) := by decide +kernel
theorem dX5_init_22 : decode cX5_init 22 = .ok (.aload_n 0, 1) := by decide +kernel
theorem dX5_init_23 : decode cX5_init 23 = .ok (.bipush 96, 2) := by decide +kernel
theorem dX5_init_25 : decode cX5_init 25 = .ok (.newarray .int, 2) := by decide +kernel
theorem dX5_init_27 : decode cX5_init 27 = .ok (.putfield 22, 3) := by decide +kernel
theorem dX5_init_30 : decode cX5_init 30 = .ok (.aload_n 0, 1) := by decide +kernel
theorem dX5_init_31 : decode cX5_init 31 = .ok (.iconst 5, 1) := by decide +kernel
theorem dX5_init_32 : decode cX5_init 32 = .ok (.newarray .int, 2) := by decide +kernel
theorem dX5_init_34 : decode cX5_init 34 = .ok (.putfield 25, 3) := by decide +kernel
theorem dX5_init_37 : decode cX5_init 37 = .ok (.aload_n 0, 1) := by decide +kernel
theorem dX5_init_38 : decode cX5_init 38 = .ok (.iconst 0, 1) := by decide +kernel
theorem dX5_init_39 : decode cX5_init 39 = .ok (.putfield 28, 3) := by decide +kernel
theorem dX5_init_42 : decode cX5_init 42 = .ok (.return_, 1) := by decide +kernel
theorem wd_452 : (Jvm.Cond.code ({ cls := "SilentSale$Trickery", name := "<init>", desc := "()V" } : Jvm.MethodName) prog_12_method_1_code (1 : Nat) (Option.none : Option Jvm.ClassFile.FieldType)) ∈ tb_L := tb_in (i := 452) (by decide +kernel) (by decide +kernel)
theorem wd_453 : (Jvm.Cond.methodLink "SilentSale$Trickery" (3 : Nat) ({ cls := "java/lang/Object", name := "<init>", desc := "()V" } : Jvm.MethodName)) ∈ tb_L := tb_in (i := 453) (by decide +kernel) (by decide +kernel)
theorem wd_454 : (Jvm.Cond.classLink "SilentSale$Trickery" (9 : Nat) "SilentSale$State") ∈ tb_L := tb_in (i := 454) (by decide +kernel) (by decide +kernel)
theorem wd_456 : (Jvm.Cond.fieldLink "SilentSale$Trickery" (12 : Nat) "SilentSale$Trickery" "trial" "LSilentSale$State;") ∈ tb_L := tb_in (i := 456) (by decide +kernel) (by decide +kernel)
theorem wd_457 : (Jvm.Cond.fieldLink "SilentSale$Trickery" (18 : Nat) "SilentSale$Trickery" "row" "[I") ∈ tb_L := tb_in (i := 457) (by decide +kernel) (by decide +kernel)
theorem wd_458 : (Jvm.Cond.fieldLink "SilentSale$Trickery" (22 : Nat) "SilentSale$Trickery" "best" "[I") ∈ tb_L := tb_in (i := 458) (by decide +kernel) (by decide +kernel)
theorem wd_460 : (Jvm.Cond.fieldLink "SilentSale$Trickery" (25 : Nat) "SilentSale$Trickery" "coins" "I") ∈ tb_L := tb_in (i := 460) (by decide +kernel) (by decide +kernel)
theorem wn_455 : (Jvm.Cond.methodLinkNest "SilentSale$Trickery" (11 : Nat) ({ cls := "SilentSale$State", name := "<init>", desc := "()V" } : Jvm.MethodName) "SilentSale") ∈ lw_tbl := List.mem_of_getElem? (i := 455) (by decide +kernel)
theorem dX10_init_0 : decode cX10_init 0 = .ok (.aload_n 0, 1) := by decide +kernel
theorem dX10_init_1 : decode cX10_init 1 = .ok (.invokespecial 3, 3) := by decide +kernel
theorem dX10_init_4 : decode cX10_init 4 = .ok (.aload_n 0, 1) := by decide +kernel
theorem dX10_init_5 : decode cX10_init 5 = .ok (.new 9, 3) := by decide +kernel
theorem dX10_init_8 : decode cX10_init 8 = .ok (.dup, 1) := by decide +kernel
theorem dX10_init_9 : decode cX10_init 9 = .ok (.invokespecial 11, 3) := by decide +kernel
theorem dX10_init_12 : decode cX10_init 12 = .ok (.putfield 12, 3) := by decide +kernel
theorem dX10_init_15 : decode cX10_init 15 = .ok (.aload_n 0, 1) := by decide +kernel
theorem dX10_init_16 : decode cX10_init 16 = .ok (.iconst 5, 1) := by decide +kernel
theorem dX10_init_17 : decode cX10_init 17 = .ok (.newarray .int, 2) := by decide +kernel
theorem dX10_init_19 : decode cX10_init 19 = .ok (.putfield 18, 3) := by decide +kernel
theorem dX10_init_22 : decode cX10_init 22 = .ok (.aload_n 0, 1) := by decide +kernel
theorem dX10_init_23 : decode cX10_init 23 = .ok (.iconst 5, 1) := by decide +kernel
theorem dX10_init_24 : decode cX10_init 24 = .ok (.newarray .int, 2) := by decide +kernel
theorem dX10_init_26 : decode cX10_init 26 = .ok (.putfield 22, 3) := by decide +kernel
theorem dX10_init_29 : decode cX10_init 29 = .ok (.aload_n 0, 1) := by decide +kernel
theorem dX10_init_30 : decode cX10_init 30 = .ok (.iconst (-1), 1) := by decide +kernel
theorem dX10_init_31 : decode cX10_init 31 = .ok (.putfield 25, 3) := by decide +kernel
theorem dX10_init_34 : decode cX10_init 34 = .ok (.return_, 1) := by decide +kernel
theorem wd_475 : (Jvm.Cond.code ({ cls := "SilentSale$Sleuth", name := "<init>", desc := "()V" } : Jvm.MethodName) prog_8_method_1_code (1 : Nat) (Option.none : Option Jvm.ClassFile.FieldType)) ∈ tb_L := tb_in (i := 475) (by decide +kernel) (by decide +kernel)
theorem wd_476 : (Jvm.Cond.methodLink "SilentSale$Sleuth" (3 : Nat) ({ cls := "java/lang/Object", name := "<init>", desc := "()V" } : Jvm.MethodName)) ∈ tb_L := tb_in (i := 476) (by decide +kernel) (by decide +kernel)
theorem wd_477 : (Jvm.Cond.classLink "SilentSale$Sleuth" (9 : Nat) "SilentSale$State") ∈ tb_L := tb_in (i := 477) (by decide +kernel) (by decide +kernel)
theorem wd_479 : (Jvm.Cond.fieldLink "SilentSale$Sleuth" (12 : Nat) "SilentSale$Sleuth" "trial" "LSilentSale$State;") ∈ tb_L := tb_in (i := 479) (by decide +kernel) (by decide +kernel)
theorem wd_480 : (Jvm.Cond.fieldLink "SilentSale$Sleuth" (18 : Nat) "SilentSale$Sleuth" "who" "[I") ∈ tb_L := tb_in (i := 480) (by decide +kernel) (by decide +kernel)
theorem wd_481 : (Jvm.Cond.fieldLink "SilentSale$Sleuth" (22 : Nat) "SilentSale$Sleuth" "coins" "[I") ∈ tb_L := tb_in (i := 481) (by decide +kernel) (by decide +kernel)
theorem wd_482 : (Jvm.Cond.fieldLink "SilentSale$Sleuth" (25 : Nat) "SilentSale$Sleuth" "fitting" "I") ∈ tb_L := tb_in (i := 482) (by decide +kernel) (by decide +kernel)
theorem wn_478 : (Jvm.Cond.methodLinkNest "SilentSale$Sleuth" (11 : Nat) ({ cls := "SilentSale$State", name := "<init>", desc := "()V" } : Jvm.MethodName) "SilentSale") ∈ lw_tbl := List.mem_of_getElem? (i := 478) (by decide +kernel)
theorem dX6_init_0 : decode cX6_init 0 = .ok (.aload_n 0, 1) := by decide +kernel
theorem dX6_init_1 : decode cX6_init 1 = .ok (.invokespecial 3, 3) := by decide +kernel
theorem dX6_init_4 : decode cX6_init 4 = .ok (.aload_n 0, 1) := by decide +kernel
theorem dX6_init_5 : decode cX6_init 5 = .ok (.new 9, 3) := by decide +kernel
theorem dX6_init_8 : decode cX6_init 8 = .ok (.dup, 1) := by decide +kernel
theorem dX6_init_9 : decode cX6_init 9 = .ok (.invokespecial 11, 3) := by decide +kernel
theorem dX6_init_12 : decode cX6_init 12 = .ok (.putfield 12, 3) := by decide +kernel
theorem dX6_init_15 : decode cX6_init 15 = .ok (.aload_n 0, 1) := by decide +kernel
theorem dX6_init_16 : decode cX6_init 16 = .ok (.bipush 21, 2) := by decide +kernel
theorem dX6_init_18 : decode cX6_init 18 = .ok (.newarray .int, 2) := by decide +kernel
theorem dX6_init_20 : decode cX6_init 20 = .ok (.putfield 18, 3) := by decide +kernel
theorem dX6_init_23 : decode cX6_init 23 = .ok (.aload_n 0, 1) := by decide +kernel
theorem dX6_init_24 : decode cX6_init 24 = .ok (.bipush 21, 2) := by decide +kernel
theorem dX6_init_26 : decode cX6_init 26 = .ok (.newarray .int, 2) := by decide +kernel
theorem dX6_init_28 : decode cX6_init 28 = .ok (.putfield 22, 3) := by decide +kernel
theorem dX6_init_31 : decode cX6_init 31 = .ok (.aload_n 0, 1) := by decide +kernel
theorem dX6_init_32 : decode cX6_init 32 = .ok (.iconst 0, 1) := by decide +kernel
theorem dX6_init_33 : decode cX6_init 33 = .ok (.putfield 25, 3) := by decide +kernel
theorem dX6_init_36 : decode cX6_init 36 = .ok (.return_, 1) := by decide +kernel
set_option maxHeartbeats 4000000 in
set_option maxRecDepth 100000 in
theorem c_Tape_init (l : Launch) (G : gg_T) (sz : Nat) (t : Nat) : Met l yX8_init (ts_L yX8_init cX8_init 1 none) ({ frames := 1, cells := 1, slots := 400, locals := 12 }) (gc_P G [(t, .inr (8, [.null, .int 0, .int 0, .int 0, .int 0]))] sz [.ref t]) (gc_V G (va_A [(t, .inr (8, [.null, .int 0, .int 0, .int 0, .int 0]))] sz) (fun (_ : (Nat)) => True) (fun (u : (Nat)) => match u with | b => [(t, .inr (8, [.ref b, .int 0, .int 0, .int 0, .int 0])), (b, .inl (G.2.2 0, 400, .inl (fun _ => 0)))])) 1 400 (va_A [(t, .inr (8, [.null, .int 0, .int 0, .int 0, .int 0]))] sz) := by
  refine Met.ofW (cc := cX8_init) (maxL := 1) (ret := none) (by decide) rfl ?_
  intro p e s m args below meth c s₁ B hml hv
  obtain ⟨rfl, hsz, hP, hK, hD0⟩ := hv
  have hx := B.exec
  have hb := B.bytes
  have hr := B.returns
  have ht := ts_ht (atoms_spec (ws := ts_L yX8_init cX8_init 1 none) B.pre)
  have hown : s.vm.findClass RX8 = some m.cls := findClass_of_methodNamed B.named
  have hlocks := B.notSynchronized
  have hin : meth.name = "<init>" := (name_of_methodNamed B.named B.method).1
  subst hsz
  have hD := hD0.self (sz := s.heap.size)
  generalize hAe : va_A [(t, .inr (8, [.null, .int 0, .int 0, .int 0, .int 0]))] s.heap.size = A at hD ⊢
  have hA : ∀ q : Nat, s.heap.size ≤ q → A q := fun q h => by rw [← hAe]; exact Or.inr h
  have hS : va_S A s.heap s.heap [] := va_S.rf
  have hl := lv_entry ([.ref t]) (n := 1) (Nat.le_of_ble_eq_true rfl)
  rw [lg_entry_eq]
  generalize (lg_sl ([.ref t]) ++ List.replicate (1 - (lg_sl ([.ref t])).length) Slot.unset).toArray = ls at hl ⊢
  have hl : lv_has ls 1 [(0, .ref t)] := hl
  refine lv_aload_n hx hb dX8_init_0 rfl (lv_at hl 0 rfl) ?_
  refine W.objInit hx hb hown (ht _ wd_155) (ht _ wd_148) (ht _ wd_149) rfl (by rw [hml]; exact hl.1) rfl dX8_init_1 (Nat.le_of_ble_eq_true rfl) (Nat.le_of_ble_eq_true rfl) ?_
  refine W.eq (g2 := F0 m 4 ls []) rfl ?_
  refine lv_aload_n hx hb dX8_init_4 rfl (lv_at hl 0 rfl) ?_
  refine lv_sipush (v := 400) hx hb dX8_init_5 (by decide +kernel) ?_
  refine gq_newa (atype := .int) (ty := .int) hx hb rfl (ht _ wd_172) hK hP hD hS hA 0 rfl 400 (400, .inl (fun _ => 0)) (fun _ => rfl) (by decide +kernel) (by decide +kernel) (Nat.le_of_ble_eq_true rfl) 1 400 (Nat.le_of_ble_eq_true rfl) (Nat.le_of_ble_eq_true rfl) (Nat.le_of_ble_eq_true rfl) (Nat.le_of_ble_eq_true rfl) dX8_init_8 (fun q_1 H hP hD hS => ?_)
  have hP : va_P (gg_D G) classes [(t, .inr (8, [.null, .int 0, .int 0, .int 0, .int 0])), (q_1, .inl (G.2.2 0, 400, .inl (fun _ => 0)))] H := hP
  have hD : va_D A [(t, .inr (8, [.null, .int 0, .int 0, .int 0, .int 0])), (q_1, .inl (G.2.2 0, 400, .inl (fun _ => 0)))] := hD
  refine gq_putF (ws' := [(t, .inr (8, [.ref q_1, .int 0, .int 0, .int 0, .int 0])), (q_1, .inl (G.2.2 0, 400, .inl (fun _ => 0)))]) hx hb ht hown hin hK hP hD hS i_X8 tyX8 tyX8_ok nmX8 0 rfl rfl 0 (by decide) wd_156 rfl rfl rfl rfl (Nat.le_of_ble_eq_true rfl) rfl dX8_init_10 (fun H locs hP hD hS => ?_)
  refine lv_aload_n hx hb dX8_init_13 rfl (lv_at hl 0 rfl) ?_
  refine lv_iconst (v := 0) hx hb dX8_init_14 (by decide) ?_
  refine gq_put (ws' := [(t, .inr (8, [.ref q_1, .int 0, .int 0, .int 0, .int 0])), (q_1, .inl (G.2.2 0, 400, .inl (fun _ => 0)))]) hx hb ht hown hK hP hD hS i_X8 tyX8 tyX8_ok nmX8 0 rfl rfl 1 (by decide) wd_157 rfl rfl rfl rfl (Nat.le_of_ble_eq_true rfl) rfl dX8_init_15 (fun H locs hP hD hS => ?_)
  refine lv_aload_n hx hb dX8_init_18 rfl (lv_at hl 0 rfl) ?_
  refine lv_iconst (v := 0) hx hb dX8_init_19 (by decide) ?_
  refine gq_put (ws' := [(t, .inr (8, [.ref q_1, .int 0, .int 0, .int 0, .int 0])), (q_1, .inl (G.2.2 0, 400, .inl (fun _ => 0)))]) hx hb ht hown hK hP hD hS i_X8 tyX8 tyX8_ok nmX8 0 rfl rfl 2 (by decide) wd_158 rfl rfl rfl rfl (Nat.le_of_ble_eq_true rfl) rfl dX8_init_20 (fun H locs hP hD hS => ?_)
  refine lv_aload_n hx hb dX8_init_23 rfl (lv_at hl 0 rfl) ?_
  refine lv_iconst (v := 0) hx hb dX8_init_24 (by decide) ?_
  refine gq_put (ws' := [(t, .inr (8, [.ref q_1, .int 0, .int 0, .int 0, .int 0])), (q_1, .inl (G.2.2 0, 400, .inl (fun _ => 0)))]) hx hb ht hown hK hP hD hS i_X8 tyX8 tyX8_ok nmX8 0 rfl rfl 3 (by decide) wd_159 rfl rfl rfl rfl (Nat.le_of_ble_eq_true rfl) rfl dX8_init_25 (fun H locs hP hD hS => ?_)
  refine lv_aload_n hx hb dX8_init_28 rfl (lv_at hl 0 rfl) ?_
  refine lv_iconst (v := 0) hx hb dX8_init_29 (by decide) ?_
  refine gq_put (ws' := [(t, .inr (8, [.ref q_1, .int 0, .int 0, .int 0, .int 0])), (q_1, .inl (G.2.2 0, 400, .inl (fun _ => 0)))]) hx hb ht hown hK hP hD hS i_X8 tyX8 tyX8_ok nmX8 0 rfl rfl 4 (by decide) wd_160 rfl rfl rfl rfl (Nat.le_of_ble_eq_true rfl) rfl dX8_init_30 (fun H locs hP hD hS => ?_)
  have hP9 := hP.sub (ws' := [(t, .inr (8, [.ref q_1, .int 0, .int 0, .int 0, .int 0])), (q_1, .inl (G.2.2 0, 400, .inl (fun _ => 0)))]) [0, 1] rfl
  have hD9 := hD.sub (ws' := [(t, .inr (8, [.ref q_1, .int 0, .int 0, .int 0, .int 0])), (q_1, .inl (G.2.2 0, 400, .inl (fun _ => 0)))]) [0, 1] (by decide) rfl
  refine W.widen (k := 1) (n := 400) (Nat.le_of_ble_eq_true rfl) (Nat.le_of_ble_eq_true rfl) ?_
  exact W.vret hx hb hr (gq_endV (q_1) trivial hP9 hD9 hS) hS.2.2 dX8_init_33
set_option maxHeartbeats 4000000 in
set_option maxRecDepth 100000 in
theorem c_Terms_init (l : Launch) (G : gg_T) (sz : Nat) (t : Nat) : Met l yX9_init (ts_L yX9_init cX9_init 1 none) ({ frames := 1, cells := 5, slots := 31, locals := 12 }) (gc_P G [(t, .inr (9, [.int 0, .int 0, .int 0, .int 0, .null, .null, .null, .null, .null]))] sz [.ref t]) (gc_V G (va_A [(t, .inr (9, [.int 0, .int 0, .int 0, .int 0, .null, .null, .null, .null, .null]))] sz) (fun (_ : (Nat) × (Nat) × (Nat) × (Nat) × (Nat)) => True) (fun (u : (Nat) × (Nat) × (Nat) × (Nat) × (Nat)) => match u with | (r0, r1, r2, r3, r4) => [(t, .inr (9, [.int 0, .int 0, .int 0, .int 0, .ref r0, .ref r1, .ref r2, .ref r3, .ref r4])), (r0, .inl (G.2.2 0, 5, .inl (fun _ => 0))), (r1, .inl (G.2.2 0, 5, .inl (fun _ => 0))), (r2, .inl (G.2.2 0, 15, .inl (fun _ => 0))), (r3, .inl (G.2.2 0, 3, .inl (fun _ => 0))), (r4, .inl (G.2.2 0, 3, .inl (fun _ => 0)))])) 5 31 (va_A [(t, .inr (9, [.int 0, .int 0, .int 0, .int 0, .null, .null, .null, .null, .null]))] sz) := by
  refine Met.ofW (cc := cX9_init) (maxL := 1) (ret := none) (by decide) rfl ?_
  intro p e s m args below meth c s₁ B hml hv
  obtain ⟨rfl, hsz, hP, hK, hD0⟩ := hv
  have hx := B.exec
  have hb := B.bytes
  have hr := B.returns
  have ht := ts_ht (atoms_spec (ws := ts_L yX9_init cX9_init 1 none) B.pre)
  have hown : s.vm.findClass RX9 = some m.cls := findClass_of_methodNamed B.named
  have hlocks := B.notSynchronized
  have hin : meth.name = "<init>" := (name_of_methodNamed B.named B.method).1
  subst hsz
  have hD := hD0.self (sz := s.heap.size)
  generalize hAe : va_A [(t, .inr (9, [.int 0, .int 0, .int 0, .int 0, .null, .null, .null, .null, .null]))] s.heap.size = A at hD ⊢
  have hA : ∀ q : Nat, s.heap.size ≤ q → A q := fun q h => by rw [← hAe]; exact Or.inr h
  have hS : va_S A s.heap s.heap [] := va_S.rf
  have hl := lv_entry ([.ref t]) (n := 1) (Nat.le_of_ble_eq_true rfl)
  rw [lg_entry_eq]
  generalize (lg_sl ([.ref t]) ++ List.replicate (1 - (lg_sl ([.ref t])).length) Slot.unset).toArray = ls at hl ⊢
  have hl : lv_has ls 1 [(0, .ref t)] := hl
  refine lv_aload_n hx hb dX9_init_0 rfl (lv_at hl 0 rfl) ?_
  refine W.objInit hx hb hown (ht _ wd_178) (ht _ wd_148) (ht _ wd_149) rfl (by rw [hml]; exact hl.1) rfl dX9_init_1 (Nat.le_of_ble_eq_true rfl) (Nat.le_of_ble_eq_true rfl) ?_
  refine W.eq (g2 := F0 m 4 ls []) rfl ?_
  refine lv_aload_n hx hb dX9_init_4 rfl (lv_at hl 0 rfl) ?_
  refine lv_iconst (v := 0) hx hb dX9_init_5 (by decide) ?_
  refine gq_put (ws' := [(t, .inr (9, [.int 0, .int 0, .int 0, .int 0, .null, .null, .null, .null, .null]))]) hx hb ht hown hK hP hD hS i_X9 tyX9 tyX9_ok nmX9 0 rfl rfl 0 (by decide) wd_179 rfl rfl rfl rfl (Nat.le_of_ble_eq_true rfl) rfl dX9_init_6 (fun H locs hP hD hS => ?_)
  refine lv_aload_n hx hb dX9_init_9 rfl (lv_at hl 0 rfl) ?_
  refine lv_iconst (v := 0) hx hb dX9_init_10 (by decide) ?_
  refine gq_put (ws' := [(t, .inr (9, [.int 0, .int 0, .int 0, .int 0, .null, .null, .null, .null, .null]))]) hx hb ht hown hK hP hD hS i_X9 tyX9 tyX9_ok nmX9 0 rfl rfl 1 (by decide) wd_182 rfl rfl rfl rfl (Nat.le_of_ble_eq_true rfl) rfl dX9_init_11 (fun H locs hP hD hS => ?_)
  refine lv_aload_n hx hb dX9_init_14 rfl (lv_at hl 0 rfl) ?_
  refine lv_iconst (v := 0) hx hb dX9_init_15 (by decide) ?_
  refine gq_put (ws' := [(t, .inr (9, [.int 0, .int 0, .int 0, .int 0, .null, .null, .null, .null, .null]))]) hx hb ht hown hK hP hD hS i_X9 tyX9 tyX9_ok nmX9 0 rfl rfl 2 (by decide) wd_187 rfl rfl rfl rfl (Nat.le_of_ble_eq_true rfl) rfl dX9_init_16 (fun H locs hP hD hS => ?_)
  refine lv_aload_n hx hb dX9_init_19 rfl (lv_at hl 0 rfl) ?_
  refine lv_iconst (v := 0) hx hb dX9_init_20 (by decide) ?_
  refine gq_put (ws' := [(t, .inr (9, [.int 0, .int 0, .int 0, .int 0, .null, .null, .null, .null, .null]))]) hx hb ht hown hK hP hD hS i_X9 tyX9 tyX9_ok nmX9 0 rfl rfl 3 (by decide) wd_191 rfl rfl rfl rfl (Nat.le_of_ble_eq_true rfl) rfl dX9_init_21 (fun H locs hP hD hS => ?_)
  refine lv_aload_n hx hb dX9_init_24 rfl (lv_at hl 0 rfl) ?_
  refine lv_iconst (v := 5) hx hb dX9_init_25 (by decide) ?_
  refine gq_newa (atype := .int) (ty := .int) hx hb rfl (ht _ wd_172) hK hP hD hS hA 0 rfl 5 (5, .inl (fun _ => 0)) (fun _ => rfl) (by decide +kernel) (by decide +kernel) (Nat.le_of_ble_eq_true rfl) 1 5 (Nat.le_of_ble_eq_true rfl) (Nat.le_of_ble_eq_true rfl) (Nat.le_of_ble_eq_true rfl) (Nat.le_of_ble_eq_true rfl) dX9_init_26 (fun q_1 H hP hD hS => ?_)
  have hP : va_P (gg_D G) classes [(t, .inr (9, [.int 0, .int 0, .int 0, .int 0, .null, .null, .null, .null, .null])), (q_1, .inl (G.2.2 0, 5, .inl (fun _ => 0)))] H := hP
  have hD : va_D A [(t, .inr (9, [.int 0, .int 0, .int 0, .int 0, .null, .null, .null, .null, .null])), (q_1, .inl (G.2.2 0, 5, .inl (fun _ => 0)))] := hD
  refine gq_putF (ws' := [(t, .inr (9, [.int 0, .int 0, .int 0, .int 0, .ref q_1, .null, .null, .null, .null])), (q_1, .inl (G.2.2 0, 5, .inl (fun _ => 0)))]) hx hb ht hown hin hK hP hD hS i_X9 tyX9 tyX9_ok nmX9 0 rfl rfl 4 (by decide) wd_194 rfl rfl rfl rfl (Nat.le_of_ble_eq_true rfl) rfl dX9_init_28 (fun H locs hP hD hS => ?_)
  refine lv_aload_n hx hb dX9_init_31 rfl (lv_at hl 0 rfl) ?_
  refine lv_iconst (v := 5) hx hb dX9_init_32 (by decide) ?_
  refine gq_newa (atype := .int) (ty := .int) hx hb rfl (ht _ wd_172) hK hP hD hS hA 0 rfl 5 (5, .inl (fun _ => 0)) (fun _ => rfl) (by decide +kernel) (by decide +kernel) (Nat.le_of_ble_eq_true rfl) 2 10 (Nat.le_of_ble_eq_true rfl) (Nat.le_of_ble_eq_true rfl) (Nat.le_of_ble_eq_true rfl) (Nat.le_of_ble_eq_true rfl) dX9_init_33 (fun q_2 H hP hD hS => ?_)
  have hP : va_P (gg_D G) classes [(t, .inr (9, [.int 0, .int 0, .int 0, .int 0, .ref q_1, .null, .null, .null, .null])), (q_1, .inl (G.2.2 0, 5, .inl (fun _ => 0))), (q_2, .inl (G.2.2 0, 5, .inl (fun _ => 0)))] H := hP
  have hD : va_D A [(t, .inr (9, [.int 0, .int 0, .int 0, .int 0, .ref q_1, .null, .null, .null, .null])), (q_1, .inl (G.2.2 0, 5, .inl (fun _ => 0))), (q_2, .inl (G.2.2 0, 5, .inl (fun _ => 0)))] := hD
  refine gq_putF (ws' := [(t, .inr (9, [.int 0, .int 0, .int 0, .int 0, .ref q_1, .ref q_2, .null, .null, .null])), (q_1, .inl (G.2.2 0, 5, .inl (fun _ => 0))), (q_2, .inl (G.2.2 0, 5, .inl (fun _ => 0)))]) hx hb ht hown hin hK hP hD hS i_X9 tyX9 tyX9_ok nmX9 0 rfl rfl 5 (by decide) wd_196 rfl rfl rfl rfl (Nat.le_of_ble_eq_true rfl) rfl dX9_init_35 (fun H locs hP hD hS => ?_)
  refine lv_aload_n hx hb dX9_init_38 rfl (lv_at hl 0 rfl) ?_
  refine lv_bipush (v := 15) hx hb dX9_init_39 (by decide +kernel) ?_
  refine gq_newa (atype := .int) (ty := .int) hx hb rfl (ht _ wd_172) hK hP hD hS hA 0 rfl 15 (15, .inl (fun _ => 0)) (fun _ => rfl) (by decide +kernel) (by decide +kernel) (Nat.le_of_ble_eq_true rfl) 3 25 (Nat.le_of_ble_eq_true rfl) (Nat.le_of_ble_eq_true rfl) (Nat.le_of_ble_eq_true rfl) (Nat.le_of_ble_eq_true rfl) dX9_init_41 (fun q_3 H hP hD hS => ?_)
  have hP : va_P (gg_D G) classes [(t, .inr (9, [.int 0, .int 0, .int 0, .int 0, .ref q_1, .ref q_2, .null, .null, .null])), (q_1, .inl (G.2.2 0, 5, .inl (fun _ => 0))), (q_2, .inl (G.2.2 0, 5, .inl (fun _ => 0))), (q_3, .inl (G.2.2 0, 15, .inl (fun _ => 0)))] H := hP
  have hD : va_D A [(t, .inr (9, [.int 0, .int 0, .int 0, .int 0, .ref q_1, .ref q_2, .null, .null, .null])), (q_1, .inl (G.2.2 0, 5, .inl (fun _ => 0))), (q_2, .inl (G.2.2 0, 5, .inl (fun _ => 0))), (q_3, .inl (G.2.2 0, 15, .inl (fun _ => 0)))] := hD
  refine gq_putF (ws' := [(t, .inr (9, [.int 0, .int 0, .int 0, .int 0, .ref q_1, .ref q_2, .ref q_3, .null, .null])), (q_1, .inl (G.2.2 0, 5, .inl (fun _ => 0))), (q_2, .inl (G.2.2 0, 5, .inl (fun _ => 0))), (q_3, .inl (G.2.2 0, 15, .inl (fun _ => 0)))]) hx hb ht hown hin hK hP hD hS i_X9 tyX9 tyX9_ok nmX9 0 rfl rfl 6 (by decide) wd_198 rfl rfl rfl rfl (Nat.le_of_ble_eq_true rfl) rfl dX9_init_43 (fun H locs hP hD hS => ?_)
  refine lv_aload_n hx hb dX9_init_46 rfl (lv_at hl 0 rfl) ?_
  refine lv_iconst (v := 3) hx hb dX9_init_47 (by decide) ?_
  refine gq_newa (atype := .int) (ty := .int) hx hb rfl (ht _ wd_172) hK hP hD hS hA 0 rfl 3 (3, .inl (fun _ => 0)) (fun _ => rfl) (by decide +kernel) (by decide +kernel) (Nat.le_of_ble_eq_true rfl) 4 28 (Nat.le_of_ble_eq_true rfl) (Nat.le_of_ble_eq_true rfl) (Nat.le_of_ble_eq_true rfl) (Nat.le_of_ble_eq_true rfl) dX9_init_48 (fun q_4 H hP hD hS => ?_)
  have hP : va_P (gg_D G) classes [(t, .inr (9, [.int 0, .int 0, .int 0, .int 0, .ref q_1, .ref q_2, .ref q_3, .null, .null])), (q_1, .inl (G.2.2 0, 5, .inl (fun _ => 0))), (q_2, .inl (G.2.2 0, 5, .inl (fun _ => 0))), (q_3, .inl (G.2.2 0, 15, .inl (fun _ => 0))), (q_4, .inl (G.2.2 0, 3, .inl (fun _ => 0)))] H := hP
  have hD : va_D A [(t, .inr (9, [.int 0, .int 0, .int 0, .int 0, .ref q_1, .ref q_2, .ref q_3, .null, .null])), (q_1, .inl (G.2.2 0, 5, .inl (fun _ => 0))), (q_2, .inl (G.2.2 0, 5, .inl (fun _ => 0))), (q_3, .inl (G.2.2 0, 15, .inl (fun _ => 0))), (q_4, .inl (G.2.2 0, 3, .inl (fun _ => 0)))] := hD
  refine gq_putF (ws' := [(t, .inr (9, [.int 0, .int 0, .int 0, .int 0, .ref q_1, .ref q_2, .ref q_3, .ref q_4, .null])), (q_1, .inl (G.2.2 0, 5, .inl (fun _ => 0))), (q_2, .inl (G.2.2 0, 5, .inl (fun _ => 0))), (q_3, .inl (G.2.2 0, 15, .inl (fun _ => 0))), (q_4, .inl (G.2.2 0, 3, .inl (fun _ => 0)))]) hx hb ht hown hin hK hP hD hS i_X9 tyX9 tyX9_ok nmX9 0 rfl rfl 7 (by decide) wd_199 rfl rfl rfl rfl (Nat.le_of_ble_eq_true rfl) rfl dX9_init_50 (fun H locs hP hD hS => ?_)
  refine lv_aload_n hx hb dX9_init_53 rfl (lv_at hl 0 rfl) ?_
  refine lv_iconst (v := 3) hx hb dX9_init_54 (by decide) ?_
  refine gq_newa (atype := .int) (ty := .int) hx hb rfl (ht _ wd_172) hK hP hD hS hA 0 rfl 3 (3, .inl (fun _ => 0)) (fun _ => rfl) (by decide +kernel) (by decide +kernel) (Nat.le_of_ble_eq_true rfl) 5 31 (Nat.le_of_ble_eq_true rfl) (Nat.le_of_ble_eq_true rfl) (Nat.le_of_ble_eq_true rfl) (Nat.le_of_ble_eq_true rfl) dX9_init_55 (fun q_5 H hP hD hS => ?_)
  have hP : va_P (gg_D G) classes [(t, .inr (9, [.int 0, .int 0, .int 0, .int 0, .ref q_1, .ref q_2, .ref q_3, .ref q_4, .null])), (q_1, .inl (G.2.2 0, 5, .inl (fun _ => 0))), (q_2, .inl (G.2.2 0, 5, .inl (fun _ => 0))), (q_3, .inl (G.2.2 0, 15, .inl (fun _ => 0))), (q_4, .inl (G.2.2 0, 3, .inl (fun _ => 0))), (q_5, .inl (G.2.2 0, 3, .inl (fun _ => 0)))] H := hP
  have hD : va_D A [(t, .inr (9, [.int 0, .int 0, .int 0, .int 0, .ref q_1, .ref q_2, .ref q_3, .ref q_4, .null])), (q_1, .inl (G.2.2 0, 5, .inl (fun _ => 0))), (q_2, .inl (G.2.2 0, 5, .inl (fun _ => 0))), (q_3, .inl (G.2.2 0, 15, .inl (fun _ => 0))), (q_4, .inl (G.2.2 0, 3, .inl (fun _ => 0))), (q_5, .inl (G.2.2 0, 3, .inl (fun _ => 0)))] := hD
  refine gq_putF (ws' := [(t, .inr (9, [.int 0, .int 0, .int 0, .int 0, .ref q_1, .ref q_2, .ref q_3, .ref q_4, .ref q_5])), (q_1, .inl (G.2.2 0, 5, .inl (fun _ => 0))), (q_2, .inl (G.2.2 0, 5, .inl (fun _ => 0))), (q_3, .inl (G.2.2 0, 15, .inl (fun _ => 0))), (q_4, .inl (G.2.2 0, 3, .inl (fun _ => 0))), (q_5, .inl (G.2.2 0, 3, .inl (fun _ => 0)))]) hx hb ht hown hin hK hP hD hS i_X9 tyX9 tyX9_ok nmX9 0 rfl rfl 8 (by decide) wd_203 rfl rfl rfl rfl (Nat.le_of_ble_eq_true rfl) rfl dX9_init_57 (fun H locs hP hD hS => ?_)
  have hP9 := hP.sub (ws' := [(t, .inr (9, [.int 0, .int 0, .int 0, .int 0, .ref q_1, .ref q_2, .ref q_3, .ref q_4, .ref q_5])), (q_1, .inl (G.2.2 0, 5, .inl (fun _ => 0))), (q_2, .inl (G.2.2 0, 5, .inl (fun _ => 0))), (q_3, .inl (G.2.2 0, 15, .inl (fun _ => 0))), (q_4, .inl (G.2.2 0, 3, .inl (fun _ => 0))), (q_5, .inl (G.2.2 0, 3, .inl (fun _ => 0)))]) [0, 1, 2, 3, 4, 5] rfl
  have hD9 := hD.sub (ws' := [(t, .inr (9, [.int 0, .int 0, .int 0, .int 0, .ref q_1, .ref q_2, .ref q_3, .ref q_4, .ref q_5])), (q_1, .inl (G.2.2 0, 5, .inl (fun _ => 0))), (q_2, .inl (G.2.2 0, 5, .inl (fun _ => 0))), (q_3, .inl (G.2.2 0, 15, .inl (fun _ => 0))), (q_4, .inl (G.2.2 0, 3, .inl (fun _ => 0))), (q_5, .inl (G.2.2 0, 3, .inl (fun _ => 0)))]) [0, 1, 2, 3, 4, 5] (by decide) rfl
  refine W.widen (k := 5) (n := 31) (Nat.le_of_ble_eq_true rfl) (Nat.le_of_ble_eq_true rfl) ?_
  exact W.vret hx hb hr (gq_endV (q_1, q_2, q_3, q_4, q_5) trivial hP9 hD9 hS) hS.2.2 dX9_init_60
set_option maxHeartbeats 4000000 in
set_option maxRecDepth 100000 in
theorem c_State_init (l : Launch) (G : gg_T) (sz : Nat) (t : Nat) : Met l yX7_init (ts_L yX7_init cX7_init 1 none) ({ frames := 1, cells := 9, slots := 35, locals := 12 }) (gc_P G [(t, .inr (7, [.null, .null, .null, .null, .null, .null, .null, .null, .null, .int 0]))] sz [.ref t]) (gc_V G (va_A [(t, .inr (7, [.null, .null, .null, .null, .null, .null, .null, .null, .null, .int 0]))] sz) (fun (_ : (Nat) × (Nat) × (Nat) × (Nat) × (Nat) × (Nat) × (Nat) × (Nat) × (Nat)) => True) (fun (u : (Nat) × (Nat) × (Nat) × (Nat) × (Nat) × (Nat) × (Nat) × (Nat) × (Nat)) => match u with | (s0, s1, s2, s3, s4, s5, s6, s7, s8) => [(t, .inr (7, [.ref s0, .ref s1, .ref s2, .ref s3, .ref s4, .ref s5, .ref s6, .ref s7, .ref s8, .int 0])), (s0, .inl (G.2.2 0, 5, .inl (fun _ => 0))), (s1, .inl (G.2.2 0, 5, .inl (fun _ => 0))), (s2, .inl (G.2.2 0, 5, .inl (fun _ => 0))), (s3, .inl (G.2.2 0, 5, .inl (fun _ => 0))), (s4, .inl (G.2.2 0, 3, .inl (fun _ => 0))), (s5, .inl (G.2.2 0, 3, .inl (fun _ => 0))), (s6, .inl (G.2.2 0, 3, .inl (fun _ => 0))), (s7, .inl (G.2.2 0, 3, .inl (fun _ => 0))), (s8, .inl (G.2.2 0, 3, .inl (fun _ => 0)))])) 9 35 (va_A [(t, .inr (7, [.null, .null, .null, .null, .null, .null, .null, .null, .null, .int 0]))] sz) := by
  refine Met.ofW (cc := cX7_init) (maxL := 1) (ret := none) (by decide) rfl ?_
  intro p e s m args below meth c s₁ B hml hv
  obtain ⟨rfl, hsz, hP, hK, hD0⟩ := hv
  have hx := B.exec
  have hb := B.bytes
  have hr := B.returns
  have ht := ts_ht (atoms_spec (ws := ts_L yX7_init cX7_init 1 none) B.pre)
  have hown : s.vm.findClass RX7 = some m.cls := findClass_of_methodNamed B.named
  have hlocks := B.notSynchronized
  have hin : meth.name = "<init>" := (name_of_methodNamed B.named B.method).1
  subst hsz
  have hD := hD0.self (sz := s.heap.size)
  generalize hAe : va_A [(t, .inr (7, [.null, .null, .null, .null, .null, .null, .null, .null, .null, .int 0]))] s.heap.size = A at hD ⊢
  have hA : ∀ q : Nat, s.heap.size ≤ q → A q := fun q h => by rw [← hAe]; exact Or.inr h
  have hS : va_S A s.heap s.heap [] := va_S.rf
  have hl := lv_entry ([.ref t]) (n := 1) (Nat.le_of_ble_eq_true rfl)
  rw [lg_entry_eq]
  generalize (lg_sl ([.ref t]) ++ List.replicate (1 - (lg_sl ([.ref t])).length) Slot.unset).toArray = ls at hl ⊢
  have hl : lv_has ls 1 [(0, .ref t)] := hl
  refine lv_aload_n hx hb dX7_init_0 rfl (lv_at hl 0 rfl) ?_
  refine W.objInit hx hb hown (ht _ wd_230) (ht _ wd_148) (ht _ wd_149) rfl (by rw [hml]; exact hl.1) rfl dX7_init_1 (Nat.le_of_ble_eq_true rfl) (Nat.le_of_ble_eq_true rfl) ?_
  refine W.eq (g2 := F0 m 4 ls []) rfl ?_
  refine lv_aload_n hx hb dX7_init_4 rfl (lv_at hl 0 rfl) ?_
  refine lv_iconst (v := 5) hx hb dX7_init_5 (by decide) ?_
  refine gq_newa (atype := .int) (ty := .int) hx hb rfl (ht _ wd_172) hK hP hD hS hA 0 rfl 5 (5, .inl (fun _ => 0)) (fun _ => rfl) (by decide +kernel) (by decide +kernel) (Nat.le_of_ble_eq_true rfl) 1 5 (Nat.le_of_ble_eq_true rfl) (Nat.le_of_ble_eq_true rfl) (Nat.le_of_ble_eq_true rfl) (Nat.le_of_ble_eq_true rfl) dX7_init_6 (fun q_1 H hP hD hS => ?_)
  have hP : va_P (gg_D G) classes [(t, .inr (7, [.null, .null, .null, .null, .null, .null, .null, .null, .null, .int 0])), (q_1, .inl (G.2.2 0, 5, .inl (fun _ => 0)))] H := hP
  have hD : va_D A [(t, .inr (7, [.null, .null, .null, .null, .null, .null, .null, .null, .null, .int 0])), (q_1, .inl (G.2.2 0, 5, .inl (fun _ => 0)))] := hD
  refine gq_putF (ws' := [(t, .inr (7, [.ref q_1, .null, .null, .null, .null, .null, .null, .null, .null, .int 0])), (q_1, .inl (G.2.2 0, 5, .inl (fun _ => 0)))]) hx hb ht hown hin hK hP hD hS i_X7 tyX7 tyX7_ok nmX7 0 rfl rfl 0 (by decide) wd_231 rfl rfl rfl rfl (Nat.le_of_ble_eq_true rfl) rfl dX7_init_8 (fun H locs hP hD hS => ?_)
  refine lv_aload_n hx hb dX7_init_11 rfl (lv_at hl 0 rfl) ?_
  refine lv_iconst (v := 5) hx hb dX7_init_12 (by decide) ?_
  refine gq_newa (atype := .int) (ty := .int) hx hb rfl (ht _ wd_172) hK hP hD hS hA 0 rfl 5 (5, .inl (fun _ => 0)) (fun _ => rfl) (by decide +kernel) (by decide +kernel) (Nat.le_of_ble_eq_true rfl) 2 10 (Nat.le_of_ble_eq_true rfl) (Nat.le_of_ble_eq_true rfl) (Nat.le_of_ble_eq_true rfl) (Nat.le_of_ble_eq_true rfl) dX7_init_13 (fun q_2 H hP hD hS => ?_)
  have hP : va_P (gg_D G) classes [(t, .inr (7, [.ref q_1, .null, .null, .null, .null, .null, .null, .null, .null, .int 0])), (q_1, .inl (G.2.2 0, 5, .inl (fun _ => 0))), (q_2, .inl (G.2.2 0, 5, .inl (fun _ => 0)))] H := hP
  have hD : va_D A [(t, .inr (7, [.ref q_1, .null, .null, .null, .null, .null, .null, .null, .null, .int 0])), (q_1, .inl (G.2.2 0, 5, .inl (fun _ => 0))), (q_2, .inl (G.2.2 0, 5, .inl (fun _ => 0)))] := hD
  refine gq_putF (ws' := [(t, .inr (7, [.ref q_1, .ref q_2, .null, .null, .null, .null, .null, .null, .null, .int 0])), (q_1, .inl (G.2.2 0, 5, .inl (fun _ => 0))), (q_2, .inl (G.2.2 0, 5, .inl (fun _ => 0)))]) hx hb ht hown hin hK hP hD hS i_X7 tyX7 tyX7_ok nmX7 0 rfl rfl 1 (by decide) wd_235 rfl rfl rfl rfl (Nat.le_of_ble_eq_true rfl) rfl dX7_init_15 (fun H locs hP hD hS => ?_)
  refine lv_aload_n hx hb dX7_init_18 rfl (lv_at hl 0 rfl) ?_
  refine lv_iconst (v := 5) hx hb dX7_init_19 (by decide) ?_
  refine gq_newa (atype := .int) (ty := .int) hx hb rfl (ht _ wd_172) hK hP hD hS hA 0 rfl 5 (5, .inl (fun _ => 0)) (fun _ => rfl) (by decide +kernel) (by decide +kernel) (Nat.le_of_ble_eq_true rfl) 3 15 (Nat.le_of_ble_eq_true rfl) (Nat.le_of_ble_eq_true rfl) (Nat.le_of_ble_eq_true rfl) (Nat.le_of_ble_eq_true rfl) dX7_init_20 (fun q_3 H hP hD hS => ?_)
  have hP : va_P (gg_D G) classes [(t, .inr (7, [.ref q_1, .ref q_2, .null, .null, .null, .null, .null, .null, .null, .int 0])), (q_1, .inl (G.2.2 0, 5, .inl (fun _ => 0))), (q_2, .inl (G.2.2 0, 5, .inl (fun _ => 0))), (q_3, .inl (G.2.2 0, 5, .inl (fun _ => 0)))] H := hP
  have hD : va_D A [(t, .inr (7, [.ref q_1, .ref q_2, .null, .null, .null, .null, .null, .null, .null, .int 0])), (q_1, .inl (G.2.2 0, 5, .inl (fun _ => 0))), (q_2, .inl (G.2.2 0, 5, .inl (fun _ => 0))), (q_3, .inl (G.2.2 0, 5, .inl (fun _ => 0)))] := hD
  refine gq_putF (ws' := [(t, .inr (7, [.ref q_1, .ref q_2, .ref q_3, .null, .null, .null, .null, .null, .null, .int 0])), (q_1, .inl (G.2.2 0, 5, .inl (fun _ => 0))), (q_2, .inl (G.2.2 0, 5, .inl (fun _ => 0))), (q_3, .inl (G.2.2 0, 5, .inl (fun _ => 0)))]) hx hb ht hown hin hK hP hD hS i_X7 tyX7 tyX7_ok nmX7 0 rfl rfl 2 (by decide) wd_239 rfl rfl rfl rfl (Nat.le_of_ble_eq_true rfl) rfl dX7_init_22 (fun H locs hP hD hS => ?_)
  refine lv_aload_n hx hb dX7_init_25 rfl (lv_at hl 0 rfl) ?_
  refine lv_iconst (v := 5) hx hb dX7_init_26 (by decide) ?_
  refine gq_newa (atype := .int) (ty := .int) hx hb rfl (ht _ wd_172) hK hP hD hS hA 0 rfl 5 (5, .inl (fun _ => 0)) (fun _ => rfl) (by decide +kernel) (by decide +kernel) (Nat.le_of_ble_eq_true rfl) 4 20 (Nat.le_of_ble_eq_true rfl) (Nat.le_of_ble_eq_true rfl) (Nat.le_of_ble_eq_true rfl) (Nat.le_of_ble_eq_true rfl) dX7_init_27 (fun q_4 H hP hD hS => ?_)
  have hP : va_P (gg_D G) classes [(t, .inr (7, [.ref q_1, .ref q_2, .ref q_3, .null, .null, .null, .null, .null, .null, .int 0])), (q_1, .inl (G.2.2 0, 5, .inl (fun _ => 0))), (q_2, .inl (G.2.2 0, 5, .inl (fun _ => 0))), (q_3, .inl (G.2.2 0, 5, .inl (fun _ => 0))), (q_4, .inl (G.2.2 0, 5, .inl (fun _ => 0)))] H := hP
  have hD : va_D A [(t, .inr (7, [.ref q_1, .ref q_2, .ref q_3, .null, .null, .null, .null, .null, .null, .int 0])), (q_1, .inl (G.2.2 0, 5, .inl (fun _ => 0))), (q_2, .inl (G.2.2 0, 5, .inl (fun _ => 0))), (q_3, .inl (G.2.2 0, 5, .inl (fun _ => 0))), (q_4, .inl (G.2.2 0, 5, .inl (fun _ => 0)))] := hD
  refine gq_putF (ws' := [(t, .inr (7, [.ref q_1, .ref q_2, .ref q_3, .ref q_4, .null, .null, .null, .null, .null, .int 0])), (q_1, .inl (G.2.2 0, 5, .inl (fun _ => 0))), (q_2, .inl (G.2.2 0, 5, .inl (fun _ => 0))), (q_3, .inl (G.2.2 0, 5, .inl (fun _ => 0))), (q_4, .inl (G.2.2 0, 5, .inl (fun _ => 0)))]) hx hb ht hown hin hK hP hD hS i_X7 tyX7 tyX7_ok nmX7 0 rfl rfl 3 (by decide) wd_243 rfl rfl rfl rfl (Nat.le_of_ble_eq_true rfl) rfl dX7_init_29 (fun H locs hP hD hS => ?_)
  refine lv_aload_n hx hb dX7_init_32 rfl (lv_at hl 0 rfl) ?_
  refine lv_iconst (v := 3) hx hb dX7_init_33 (by decide) ?_
  refine gq_newa (atype := .int) (ty := .int) hx hb rfl (ht _ wd_172) hK hP hD hS hA 0 rfl 3 (3, .inl (fun _ => 0)) (fun _ => rfl) (by decide +kernel) (by decide +kernel) (Nat.le_of_ble_eq_true rfl) 5 23 (Nat.le_of_ble_eq_true rfl) (Nat.le_of_ble_eq_true rfl) (Nat.le_of_ble_eq_true rfl) (Nat.le_of_ble_eq_true rfl) dX7_init_34 (fun q_5 H hP hD hS => ?_)
  have hP : va_P (gg_D G) classes [(t, .inr (7, [.ref q_1, .ref q_2, .ref q_3, .ref q_4, .null, .null, .null, .null, .null, .int 0])), (q_1, .inl (G.2.2 0, 5, .inl (fun _ => 0))), (q_2, .inl (G.2.2 0, 5, .inl (fun _ => 0))), (q_3, .inl (G.2.2 0, 5, .inl (fun _ => 0))), (q_4, .inl (G.2.2 0, 5, .inl (fun _ => 0))), (q_5, .inl (G.2.2 0, 3, .inl (fun _ => 0)))] H := hP
  have hD : va_D A [(t, .inr (7, [.ref q_1, .ref q_2, .ref q_3, .ref q_4, .null, .null, .null, .null, .null, .int 0])), (q_1, .inl (G.2.2 0, 5, .inl (fun _ => 0))), (q_2, .inl (G.2.2 0, 5, .inl (fun _ => 0))), (q_3, .inl (G.2.2 0, 5, .inl (fun _ => 0))), (q_4, .inl (G.2.2 0, 5, .inl (fun _ => 0))), (q_5, .inl (G.2.2 0, 3, .inl (fun _ => 0)))] := hD
  refine gq_putF (ws' := [(t, .inr (7, [.ref q_1, .ref q_2, .ref q_3, .ref q_4, .ref q_5, .null, .null, .null, .null, .int 0])), (q_1, .inl (G.2.2 0, 5, .inl (fun _ => 0))), (q_2, .inl (G.2.2 0, 5, .inl (fun _ => 0))), (q_3, .inl (G.2.2 0, 5, .inl (fun _ => 0))), (q_4, .inl (G.2.2 0, 5, .inl (fun _ => 0))), (q_5, .inl (G.2.2 0, 3, .inl (fun _ => 0)))]) hx hb ht hown hin hK hP hD hS i_X7 tyX7 tyX7_ok nmX7 0 rfl rfl 4 (by decide) wd_246 rfl rfl rfl rfl (Nat.le_of_ble_eq_true rfl) rfl dX7_init_36 (fun H locs hP hD hS => ?_)
  refine lv_aload_n hx hb dX7_init_39 rfl (lv_at hl 0 rfl) ?_
  refine lv_iconst (v := 3) hx hb dX7_init_40 (by decide) ?_
  refine gq_newa (atype := .int) (ty := .int) hx hb rfl (ht _ wd_172) hK hP hD hS hA 0 rfl 3 (3, .inl (fun _ => 0)) (fun _ => rfl) (by decide +kernel) (by decide +kernel) (Nat.le_of_ble_eq_true rfl) 6 26 (Nat.le_of_ble_eq_true rfl) (Nat.le_of_ble_eq_true rfl) (Nat.le_of_ble_eq_true rfl) (Nat.le_of_ble_eq_true rfl) dX7_init_41 (fun q_6 H hP hD hS => ?_)
  have hP : va_P (gg_D G) classes [(t, .inr (7, [.ref q_1, .ref q_2, .ref q_3, .ref q_4, .ref q_5, .null, .null, .null, .null, .int 0])), (q_1, .inl (G.2.2 0, 5, .inl (fun _ => 0))), (q_2, .inl (G.2.2 0, 5, .inl (fun _ => 0))), (q_3, .inl (G.2.2 0, 5, .inl (fun _ => 0))), (q_4, .inl (G.2.2 0, 5, .inl (fun _ => 0))), (q_5, .inl (G.2.2 0, 3, .inl (fun _ => 0))), (q_6, .inl (G.2.2 0, 3, .inl (fun _ => 0)))] H := hP
  have hD : va_D A [(t, .inr (7, [.ref q_1, .ref q_2, .ref q_3, .ref q_4, .ref q_5, .null, .null, .null, .null, .int 0])), (q_1, .inl (G.2.2 0, 5, .inl (fun _ => 0))), (q_2, .inl (G.2.2 0, 5, .inl (fun _ => 0))), (q_3, .inl (G.2.2 0, 5, .inl (fun _ => 0))), (q_4, .inl (G.2.2 0, 5, .inl (fun _ => 0))), (q_5, .inl (G.2.2 0, 3, .inl (fun _ => 0))), (q_6, .inl (G.2.2 0, 3, .inl (fun _ => 0)))] := hD
  refine gq_putF (ws' := [(t, .inr (7, [.ref q_1, .ref q_2, .ref q_3, .ref q_4, .ref q_5, .ref q_6, .null, .null, .null, .int 0])), (q_1, .inl (G.2.2 0, 5, .inl (fun _ => 0))), (q_2, .inl (G.2.2 0, 5, .inl (fun _ => 0))), (q_3, .inl (G.2.2 0, 5, .inl (fun _ => 0))), (q_4, .inl (G.2.2 0, 5, .inl (fun _ => 0))), (q_5, .inl (G.2.2 0, 3, .inl (fun _ => 0))), (q_6, .inl (G.2.2 0, 3, .inl (fun _ => 0)))]) hx hb ht hown hin hK hP hD hS i_X7 tyX7 tyX7_ok nmX7 0 rfl rfl 5 (by decide) wd_250 rfl rfl rfl rfl (Nat.le_of_ble_eq_true rfl) rfl dX7_init_43 (fun H locs hP hD hS => ?_)
  refine lv_aload_n hx hb dX7_init_46 rfl (lv_at hl 0 rfl) ?_
  refine lv_iconst (v := 3) hx hb dX7_init_47 (by decide) ?_
  refine gq_newa (atype := .int) (ty := .int) hx hb rfl (ht _ wd_172) hK hP hD hS hA 0 rfl 3 (3, .inl (fun _ => 0)) (fun _ => rfl) (by decide +kernel) (by decide +kernel) (Nat.le_of_ble_eq_true rfl) 7 29 (Nat.le_of_ble_eq_true rfl) (Nat.le_of_ble_eq_true rfl) (Nat.le_of_ble_eq_true rfl) (Nat.le_of_ble_eq_true rfl) dX7_init_48 (fun q_7 H hP hD hS => ?_)
  have hP : va_P (gg_D G) classes [(t, .inr (7, [.ref q_1, .ref q_2, .ref q_3, .ref q_4, .ref q_5, .ref q_6, .null, .null, .null, .int 0])), (q_1, .inl (G.2.2 0, 5, .inl (fun _ => 0))), (q_2, .inl (G.2.2 0, 5, .inl (fun _ => 0))), (q_3, .inl (G.2.2 0, 5, .inl (fun _ => 0))), (q_4, .inl (G.2.2 0, 5, .inl (fun _ => 0))), (q_5, .inl (G.2.2 0, 3, .inl (fun _ => 0))), (q_6, .inl (G.2.2 0, 3, .inl (fun _ => 0))), (q_7, .inl (G.2.2 0, 3, .inl (fun _ => 0)))] H := hP
  have hD : va_D A [(t, .inr (7, [.ref q_1, .ref q_2, .ref q_3, .ref q_4, .ref q_5, .ref q_6, .null, .null, .null, .int 0])), (q_1, .inl (G.2.2 0, 5, .inl (fun _ => 0))), (q_2, .inl (G.2.2 0, 5, .inl (fun _ => 0))), (q_3, .inl (G.2.2 0, 5, .inl (fun _ => 0))), (q_4, .inl (G.2.2 0, 5, .inl (fun _ => 0))), (q_5, .inl (G.2.2 0, 3, .inl (fun _ => 0))), (q_6, .inl (G.2.2 0, 3, .inl (fun _ => 0))), (q_7, .inl (G.2.2 0, 3, .inl (fun _ => 0)))] := hD
  refine gq_putF (ws' := [(t, .inr (7, [.ref q_1, .ref q_2, .ref q_3, .ref q_4, .ref q_5, .ref q_6, .ref q_7, .null, .null, .int 0])), (q_1, .inl (G.2.2 0, 5, .inl (fun _ => 0))), (q_2, .inl (G.2.2 0, 5, .inl (fun _ => 0))), (q_3, .inl (G.2.2 0, 5, .inl (fun _ => 0))), (q_4, .inl (G.2.2 0, 5, .inl (fun _ => 0))), (q_5, .inl (G.2.2 0, 3, .inl (fun _ => 0))), (q_6, .inl (G.2.2 0, 3, .inl (fun _ => 0))), (q_7, .inl (G.2.2 0, 3, .inl (fun _ => 0)))]) hx hb ht hown hin hK hP hD hS i_X7 tyX7 tyX7_ok nmX7 0 rfl rfl 6 (by decide) wd_254 rfl rfl rfl rfl (Nat.le_of_ble_eq_true rfl) rfl dX7_init_50 (fun H locs hP hD hS => ?_)
  refine lv_aload_n hx hb dX7_init_53 rfl (lv_at hl 0 rfl) ?_
  refine lv_iconst (v := 3) hx hb dX7_init_54 (by decide) ?_
  refine gq_newa (atype := .int) (ty := .int) hx hb rfl (ht _ wd_172) hK hP hD hS hA 0 rfl 3 (3, .inl (fun _ => 0)) (fun _ => rfl) (by decide +kernel) (by decide +kernel) (Nat.le_of_ble_eq_true rfl) 8 32 (Nat.le_of_ble_eq_true rfl) (Nat.le_of_ble_eq_true rfl) (Nat.le_of_ble_eq_true rfl) (Nat.le_of_ble_eq_true rfl) dX7_init_55 (fun q_8 H hP hD hS => ?_)
  have hP : va_P (gg_D G) classes [(t, .inr (7, [.ref q_1, .ref q_2, .ref q_3, .ref q_4, .ref q_5, .ref q_6, .ref q_7, .null, .null, .int 0])), (q_1, .inl (G.2.2 0, 5, .inl (fun _ => 0))), (q_2, .inl (G.2.2 0, 5, .inl (fun _ => 0))), (q_3, .inl (G.2.2 0, 5, .inl (fun _ => 0))), (q_4, .inl (G.2.2 0, 5, .inl (fun _ => 0))), (q_5, .inl (G.2.2 0, 3, .inl (fun _ => 0))), (q_6, .inl (G.2.2 0, 3, .inl (fun _ => 0))), (q_7, .inl (G.2.2 0, 3, .inl (fun _ => 0))), (q_8, .inl (G.2.2 0, 3, .inl (fun _ => 0)))] H := hP
  have hD : va_D A [(t, .inr (7, [.ref q_1, .ref q_2, .ref q_3, .ref q_4, .ref q_5, .ref q_6, .ref q_7, .null, .null, .int 0])), (q_1, .inl (G.2.2 0, 5, .inl (fun _ => 0))), (q_2, .inl (G.2.2 0, 5, .inl (fun _ => 0))), (q_3, .inl (G.2.2 0, 5, .inl (fun _ => 0))), (q_4, .inl (G.2.2 0, 5, .inl (fun _ => 0))), (q_5, .inl (G.2.2 0, 3, .inl (fun _ => 0))), (q_6, .inl (G.2.2 0, 3, .inl (fun _ => 0))), (q_7, .inl (G.2.2 0, 3, .inl (fun _ => 0))), (q_8, .inl (G.2.2 0, 3, .inl (fun _ => 0)))] := hD
  refine gq_putF (ws' := [(t, .inr (7, [.ref q_1, .ref q_2, .ref q_3, .ref q_4, .ref q_5, .ref q_6, .ref q_7, .ref q_8, .null, .int 0])), (q_1, .inl (G.2.2 0, 5, .inl (fun _ => 0))), (q_2, .inl (G.2.2 0, 5, .inl (fun _ => 0))), (q_3, .inl (G.2.2 0, 5, .inl (fun _ => 0))), (q_4, .inl (G.2.2 0, 5, .inl (fun _ => 0))), (q_5, .inl (G.2.2 0, 3, .inl (fun _ => 0))), (q_6, .inl (G.2.2 0, 3, .inl (fun _ => 0))), (q_7, .inl (G.2.2 0, 3, .inl (fun _ => 0))), (q_8, .inl (G.2.2 0, 3, .inl (fun _ => 0)))]) hx hb ht hown hin hK hP hD hS i_X7 tyX7 tyX7_ok nmX7 0 rfl rfl 7 (by decide) wd_258 rfl rfl rfl rfl (Nat.le_of_ble_eq_true rfl) rfl dX7_init_57 (fun H locs hP hD hS => ?_)
  refine lv_aload_n hx hb dX7_init_60 rfl (lv_at hl 0 rfl) ?_
  refine lv_iconst (v := 3) hx hb dX7_init_61 (by decide) ?_
  refine gq_newa (atype := .int) (ty := .int) hx hb rfl (ht _ wd_172) hK hP hD hS hA 0 rfl 3 (3, .inl (fun _ => 0)) (fun _ => rfl) (by decide +kernel) (by decide +kernel) (Nat.le_of_ble_eq_true rfl) 9 35 (Nat.le_of_ble_eq_true rfl) (Nat.le_of_ble_eq_true rfl) (Nat.le_of_ble_eq_true rfl) (Nat.le_of_ble_eq_true rfl) dX7_init_62 (fun q_9 H hP hD hS => ?_)
  have hP : va_P (gg_D G) classes [(t, .inr (7, [.ref q_1, .ref q_2, .ref q_3, .ref q_4, .ref q_5, .ref q_6, .ref q_7, .ref q_8, .null, .int 0])), (q_1, .inl (G.2.2 0, 5, .inl (fun _ => 0))), (q_2, .inl (G.2.2 0, 5, .inl (fun _ => 0))), (q_3, .inl (G.2.2 0, 5, .inl (fun _ => 0))), (q_4, .inl (G.2.2 0, 5, .inl (fun _ => 0))), (q_5, .inl (G.2.2 0, 3, .inl (fun _ => 0))), (q_6, .inl (G.2.2 0, 3, .inl (fun _ => 0))), (q_7, .inl (G.2.2 0, 3, .inl (fun _ => 0))), (q_8, .inl (G.2.2 0, 3, .inl (fun _ => 0))), (q_9, .inl (G.2.2 0, 3, .inl (fun _ => 0)))] H := hP
  have hD : va_D A [(t, .inr (7, [.ref q_1, .ref q_2, .ref q_3, .ref q_4, .ref q_5, .ref q_6, .ref q_7, .ref q_8, .null, .int 0])), (q_1, .inl (G.2.2 0, 5, .inl (fun _ => 0))), (q_2, .inl (G.2.2 0, 5, .inl (fun _ => 0))), (q_3, .inl (G.2.2 0, 5, .inl (fun _ => 0))), (q_4, .inl (G.2.2 0, 5, .inl (fun _ => 0))), (q_5, .inl (G.2.2 0, 3, .inl (fun _ => 0))), (q_6, .inl (G.2.2 0, 3, .inl (fun _ => 0))), (q_7, .inl (G.2.2 0, 3, .inl (fun _ => 0))), (q_8, .inl (G.2.2 0, 3, .inl (fun _ => 0))), (q_9, .inl (G.2.2 0, 3, .inl (fun _ => 0)))] := hD
  refine gq_putF (ws' := [(t, .inr (7, [.ref q_1, .ref q_2, .ref q_3, .ref q_4, .ref q_5, .ref q_6, .ref q_7, .ref q_8, .ref q_9, .int 0])), (q_1, .inl (G.2.2 0, 5, .inl (fun _ => 0))), (q_2, .inl (G.2.2 0, 5, .inl (fun _ => 0))), (q_3, .inl (G.2.2 0, 5, .inl (fun _ => 0))), (q_4, .inl (G.2.2 0, 5, .inl (fun _ => 0))), (q_5, .inl (G.2.2 0, 3, .inl (fun _ => 0))), (q_6, .inl (G.2.2 0, 3, .inl (fun _ => 0))), (q_7, .inl (G.2.2 0, 3, .inl (fun _ => 0))), (q_8, .inl (G.2.2 0, 3, .inl (fun _ => 0))), (q_9, .inl (G.2.2 0, 3, .inl (fun _ => 0)))]) hx hb ht hown hin hK hP hD hS i_X7 tyX7 tyX7_ok nmX7 0 rfl rfl 8 (by decide) wd_261 rfl rfl rfl rfl (Nat.le_of_ble_eq_true rfl) rfl dX7_init_64 (fun H locs hP hD hS => ?_)
  refine lv_aload_n hx hb dX7_init_67 rfl (lv_at hl 0 rfl) ?_
  refine lv_iconst (v := 0) hx hb dX7_init_68 (by decide) ?_
  refine gq_put (ws' := [(t, .inr (7, [.ref q_1, .ref q_2, .ref q_3, .ref q_4, .ref q_5, .ref q_6, .ref q_7, .ref q_8, .ref q_9, .int 0])), (q_1, .inl (G.2.2 0, 5, .inl (fun _ => 0))), (q_2, .inl (G.2.2 0, 5, .inl (fun _ => 0))), (q_3, .inl (G.2.2 0, 5, .inl (fun _ => 0))), (q_4, .inl (G.2.2 0, 5, .inl (fun _ => 0))), (q_5, .inl (G.2.2 0, 3, .inl (fun _ => 0))), (q_6, .inl (G.2.2 0, 3, .inl (fun _ => 0))), (q_7, .inl (G.2.2 0, 3, .inl (fun _ => 0))), (q_8, .inl (G.2.2 0, 3, .inl (fun _ => 0))), (q_9, .inl (G.2.2 0, 3, .inl (fun _ => 0)))]) hx hb ht hown hK hP hD hS i_X7 tyX7 tyX7_ok nmX7 0 rfl rfl 9 (by decide) wd_266 rfl rfl rfl rfl (Nat.le_of_ble_eq_true rfl) rfl dX7_init_69 (fun H locs hP hD hS => ?_)
  have hP9 := hP.sub (ws' := [(t, .inr (7, [.ref q_1, .ref q_2, .ref q_3, .ref q_4, .ref q_5, .ref q_6, .ref q_7, .ref q_8, .ref q_9, .int 0])), (q_1, .inl (G.2.2 0, 5, .inl (fun _ => 0))), (q_2, .inl (G.2.2 0, 5, .inl (fun _ => 0))), (q_3, .inl (G.2.2 0, 5, .inl (fun _ => 0))), (q_4, .inl (G.2.2 0, 5, .inl (fun _ => 0))), (q_5, .inl (G.2.2 0, 3, .inl (fun _ => 0))), (q_6, .inl (G.2.2 0, 3, .inl (fun _ => 0))), (q_7, .inl (G.2.2 0, 3, .inl (fun _ => 0))), (q_8, .inl (G.2.2 0, 3, .inl (fun _ => 0))), (q_9, .inl (G.2.2 0, 3, .inl (fun _ => 0)))]) [0, 1, 2, 3, 4, 5, 6, 7, 8, 9] rfl
  have hD9 := hD.sub (ws' := [(t, .inr (7, [.ref q_1, .ref q_2, .ref q_3, .ref q_4, .ref q_5, .ref q_6, .ref q_7, .ref q_8, .ref q_9, .int 0])), (q_1, .inl (G.2.2 0, 5, .inl (fun _ => 0))), (q_2, .inl (G.2.2 0, 5, .inl (fun _ => 0))), (q_3, .inl (G.2.2 0, 5, .inl (fun _ => 0))), (q_4, .inl (G.2.2 0, 5, .inl (fun _ => 0))), (q_5, .inl (G.2.2 0, 3, .inl (fun _ => 0))), (q_6, .inl (G.2.2 0, 3, .inl (fun _ => 0))), (q_7, .inl (G.2.2 0, 3, .inl (fun _ => 0))), (q_8, .inl (G.2.2 0, 3, .inl (fun _ => 0))), (q_9, .inl (G.2.2 0, 3, .inl (fun _ => 0)))]) [0, 1, 2, 3, 4, 5, 6, 7, 8, 9] (by decide) rfl
  refine W.widen (k := 9) (n := 35) (Nat.le_of_ble_eq_true rfl) (Nat.le_of_ble_eq_true rfl) ?_
  exact W.vret hx hb hr (gq_endV (q_1, q_2, q_3, q_4, q_5, q_6, q_7, q_8, q_9) trivial hP9 hD9 hS) hS.2.2 dX7_init_72
set_option maxHeartbeats 4000000 in
set_option maxRecDepth 100000 in
theorem c_Logs_init (l : Launch) (G : gg_T) (sz : Nat) (t : Nat) : Met l yX2_init (ts_L yX2_init cX2_init 1 none) ({ frames := 1, cells := 3, slots := 30, locals := 12 }) (gc_P G [(t, .inr (2, [.null, .null, .null, .int 0]))] sz [.ref t]) (gc_V G (va_A [(t, .inr (2, [.null, .null, .null, .int 0]))] sz) (fun (_ : (Nat) × (Nat) × (Nat)) => True) (fun (u : (Nat) × (Nat) × (Nat)) => match u with | (g0, g1, g2) => [(t, .inr (2, [.ref g0, .ref g1, .ref g2, .int 0])), (g0, .inl (G.2.2 0, 10, .inl (fun _ => 0))), (g1, .inl (G.2.2 0, 10, .inl (fun _ => 0))), (g2, .inl (G.2.2 0, 10, .inl (fun _ => 0)))])) 3 30 (va_A [(t, .inr (2, [.null, .null, .null, .int 0]))] sz) := by
  refine Met.ofW (cc := cX2_init) (maxL := 1) (ret := none) (by decide) rfl ?_
  intro p e s m args below meth c s₁ B hml hv
  obtain ⟨rfl, hsz, hP, hK, hD0⟩ := hv
  have hx := B.exec
  have hb := B.bytes
  have hr := B.returns
  have ht := ts_ht (atoms_spec (ws := ts_L yX2_init cX2_init 1 none) B.pre)
  have hown : s.vm.findClass RX2 = some m.cls := findClass_of_methodNamed B.named
  have hlocks := B.notSynchronized
  have hin : meth.name = "<init>" := (name_of_methodNamed B.named B.method).1
  subst hsz
  have hD := hD0.self (sz := s.heap.size)
  generalize hAe : va_A [(t, .inr (2, [.null, .null, .null, .int 0]))] s.heap.size = A at hD ⊢
  have hA : ∀ q : Nat, s.heap.size ≤ q → A q := fun q h => by rw [← hAe]; exact Or.inr h
  have hS : va_S A s.heap s.heap [] := va_S.rf
  have hl := lv_entry ([.ref t]) (n := 1) (Nat.le_of_ble_eq_true rfl)
  rw [lg_entry_eq]
  generalize (lg_sl ([.ref t]) ++ List.replicate (1 - (lg_sl ([.ref t])).length) Slot.unset).toArray = ls at hl ⊢
  have hl : lv_has ls 1 [(0, .ref t)] := hl
  refine lv_aload_n hx hb dX2_init_0 rfl (lv_at hl 0 rfl) ?_
  refine W.objInit hx hb hown (ht _ wd_315) (ht _ wd_148) (ht _ wd_149) rfl (by rw [hml]; exact hl.1) rfl dX2_init_1 (Nat.le_of_ble_eq_true rfl) (Nat.le_of_ble_eq_true rfl) ?_
  refine W.eq (g2 := F0 m 4 ls []) rfl ?_
  refine lv_aload_n hx hb dX2_init_4 rfl (lv_at hl 0 rfl) ?_
  refine lv_bipush (v := 10) hx hb dX2_init_5 (by decide +kernel) ?_
  refine gq_newa (atype := .int) (ty := .int) hx hb rfl (ht _ wd_172) hK hP hD hS hA 0 rfl 10 (10, .inl (fun _ => 0)) (fun _ => rfl) (by decide +kernel) (by decide +kernel) (Nat.le_of_ble_eq_true rfl) 1 10 (Nat.le_of_ble_eq_true rfl) (Nat.le_of_ble_eq_true rfl) (Nat.le_of_ble_eq_true rfl) (Nat.le_of_ble_eq_true rfl) dX2_init_7 (fun q_1 H hP hD hS => ?_)
  have hP : va_P (gg_D G) classes [(t, .inr (2, [.null, .null, .null, .int 0])), (q_1, .inl (G.2.2 0, 10, .inl (fun _ => 0)))] H := hP
  have hD : va_D A [(t, .inr (2, [.null, .null, .null, .int 0])), (q_1, .inl (G.2.2 0, 10, .inl (fun _ => 0)))] := hD
  refine gq_putF (ws' := [(t, .inr (2, [.ref q_1, .null, .null, .int 0])), (q_1, .inl (G.2.2 0, 10, .inl (fun _ => 0)))]) hx hb ht hown hin hK hP hD hS i_X2 tyX2 tyX2_ok nmX2 0 rfl rfl 0 (by decide) wd_316 rfl rfl rfl rfl (Nat.le_of_ble_eq_true rfl) rfl dX2_init_9 (fun H locs hP hD hS => ?_)
  refine lv_aload_n hx hb dX2_init_12 rfl (lv_at hl 0 rfl) ?_
  refine lv_bipush (v := 10) hx hb dX2_init_13 (by decide +kernel) ?_
  refine gq_newa (atype := .int) (ty := .int) hx hb rfl (ht _ wd_172) hK hP hD hS hA 0 rfl 10 (10, .inl (fun _ => 0)) (fun _ => rfl) (by decide +kernel) (by decide +kernel) (Nat.le_of_ble_eq_true rfl) 2 20 (Nat.le_of_ble_eq_true rfl) (Nat.le_of_ble_eq_true rfl) (Nat.le_of_ble_eq_true rfl) (Nat.le_of_ble_eq_true rfl) dX2_init_15 (fun q_2 H hP hD hS => ?_)
  have hP : va_P (gg_D G) classes [(t, .inr (2, [.ref q_1, .null, .null, .int 0])), (q_1, .inl (G.2.2 0, 10, .inl (fun _ => 0))), (q_2, .inl (G.2.2 0, 10, .inl (fun _ => 0)))] H := hP
  have hD : va_D A [(t, .inr (2, [.ref q_1, .null, .null, .int 0])), (q_1, .inl (G.2.2 0, 10, .inl (fun _ => 0))), (q_2, .inl (G.2.2 0, 10, .inl (fun _ => 0)))] := hD
  refine gq_putF (ws' := [(t, .inr (2, [.ref q_1, .ref q_2, .null, .int 0])), (q_1, .inl (G.2.2 0, 10, .inl (fun _ => 0))), (q_2, .inl (G.2.2 0, 10, .inl (fun _ => 0)))]) hx hb ht hown hin hK hP hD hS i_X2 tyX2 tyX2_ok nmX2 0 rfl rfl 1 (by decide) wd_317 rfl rfl rfl rfl (Nat.le_of_ble_eq_true rfl) rfl dX2_init_17 (fun H locs hP hD hS => ?_)
  refine lv_aload_n hx hb dX2_init_20 rfl (lv_at hl 0 rfl) ?_
  refine lv_bipush (v := 10) hx hb dX2_init_21 (by decide +kernel) ?_
  refine gq_newa (atype := .int) (ty := .int) hx hb rfl (ht _ wd_172) hK hP hD hS hA 0 rfl 10 (10, .inl (fun _ => 0)) (fun _ => rfl) (by decide +kernel) (by decide +kernel) (Nat.le_of_ble_eq_true rfl) 3 30 (Nat.le_of_ble_eq_true rfl) (Nat.le_of_ble_eq_true rfl) (Nat.le_of_ble_eq_true rfl) (Nat.le_of_ble_eq_true rfl) dX2_init_23 (fun q_3 H hP hD hS => ?_)
  have hP : va_P (gg_D G) classes [(t, .inr (2, [.ref q_1, .ref q_2, .null, .int 0])), (q_1, .inl (G.2.2 0, 10, .inl (fun _ => 0))), (q_2, .inl (G.2.2 0, 10, .inl (fun _ => 0))), (q_3, .inl (G.2.2 0, 10, .inl (fun _ => 0)))] H := hP
  have hD : va_D A [(t, .inr (2, [.ref q_1, .ref q_2, .null, .int 0])), (q_1, .inl (G.2.2 0, 10, .inl (fun _ => 0))), (q_2, .inl (G.2.2 0, 10, .inl (fun _ => 0))), (q_3, .inl (G.2.2 0, 10, .inl (fun _ => 0)))] := hD
  refine gq_putF (ws' := [(t, .inr (2, [.ref q_1, .ref q_2, .ref q_3, .int 0])), (q_1, .inl (G.2.2 0, 10, .inl (fun _ => 0))), (q_2, .inl (G.2.2 0, 10, .inl (fun _ => 0))), (q_3, .inl (G.2.2 0, 10, .inl (fun _ => 0)))]) hx hb ht hown hin hK hP hD hS i_X2 tyX2 tyX2_ok nmX2 0 rfl rfl 2 (by decide) wd_318 rfl rfl rfl rfl (Nat.le_of_ble_eq_true rfl) rfl dX2_init_25 (fun H locs hP hD hS => ?_)
  refine lv_aload_n hx hb dX2_init_28 rfl (lv_at hl 0 rfl) ?_
  refine lv_iconst (v := 0) hx hb dX2_init_29 (by decide) ?_
  refine gq_put (ws' := [(t, .inr (2, [.ref q_1, .ref q_2, .ref q_3, .int 0])), (q_1, .inl (G.2.2 0, 10, .inl (fun _ => 0))), (q_2, .inl (G.2.2 0, 10, .inl (fun _ => 0))), (q_3, .inl (G.2.2 0, 10, .inl (fun _ => 0)))]) hx hb ht hown hK hP hD hS i_X2 tyX2 tyX2_ok nmX2 0 rfl rfl 3 (by decide) wd_319 rfl rfl rfl rfl (Nat.le_of_ble_eq_true rfl) rfl dX2_init_30 (fun H locs hP hD hS => ?_)
  have hP9 := hP.sub (ws' := [(t, .inr (2, [.ref q_1, .ref q_2, .ref q_3, .int 0])), (q_1, .inl (G.2.2 0, 10, .inl (fun _ => 0))), (q_2, .inl (G.2.2 0, 10, .inl (fun _ => 0))), (q_3, .inl (G.2.2 0, 10, .inl (fun _ => 0)))]) [0, 1, 2, 3] rfl
  have hD9 := hD.sub (ws' := [(t, .inr (2, [.ref q_1, .ref q_2, .ref q_3, .int 0])), (q_1, .inl (G.2.2 0, 10, .inl (fun _ => 0))), (q_2, .inl (G.2.2 0, 10, .inl (fun _ => 0))), (q_3, .inl (G.2.2 0, 10, .inl (fun _ => 0)))]) [0, 1, 2, 3] (by decide) rfl
  refine W.widen (k := 3) (n := 30) (Nat.le_of_ble_eq_true rfl) (Nat.le_of_ble_eq_true rfl) ?_
  exact W.vret hx hb hr (gq_endV (q_1, q_2, q_3) trivial hP9 hD9 hS) hS.2.2 dX2_init_33
set_option maxHeartbeats 4000000 in
set_option maxRecDepth 100000 in
theorem c_Rule_init (l : Launch) (G : gg_T) (sz : Nat) (t : Nat) : Met l yX4_init (ts_L yX4_init cX4_init 1 none) ({ frames := 1, cells := 5, slots := 492, locals := 12 }) (gc_P G [(t, .inr (4, [.null, .null, .null, .null, .null, .int 0, .int 0, .int 0, .int 0]))] sz [.ref t]) (gc_V G (va_A [(t, .inr (4, [.null, .null, .null, .null, .null, .int 0, .int 0, .int 0, .int 0]))] sz) (fun (_ : (Nat) × (Nat) × (Nat) × (Nat) × (Nat)) => True) (fun (u : (Nat) × (Nat) × (Nat) × (Nat) × (Nat)) => match u with | (q0, q1, q2, q3, q4) => [(t, .inr (4, [.ref q0, .ref q1, .ref q2, .ref q3, .ref q4, .int 0, .int 0, .int 0, .int 0]))])) 5 492 (va_A [(t, .inr (4, [.null, .null, .null, .null, .null, .int 0, .int 0, .int 0, .int 0]))] sz) := by
  refine Met.ofW (cc := cX4_init) (maxL := 1) (ret := none) (by decide) rfl ?_
  intro p e s m args below meth c s₁ B hml hv
  obtain ⟨rfl, hsz, hP, hK, hD0⟩ := hv
  have hx := B.exec
  have hb := B.bytes
  have hr := B.returns
  have ht := ts_ht (atoms_spec (ws := ts_L yX4_init cX4_init 1 none) B.pre)
  have hown : s.vm.findClass RX4 = some m.cls := findClass_of_methodNamed B.named
  have hlocks := B.notSynchronized
  have hin : meth.name = "<init>" := (name_of_methodNamed B.named B.method).1
  subst hsz
  have hD := hD0.self (sz := s.heap.size)
  generalize hAe : va_A [(t, .inr (4, [.null, .null, .null, .null, .null, .int 0, .int 0, .int 0, .int 0]))] s.heap.size = A at hD ⊢
  have hA : ∀ q : Nat, s.heap.size ≤ q → A q := fun q h => by rw [← hAe]; exact Or.inr h
  have hS : va_S A s.heap s.heap [] := va_S.rf
  have hl := lv_entry ([.ref t]) (n := 1) (Nat.le_of_ble_eq_true rfl)
  rw [lg_entry_eq]
  generalize (lg_sl ([.ref t]) ++ List.replicate (1 - (lg_sl ([.ref t])).length) Slot.unset).toArray = ls at hl ⊢
  have hl : lv_has ls 1 [(0, .ref t)] := hl
  refine lv_aload_n hx hb dX4_init_0 rfl (lv_at hl 0 rfl) ?_
  refine W.objInit hx hb hown (ht _ wd_336) (ht _ wd_148) (ht _ wd_149) rfl (by rw [hml]; exact hl.1) rfl dX4_init_1 (Nat.le_of_ble_eq_true rfl) (Nat.le_of_ble_eq_true rfl) ?_
  refine W.eq (g2 := F0 m 4 ls []) rfl ?_
  refine lv_aload_n hx hb dX4_init_4 rfl (lv_at hl 0 rfl) ?_
  refine lv_sipush (v := 400) hx hb dX4_init_5 (by decide +kernel) ?_
  refine gq_newa (atype := .int) (ty := .int) hx hb rfl (ht _ wd_172) hK hP hD hS hA 0 rfl 400 (400, .inl (fun _ => 0)) (fun _ => rfl) (by decide +kernel) (by decide +kernel) (Nat.le_of_ble_eq_true rfl) 1 400 (Nat.le_of_ble_eq_true rfl) (Nat.le_of_ble_eq_true rfl) (Nat.le_of_ble_eq_true rfl) (Nat.le_of_ble_eq_true rfl) dX4_init_8 (fun q_1 H hP hD hS => ?_)
  have hP : va_P (gg_D G) classes [(t, .inr (4, [.null, .null, .null, .null, .null, .int 0, .int 0, .int 0, .int 0])), (q_1, .inl (G.2.2 0, 400, .inl (fun _ => 0)))] H := hP
  have hD : va_D A [(t, .inr (4, [.null, .null, .null, .null, .null, .int 0, .int 0, .int 0, .int 0])), (q_1, .inl (G.2.2 0, 400, .inl (fun _ => 0)))] := hD
  refine gq_putF (ws' := [(t, .inr (4, [.ref q_1, .null, .null, .null, .null, .int 0, .int 0, .int 0, .int 0])), (q_1, .inl (G.2.2 0, 400, .inl (fun _ => 0)))]) hx hb ht hown hin hK hP hD hS i_X4 tyX4 tyX4_ok nmX4 0 rfl rfl 0 (by decide) wd_337 rfl rfl rfl rfl (Nat.le_of_ble_eq_true rfl) rfl dX4_init_10 (fun H locs hP hD hS => ?_)
  refine lv_aload_n hx hb dX4_init_13 rfl (lv_at hl 0 rfl) ?_
  refine lv_bipush (v := 10) hx hb dX4_init_14 (by decide +kernel) ?_
  refine gq_newa (atype := .long) (ty := .long) hx hb rfl (ht _ wd_365) hK hP hD hS hA 1 rfl 10 (10, .inr (.inl (fun _ => 0))) (fun _ => rfl) (by decide +kernel) (by decide +kernel) (Nat.le_of_ble_eq_true rfl) 2 410 (Nat.le_of_ble_eq_true rfl) (Nat.le_of_ble_eq_true rfl) (Nat.le_of_ble_eq_true rfl) (Nat.le_of_ble_eq_true rfl) dX4_init_16 (fun q_2 H hP hD hS => ?_)
  have hP : va_P (gg_D G) classes [(t, .inr (4, [.ref q_1, .null, .null, .null, .null, .int 0, .int 0, .int 0, .int 0])), (q_1, .inl (G.2.2 0, 400, .inl (fun _ => 0))), (q_2, .inl (G.2.2 1, 10, .inr (.inl (fun _ => 0))))] H := hP
  have hD : va_D A [(t, .inr (4, [.ref q_1, .null, .null, .null, .null, .int 0, .int 0, .int 0, .int 0])), (q_1, .inl (G.2.2 0, 400, .inl (fun _ => 0))), (q_2, .inl (G.2.2 1, 10, .inr (.inl (fun _ => 0))))] := hD
  refine gq_putF (ws' := [(t, .inr (4, [.ref q_1, .ref q_2, .null, .null, .null, .int 0, .int 0, .int 0, .int 0])), (q_1, .inl (G.2.2 0, 400, .inl (fun _ => 0))), (q_2, .inl (G.2.2 1, 10, .inr (.inl (fun _ => 0))))]) hx hb ht hown hin hK hP hD hS i_X4 tyX4 tyX4_ok nmX4 0 rfl rfl 1 (by decide) wd_338 rfl rfl rfl rfl (Nat.le_of_ble_eq_true rfl) rfl dX4_init_18 (fun H locs hP hD hS => ?_)
  refine lv_aload_n hx hb dX4_init_21 rfl (lv_at hl 0 rfl) ?_
  refine lv_bipush (v := 60) hx hb dX4_init_22 (by decide +kernel) ?_
  refine gq_newa (atype := .long) (ty := .long) hx hb rfl (ht _ wd_365) hK hP hD hS hA 1 rfl 60 (60, .inr (.inl (fun _ => 0))) (fun _ => rfl) (by decide +kernel) (by decide +kernel) (Nat.le_of_ble_eq_true rfl) 3 470 (Nat.le_of_ble_eq_true rfl) (Nat.le_of_ble_eq_true rfl) (Nat.le_of_ble_eq_true rfl) (Nat.le_of_ble_eq_true rfl) dX4_init_24 (fun q_3 H hP hD hS => ?_)
  have hP : va_P (gg_D G) classes [(t, .inr (4, [.ref q_1, .ref q_2, .null, .null, .null, .int 0, .int 0, .int 0, .int 0])), (q_1, .inl (G.2.2 0, 400, .inl (fun _ => 0))), (q_2, .inl (G.2.2 1, 10, .inr (.inl (fun _ => 0)))), (q_3, .inl (G.2.2 1, 60, .inr (.inl (fun _ => 0))))] H := hP
  have hD : va_D A [(t, .inr (4, [.ref q_1, .ref q_2, .null, .null, .null, .int 0, .int 0, .int 0, .int 0])), (q_1, .inl (G.2.2 0, 400, .inl (fun _ => 0))), (q_2, .inl (G.2.2 1, 10, .inr (.inl (fun _ => 0)))), (q_3, .inl (G.2.2 1, 60, .inr (.inl (fun _ => 0))))] := hD
  refine gq_putF (ws' := [(t, .inr (4, [.ref q_1, .ref q_2, .ref q_3, .null, .null, .int 0, .int 0, .int 0, .int 0])), (q_1, .inl (G.2.2 0, 400, .inl (fun _ => 0))), (q_2, .inl (G.2.2 1, 10, .inr (.inl (fun _ => 0)))), (q_3, .inl (G.2.2 1, 60, .inr (.inl (fun _ => 0))))]) hx hb ht hown hin hK hP hD hS i_X4 tyX4 tyX4_ok nmX4 0 rfl rfl 2 (by decide) wd_339 rfl rfl rfl rfl (Nat.le_of_ble_eq_true rfl) rfl dX4_init_26 (fun H locs hP hD hS => ?_)
  refine lv_aload_n hx hb dX4_init_29 rfl (lv_at hl 0 rfl) ?_
  refine lv_bipush (v := 11) hx hb dX4_init_30 (by decide +kernel) ?_
  refine gq_newa (atype := .int) (ty := .int) hx hb rfl (ht _ wd_172) hK hP hD hS hA 0 rfl 11 (11, .inl (fun _ => 0)) (fun _ => rfl) (by decide +kernel) (by decide +kernel) (Nat.le_of_ble_eq_true rfl) 4 481 (Nat.le_of_ble_eq_true rfl) (Nat.le_of_ble_eq_true rfl) (Nat.le_of_ble_eq_true rfl) (Nat.le_of_ble_eq_true rfl) dX4_init_32 (fun q_4 H hP hD hS => ?_)
  have hP : va_P (gg_D G) classes [(t, .inr (4, [.ref q_1, .ref q_2, .ref q_3, .null, .null, .int 0, .int 0, .int 0, .int 0])), (q_1, .inl (G.2.2 0, 400, .inl (fun _ => 0))), (q_2, .inl (G.2.2 1, 10, .inr (.inl (fun _ => 0)))), (q_3, .inl (G.2.2 1, 60, .inr (.inl (fun _ => 0)))), (q_4, .inl (G.2.2 0, 11, .inl (fun _ => 0)))] H := hP
  have hD : va_D A [(t, .inr (4, [.ref q_1, .ref q_2, .ref q_3, .null, .null, .int 0, .int 0, .int 0, .int 0])), (q_1, .inl (G.2.2 0, 400, .inl (fun _ => 0))), (q_2, .inl (G.2.2 1, 10, .inr (.inl (fun _ => 0)))), (q_3, .inl (G.2.2 1, 60, .inr (.inl (fun _ => 0)))), (q_4, .inl (G.2.2 0, 11, .inl (fun _ => 0)))] := hD
  refine gq_putF (ws' := [(t, .inr (4, [.ref q_1, .ref q_2, .ref q_3, .ref q_4, .null, .int 0, .int 0, .int 0, .int 0])), (q_1, .inl (G.2.2 0, 400, .inl (fun _ => 0))), (q_2, .inl (G.2.2 1, 10, .inr (.inl (fun _ => 0)))), (q_3, .inl (G.2.2 1, 60, .inr (.inl (fun _ => 0)))), (q_4, .inl (G.2.2 0, 11, .inl (fun _ => 0)))]) hx hb ht hown hin hK hP hD hS i_X4 tyX4 tyX4_ok nmX4 0 rfl rfl 3 (by decide) wd_340 rfl rfl rfl rfl (Nat.le_of_ble_eq_true rfl) rfl dX4_init_34 (fun H locs hP hD hS => ?_)
  refine lv_aload_n hx hb dX4_init_37 rfl (lv_at hl 0 rfl) ?_
  refine lv_bipush (v := 11) hx hb dX4_init_38 (by decide +kernel) ?_
  refine gq_newa (atype := .int) (ty := .int) hx hb rfl (ht _ wd_172) hK hP hD hS hA 0 rfl 11 (11, .inl (fun _ => 0)) (fun _ => rfl) (by decide +kernel) (by decide +kernel) (Nat.le_of_ble_eq_true rfl) 5 492 (Nat.le_of_ble_eq_true rfl) (Nat.le_of_ble_eq_true rfl) (Nat.le_of_ble_eq_true rfl) (Nat.le_of_ble_eq_true rfl) dX4_init_40 (fun q_5 H hP hD hS => ?_)
  have hP : va_P (gg_D G) classes [(t, .inr (4, [.ref q_1, .ref q_2, .ref q_3, .ref q_4, .null, .int 0, .int 0, .int 0, .int 0])), (q_1, .inl (G.2.2 0, 400, .inl (fun _ => 0))), (q_2, .inl (G.2.2 1, 10, .inr (.inl (fun _ => 0)))), (q_3, .inl (G.2.2 1, 60, .inr (.inl (fun _ => 0)))), (q_4, .inl (G.2.2 0, 11, .inl (fun _ => 0))), (q_5, .inl (G.2.2 0, 11, .inl (fun _ => 0)))] H := hP
  have hD : va_D A [(t, .inr (4, [.ref q_1, .ref q_2, .ref q_3, .ref q_4, .null, .int 0, .int 0, .int 0, .int 0])), (q_1, .inl (G.2.2 0, 400, .inl (fun _ => 0))), (q_2, .inl (G.2.2 1, 10, .inr (.inl (fun _ => 0)))), (q_3, .inl (G.2.2 1, 60, .inr (.inl (fun _ => 0)))), (q_4, .inl (G.2.2 0, 11, .inl (fun _ => 0))), (q_5, .inl (G.2.2 0, 11, .inl (fun _ => 0)))] := hD
  refine gq_putF (ws' := [(t, .inr (4, [.ref q_1, .ref q_2, .ref q_3, .ref q_4, .ref q_5, .int 0, .int 0, .int 0, .int 0])), (q_1, .inl (G.2.2 0, 400, .inl (fun _ => 0))), (q_2, .inl (G.2.2 1, 10, .inr (.inl (fun _ => 0)))), (q_3, .inl (G.2.2 1, 60, .inr (.inl (fun _ => 0)))), (q_4, .inl (G.2.2 0, 11, .inl (fun _ => 0))), (q_5, .inl (G.2.2 0, 11, .inl (fun _ => 0)))]) hx hb ht hown hin hK hP hD hS i_X4 tyX4 tyX4_ok nmX4 0 rfl rfl 4 (by decide) wd_341 rfl rfl rfl rfl (Nat.le_of_ble_eq_true rfl) rfl dX4_init_42 (fun H locs hP hD hS => ?_)
  refine lv_aload_n hx hb dX4_init_45 rfl (lv_at hl 0 rfl) ?_
  refine lv_iconst (v := 0) hx hb dX4_init_46 (by decide) ?_
  refine gq_put (ws' := [(t, .inr (4, [.ref q_1, .ref q_2, .ref q_3, .ref q_4, .ref q_5, .int 0, .int 0, .int 0, .int 0])), (q_1, .inl (G.2.2 0, 400, .inl (fun _ => 0))), (q_2, .inl (G.2.2 1, 10, .inr (.inl (fun _ => 0)))), (q_3, .inl (G.2.2 1, 60, .inr (.inl (fun _ => 0)))), (q_4, .inl (G.2.2 0, 11, .inl (fun _ => 0))), (q_5, .inl (G.2.2 0, 11, .inl (fun _ => 0)))]) hx hb ht hown hK hP hD hS i_X4 tyX4 tyX4_ok nmX4 0 rfl rfl 5 (by decide) wd_342 rfl rfl rfl rfl (Nat.le_of_ble_eq_true rfl) rfl dX4_init_47 (fun H locs hP hD hS => ?_)
  refine lv_aload_n hx hb dX4_init_50 rfl (lv_at hl 0 rfl) ?_
  refine lv_iconst (v := 0) hx hb dX4_init_51 (by decide) ?_
  refine gq_put (ws' := [(t, .inr (4, [.ref q_1, .ref q_2, .ref q_3, .ref q_4, .ref q_5, .int 0, .int 0, .int 0, .int 0])), (q_1, .inl (G.2.2 0, 400, .inl (fun _ => 0))), (q_2, .inl (G.2.2 1, 10, .inr (.inl (fun _ => 0)))), (q_3, .inl (G.2.2 1, 60, .inr (.inl (fun _ => 0)))), (q_4, .inl (G.2.2 0, 11, .inl (fun _ => 0))), (q_5, .inl (G.2.2 0, 11, .inl (fun _ => 0)))]) hx hb ht hown hK hP hD hS i_X4 tyX4 tyX4_ok nmX4 0 rfl rfl 6 (by decide) wd_343 rfl rfl rfl rfl (Nat.le_of_ble_eq_true rfl) rfl dX4_init_52 (fun H locs hP hD hS => ?_)
  refine lv_aload_n hx hb dX4_init_55 rfl (lv_at hl 0 rfl) ?_
  refine lv_iconst (v := 0) hx hb dX4_init_56 (by decide) ?_
  refine gq_put (ws' := [(t, .inr (4, [.ref q_1, .ref q_2, .ref q_3, .ref q_4, .ref q_5, .int 0, .int 0, .int 0, .int 0])), (q_1, .inl (G.2.2 0, 400, .inl (fun _ => 0))), (q_2, .inl (G.2.2 1, 10, .inr (.inl (fun _ => 0)))), (q_3, .inl (G.2.2 1, 60, .inr (.inl (fun _ => 0)))), (q_4, .inl (G.2.2 0, 11, .inl (fun _ => 0))), (q_5, .inl (G.2.2 0, 11, .inl (fun _ => 0)))]) hx hb ht hown hK hP hD hS i_X4 tyX4 tyX4_ok nmX4 0 rfl rfl 7 (by decide) wd_344 rfl rfl rfl rfl (Nat.le_of_ble_eq_true rfl) rfl dX4_init_57 (fun H locs hP hD hS => ?_)
  refine lv_aload_n hx hb dX4_init_60 rfl (lv_at hl 0 rfl) ?_
  refine lv_iconst (v := 0) hx hb dX4_init_61 (by decide) ?_
  refine gq_put (ws' := [(t, .inr (4, [.ref q_1, .ref q_2, .ref q_3, .ref q_4, .ref q_5, .int 0, .int 0, .int 0, .int 0])), (q_1, .inl (G.2.2 0, 400, .inl (fun _ => 0))), (q_2, .inl (G.2.2 1, 10, .inr (.inl (fun _ => 0)))), (q_3, .inl (G.2.2 1, 60, .inr (.inl (fun _ => 0)))), (q_4, .inl (G.2.2 0, 11, .inl (fun _ => 0))), (q_5, .inl (G.2.2 0, 11, .inl (fun _ => 0)))]) hx hb ht hown hK hP hD hS i_X4 tyX4 tyX4_ok nmX4 0 rfl rfl 8 (by decide) wd_345 rfl rfl rfl rfl (Nat.le_of_ble_eq_true rfl) rfl dX4_init_62 (fun H locs hP hD hS => ?_)
  have hP9 := hP.sub (ws' := [(t, .inr (4, [.ref q_1, .ref q_2, .ref q_3, .ref q_4, .ref q_5, .int 0, .int 0, .int 0, .int 0]))]) [0] rfl
  have hD9 := hD.sub (ws' := [(t, .inr (4, [.ref q_1, .ref q_2, .ref q_3, .ref q_4, .ref q_5, .int 0, .int 0, .int 0, .int 0]))]) [0] (by decide) rfl
  refine W.widen (k := 5) (n := 492) (Nat.le_of_ble_eq_true rfl) (Nat.le_of_ble_eq_true rfl) ?_
  exact W.vret hx hb hr (gq_endV (q_1, q_2, q_3, q_4, q_5) trivial hP9 hD9 hS) hS.2.2 dX4_init_65
set_option maxHeartbeats 4000000 in
set_option maxRecDepth 100000 in
theorem c_Past_init (l : Launch) (G : gg_T) (sz : Nat) (t : Nat) : Met l yX3_init (ts_L yX3_init cX3_init 2 none) ({ frames := 2, cells := 201, slots := 920, locals := 32 }) (gc_P G [(t, .inr (3, [.null, .int 0, .int 0]))] sz [.ref t]) (gc_V G (va_A [(t, .inr (3, [.null, .int 0, .int 0]))] sz) (fun (_ : (Nat)) => True) (fun (u : (Nat)) => match u with | b => [(t, .inr (3, [.ref b, .int 0, .int 0]))])) 201 920 (va_A [(t, .inr (3, [.null, .int 0, .int 0]))] sz) := by
  refine Met.ofW (cc := cX3_init) (maxL := 2) (ret := none) (by decide) rfl ?_
  intro p e s m args below meth c s₁ B hml hv
  obtain ⟨rfl, hsz, hP, hK, hD0⟩ := hv
  have hx := B.exec
  have hb := B.bytes
  have hr := B.returns
  have ht := ts_ht (atoms_spec (ws := ts_L yX3_init cX3_init 2 none) B.pre)
  have hown : s.vm.findClass RX3 = some m.cls := findClass_of_methodNamed B.named
  have hlocks := B.notSynchronized
  have hin : meth.name = "<init>" := (name_of_methodNamed B.named B.method).1
  subst hsz
  have hD := hD0.self (sz := s.heap.size)
  generalize hAe : va_A [(t, .inr (3, [.null, .int 0, .int 0]))] s.heap.size = A at hD ⊢
  have hA : ∀ q : Nat, s.heap.size ≤ q → A q := fun q h => by rw [← hAe]; exact Or.inr h
  have hS : va_S A s.heap s.heap [] := va_S.rf
  have hl := lv_entry ([.ref t]) (n := 2) (Nat.le_of_ble_eq_true rfl)
  rw [lg_entry_eq]
  generalize (lg_sl ([.ref t]) ++ List.replicate (2 - (lg_sl ([.ref t])).length) Slot.unset).toArray = ls at hl ⊢
  have hl : lv_has ls 2 [(0, .ref t)] := hl
  refine lv_aload_n hx hb dX3_init_0 rfl (lv_at hl 0 rfl) ?_
  refine W.objInit hx hb hown (ht _ wd_295) (ht _ wd_148) (ht _ wd_149) rfl (by rw [hml]; exact hl.1) rfl dX3_init_1 (Nat.le_of_ble_eq_true rfl) (Nat.le_of_ble_eq_true rfl) ?_
  refine W.eq (g2 := F0 m 4 ls []) rfl ?_
  refine lv_aload_n hx hb dX3_init_4 rfl (lv_at hl 0 rfl) ?_
  refine lv_bipush (v := 20) hx hb dX3_init_5 (by decide +kernel) ?_
  refine gq_newq hx hb hown (ht _ wd_296) hK.2.2.1 hK hP hD hS hA 4 rfl 20 (by decide +kernel) (by decide +kernel) (Nat.le_of_ble_eq_true rfl) 1 20 (Nat.le_of_ble_eq_true rfl) (Nat.le_of_ble_eq_true rfl) (Nat.le_of_ble_eq_true rfl) (Nat.le_of_ble_eq_true rfl) dX3_init_7 (fun q_1 H hP hD hS => ?_)
  have hP : va_P (gg_D G) classes [(t, .inr (3, [.null, .int 0, .int 0])), (q_1, .inl (G.2.2 4, 20, .inr (.inr (.inr (.inr (fun _ => none))))))] H := hP
  have hD : va_D A [(t, .inr (3, [.null, .int 0, .int 0])), (q_1, .inl (G.2.2 4, 20, .inr (.inr (.inr (.inr (fun _ => none))))))] := hD
  refine gq_putF (ws' := [(t, .inr (3, [.ref q_1, .int 0, .int 0])), (q_1, .inl (G.2.2 4, 20, .inr (.inr (.inr (.inr (fun _ => none))))))]) hx hb ht hown hin hK hP hD hS i_X3 tyX3 tyX3_ok nmX3 0 rfl rfl 0 (by decide) wd_299 rfl rfl rfl rfl (Nat.le_of_ble_eq_true rfl) rfl dX3_init_10 (fun H locs hP hD hS => ?_)
  refine lv_aload_n hx hb dX3_init_13 rfl (lv_at hl 0 rfl) ?_
  refine lv_iconst (v := 0) hx hb dX3_init_14 (by decide) ?_
  refine gq_put (ws' := [(t, .inr (3, [.ref q_1, .int 0, .int 0])), (q_1, .inl (G.2.2 4, 20, .inr (.inr (.inr (.inr (fun _ => none))))))]) hx hb ht hown hK hP hD hS i_X3 tyX3 tyX3_ok nmX3 0 rfl rfl 1 (by decide) wd_300 rfl rfl rfl rfl (Nat.le_of_ble_eq_true rfl) rfl dX3_init_15 (fun H locs hP hD hS => ?_)
  refine lv_aload_n hx hb dX3_init_18 rfl (lv_at hl 0 rfl) ?_
  refine lv_iconst (v := 0) hx hb dX3_init_19 (by decide) ?_
  refine gq_put (ws' := [(t, .inr (3, [.ref q_1, .int 0, .int 0])), (q_1, .inl (G.2.2 4, 20, .inr (.inr (.inr (.inr (fun _ => none))))))]) hx hb ht hown hK hP hD hS i_X3 tyX3 tyX3_ok nmX3 0 rfl rfl 2 (by decide) wd_301 rfl rfl rfl rfl (Nat.le_of_ble_eq_true rfl) rfl dX3_init_20 (fun H locs hP hD hS => ?_)
  refine lv_iconst (v := 0) hx hb dX3_init_23 (by decide) ?_
  refine lv_istore_n (lv' := [(1, .int 0), (0, .ref t)]) hx hb dX3_init_24 rfl hl (by decide) rfl (fun ls hl => ?_)
  refine lv_iload_n hx hb dX3_init_25 rfl (lv_at hl 0 rfl) ?_
  refine lv_bipush (v := 20) hx hb dX3_init_26 (by decide +kernel) ?_
  refine lv_icmp_ge (tgt := 50) hx hb dX3_init_28 (by decide) (fun c0 => absurd c0 (by decide +kernel)) (fun _ => ?_)
  refine lv_aload_n hx hb dX3_init_31 rfl (lv_at hl 1 rfl) ?_
  refine gq_get hx hb ht hown hK hP i_X3 0 rfl rfl 0 (by decide) wd_299 rfl rfl dX3_init_32 ?_
  refine lv_iload_n hx hb dX3_init_35 rfl (lv_at hl 0 rfl) ?_
  refine gq_new (ci := 7) hx hb ht hown i_X7 tyX7 tyX7_ok wd_296 wd_226 wd_125 hK hP hD hS hA rfl [.null, .null, .null, .null, .null, .null, .null, .null, .null, .int 0] df_X7 2 30 (Nat.le_of_ble_eq_true rfl) (Nat.le_of_ble_eq_true rfl) (Nat.le_of_ble_eq_true rfl) (Nat.le_of_ble_eq_true rfl) dX3_init_36 (fun q_2 H hP hD hS => ?_)
  have hP : va_P (gg_D G) classes [(t, .inr (3, [.ref q_1, .int 0, .int 0])), (q_1, .inl (G.2.2 4, 20, .inr (.inr (.inr (.inr (fun _ => none)))))), (q_2, .inr (7, [.null, .null, .null, .null, .null, .null, .null, .null, .null, .int 0]))] H := hP
  have hD : va_D A [(t, .inr (3, [.ref q_1, .int 0, .int 0])), (q_1, .inl (G.2.2 4, 20, .inr (.inr (.inr (.inr (fun _ => none)))))), (q_2, .inr (7, [.null, .null, .null, .null, .null, .null, .null, .null, .null, .int 0]))] := hD
  refine lv_dup hx hb dX3_init_39 rfl ?_
  have hPc := hP.sub (ws' := [(q_2, .inr (7, [.null, .null, .null, .null, .null, .null, .null, .null, .null, .int 0]))]) [2] rfl
  have hDc := hD.sub (ws' := [(q_2, .inr (7, [.null, .null, .null, .null, .null, .null, .null, .null, .null, .int 0]))]) [2] (by decide) rfl
  refine gq_callV (wr := [(t, .inr (3, [.ref q_1, .int 0, .int 0])), (q_1, .inl (G.2.2 4, 20, .inr (.inr (.inr (.inr (fun _ => none))))))]) (va_runIN (As := []) (rest := [.ref q_2, .int 0, .ref q_1]) ⟨hx, hb, hml, hown, ht⟩ (c_State_init l G H.size q_2) ⟨va_cnB 0 ht (tb_good (ts_good wd_229)) rfl rfl rfl (hK.2.1 _ wn_298 rfl) (ht _ wd_125) (by decide +kernel) ⟨Nat.le_of_ble_eq_true rfl, Nat.le_of_ble_eq_true rfl⟩, rfl, ht _ wd_228⟩ (gc_preS hK hPc hDc) rfl rfl hl.1 rfl (lv_room (Nat.le_of_ble_eq_true rfl)) dX3_init_40 ⟨Nat.le_of_ble_eq_true rfl, Nat.le_of_ble_eq_true rfl⟩) hP hD hS hA [2] [0, 1] rfl rfl (by decide) (by decide) (fun u H locs hw hP hD hS => ?_)
  obtain ⟨u_3, u_4, u_5, u_6, u_7, u_8, u_9, u_10, u_11⟩ := u
  have hP : va_P (gg_D G) classes [(t, .inr (3, [.ref q_1, .int 0, .int 0])), (q_1, .inl (G.2.2 4, 20, .inr (.inr (.inr (.inr (fun _ => none)))))), (q_2, .inr (7, [.ref u_3, .ref u_4, .ref u_5, .ref u_6, .ref u_7, .ref u_8, .ref u_9, .ref u_10, .ref u_11, .int 0])), (u_3, .inl (G.2.2 0, 5, .inl (fun _ => 0))), (u_4, .inl (G.2.2 0, 5, .inl (fun _ => 0))), (u_5, .inl (G.2.2 0, 5, .inl (fun _ => 0))), (u_6, .inl (G.2.2 0, 5, .inl (fun _ => 0))), (u_7, .inl (G.2.2 0, 3, .inl (fun _ => 0))), (u_8, .inl (G.2.2 0, 3, .inl (fun _ => 0))), (u_9, .inl (G.2.2 0, 3, .inl (fun _ => 0))), (u_10, .inl (G.2.2 0, 3, .inl (fun _ => 0))), (u_11, .inl (G.2.2 0, 3, .inl (fun _ => 0)))] H := hP
  have hD : va_D A [(t, .inr (3, [.ref q_1, .int 0, .int 0])), (q_1, .inl (G.2.2 4, 20, .inr (.inr (.inr (.inr (fun _ => none)))))), (q_2, .inr (7, [.ref u_3, .ref u_4, .ref u_5, .ref u_6, .ref u_7, .ref u_8, .ref u_9, .ref u_10, .ref u_11, .int 0])), (u_3, .inl (G.2.2 0, 5, .inl (fun _ => 0))), (u_4, .inl (G.2.2 0, 5, .inl (fun _ => 0))), (u_5, .inl (G.2.2 0, 5, .inl (fun _ => 0))), (u_6, .inl (G.2.2 0, 5, .inl (fun _ => 0))), (u_7, .inl (G.2.2 0, 3, .inl (fun _ => 0))), (u_8, .inl (G.2.2 0, 3, .inl (fun _ => 0))), (u_9, .inl (G.2.2 0, 3, .inl (fun _ => 0))), (u_10, .inl (G.2.2 0, 3, .inl (fun _ => 0))), (u_11, .inl (G.2.2 0, 3, .inl (fun _ => 0)))] := hD
  refine W.widen (k := 11) (n := 65) (Nat.le_of_ble_eq_true rfl) (Nat.le_of_ble_eq_true rfl) ?_
  obtain ⟨f_12, ef_12⟩ : ∃ z : Nat → Option Nat, va_up (fun _ => none) (Int32.toNatClampNeg 0) (some q_2) = z := ⟨_, rfl⟩
  refine gq_aast (ws' := [(t, .inr (3, [.ref q_1, .int 0, .int 0])), (q_1, .inl (G.2.2 4, 20, .inr (.inr (.inr (.inr f_12))))), (q_2, .inr (7, [.ref u_3, .ref u_4, .ref u_5, .ref u_6, .ref u_7, .ref u_8, .ref u_9, .ref u_10, .ref u_11, .int 0])), (u_3, .inl (G.2.2 0, 5, .inl (fun _ => 0))), (u_4, .inl (G.2.2 0, 5, .inl (fun _ => 0))), (u_5, .inl (G.2.2 0, 5, .inl (fun _ => 0))), (u_6, .inl (G.2.2 0, 5, .inl (fun _ => 0))), (u_7, .inl (G.2.2 0, 3, .inl (fun _ => 0))), (u_8, .inl (G.2.2 0, 3, .inl (fun _ => 0))), (u_9, .inl (G.2.2 0, 3, .inl (fun _ => 0))), (u_10, .inl (G.2.2 0, 3, .inl (fun _ => 0))), (u_11, .inl (G.2.2 0, 3, .inl (fun _ => 0)))]) hx hb hK hP hD hS 1 4 2 7 rfl rfl rfl rfl f_12 (by unfold vp_in; decide +kernel) ef_12 rfl dX3_init_43 (fun H locs hP hD hS => ?_)
  have hP := hP.sub (ws' := [(t, .inr (3, [.ref q_1, .int 0, .int 0])), (q_1, .inl (G.2.2 4, 20, .inr (.inr (.inr (.inr f_12)))))]) [0, 1] rfl
  have hD := hD.sub (ws' := [(t, .inr (3, [.ref q_1, .int 0, .int 0])), (q_1, .inl (G.2.2 4, 20, .inr (.inr (.inr (.inr f_12)))))]) [0, 1] (by decide) rfl
  refine lv_iinc (v := 1) (lv' := [(1, .int 1), (0, .ref t)]) hx hb dX3_init_44 hl (k := 0) rfl (by decide +kernel) (by decide) rfl (fun ls hl => ?_)
  refine lv_goto (tgt := 25) hx hb dX3_init_47 (by decide) ?_
  refine lv_iload_n hx hb dX3_init_25 rfl (lv_at hl 0 rfl) ?_
  refine lv_bipush (v := 20) hx hb dX3_init_26 (by decide +kernel) ?_
  refine lv_icmp_ge (tgt := 50) hx hb dX3_init_28 (by decide) (fun c0 => absurd c0 (by decide +kernel)) (fun _ => ?_)
  refine lv_aload_n hx hb dX3_init_31 rfl (lv_at hl 1 rfl) ?_
  refine gq_get hx hb ht hown hK hP i_X3 0 rfl rfl 0 (by decide) wd_299 rfl rfl dX3_init_32 ?_
  refine lv_iload_n hx hb dX3_init_35 rfl (lv_at hl 0 rfl) ?_
  refine gq_new (ci := 7) hx hb ht hown i_X7 tyX7 tyX7_ok wd_296 wd_226 wd_125 hK hP hD hS hA rfl [.null, .null, .null, .null, .null, .null, .null, .null, .null, .int 0] df_X7 12 75 (Nat.le_of_ble_eq_true rfl) (Nat.le_of_ble_eq_true rfl) (Nat.le_of_ble_eq_true rfl) (Nat.le_of_ble_eq_true rfl) dX3_init_36 (fun q_13 H hP hD hS => ?_)
  have hP : va_P (gg_D G) classes [(t, .inr (3, [.ref q_1, .int 0, .int 0])), (q_1, .inl (G.2.2 4, 20, .inr (.inr (.inr (.inr f_12))))), (q_13, .inr (7, [.null, .null, .null, .null, .null, .null, .null, .null, .null, .int 0]))] H := hP
  have hD : va_D A [(t, .inr (3, [.ref q_1, .int 0, .int 0])), (q_1, .inl (G.2.2 4, 20, .inr (.inr (.inr (.inr f_12))))), (q_13, .inr (7, [.null, .null, .null, .null, .null, .null, .null, .null, .null, .int 0]))] := hD
  refine lv_dup hx hb dX3_init_39 rfl ?_
  have hPc := hP.sub (ws' := [(q_13, .inr (7, [.null, .null, .null, .null, .null, .null, .null, .null, .null, .int 0]))]) [2] rfl
  have hDc := hD.sub (ws' := [(q_13, .inr (7, [.null, .null, .null, .null, .null, .null, .null, .null, .null, .int 0]))]) [2] (by decide) rfl
  refine gq_callV (wr := [(t, .inr (3, [.ref q_1, .int 0, .int 0])), (q_1, .inl (G.2.2 4, 20, .inr (.inr (.inr (.inr f_12)))))]) (va_runIN (As := []) (rest := [.ref q_13, .int 1, .ref q_1]) ⟨hx, hb, hml, hown, ht⟩ (c_State_init l G H.size q_13) ⟨va_cnB 0 ht (tb_good (ts_good wd_229)) rfl rfl rfl (hK.2.1 _ wn_298 rfl) (ht _ wd_125) (by decide +kernel) ⟨Nat.le_of_ble_eq_true rfl, Nat.le_of_ble_eq_true rfl⟩, rfl, ht _ wd_228⟩ (gc_preS hK hPc hDc) rfl rfl hl.1 rfl (lv_room (Nat.le_of_ble_eq_true rfl)) dX3_init_40 ⟨Nat.le_of_ble_eq_true rfl, Nat.le_of_ble_eq_true rfl⟩) hP hD hS hA [2] [0, 1] rfl rfl (by decide) (by decide) (fun u H locs hw hP hD hS => ?_)
  obtain ⟨u_14, u_15, u_16, u_17, u_18, u_19, u_20, u_21, u_22⟩ := u
  have hP : va_P (gg_D G) classes [(t, .inr (3, [.ref q_1, .int 0, .int 0])), (q_1, .inl (G.2.2 4, 20, .inr (.inr (.inr (.inr f_12))))), (q_13, .inr (7, [.ref u_14, .ref u_15, .ref u_16, .ref u_17, .ref u_18, .ref u_19, .ref u_20, .ref u_21, .ref u_22, .int 0])), (u_14, .inl (G.2.2 0, 5, .inl (fun _ => 0))), (u_15, .inl (G.2.2 0, 5, .inl (fun _ => 0))), (u_16, .inl (G.2.2 0, 5, .inl (fun _ => 0))), (u_17, .inl (G.2.2 0, 5, .inl (fun _ => 0))), (u_18, .inl (G.2.2 0, 3, .inl (fun _ => 0))), (u_19, .inl (G.2.2 0, 3, .inl (fun _ => 0))), (u_20, .inl (G.2.2 0, 3, .inl (fun _ => 0))), (u_21, .inl (G.2.2 0, 3, .inl (fun _ => 0))), (u_22, .inl (G.2.2 0, 3, .inl (fun _ => 0)))] H := hP
  have hD : va_D A [(t, .inr (3, [.ref q_1, .int 0, .int 0])), (q_1, .inl (G.2.2 4, 20, .inr (.inr (.inr (.inr f_12))))), (q_13, .inr (7, [.ref u_14, .ref u_15, .ref u_16, .ref u_17, .ref u_18, .ref u_19, .ref u_20, .ref u_21, .ref u_22, .int 0])), (u_14, .inl (G.2.2 0, 5, .inl (fun _ => 0))), (u_15, .inl (G.2.2 0, 5, .inl (fun _ => 0))), (u_16, .inl (G.2.2 0, 5, .inl (fun _ => 0))), (u_17, .inl (G.2.2 0, 5, .inl (fun _ => 0))), (u_18, .inl (G.2.2 0, 3, .inl (fun _ => 0))), (u_19, .inl (G.2.2 0, 3, .inl (fun _ => 0))), (u_20, .inl (G.2.2 0, 3, .inl (fun _ => 0))), (u_21, .inl (G.2.2 0, 3, .inl (fun _ => 0))), (u_22, .inl (G.2.2 0, 3, .inl (fun _ => 0)))] := hD
  refine W.widen (k := 21) (n := 110) (Nat.le_of_ble_eq_true rfl) (Nat.le_of_ble_eq_true rfl) ?_
  obtain ⟨f_23, ef_23⟩ : ∃ z : Nat → Option Nat, va_up f_12 (Int32.toNatClampNeg 1) (some q_13) = z := ⟨_, rfl⟩
  refine gq_aast (ws' := [(t, .inr (3, [.ref q_1, .int 0, .int 0])), (q_1, .inl (G.2.2 4, 20, .inr (.inr (.inr (.inr f_23))))), (q_13, .inr (7, [.ref u_14, .ref u_15, .ref u_16, .ref u_17, .ref u_18, .ref u_19, .ref u_20, .ref u_21, .ref u_22, .int 0])), (u_14, .inl (G.2.2 0, 5, .inl (fun _ => 0))), (u_15, .inl (G.2.2 0, 5, .inl (fun _ => 0))), (u_16, .inl (G.2.2 0, 5, .inl (fun _ => 0))), (u_17, .inl (G.2.2 0, 5, .inl (fun _ => 0))), (u_18, .inl (G.2.2 0, 3, .inl (fun _ => 0))), (u_19, .inl (G.2.2 0, 3, .inl (fun _ => 0))), (u_20, .inl (G.2.2 0, 3, .inl (fun _ => 0))), (u_21, .inl (G.2.2 0, 3, .inl (fun _ => 0))), (u_22, .inl (G.2.2 0, 3, .inl (fun _ => 0)))]) hx hb hK hP hD hS 1 4 2 7 rfl rfl rfl rfl f_23 (by unfold vp_in; decide +kernel) ef_23 rfl dX3_init_43 (fun H locs hP hD hS => ?_)
  have hP := hP.sub (ws' := [(t, .inr (3, [.ref q_1, .int 0, .int 0])), (q_1, .inl (G.2.2 4, 20, .inr (.inr (.inr (.inr f_23)))))]) [0, 1] rfl
  have hD := hD.sub (ws' := [(t, .inr (3, [.ref q_1, .int 0, .int 0])), (q_1, .inl (G.2.2 4, 20, .inr (.inr (.inr (.inr f_23)))))]) [0, 1] (by decide) rfl
  refine lv_iinc (v := 2) (lv' := [(1, .int 2), (0, .ref t)]) hx hb dX3_init_44 hl (k := 0) rfl (by decide +kernel) (by decide) rfl (fun ls hl => ?_)
  refine lv_goto (tgt := 25) hx hb dX3_init_47 (by decide) ?_
  refine lv_iload_n hx hb dX3_init_25 rfl (lv_at hl 0 rfl) ?_
  refine lv_bipush (v := 20) hx hb dX3_init_26 (by decide +kernel) ?_
  refine lv_icmp_ge (tgt := 50) hx hb dX3_init_28 (by decide) (fun c0 => absurd c0 (by decide +kernel)) (fun _ => ?_)
  refine lv_aload_n hx hb dX3_init_31 rfl (lv_at hl 1 rfl) ?_
  refine gq_get hx hb ht hown hK hP i_X3 0 rfl rfl 0 (by decide) wd_299 rfl rfl dX3_init_32 ?_
  refine lv_iload_n hx hb dX3_init_35 rfl (lv_at hl 0 rfl) ?_
  refine gq_new (ci := 7) hx hb ht hown i_X7 tyX7 tyX7_ok wd_296 wd_226 wd_125 hK hP hD hS hA rfl [.null, .null, .null, .null, .null, .null, .null, .null, .null, .int 0] df_X7 22 120 (Nat.le_of_ble_eq_true rfl) (Nat.le_of_ble_eq_true rfl) (Nat.le_of_ble_eq_true rfl) (Nat.le_of_ble_eq_true rfl) dX3_init_36 (fun q_24 H hP hD hS => ?_)
  have hP : va_P (gg_D G) classes [(t, .inr (3, [.ref q_1, .int 0, .int 0])), (q_1, .inl (G.2.2 4, 20, .inr (.inr (.inr (.inr f_23))))), (q_24, .inr (7, [.null, .null, .null, .null, .null, .null, .null, .null, .null, .int 0]))] H := hP
  have hD : va_D A [(t, .inr (3, [.ref q_1, .int 0, .int 0])), (q_1, .inl (G.2.2 4, 20, .inr (.inr (.inr (.inr f_23))))), (q_24, .inr (7, [.null, .null, .null, .null, .null, .null, .null, .null, .null, .int 0]))] := hD
  refine lv_dup hx hb dX3_init_39 rfl ?_
  have hPc := hP.sub (ws' := [(q_24, .inr (7, [.null, .null, .null, .null, .null, .null, .null, .null, .null, .int 0]))]) [2] rfl
  have hDc := hD.sub (ws' := [(q_24, .inr (7, [.null, .null, .null, .null, .null, .null, .null, .null, .null, .int 0]))]) [2] (by decide) rfl
  refine gq_callV (wr := [(t, .inr (3, [.ref q_1, .int 0, .int 0])), (q_1, .inl (G.2.2 4, 20, .inr (.inr (.inr (.inr f_23)))))]) (va_runIN (As := []) (rest := [.ref q_24, .int 2, .ref q_1]) ⟨hx, hb, hml, hown, ht⟩ (c_State_init l G H.size q_24) ⟨va_cnB 0 ht (tb_good (ts_good wd_229)) rfl rfl rfl (hK.2.1 _ wn_298 rfl) (ht _ wd_125) (by decide +kernel) ⟨Nat.le_of_ble_eq_true rfl, Nat.le_of_ble_eq_true rfl⟩, rfl, ht _ wd_228⟩ (gc_preS hK hPc hDc) rfl rfl hl.1 rfl (lv_room (Nat.le_of_ble_eq_true rfl)) dX3_init_40 ⟨Nat.le_of_ble_eq_true rfl, Nat.le_of_ble_eq_true rfl⟩) hP hD hS hA [2] [0, 1] rfl rfl (by decide) (by decide) (fun u H locs hw hP hD hS => ?_)
  obtain ⟨u_25, u_26, u_27, u_28, u_29, u_30, u_31, u_32, u_33⟩ := u
  have hP : va_P (gg_D G) classes [(t, .inr (3, [.ref q_1, .int 0, .int 0])), (q_1, .inl (G.2.2 4, 20, .inr (.inr (.inr (.inr f_23))))), (q_24, .inr (7, [.ref u_25, .ref u_26, .ref u_27, .ref u_28, .ref u_29, .ref u_30, .ref u_31, .ref u_32, .ref u_33, .int 0])), (u_25, .inl (G.2.2 0, 5, .inl (fun _ => 0))), (u_26, .inl (G.2.2 0, 5, .inl (fun _ => 0))), (u_27, .inl (G.2.2 0, 5, .inl (fun _ => 0))), (u_28, .inl (G.2.2 0, 5, .inl (fun _ => 0))), (u_29, .inl (G.2.2 0, 3, .inl (fun _ => 0))), (u_30, .inl (G.2.2 0, 3, .inl (fun _ => 0))), (u_31, .inl (G.2.2 0, 3, .inl (fun _ => 0))), (u_32, .inl (G.2.2 0, 3, .inl (fun _ => 0))), (u_33, .inl (G.2.2 0, 3, .inl (fun _ => 0)))] H := hP
  have hD : va_D A [(t, .inr (3, [.ref q_1, .int 0, .int 0])), (q_1, .inl (G.2.2 4, 20, .inr (.inr (.inr (.inr f_23))))), (q_24, .inr (7, [.ref u_25, .ref u_26, .ref u_27, .ref u_28, .ref u_29, .ref u_30, .ref u_31, .ref u_32, .ref u_33, .int 0])), (u_25, .inl (G.2.2 0, 5, .inl (fun _ => 0))), (u_26, .inl (G.2.2 0, 5, .inl (fun _ => 0))), (u_27, .inl (G.2.2 0, 5, .inl (fun _ => 0))), (u_28, .inl (G.2.2 0, 5, .inl (fun _ => 0))), (u_29, .inl (G.2.2 0, 3, .inl (fun _ => 0))), (u_30, .inl (G.2.2 0, 3, .inl (fun _ => 0))), (u_31, .inl (G.2.2 0, 3, .inl (fun _ => 0))), (u_32, .inl (G.2.2 0, 3, .inl (fun _ => 0))), (u_33, .inl (G.2.2 0, 3, .inl (fun _ => 0)))] := hD
  refine W.widen (k := 31) (n := 155) (Nat.le_of_ble_eq_true rfl) (Nat.le_of_ble_eq_true rfl) ?_
  obtain ⟨f_34, ef_34⟩ : ∃ z : Nat → Option Nat, va_up f_23 (Int32.toNatClampNeg 2) (some q_24) = z := ⟨_, rfl⟩
  refine gq_aast (ws' := [(t, .inr (3, [.ref q_1, .int 0, .int 0])), (q_1, .inl (G.2.2 4, 20, .inr (.inr (.inr (.inr f_34))))), (q_24, .inr (7, [.ref u_25, .ref u_26, .ref u_27, .ref u_28, .ref u_29, .ref u_30, .ref u_31, .ref u_32, .ref u_33, .int 0])), (u_25, .inl (G.2.2 0, 5, .inl (fun _ => 0))), (u_26, .inl (G.2.2 0, 5, .inl (fun _ => 0))), (u_27, .inl (G.2.2 0, 5, .inl (fun _ => 0))), (u_28, .inl (G.2.2 0, 5, .inl (fun _ => 0))), (u_29, .inl (G.2.2 0, 3, .inl (fun _ => 0))), (u_30, .inl (G.2.2 0, 3, .inl (fun _ => 0))), (u_31, .inl (G.2.2 0, 3, .inl (fun _ => 0))), (u_32, .inl (G.2.2 0, 3, .inl (fun _ => 0))), (u_33, .inl (G.2.2 0, 3, .inl (fun _ => 0)))]) hx hb hK hP hD hS 1 4 2 7 rfl rfl rfl rfl f_34 (by unfold vp_in; decide +kernel) ef_34 rfl dX3_init_43 (fun H locs hP hD hS => ?_)
  have hP := hP.sub (ws' := [(t, .inr (3, [.ref q_1, .int 0, .int 0])), (q_1, .inl (G.2.2 4, 20, .inr (.inr (.inr (.inr f_34)))))]) [0, 1] rfl
  have hD := hD.sub (ws' := [(t, .inr (3, [.ref q_1, .int 0, .int 0])), (q_1, .inl (G.2.2 4, 20, .inr (.inr (.inr (.inr f_34)))))]) [0, 1] (by decide) rfl
  refine lv_iinc (v := 3) (lv' := [(1, .int 3), (0, .ref t)]) hx hb dX3_init_44 hl (k := 0) rfl (by decide +kernel) (by decide) rfl (fun ls hl => ?_)
  refine lv_goto (tgt := 25) hx hb dX3_init_47 (by decide) ?_
  refine lv_iload_n hx hb dX3_init_25 rfl (lv_at hl 0 rfl) ?_
  refine lv_bipush (v := 20) hx hb dX3_init_26 (by decide +kernel) ?_
  refine lv_icmp_ge (tgt := 50) hx hb dX3_init_28 (by decide) (fun c0 => absurd c0 (by decide +kernel)) (fun _ => ?_)
  refine lv_aload_n hx hb dX3_init_31 rfl (lv_at hl 1 rfl) ?_
  refine gq_get hx hb ht hown hK hP i_X3 0 rfl rfl 0 (by decide) wd_299 rfl rfl dX3_init_32 ?_
  refine lv_iload_n hx hb dX3_init_35 rfl (lv_at hl 0 rfl) ?_
  refine gq_new (ci := 7) hx hb ht hown i_X7 tyX7 tyX7_ok wd_296 wd_226 wd_125 hK hP hD hS hA rfl [.null, .null, .null, .null, .null, .null, .null, .null, .null, .int 0] df_X7 32 165 (Nat.le_of_ble_eq_true rfl) (Nat.le_of_ble_eq_true rfl) (Nat.le_of_ble_eq_true rfl) (Nat.le_of_ble_eq_true rfl) dX3_init_36 (fun q_35 H hP hD hS => ?_)
  have hP : va_P (gg_D G) classes [(t, .inr (3, [.ref q_1, .int 0, .int 0])), (q_1, .inl (G.2.2 4, 20, .inr (.inr (.inr (.inr f_34))))), (q_35, .inr (7, [.null, .null, .null, .null, .null, .null, .null, .null, .null, .int 0]))] H := hP
  have hD : va_D A [(t, .inr (3, [.ref q_1, .int 0, .int 0])), (q_1, .inl (G.2.2 4, 20, .inr (.inr (.inr (.inr f_34))))), (q_35, .inr (7, [.null, .null, .null, .null, .null, .null, .null, .null, .null, .int 0]))] := hD
  refine lv_dup hx hb dX3_init_39 rfl ?_
  have hPc := hP.sub (ws' := [(q_35, .inr (7, [.null, .null, .null, .null, .null, .null, .null, .null, .null, .int 0]))]) [2] rfl
  have hDc := hD.sub (ws' := [(q_35, .inr (7, [.null, .null, .null, .null, .null, .null, .null, .null, .null, .int 0]))]) [2] (by decide) rfl
  refine gq_callV (wr := [(t, .inr (3, [.ref q_1, .int 0, .int 0])), (q_1, .inl (G.2.2 4, 20, .inr (.inr (.inr (.inr f_34)))))]) (va_runIN (As := []) (rest := [.ref q_35, .int 3, .ref q_1]) ⟨hx, hb, hml, hown, ht⟩ (c_State_init l G H.size q_35) ⟨va_cnB 0 ht (tb_good (ts_good wd_229)) rfl rfl rfl (hK.2.1 _ wn_298 rfl) (ht _ wd_125) (by decide +kernel) ⟨Nat.le_of_ble_eq_true rfl, Nat.le_of_ble_eq_true rfl⟩, rfl, ht _ wd_228⟩ (gc_preS hK hPc hDc) rfl rfl hl.1 rfl (lv_room (Nat.le_of_ble_eq_true rfl)) dX3_init_40 ⟨Nat.le_of_ble_eq_true rfl, Nat.le_of_ble_eq_true rfl⟩) hP hD hS hA [2] [0, 1] rfl rfl (by decide) (by decide) (fun u H locs hw hP hD hS => ?_)
  obtain ⟨u_36, u_37, u_38, u_39, u_40, u_41, u_42, u_43, u_44⟩ := u
  have hP : va_P (gg_D G) classes [(t, .inr (3, [.ref q_1, .int 0, .int 0])), (q_1, .inl (G.2.2 4, 20, .inr (.inr (.inr (.inr f_34))))), (q_35, .inr (7, [.ref u_36, .ref u_37, .ref u_38, .ref u_39, .ref u_40, .ref u_41, .ref u_42, .ref u_43, .ref u_44, .int 0])), (u_36, .inl (G.2.2 0, 5, .inl (fun _ => 0))), (u_37, .inl (G.2.2 0, 5, .inl (fun _ => 0))), (u_38, .inl (G.2.2 0, 5, .inl (fun _ => 0))), (u_39, .inl (G.2.2 0, 5, .inl (fun _ => 0))), (u_40, .inl (G.2.2 0, 3, .inl (fun _ => 0))), (u_41, .inl (G.2.2 0, 3, .inl (fun _ => 0))), (u_42, .inl (G.2.2 0, 3, .inl (fun _ => 0))), (u_43, .inl (G.2.2 0, 3, .inl (fun _ => 0))), (u_44, .inl (G.2.2 0, 3, .inl (fun _ => 0)))] H := hP
  have hD : va_D A [(t, .inr (3, [.ref q_1, .int 0, .int 0])), (q_1, .inl (G.2.2 4, 20, .inr (.inr (.inr (.inr f_34))))), (q_35, .inr (7, [.ref u_36, .ref u_37, .ref u_38, .ref u_39, .ref u_40, .ref u_41, .ref u_42, .ref u_43, .ref u_44, .int 0])), (u_36, .inl (G.2.2 0, 5, .inl (fun _ => 0))), (u_37, .inl (G.2.2 0, 5, .inl (fun _ => 0))), (u_38, .inl (G.2.2 0, 5, .inl (fun _ => 0))), (u_39, .inl (G.2.2 0, 5, .inl (fun _ => 0))), (u_40, .inl (G.2.2 0, 3, .inl (fun _ => 0))), (u_41, .inl (G.2.2 0, 3, .inl (fun _ => 0))), (u_42, .inl (G.2.2 0, 3, .inl (fun _ => 0))), (u_43, .inl (G.2.2 0, 3, .inl (fun _ => 0))), (u_44, .inl (G.2.2 0, 3, .inl (fun _ => 0)))] := hD
  refine W.widen (k := 41) (n := 200) (Nat.le_of_ble_eq_true rfl) (Nat.le_of_ble_eq_true rfl) ?_
  obtain ⟨f_45, ef_45⟩ : ∃ z : Nat → Option Nat, va_up f_34 (Int32.toNatClampNeg 3) (some q_35) = z := ⟨_, rfl⟩
  refine gq_aast (ws' := [(t, .inr (3, [.ref q_1, .int 0, .int 0])), (q_1, .inl (G.2.2 4, 20, .inr (.inr (.inr (.inr f_45))))), (q_35, .inr (7, [.ref u_36, .ref u_37, .ref u_38, .ref u_39, .ref u_40, .ref u_41, .ref u_42, .ref u_43, .ref u_44, .int 0])), (u_36, .inl (G.2.2 0, 5, .inl (fun _ => 0))), (u_37, .inl (G.2.2 0, 5, .inl (fun _ => 0))), (u_38, .inl (G.2.2 0, 5, .inl (fun _ => 0))), (u_39, .inl (G.2.2 0, 5, .inl (fun _ => 0))), (u_40, .inl (G.2.2 0, 3, .inl (fun _ => 0))), (u_41, .inl (G.2.2 0, 3, .inl (fun _ => 0))), (u_42, .inl (G.2.2 0, 3, .inl (fun _ => 0))), (u_43, .inl (G.2.2 0, 3, .inl (fun _ => 0))), (u_44, .inl (G.2.2 0, 3, .inl (fun _ => 0)))]) hx hb hK hP hD hS 1 4 2 7 rfl rfl rfl rfl f_45 (by unfold vp_in; decide +kernel) ef_45 rfl dX3_init_43 (fun H locs hP hD hS => ?_)
  have hP := hP.sub (ws' := [(t, .inr (3, [.ref q_1, .int 0, .int 0])), (q_1, .inl (G.2.2 4, 20, .inr (.inr (.inr (.inr f_45)))))]) [0, 1] rfl
  have hD := hD.sub (ws' := [(t, .inr (3, [.ref q_1, .int 0, .int 0])), (q_1, .inl (G.2.2 4, 20, .inr (.inr (.inr (.inr f_45)))))]) [0, 1] (by decide) rfl
  refine lv_iinc (v := 4) (lv' := [(1, .int 4), (0, .ref t)]) hx hb dX3_init_44 hl (k := 0) rfl (by decide +kernel) (by decide) rfl (fun ls hl => ?_)
  refine lv_goto (tgt := 25) hx hb dX3_init_47 (by decide) ?_
  refine lv_iload_n hx hb dX3_init_25 rfl (lv_at hl 0 rfl) ?_
  refine lv_bipush (v := 20) hx hb dX3_init_26 (by decide +kernel) ?_
  refine lv_icmp_ge (tgt := 50) hx hb dX3_init_28 (by decide) (fun c0 => absurd c0 (by decide +kernel)) (fun _ => ?_)
  refine lv_aload_n hx hb dX3_init_31 rfl (lv_at hl 1 rfl) ?_
  refine gq_get hx hb ht hown hK hP i_X3 0 rfl rfl 0 (by decide) wd_299 rfl rfl dX3_init_32 ?_
  refine lv_iload_n hx hb dX3_init_35 rfl (lv_at hl 0 rfl) ?_
  refine gq_new (ci := 7) hx hb ht hown i_X7 tyX7 tyX7_ok wd_296 wd_226 wd_125 hK hP hD hS hA rfl [.null, .null, .null, .null, .null, .null, .null, .null, .null, .int 0] df_X7 42 210 (Nat.le_of_ble_eq_true rfl) (Nat.le_of_ble_eq_true rfl) (Nat.le_of_ble_eq_true rfl) (Nat.le_of_ble_eq_true rfl) dX3_init_36 (fun q_46 H hP hD hS => ?_)
  have hP : va_P (gg_D G) classes [(t, .inr (3, [.ref q_1, .int 0, .int 0])), (q_1, .inl (G.2.2 4, 20, .inr (.inr (.inr (.inr f_45))))), (q_46, .inr (7, [.null, .null, .null, .null, .null, .null, .null, .null, .null, .int 0]))] H := hP
  have hD : va_D A [(t, .inr (3, [.ref q_1, .int 0, .int 0])), (q_1, .inl (G.2.2 4, 20, .inr (.inr (.inr (.inr f_45))))), (q_46, .inr (7, [.null, .null, .null, .null, .null, .null, .null, .null, .null, .int 0]))] := hD
  refine lv_dup hx hb dX3_init_39 rfl ?_
  have hPc := hP.sub (ws' := [(q_46, .inr (7, [.null, .null, .null, .null, .null, .null, .null, .null, .null, .int 0]))]) [2] rfl
  have hDc := hD.sub (ws' := [(q_46, .inr (7, [.null, .null, .null, .null, .null, .null, .null, .null, .null, .int 0]))]) [2] (by decide) rfl
  refine gq_callV (wr := [(t, .inr (3, [.ref q_1, .int 0, .int 0])), (q_1, .inl (G.2.2 4, 20, .inr (.inr (.inr (.inr f_45)))))]) (va_runIN (As := []) (rest := [.ref q_46, .int 4, .ref q_1]) ⟨hx, hb, hml, hown, ht⟩ (c_State_init l G H.size q_46) ⟨va_cnB 0 ht (tb_good (ts_good wd_229)) rfl rfl rfl (hK.2.1 _ wn_298 rfl) (ht _ wd_125) (by decide +kernel) ⟨Nat.le_of_ble_eq_true rfl, Nat.le_of_ble_eq_true rfl⟩, rfl, ht _ wd_228⟩ (gc_preS hK hPc hDc) rfl rfl hl.1 rfl (lv_room (Nat.le_of_ble_eq_true rfl)) dX3_init_40 ⟨Nat.le_of_ble_eq_true rfl, Nat.le_of_ble_eq_true rfl⟩) hP hD hS hA [2] [0, 1] rfl rfl (by decide) (by decide) (fun u H locs hw hP hD hS => ?_)
  obtain ⟨u_47, u_48, u_49, u_50, u_51, u_52, u_53, u_54, u_55⟩ := u
  have hP : va_P (gg_D G) classes [(t, .inr (3, [.ref q_1, .int 0, .int 0])), (q_1, .inl (G.2.2 4, 20, .inr (.inr (.inr (.inr f_45))))), (q_46, .inr (7, [.ref u_47, .ref u_48, .ref u_49, .ref u_50, .ref u_51, .ref u_52, .ref u_53, .ref u_54, .ref u_55, .int 0])), (u_47, .inl (G.2.2 0, 5, .inl (fun _ => 0))), (u_48, .inl (G.2.2 0, 5, .inl (fun _ => 0))), (u_49, .inl (G.2.2 0, 5, .inl (fun _ => 0))), (u_50, .inl (G.2.2 0, 5, .inl (fun _ => 0))), (u_51, .inl (G.2.2 0, 3, .inl (fun _ => 0))), (u_52, .inl (G.2.2 0, 3, .inl (fun _ => 0))), (u_53, .inl (G.2.2 0, 3, .inl (fun _ => 0))), (u_54, .inl (G.2.2 0, 3, .inl (fun _ => 0))), (u_55, .inl (G.2.2 0, 3, .inl (fun _ => 0)))] H := hP
  have hD : va_D A [(t, .inr (3, [.ref q_1, .int 0, .int 0])), (q_1, .inl (G.2.2 4, 20, .inr (.inr (.inr (.inr f_45))))), (q_46, .inr (7, [.ref u_47, .ref u_48, .ref u_49, .ref u_50, .ref u_51, .ref u_52, .ref u_53, .ref u_54, .ref u_55, .int 0])), (u_47, .inl (G.2.2 0, 5, .inl (fun _ => 0))), (u_48, .inl (G.2.2 0, 5, .inl (fun _ => 0))), (u_49, .inl (G.2.2 0, 5, .inl (fun _ => 0))), (u_50, .inl (G.2.2 0, 5, .inl (fun _ => 0))), (u_51, .inl (G.2.2 0, 3, .inl (fun _ => 0))), (u_52, .inl (G.2.2 0, 3, .inl (fun _ => 0))), (u_53, .inl (G.2.2 0, 3, .inl (fun _ => 0))), (u_54, .inl (G.2.2 0, 3, .inl (fun _ => 0))), (u_55, .inl (G.2.2 0, 3, .inl (fun _ => 0)))] := hD
  refine W.widen (k := 51) (n := 245) (Nat.le_of_ble_eq_true rfl) (Nat.le_of_ble_eq_true rfl) ?_
  obtain ⟨f_56, ef_56⟩ : ∃ z : Nat → Option Nat, va_up f_45 (Int32.toNatClampNeg 4) (some q_46) = z := ⟨_, rfl⟩
  refine gq_aast (ws' := [(t, .inr (3, [.ref q_1, .int 0, .int 0])), (q_1, .inl (G.2.2 4, 20, .inr (.inr (.inr (.inr f_56))))), (q_46, .inr (7, [.ref u_47, .ref u_48, .ref u_49, .ref u_50, .ref u_51, .ref u_52, .ref u_53, .ref u_54, .ref u_55, .int 0])), (u_47, .inl (G.2.2 0, 5, .inl (fun _ => 0))), (u_48, .inl (G.2.2 0, 5, .inl (fun _ => 0))), (u_49, .inl (G.2.2 0, 5, .inl (fun _ => 0))), (u_50, .inl (G.2.2 0, 5, .inl (fun _ => 0))), (u_51, .inl (G.2.2 0, 3, .inl (fun _ => 0))), (u_52, .inl (G.2.2 0, 3, .inl (fun _ => 0))), (u_53, .inl (G.2.2 0, 3, .inl (fun _ => 0))), (u_54, .inl (G.2.2 0, 3, .inl (fun _ => 0))), (u_55, .inl (G.2.2 0, 3, .inl (fun _ => 0)))]) hx hb hK hP hD hS 1 4 2 7 rfl rfl rfl rfl f_56 (by unfold vp_in; decide +kernel) ef_56 rfl dX3_init_43 (fun H locs hP hD hS => ?_)
  have hP := hP.sub (ws' := [(t, .inr (3, [.ref q_1, .int 0, .int 0])), (q_1, .inl (G.2.2 4, 20, .inr (.inr (.inr (.inr f_56)))))]) [0, 1] rfl
  have hD := hD.sub (ws' := [(t, .inr (3, [.ref q_1, .int 0, .int 0])), (q_1, .inl (G.2.2 4, 20, .inr (.inr (.inr (.inr f_56)))))]) [0, 1] (by decide) rfl
  refine lv_iinc (v := 5) (lv' := [(1, .int 5), (0, .ref t)]) hx hb dX3_init_44 hl (k := 0) rfl (by decide +kernel) (by decide) rfl (fun ls hl => ?_)
  refine lv_goto (tgt := 25) hx hb dX3_init_47 (by decide) ?_
  refine lv_iload_n hx hb dX3_init_25 rfl (lv_at hl 0 rfl) ?_
  refine lv_bipush (v := 20) hx hb dX3_init_26 (by decide +kernel) ?_
  refine lv_icmp_ge (tgt := 50) hx hb dX3_init_28 (by decide) (fun c0 => absurd c0 (by decide +kernel)) (fun _ => ?_)
  refine lv_aload_n hx hb dX3_init_31 rfl (lv_at hl 1 rfl) ?_
  refine gq_get hx hb ht hown hK hP i_X3 0 rfl rfl 0 (by decide) wd_299 rfl rfl dX3_init_32 ?_
  refine lv_iload_n hx hb dX3_init_35 rfl (lv_at hl 0 rfl) ?_
  refine gq_new (ci := 7) hx hb ht hown i_X7 tyX7 tyX7_ok wd_296 wd_226 wd_125 hK hP hD hS hA rfl [.null, .null, .null, .null, .null, .null, .null, .null, .null, .int 0] df_X7 52 255 (Nat.le_of_ble_eq_true rfl) (Nat.le_of_ble_eq_true rfl) (Nat.le_of_ble_eq_true rfl) (Nat.le_of_ble_eq_true rfl) dX3_init_36 (fun q_57 H hP hD hS => ?_)
  have hP : va_P (gg_D G) classes [(t, .inr (3, [.ref q_1, .int 0, .int 0])), (q_1, .inl (G.2.2 4, 20, .inr (.inr (.inr (.inr f_56))))), (q_57, .inr (7, [.null, .null, .null, .null, .null, .null, .null, .null, .null, .int 0]))] H := hP
  have hD : va_D A [(t, .inr (3, [.ref q_1, .int 0, .int 0])), (q_1, .inl (G.2.2 4, 20, .inr (.inr (.inr (.inr f_56))))), (q_57, .inr (7, [.null, .null, .null, .null, .null, .null, .null, .null, .null, .int 0]))] := hD
  refine lv_dup hx hb dX3_init_39 rfl ?_
  have hPc := hP.sub (ws' := [(q_57, .inr (7, [.null, .null, .null, .null, .null, .null, .null, .null, .null, .int 0]))]) [2] rfl
  have hDc := hD.sub (ws' := [(q_57, .inr (7, [.null, .null, .null, .null, .null, .null, .null, .null, .null, .int 0]))]) [2] (by decide) rfl
  refine gq_callV (wr := [(t, .inr (3, [.ref q_1, .int 0, .int 0])), (q_1, .inl (G.2.2 4, 20, .inr (.inr (.inr (.inr f_56)))))]) (va_runIN (As := []) (rest := [.ref q_57, .int 5, .ref q_1]) ⟨hx, hb, hml, hown, ht⟩ (c_State_init l G H.size q_57) ⟨va_cnB 0 ht (tb_good (ts_good wd_229)) rfl rfl rfl (hK.2.1 _ wn_298 rfl) (ht _ wd_125) (by decide +kernel) ⟨Nat.le_of_ble_eq_true rfl, Nat.le_of_ble_eq_true rfl⟩, rfl, ht _ wd_228⟩ (gc_preS hK hPc hDc) rfl rfl hl.1 rfl (lv_room (Nat.le_of_ble_eq_true rfl)) dX3_init_40 ⟨Nat.le_of_ble_eq_true rfl, Nat.le_of_ble_eq_true rfl⟩) hP hD hS hA [2] [0, 1] rfl rfl (by decide) (by decide) (fun u H locs hw hP hD hS => ?_)
  obtain ⟨u_58, u_59, u_60, u_61, u_62, u_63, u_64, u_65, u_66⟩ := u
  have hP : va_P (gg_D G) classes [(t, .inr (3, [.ref q_1, .int 0, .int 0])), (q_1, .inl (G.2.2 4, 20, .inr (.inr (.inr (.inr f_56))))), (q_57, .inr (7, [.ref u_58, .ref u_59, .ref u_60, .ref u_61, .ref u_62, .ref u_63, .ref u_64, .ref u_65, .ref u_66, .int 0])), (u_58, .inl (G.2.2 0, 5, .inl (fun _ => 0))), (u_59, .inl (G.2.2 0, 5, .inl (fun _ => 0))), (u_60, .inl (G.2.2 0, 5, .inl (fun _ => 0))), (u_61, .inl (G.2.2 0, 5, .inl (fun _ => 0))), (u_62, .inl (G.2.2 0, 3, .inl (fun _ => 0))), (u_63, .inl (G.2.2 0, 3, .inl (fun _ => 0))), (u_64, .inl (G.2.2 0, 3, .inl (fun _ => 0))), (u_65, .inl (G.2.2 0, 3, .inl (fun _ => 0))), (u_66, .inl (G.2.2 0, 3, .inl (fun _ => 0)))] H := hP
  have hD : va_D A [(t, .inr (3, [.ref q_1, .int 0, .int 0])), (q_1, .inl (G.2.2 4, 20, .inr (.inr (.inr (.inr f_56))))), (q_57, .inr (7, [.ref u_58, .ref u_59, .ref u_60, .ref u_61, .ref u_62, .ref u_63, .ref u_64, .ref u_65, .ref u_66, .int 0])), (u_58, .inl (G.2.2 0, 5, .inl (fun _ => 0))), (u_59, .inl (G.2.2 0, 5, .inl (fun _ => 0))), (u_60, .inl (G.2.2 0, 5, .inl (fun _ => 0))), (u_61, .inl (G.2.2 0, 5, .inl (fun _ => 0))), (u_62, .inl (G.2.2 0, 3, .inl (fun _ => 0))), (u_63, .inl (G.2.2 0, 3, .inl (fun _ => 0))), (u_64, .inl (G.2.2 0, 3, .inl (fun _ => 0))), (u_65, .inl (G.2.2 0, 3, .inl (fun _ => 0))), (u_66, .inl (G.2.2 0, 3, .inl (fun _ => 0)))] := hD
  refine W.widen (k := 61) (n := 290) (Nat.le_of_ble_eq_true rfl) (Nat.le_of_ble_eq_true rfl) ?_
  obtain ⟨f_67, ef_67⟩ : ∃ z : Nat → Option Nat, va_up f_56 (Int32.toNatClampNeg 5) (some q_57) = z := ⟨_, rfl⟩
  refine gq_aast (ws' := [(t, .inr (3, [.ref q_1, .int 0, .int 0])), (q_1, .inl (G.2.2 4, 20, .inr (.inr (.inr (.inr f_67))))), (q_57, .inr (7, [.ref u_58, .ref u_59, .ref u_60, .ref u_61, .ref u_62, .ref u_63, .ref u_64, .ref u_65, .ref u_66, .int 0])), (u_58, .inl (G.2.2 0, 5, .inl (fun _ => 0))), (u_59, .inl (G.2.2 0, 5, .inl (fun _ => 0))), (u_60, .inl (G.2.2 0, 5, .inl (fun _ => 0))), (u_61, .inl (G.2.2 0, 5, .inl (fun _ => 0))), (u_62, .inl (G.2.2 0, 3, .inl (fun _ => 0))), (u_63, .inl (G.2.2 0, 3, .inl (fun _ => 0))), (u_64, .inl (G.2.2 0, 3, .inl (fun _ => 0))), (u_65, .inl (G.2.2 0, 3, .inl (fun _ => 0))), (u_66, .inl (G.2.2 0, 3, .inl (fun _ => 0)))]) hx hb hK hP hD hS 1 4 2 7 rfl rfl rfl rfl f_67 (by unfold vp_in; decide +kernel) ef_67 rfl dX3_init_43 (fun H locs hP hD hS => ?_)
  have hP := hP.sub (ws' := [(t, .inr (3, [.ref q_1, .int 0, .int 0])), (q_1, .inl (G.2.2 4, 20, .inr (.inr (.inr (.inr f_67)))))]) [0, 1] rfl
  have hD := hD.sub (ws' := [(t, .inr (3, [.ref q_1, .int 0, .int 0])), (q_1, .inl (G.2.2 4, 20, .inr (.inr (.inr (.inr f_67)))))]) [0, 1] (by decide) rfl
  refine lv_iinc (v := 6) (lv' := [(1, .int 6), (0, .ref t)]) hx hb dX3_init_44 hl (k := 0) rfl (by decide +kernel) (by decide) rfl (fun ls hl => ?_)
  refine lv_goto (tgt := 25) hx hb dX3_init_47 (by decide) ?_
  refine lv_iload_n hx hb dX3_init_25 rfl (lv_at hl 0 rfl) ?_
  refine lv_bipush (v := 20) hx hb dX3_init_26 (by decide +kernel) ?_
  refine lv_icmp_ge (tgt := 50) hx hb dX3_init_28 (by decide) (fun c0 => absurd c0 (by decide +kernel)) (fun _ => ?_)
  refine lv_aload_n hx hb dX3_init_31 rfl (lv_at hl 1 rfl) ?_
  refine gq_get hx hb ht hown hK hP i_X3 0 rfl rfl 0 (by decide) wd_299 rfl rfl dX3_init_32 ?_
  refine lv_iload_n hx hb dX3_init_35 rfl (lv_at hl 0 rfl) ?_
  refine gq_new (ci := 7) hx hb ht hown i_X7 tyX7 tyX7_ok wd_296 wd_226 wd_125 hK hP hD hS hA rfl [.null, .null, .null, .null, .null, .null, .null, .null, .null, .int 0] df_X7 62 300 (Nat.le_of_ble_eq_true rfl) (Nat.le_of_ble_eq_true rfl) (Nat.le_of_ble_eq_true rfl) (Nat.le_of_ble_eq_true rfl) dX3_init_36 (fun q_68 H hP hD hS => ?_)
  have hP : va_P (gg_D G) classes [(t, .inr (3, [.ref q_1, .int 0, .int 0])), (q_1, .inl (G.2.2 4, 20, .inr (.inr (.inr (.inr f_67))))), (q_68, .inr (7, [.null, .null, .null, .null, .null, .null, .null, .null, .null, .int 0]))] H := hP
  have hD : va_D A [(t, .inr (3, [.ref q_1, .int 0, .int 0])), (q_1, .inl (G.2.2 4, 20, .inr (.inr (.inr (.inr f_67))))), (q_68, .inr (7, [.null, .null, .null, .null, .null, .null, .null, .null, .null, .int 0]))] := hD
  refine lv_dup hx hb dX3_init_39 rfl ?_
  have hPc := hP.sub (ws' := [(q_68, .inr (7, [.null, .null, .null, .null, .null, .null, .null, .null, .null, .int 0]))]) [2] rfl
  have hDc := hD.sub (ws' := [(q_68, .inr (7, [.null, .null, .null, .null, .null, .null, .null, .null, .null, .int 0]))]) [2] (by decide) rfl
  refine gq_callV (wr := [(t, .inr (3, [.ref q_1, .int 0, .int 0])), (q_1, .inl (G.2.2 4, 20, .inr (.inr (.inr (.inr f_67)))))]) (va_runIN (As := []) (rest := [.ref q_68, .int 6, .ref q_1]) ⟨hx, hb, hml, hown, ht⟩ (c_State_init l G H.size q_68) ⟨va_cnB 0 ht (tb_good (ts_good wd_229)) rfl rfl rfl (hK.2.1 _ wn_298 rfl) (ht _ wd_125) (by decide +kernel) ⟨Nat.le_of_ble_eq_true rfl, Nat.le_of_ble_eq_true rfl⟩, rfl, ht _ wd_228⟩ (gc_preS hK hPc hDc) rfl rfl hl.1 rfl (lv_room (Nat.le_of_ble_eq_true rfl)) dX3_init_40 ⟨Nat.le_of_ble_eq_true rfl, Nat.le_of_ble_eq_true rfl⟩) hP hD hS hA [2] [0, 1] rfl rfl (by decide) (by decide) (fun u H locs hw hP hD hS => ?_)
  obtain ⟨u_69, u_70, u_71, u_72, u_73, u_74, u_75, u_76, u_77⟩ := u
  have hP : va_P (gg_D G) classes [(t, .inr (3, [.ref q_1, .int 0, .int 0])), (q_1, .inl (G.2.2 4, 20, .inr (.inr (.inr (.inr f_67))))), (q_68, .inr (7, [.ref u_69, .ref u_70, .ref u_71, .ref u_72, .ref u_73, .ref u_74, .ref u_75, .ref u_76, .ref u_77, .int 0])), (u_69, .inl (G.2.2 0, 5, .inl (fun _ => 0))), (u_70, .inl (G.2.2 0, 5, .inl (fun _ => 0))), (u_71, .inl (G.2.2 0, 5, .inl (fun _ => 0))), (u_72, .inl (G.2.2 0, 5, .inl (fun _ => 0))), (u_73, .inl (G.2.2 0, 3, .inl (fun _ => 0))), (u_74, .inl (G.2.2 0, 3, .inl (fun _ => 0))), (u_75, .inl (G.2.2 0, 3, .inl (fun _ => 0))), (u_76, .inl (G.2.2 0, 3, .inl (fun _ => 0))), (u_77, .inl (G.2.2 0, 3, .inl (fun _ => 0)))] H := hP
  have hD : va_D A [(t, .inr (3, [.ref q_1, .int 0, .int 0])), (q_1, .inl (G.2.2 4, 20, .inr (.inr (.inr (.inr f_67))))), (q_68, .inr (7, [.ref u_69, .ref u_70, .ref u_71, .ref u_72, .ref u_73, .ref u_74, .ref u_75, .ref u_76, .ref u_77, .int 0])), (u_69, .inl (G.2.2 0, 5, .inl (fun _ => 0))), (u_70, .inl (G.2.2 0, 5, .inl (fun _ => 0))), (u_71, .inl (G.2.2 0, 5, .inl (fun _ => 0))), (u_72, .inl (G.2.2 0, 5, .inl (fun _ => 0))), (u_73, .inl (G.2.2 0, 3, .inl (fun _ => 0))), (u_74, .inl (G.2.2 0, 3, .inl (fun _ => 0))), (u_75, .inl (G.2.2 0, 3, .inl (fun _ => 0))), (u_76, .inl (G.2.2 0, 3, .inl (fun _ => 0))), (u_77, .inl (G.2.2 0, 3, .inl (fun _ => 0)))] := hD
  refine W.widen (k := 71) (n := 335) (Nat.le_of_ble_eq_true rfl) (Nat.le_of_ble_eq_true rfl) ?_
  obtain ⟨f_78, ef_78⟩ : ∃ z : Nat → Option Nat, va_up f_67 (Int32.toNatClampNeg 6) (some q_68) = z := ⟨_, rfl⟩
  refine gq_aast (ws' := [(t, .inr (3, [.ref q_1, .int 0, .int 0])), (q_1, .inl (G.2.2 4, 20, .inr (.inr (.inr (.inr f_78))))), (q_68, .inr (7, [.ref u_69, .ref u_70, .ref u_71, .ref u_72, .ref u_73, .ref u_74, .ref u_75, .ref u_76, .ref u_77, .int 0])), (u_69, .inl (G.2.2 0, 5, .inl (fun _ => 0))), (u_70, .inl (G.2.2 0, 5, .inl (fun _ => 0))), (u_71, .inl (G.2.2 0, 5, .inl (fun _ => 0))), (u_72, .inl (G.2.2 0, 5, .inl (fun _ => 0))), (u_73, .inl (G.2.2 0, 3, .inl (fun _ => 0))), (u_74, .inl (G.2.2 0, 3, .inl (fun _ => 0))), (u_75, .inl (G.2.2 0, 3, .inl (fun _ => 0))), (u_76, .inl (G.2.2 0, 3, .inl (fun _ => 0))), (u_77, .inl (G.2.2 0, 3, .inl (fun _ => 0)))]) hx hb hK hP hD hS 1 4 2 7 rfl rfl rfl rfl f_78 (by unfold vp_in; decide +kernel) ef_78 rfl dX3_init_43 (fun H locs hP hD hS => ?_)
  have hP := hP.sub (ws' := [(t, .inr (3, [.ref q_1, .int 0, .int 0])), (q_1, .inl (G.2.2 4, 20, .inr (.inr (.inr (.inr f_78)))))]) [0, 1] rfl
  have hD := hD.sub (ws' := [(t, .inr (3, [.ref q_1, .int 0, .int 0])), (q_1, .inl (G.2.2 4, 20, .inr (.inr (.inr (.inr f_78)))))]) [0, 1] (by decide) rfl
  refine lv_iinc (v := 7) (lv' := [(1, .int 7), (0, .ref t)]) hx hb dX3_init_44 hl (k := 0) rfl (by decide +kernel) (by decide) rfl (fun ls hl => ?_)
  refine lv_goto (tgt := 25) hx hb dX3_init_47 (by decide) ?_
  refine lv_iload_n hx hb dX3_init_25 rfl (lv_at hl 0 rfl) ?_
  refine lv_bipush (v := 20) hx hb dX3_init_26 (by decide +kernel) ?_
  refine lv_icmp_ge (tgt := 50) hx hb dX3_init_28 (by decide) (fun c0 => absurd c0 (by decide +kernel)) (fun _ => ?_)
  refine lv_aload_n hx hb dX3_init_31 rfl (lv_at hl 1 rfl) ?_
  refine gq_get hx hb ht hown hK hP i_X3 0 rfl rfl 0 (by decide) wd_299 rfl rfl dX3_init_32 ?_
  refine lv_iload_n hx hb dX3_init_35 rfl (lv_at hl 0 rfl) ?_
  refine gq_new (ci := 7) hx hb ht hown i_X7 tyX7 tyX7_ok wd_296 wd_226 wd_125 hK hP hD hS hA rfl [.null, .null, .null, .null, .null, .null, .null, .null, .null, .int 0] df_X7 72 345 (Nat.le_of_ble_eq_true rfl) (Nat.le_of_ble_eq_true rfl) (Nat.le_of_ble_eq_true rfl) (Nat.le_of_ble_eq_true rfl) dX3_init_36 (fun q_79 H hP hD hS => ?_)
  have hP : va_P (gg_D G) classes [(t, .inr (3, [.ref q_1, .int 0, .int 0])), (q_1, .inl (G.2.2 4, 20, .inr (.inr (.inr (.inr f_78))))), (q_79, .inr (7, [.null, .null, .null, .null, .null, .null, .null, .null, .null, .int 0]))] H := hP
  have hD : va_D A [(t, .inr (3, [.ref q_1, .int 0, .int 0])), (q_1, .inl (G.2.2 4, 20, .inr (.inr (.inr (.inr f_78))))), (q_79, .inr (7, [.null, .null, .null, .null, .null, .null, .null, .null, .null, .int 0]))] := hD
  refine lv_dup hx hb dX3_init_39 rfl ?_
  have hPc := hP.sub (ws' := [(q_79, .inr (7, [.null, .null, .null, .null, .null, .null, .null, .null, .null, .int 0]))]) [2] rfl
  have hDc := hD.sub (ws' := [(q_79, .inr (7, [.null, .null, .null, .null, .null, .null, .null, .null, .null, .int 0]))]) [2] (by decide) rfl
  refine gq_callV (wr := [(t, .inr (3, [.ref q_1, .int 0, .int 0])), (q_1, .inl (G.2.2 4, 20, .inr (.inr (.inr (.inr f_78)))))]) (va_runIN (As := []) (rest := [.ref q_79, .int 7, .ref q_1]) ⟨hx, hb, hml, hown, ht⟩ (c_State_init l G H.size q_79) ⟨va_cnB 0 ht (tb_good (ts_good wd_229)) rfl rfl rfl (hK.2.1 _ wn_298 rfl) (ht _ wd_125) (by decide +kernel) ⟨Nat.le_of_ble_eq_true rfl, Nat.le_of_ble_eq_true rfl⟩, rfl, ht _ wd_228⟩ (gc_preS hK hPc hDc) rfl rfl hl.1 rfl (lv_room (Nat.le_of_ble_eq_true rfl)) dX3_init_40 ⟨Nat.le_of_ble_eq_true rfl, Nat.le_of_ble_eq_true rfl⟩) hP hD hS hA [2] [0, 1] rfl rfl (by decide) (by decide) (fun u H locs hw hP hD hS => ?_)
  obtain ⟨u_80, u_81, u_82, u_83, u_84, u_85, u_86, u_87, u_88⟩ := u
  have hP : va_P (gg_D G) classes [(t, .inr (3, [.ref q_1, .int 0, .int 0])), (q_1, .inl (G.2.2 4, 20, .inr (.inr (.inr (.inr f_78))))), (q_79, .inr (7, [.ref u_80, .ref u_81, .ref u_82, .ref u_83, .ref u_84, .ref u_85, .ref u_86, .ref u_87, .ref u_88, .int 0])), (u_80, .inl (G.2.2 0, 5, .inl (fun _ => 0))), (u_81, .inl (G.2.2 0, 5, .inl (fun _ => 0))), (u_82, .inl (G.2.2 0, 5, .inl (fun _ => 0))), (u_83, .inl (G.2.2 0, 5, .inl (fun _ => 0))), (u_84, .inl (G.2.2 0, 3, .inl (fun _ => 0))), (u_85, .inl (G.2.2 0, 3, .inl (fun _ => 0))), (u_86, .inl (G.2.2 0, 3, .inl (fun _ => 0))), (u_87, .inl (G.2.2 0, 3, .inl (fun _ => 0))), (u_88, .inl (G.2.2 0, 3, .inl (fun _ => 0)))] H := hP
  have hD : va_D A [(t, .inr (3, [.ref q_1, .int 0, .int 0])), (q_1, .inl (G.2.2 4, 20, .inr (.inr (.inr (.inr f_78))))), (q_79, .inr (7, [.ref u_80, .ref u_81, .ref u_82, .ref u_83, .ref u_84, .ref u_85, .ref u_86, .ref u_87, .ref u_88, .int 0])), (u_80, .inl (G.2.2 0, 5, .inl (fun _ => 0))), (u_81, .inl (G.2.2 0, 5, .inl (fun _ => 0))), (u_82, .inl (G.2.2 0, 5, .inl (fun _ => 0))), (u_83, .inl (G.2.2 0, 5, .inl (fun _ => 0))), (u_84, .inl (G.2.2 0, 3, .inl (fun _ => 0))), (u_85, .inl (G.2.2 0, 3, .inl (fun _ => 0))), (u_86, .inl (G.2.2 0, 3, .inl (fun _ => 0))), (u_87, .inl (G.2.2 0, 3, .inl (fun _ => 0))), (u_88, .inl (G.2.2 0, 3, .inl (fun _ => 0)))] := hD
  refine W.widen (k := 81) (n := 380) (Nat.le_of_ble_eq_true rfl) (Nat.le_of_ble_eq_true rfl) ?_
  obtain ⟨f_89, ef_89⟩ : ∃ z : Nat → Option Nat, va_up f_78 (Int32.toNatClampNeg 7) (some q_79) = z := ⟨_, rfl⟩
  refine gq_aast (ws' := [(t, .inr (3, [.ref q_1, .int 0, .int 0])), (q_1, .inl (G.2.2 4, 20, .inr (.inr (.inr (.inr f_89))))), (q_79, .inr (7, [.ref u_80, .ref u_81, .ref u_82, .ref u_83, .ref u_84, .ref u_85, .ref u_86, .ref u_87, .ref u_88, .int 0])), (u_80, .inl (G.2.2 0, 5, .inl (fun _ => 0))), (u_81, .inl (G.2.2 0, 5, .inl (fun _ => 0))), (u_82, .inl (G.2.2 0, 5, .inl (fun _ => 0))), (u_83, .inl (G.2.2 0, 5, .inl (fun _ => 0))), (u_84, .inl (G.2.2 0, 3, .inl (fun _ => 0))), (u_85, .inl (G.2.2 0, 3, .inl (fun _ => 0))), (u_86, .inl (G.2.2 0, 3, .inl (fun _ => 0))), (u_87, .inl (G.2.2 0, 3, .inl (fun _ => 0))), (u_88, .inl (G.2.2 0, 3, .inl (fun _ => 0)))]) hx hb hK hP hD hS 1 4 2 7 rfl rfl rfl rfl f_89 (by unfold vp_in; decide +kernel) ef_89 rfl dX3_init_43 (fun H locs hP hD hS => ?_)
  have hP := hP.sub (ws' := [(t, .inr (3, [.ref q_1, .int 0, .int 0])), (q_1, .inl (G.2.2 4, 20, .inr (.inr (.inr (.inr f_89)))))]) [0, 1] rfl
  have hD := hD.sub (ws' := [(t, .inr (3, [.ref q_1, .int 0, .int 0])), (q_1, .inl (G.2.2 4, 20, .inr (.inr (.inr (.inr f_89)))))]) [0, 1] (by decide) rfl
  refine lv_iinc (v := 8) (lv' := [(1, .int 8), (0, .ref t)]) hx hb dX3_init_44 hl (k := 0) rfl (by decide +kernel) (by decide) rfl (fun ls hl => ?_)
  refine lv_goto (tgt := 25) hx hb dX3_init_47 (by decide) ?_
  refine lv_iload_n hx hb dX3_init_25 rfl (lv_at hl 0 rfl) ?_
  refine lv_bipush (v := 20) hx hb dX3_init_26 (by decide +kernel) ?_
  refine lv_icmp_ge (tgt := 50) hx hb dX3_init_28 (by decide) (fun c0 => absurd c0 (by decide +kernel)) (fun _ => ?_)
  refine lv_aload_n hx hb dX3_init_31 rfl (lv_at hl 1 rfl) ?_
  refine gq_get hx hb ht hown hK hP i_X3 0 rfl rfl 0 (by decide) wd_299 rfl rfl dX3_init_32 ?_
  refine lv_iload_n hx hb dX3_init_35 rfl (lv_at hl 0 rfl) ?_
  refine gq_new (ci := 7) hx hb ht hown i_X7 tyX7 tyX7_ok wd_296 wd_226 wd_125 hK hP hD hS hA rfl [.null, .null, .null, .null, .null, .null, .null, .null, .null, .int 0] df_X7 82 390 (Nat.le_of_ble_eq_true rfl) (Nat.le_of_ble_eq_true rfl) (Nat.le_of_ble_eq_true rfl) (Nat.le_of_ble_eq_true rfl) dX3_init_36 (fun q_90 H hP hD hS => ?_)
  have hP : va_P (gg_D G) classes [(t, .inr (3, [.ref q_1, .int 0, .int 0])), (q_1, .inl (G.2.2 4, 20, .inr (.inr (.inr (.inr f_89))))), (q_90, .inr (7, [.null, .null, .null, .null, .null, .null, .null, .null, .null, .int 0]))] H := hP
  have hD : va_D A [(t, .inr (3, [.ref q_1, .int 0, .int 0])), (q_1, .inl (G.2.2 4, 20, .inr (.inr (.inr (.inr f_89))))), (q_90, .inr (7, [.null, .null, .null, .null, .null, .null, .null, .null, .null, .int 0]))] := hD
  refine lv_dup hx hb dX3_init_39 rfl ?_
  have hPc := hP.sub (ws' := [(q_90, .inr (7, [.null, .null, .null, .null, .null, .null, .null, .null, .null, .int 0]))]) [2] rfl
  have hDc := hD.sub (ws' := [(q_90, .inr (7, [.null, .null, .null, .null, .null, .null, .null, .null, .null, .int 0]))]) [2] (by decide) rfl
  refine gq_callV (wr := [(t, .inr (3, [.ref q_1, .int 0, .int 0])), (q_1, .inl (G.2.2 4, 20, .inr (.inr (.inr (.inr f_89)))))]) (va_runIN (As := []) (rest := [.ref q_90, .int 8, .ref q_1]) ⟨hx, hb, hml, hown, ht⟩ (c_State_init l G H.size q_90) ⟨va_cnB 0 ht (tb_good (ts_good wd_229)) rfl rfl rfl (hK.2.1 _ wn_298 rfl) (ht _ wd_125) (by decide +kernel) ⟨Nat.le_of_ble_eq_true rfl, Nat.le_of_ble_eq_true rfl⟩, rfl, ht _ wd_228⟩ (gc_preS hK hPc hDc) rfl rfl hl.1 rfl (lv_room (Nat.le_of_ble_eq_true rfl)) dX3_init_40 ⟨Nat.le_of_ble_eq_true rfl, Nat.le_of_ble_eq_true rfl⟩) hP hD hS hA [2] [0, 1] rfl rfl (by decide) (by decide) (fun u H locs hw hP hD hS => ?_)
  obtain ⟨u_91, u_92, u_93, u_94, u_95, u_96, u_97, u_98, u_99⟩ := u
  have hP : va_P (gg_D G) classes [(t, .inr (3, [.ref q_1, .int 0, .int 0])), (q_1, .inl (G.2.2 4, 20, .inr (.inr (.inr (.inr f_89))))), (q_90, .inr (7, [.ref u_91, .ref u_92, .ref u_93, .ref u_94, .ref u_95, .ref u_96, .ref u_97, .ref u_98, .ref u_99, .int 0])), (u_91, .inl (G.2.2 0, 5, .inl (fun _ => 0))), (u_92, .inl (G.2.2 0, 5, .inl (fun _ => 0))), (u_93, .inl (G.2.2 0, 5, .inl (fun _ => 0))), (u_94, .inl (G.2.2 0, 5, .inl (fun _ => 0))), (u_95, .inl (G.2.2 0, 3, .inl (fun _ => 0))), (u_96, .inl (G.2.2 0, 3, .inl (fun _ => 0))), (u_97, .inl (G.2.2 0, 3, .inl (fun _ => 0))), (u_98, .inl (G.2.2 0, 3, .inl (fun _ => 0))), (u_99, .inl (G.2.2 0, 3, .inl (fun _ => 0)))] H := hP
  have hD : va_D A [(t, .inr (3, [.ref q_1, .int 0, .int 0])), (q_1, .inl (G.2.2 4, 20, .inr (.inr (.inr (.inr f_89))))), (q_90, .inr (7, [.ref u_91, .ref u_92, .ref u_93, .ref u_94, .ref u_95, .ref u_96, .ref u_97, .ref u_98, .ref u_99, .int 0])), (u_91, .inl (G.2.2 0, 5, .inl (fun _ => 0))), (u_92, .inl (G.2.2 0, 5, .inl (fun _ => 0))), (u_93, .inl (G.2.2 0, 5, .inl (fun _ => 0))), (u_94, .inl (G.2.2 0, 5, .inl (fun _ => 0))), (u_95, .inl (G.2.2 0, 3, .inl (fun _ => 0))), (u_96, .inl (G.2.2 0, 3, .inl (fun _ => 0))), (u_97, .inl (G.2.2 0, 3, .inl (fun _ => 0))), (u_98, .inl (G.2.2 0, 3, .inl (fun _ => 0))), (u_99, .inl (G.2.2 0, 3, .inl (fun _ => 0)))] := hD
  refine W.widen (k := 91) (n := 425) (Nat.le_of_ble_eq_true rfl) (Nat.le_of_ble_eq_true rfl) ?_
  obtain ⟨f_100, ef_100⟩ : ∃ z : Nat → Option Nat, va_up f_89 (Int32.toNatClampNeg 8) (some q_90) = z := ⟨_, rfl⟩
  refine gq_aast (ws' := [(t, .inr (3, [.ref q_1, .int 0, .int 0])), (q_1, .inl (G.2.2 4, 20, .inr (.inr (.inr (.inr f_100))))), (q_90, .inr (7, [.ref u_91, .ref u_92, .ref u_93, .ref u_94, .ref u_95, .ref u_96, .ref u_97, .ref u_98, .ref u_99, .int 0])), (u_91, .inl (G.2.2 0, 5, .inl (fun _ => 0))), (u_92, .inl (G.2.2 0, 5, .inl (fun _ => 0))), (u_93, .inl (G.2.2 0, 5, .inl (fun _ => 0))), (u_94, .inl (G.2.2 0, 5, .inl (fun _ => 0))), (u_95, .inl (G.2.2 0, 3, .inl (fun _ => 0))), (u_96, .inl (G.2.2 0, 3, .inl (fun _ => 0))), (u_97, .inl (G.2.2 0, 3, .inl (fun _ => 0))), (u_98, .inl (G.2.2 0, 3, .inl (fun _ => 0))), (u_99, .inl (G.2.2 0, 3, .inl (fun _ => 0)))]) hx hb hK hP hD hS 1 4 2 7 rfl rfl rfl rfl f_100 (by unfold vp_in; decide +kernel) ef_100 rfl dX3_init_43 (fun H locs hP hD hS => ?_)
  have hP := hP.sub (ws' := [(t, .inr (3, [.ref q_1, .int 0, .int 0])), (q_1, .inl (G.2.2 4, 20, .inr (.inr (.inr (.inr f_100)))))]) [0, 1] rfl
  have hD := hD.sub (ws' := [(t, .inr (3, [.ref q_1, .int 0, .int 0])), (q_1, .inl (G.2.2 4, 20, .inr (.inr (.inr (.inr f_100)))))]) [0, 1] (by decide) rfl
  refine lv_iinc (v := 9) (lv' := [(1, .int 9), (0, .ref t)]) hx hb dX3_init_44 hl (k := 0) rfl (by decide +kernel) (by decide) rfl (fun ls hl => ?_)
  refine lv_goto (tgt := 25) hx hb dX3_init_47 (by decide) ?_
  refine lv_iload_n hx hb dX3_init_25 rfl (lv_at hl 0 rfl) ?_
  refine lv_bipush (v := 20) hx hb dX3_init_26 (by decide +kernel) ?_
  refine lv_icmp_ge (tgt := 50) hx hb dX3_init_28 (by decide) (fun c0 => absurd c0 (by decide +kernel)) (fun _ => ?_)
  refine lv_aload_n hx hb dX3_init_31 rfl (lv_at hl 1 rfl) ?_
  refine gq_get hx hb ht hown hK hP i_X3 0 rfl rfl 0 (by decide) wd_299 rfl rfl dX3_init_32 ?_
  refine lv_iload_n hx hb dX3_init_35 rfl (lv_at hl 0 rfl) ?_
  refine gq_new (ci := 7) hx hb ht hown i_X7 tyX7 tyX7_ok wd_296 wd_226 wd_125 hK hP hD hS hA rfl [.null, .null, .null, .null, .null, .null, .null, .null, .null, .int 0] df_X7 92 435 (Nat.le_of_ble_eq_true rfl) (Nat.le_of_ble_eq_true rfl) (Nat.le_of_ble_eq_true rfl) (Nat.le_of_ble_eq_true rfl) dX3_init_36 (fun q_101 H hP hD hS => ?_)
  have hP : va_P (gg_D G) classes [(t, .inr (3, [.ref q_1, .int 0, .int 0])), (q_1, .inl (G.2.2 4, 20, .inr (.inr (.inr (.inr f_100))))), (q_101, .inr (7, [.null, .null, .null, .null, .null, .null, .null, .null, .null, .int 0]))] H := hP
  have hD : va_D A [(t, .inr (3, [.ref q_1, .int 0, .int 0])), (q_1, .inl (G.2.2 4, 20, .inr (.inr (.inr (.inr f_100))))), (q_101, .inr (7, [.null, .null, .null, .null, .null, .null, .null, .null, .null, .int 0]))] := hD
  refine lv_dup hx hb dX3_init_39 rfl ?_
  have hPc := hP.sub (ws' := [(q_101, .inr (7, [.null, .null, .null, .null, .null, .null, .null, .null, .null, .int 0]))]) [2] rfl
  have hDc := hD.sub (ws' := [(q_101, .inr (7, [.null, .null, .null, .null, .null, .null, .null, .null, .null, .int 0]))]) [2] (by decide) rfl
  refine gq_callV (wr := [(t, .inr (3, [.ref q_1, .int 0, .int 0])), (q_1, .inl (G.2.2 4, 20, .inr (.inr (.inr (.inr f_100)))))]) (va_runIN (As := []) (rest := [.ref q_101, .int 9, .ref q_1]) ⟨hx, hb, hml, hown, ht⟩ (c_State_init l G H.size q_101) ⟨va_cnB 0 ht (tb_good (ts_good wd_229)) rfl rfl rfl (hK.2.1 _ wn_298 rfl) (ht _ wd_125) (by decide +kernel) ⟨Nat.le_of_ble_eq_true rfl, Nat.le_of_ble_eq_true rfl⟩, rfl, ht _ wd_228⟩ (gc_preS hK hPc hDc) rfl rfl hl.1 rfl (lv_room (Nat.le_of_ble_eq_true rfl)) dX3_init_40 ⟨Nat.le_of_ble_eq_true rfl, Nat.le_of_ble_eq_true rfl⟩) hP hD hS hA [2] [0, 1] rfl rfl (by decide) (by decide) (fun u H locs hw hP hD hS => ?_)
  obtain ⟨u_102, u_103, u_104, u_105, u_106, u_107, u_108, u_109, u_110⟩ := u
  have hP : va_P (gg_D G) classes [(t, .inr (3, [.ref q_1, .int 0, .int 0])), (q_1, .inl (G.2.2 4, 20, .inr (.inr (.inr (.inr f_100))))), (q_101, .inr (7, [.ref u_102, .ref u_103, .ref u_104, .ref u_105, .ref u_106, .ref u_107, .ref u_108, .ref u_109, .ref u_110, .int 0])), (u_102, .inl (G.2.2 0, 5, .inl (fun _ => 0))), (u_103, .inl (G.2.2 0, 5, .inl (fun _ => 0))), (u_104, .inl (G.2.2 0, 5, .inl (fun _ => 0))), (u_105, .inl (G.2.2 0, 5, .inl (fun _ => 0))), (u_106, .inl (G.2.2 0, 3, .inl (fun _ => 0))), (u_107, .inl (G.2.2 0, 3, .inl (fun _ => 0))), (u_108, .inl (G.2.2 0, 3, .inl (fun _ => 0))), (u_109, .inl (G.2.2 0, 3, .inl (fun _ => 0))), (u_110, .inl (G.2.2 0, 3, .inl (fun _ => 0)))] H := hP
  have hD : va_D A [(t, .inr (3, [.ref q_1, .int 0, .int 0])), (q_1, .inl (G.2.2 4, 20, .inr (.inr (.inr (.inr f_100))))), (q_101, .inr (7, [.ref u_102, .ref u_103, .ref u_104, .ref u_105, .ref u_106, .ref u_107, .ref u_108, .ref u_109, .ref u_110, .int 0])), (u_102, .inl (G.2.2 0, 5, .inl (fun _ => 0))), (u_103, .inl (G.2.2 0, 5, .inl (fun _ => 0))), (u_104, .inl (G.2.2 0, 5, .inl (fun _ => 0))), (u_105, .inl (G.2.2 0, 5, .inl (fun _ => 0))), (u_106, .inl (G.2.2 0, 3, .inl (fun _ => 0))), (u_107, .inl (G.2.2 0, 3, .inl (fun _ => 0))), (u_108, .inl (G.2.2 0, 3, .inl (fun _ => 0))), (u_109, .inl (G.2.2 0, 3, .inl (fun _ => 0))), (u_110, .inl (G.2.2 0, 3, .inl (fun _ => 0)))] := hD
  refine W.widen (k := 101) (n := 470) (Nat.le_of_ble_eq_true rfl) (Nat.le_of_ble_eq_true rfl) ?_
  obtain ⟨f_111, ef_111⟩ : ∃ z : Nat → Option Nat, va_up f_100 (Int32.toNatClampNeg 9) (some q_101) = z := ⟨_, rfl⟩
  refine gq_aast (ws' := [(t, .inr (3, [.ref q_1, .int 0, .int 0])), (q_1, .inl (G.2.2 4, 20, .inr (.inr (.inr (.inr f_111))))), (q_101, .inr (7, [.ref u_102, .ref u_103, .ref u_104, .ref u_105, .ref u_106, .ref u_107, .ref u_108, .ref u_109, .ref u_110, .int 0])), (u_102, .inl (G.2.2 0, 5, .inl (fun _ => 0))), (u_103, .inl (G.2.2 0, 5, .inl (fun _ => 0))), (u_104, .inl (G.2.2 0, 5, .inl (fun _ => 0))), (u_105, .inl (G.2.2 0, 5, .inl (fun _ => 0))), (u_106, .inl (G.2.2 0, 3, .inl (fun _ => 0))), (u_107, .inl (G.2.2 0, 3, .inl (fun _ => 0))), (u_108, .inl (G.2.2 0, 3, .inl (fun _ => 0))), (u_109, .inl (G.2.2 0, 3, .inl (fun _ => 0))), (u_110, .inl (G.2.2 0, 3, .inl (fun _ => 0)))]) hx hb hK hP hD hS 1 4 2 7 rfl rfl rfl rfl f_111 (by unfold vp_in; decide +kernel) ef_111 rfl dX3_init_43 (fun H locs hP hD hS => ?_)
  have hP := hP.sub (ws' := [(t, .inr (3, [.ref q_1, .int 0, .int 0])), (q_1, .inl (G.2.2 4, 20, .inr (.inr (.inr (.inr f_111)))))]) [0, 1] rfl
  have hD := hD.sub (ws' := [(t, .inr (3, [.ref q_1, .int 0, .int 0])), (q_1, .inl (G.2.2 4, 20, .inr (.inr (.inr (.inr f_111)))))]) [0, 1] (by decide) rfl
  refine lv_iinc (v := 10) (lv' := [(1, .int 10), (0, .ref t)]) hx hb dX3_init_44 hl (k := 0) rfl (by decide +kernel) (by decide) rfl (fun ls hl => ?_)
  refine lv_goto (tgt := 25) hx hb dX3_init_47 (by decide) ?_
  refine lv_iload_n hx hb dX3_init_25 rfl (lv_at hl 0 rfl) ?_
  refine lv_bipush (v := 20) hx hb dX3_init_26 (by decide +kernel) ?_
  refine lv_icmp_ge (tgt := 50) hx hb dX3_init_28 (by decide) (fun c0 => absurd c0 (by decide +kernel)) (fun _ => ?_)
  refine lv_aload_n hx hb dX3_init_31 rfl (lv_at hl 1 rfl) ?_
  refine gq_get hx hb ht hown hK hP i_X3 0 rfl rfl 0 (by decide) wd_299 rfl rfl dX3_init_32 ?_
  refine lv_iload_n hx hb dX3_init_35 rfl (lv_at hl 0 rfl) ?_
  refine gq_new (ci := 7) hx hb ht hown i_X7 tyX7 tyX7_ok wd_296 wd_226 wd_125 hK hP hD hS hA rfl [.null, .null, .null, .null, .null, .null, .null, .null, .null, .int 0] df_X7 102 480 (Nat.le_of_ble_eq_true rfl) (Nat.le_of_ble_eq_true rfl) (Nat.le_of_ble_eq_true rfl) (Nat.le_of_ble_eq_true rfl) dX3_init_36 (fun q_112 H hP hD hS => ?_)
  have hP : va_P (gg_D G) classes [(t, .inr (3, [.ref q_1, .int 0, .int 0])), (q_1, .inl (G.2.2 4, 20, .inr (.inr (.inr (.inr f_111))))), (q_112, .inr (7, [.null, .null, .null, .null, .null, .null, .null, .null, .null, .int 0]))] H := hP
  have hD : va_D A [(t, .inr (3, [.ref q_1, .int 0, .int 0])), (q_1, .inl (G.2.2 4, 20, .inr (.inr (.inr (.inr f_111))))), (q_112, .inr (7, [.null, .null, .null, .null, .null, .null, .null, .null, .null, .int 0]))] := hD
  refine lv_dup hx hb dX3_init_39 rfl ?_
  have hPc := hP.sub (ws' := [(q_112, .inr (7, [.null, .null, .null, .null, .null, .null, .null, .null, .null, .int 0]))]) [2] rfl
  have hDc := hD.sub (ws' := [(q_112, .inr (7, [.null, .null, .null, .null, .null, .null, .null, .null, .null, .int 0]))]) [2] (by decide) rfl
  refine gq_callV (wr := [(t, .inr (3, [.ref q_1, .int 0, .int 0])), (q_1, .inl (G.2.2 4, 20, .inr (.inr (.inr (.inr f_111)))))]) (va_runIN (As := []) (rest := [.ref q_112, .int 10, .ref q_1]) ⟨hx, hb, hml, hown, ht⟩ (c_State_init l G H.size q_112) ⟨va_cnB 0 ht (tb_good (ts_good wd_229)) rfl rfl rfl (hK.2.1 _ wn_298 rfl) (ht _ wd_125) (by decide +kernel) ⟨Nat.le_of_ble_eq_true rfl, Nat.le_of_ble_eq_true rfl⟩, rfl, ht _ wd_228⟩ (gc_preS hK hPc hDc) rfl rfl hl.1 rfl (lv_room (Nat.le_of_ble_eq_true rfl)) dX3_init_40 ⟨Nat.le_of_ble_eq_true rfl, Nat.le_of_ble_eq_true rfl⟩) hP hD hS hA [2] [0, 1] rfl rfl (by decide) (by decide) (fun u H locs hw hP hD hS => ?_)
  obtain ⟨u_113, u_114, u_115, u_116, u_117, u_118, u_119, u_120, u_121⟩ := u
  have hP : va_P (gg_D G) classes [(t, .inr (3, [.ref q_1, .int 0, .int 0])), (q_1, .inl (G.2.2 4, 20, .inr (.inr (.inr (.inr f_111))))), (q_112, .inr (7, [.ref u_113, .ref u_114, .ref u_115, .ref u_116, .ref u_117, .ref u_118, .ref u_119, .ref u_120, .ref u_121, .int 0])), (u_113, .inl (G.2.2 0, 5, .inl (fun _ => 0))), (u_114, .inl (G.2.2 0, 5, .inl (fun _ => 0))), (u_115, .inl (G.2.2 0, 5, .inl (fun _ => 0))), (u_116, .inl (G.2.2 0, 5, .inl (fun _ => 0))), (u_117, .inl (G.2.2 0, 3, .inl (fun _ => 0))), (u_118, .inl (G.2.2 0, 3, .inl (fun _ => 0))), (u_119, .inl (G.2.2 0, 3, .inl (fun _ => 0))), (u_120, .inl (G.2.2 0, 3, .inl (fun _ => 0))), (u_121, .inl (G.2.2 0, 3, .inl (fun _ => 0)))] H := hP
  have hD : va_D A [(t, .inr (3, [.ref q_1, .int 0, .int 0])), (q_1, .inl (G.2.2 4, 20, .inr (.inr (.inr (.inr f_111))))), (q_112, .inr (7, [.ref u_113, .ref u_114, .ref u_115, .ref u_116, .ref u_117, .ref u_118, .ref u_119, .ref u_120, .ref u_121, .int 0])), (u_113, .inl (G.2.2 0, 5, .inl (fun _ => 0))), (u_114, .inl (G.2.2 0, 5, .inl (fun _ => 0))), (u_115, .inl (G.2.2 0, 5, .inl (fun _ => 0))), (u_116, .inl (G.2.2 0, 5, .inl (fun _ => 0))), (u_117, .inl (G.2.2 0, 3, .inl (fun _ => 0))), (u_118, .inl (G.2.2 0, 3, .inl (fun _ => 0))), (u_119, .inl (G.2.2 0, 3, .inl (fun _ => 0))), (u_120, .inl (G.2.2 0, 3, .inl (fun _ => 0))), (u_121, .inl (G.2.2 0, 3, .inl (fun _ => 0)))] := hD
  refine W.widen (k := 111) (n := 515) (Nat.le_of_ble_eq_true rfl) (Nat.le_of_ble_eq_true rfl) ?_
  obtain ⟨f_122, ef_122⟩ : ∃ z : Nat → Option Nat, va_up f_111 (Int32.toNatClampNeg 10) (some q_112) = z := ⟨_, rfl⟩
  refine gq_aast (ws' := [(t, .inr (3, [.ref q_1, .int 0, .int 0])), (q_1, .inl (G.2.2 4, 20, .inr (.inr (.inr (.inr f_122))))), (q_112, .inr (7, [.ref u_113, .ref u_114, .ref u_115, .ref u_116, .ref u_117, .ref u_118, .ref u_119, .ref u_120, .ref u_121, .int 0])), (u_113, .inl (G.2.2 0, 5, .inl (fun _ => 0))), (u_114, .inl (G.2.2 0, 5, .inl (fun _ => 0))), (u_115, .inl (G.2.2 0, 5, .inl (fun _ => 0))), (u_116, .inl (G.2.2 0, 5, .inl (fun _ => 0))), (u_117, .inl (G.2.2 0, 3, .inl (fun _ => 0))), (u_118, .inl (G.2.2 0, 3, .inl (fun _ => 0))), (u_119, .inl (G.2.2 0, 3, .inl (fun _ => 0))), (u_120, .inl (G.2.2 0, 3, .inl (fun _ => 0))), (u_121, .inl (G.2.2 0, 3, .inl (fun _ => 0)))]) hx hb hK hP hD hS 1 4 2 7 rfl rfl rfl rfl f_122 (by unfold vp_in; decide +kernel) ef_122 rfl dX3_init_43 (fun H locs hP hD hS => ?_)
  have hP := hP.sub (ws' := [(t, .inr (3, [.ref q_1, .int 0, .int 0])), (q_1, .inl (G.2.2 4, 20, .inr (.inr (.inr (.inr f_122)))))]) [0, 1] rfl
  have hD := hD.sub (ws' := [(t, .inr (3, [.ref q_1, .int 0, .int 0])), (q_1, .inl (G.2.2 4, 20, .inr (.inr (.inr (.inr f_122)))))]) [0, 1] (by decide) rfl
  refine lv_iinc (v := 11) (lv' := [(1, .int 11), (0, .ref t)]) hx hb dX3_init_44 hl (k := 0) rfl (by decide +kernel) (by decide) rfl (fun ls hl => ?_)
  refine lv_goto (tgt := 25) hx hb dX3_init_47 (by decide) ?_
  refine lv_iload_n hx hb dX3_init_25 rfl (lv_at hl 0 rfl) ?_
  refine lv_bipush (v := 20) hx hb dX3_init_26 (by decide +kernel) ?_
  refine lv_icmp_ge (tgt := 50) hx hb dX3_init_28 (by decide) (fun c0 => absurd c0 (by decide +kernel)) (fun _ => ?_)
  refine lv_aload_n hx hb dX3_init_31 rfl (lv_at hl 1 rfl) ?_
  refine gq_get hx hb ht hown hK hP i_X3 0 rfl rfl 0 (by decide) wd_299 rfl rfl dX3_init_32 ?_
  refine lv_iload_n hx hb dX3_init_35 rfl (lv_at hl 0 rfl) ?_
  refine gq_new (ci := 7) hx hb ht hown i_X7 tyX7 tyX7_ok wd_296 wd_226 wd_125 hK hP hD hS hA rfl [.null, .null, .null, .null, .null, .null, .null, .null, .null, .int 0] df_X7 112 525 (Nat.le_of_ble_eq_true rfl) (Nat.le_of_ble_eq_true rfl) (Nat.le_of_ble_eq_true rfl) (Nat.le_of_ble_eq_true rfl) dX3_init_36 (fun q_123 H hP hD hS => ?_)
  have hP : va_P (gg_D G) classes [(t, .inr (3, [.ref q_1, .int 0, .int 0])), (q_1, .inl (G.2.2 4, 20, .inr (.inr (.inr (.inr f_122))))), (q_123, .inr (7, [.null, .null, .null, .null, .null, .null, .null, .null, .null, .int 0]))] H := hP
  have hD : va_D A [(t, .inr (3, [.ref q_1, .int 0, .int 0])), (q_1, .inl (G.2.2 4, 20, .inr (.inr (.inr (.inr f_122))))), (q_123, .inr (7, [.null, .null, .null, .null, .null, .null, .null, .null, .null, .int 0]))] := hD
  refine lv_dup hx hb dX3_init_39 rfl ?_
  have hPc := hP.sub (ws' := [(q_123, .inr (7, [.null, .null, .null, .null, .null, .null, .null, .null, .null, .int 0]))]) [2] rfl
  have hDc := hD.sub (ws' := [(q_123, .inr (7, [.null, .null, .null, .null, .null, .null, .null, .null, .null, .int 0]))]) [2] (by decide) rfl
  refine gq_callV (wr := [(t, .inr (3, [.ref q_1, .int 0, .int 0])), (q_1, .inl (G.2.2 4, 20, .inr (.inr (.inr (.inr f_122)))))]) (va_runIN (As := []) (rest := [.ref q_123, .int 11, .ref q_1]) ⟨hx, hb, hml, hown, ht⟩ (c_State_init l G H.size q_123) ⟨va_cnB 0 ht (tb_good (ts_good wd_229)) rfl rfl rfl (hK.2.1 _ wn_298 rfl) (ht _ wd_125) (by decide +kernel) ⟨Nat.le_of_ble_eq_true rfl, Nat.le_of_ble_eq_true rfl⟩, rfl, ht _ wd_228⟩ (gc_preS hK hPc hDc) rfl rfl hl.1 rfl (lv_room (Nat.le_of_ble_eq_true rfl)) dX3_init_40 ⟨Nat.le_of_ble_eq_true rfl, Nat.le_of_ble_eq_true rfl⟩) hP hD hS hA [2] [0, 1] rfl rfl (by decide) (by decide) (fun u H locs hw hP hD hS => ?_)
  obtain ⟨u_124, u_125, u_126, u_127, u_128, u_129, u_130, u_131, u_132⟩ := u
  have hP : va_P (gg_D G) classes [(t, .inr (3, [.ref q_1, .int 0, .int 0])), (q_1, .inl (G.2.2 4, 20, .inr (.inr (.inr (.inr f_122))))), (q_123, .inr (7, [.ref u_124, .ref u_125, .ref u_126, .ref u_127, .ref u_128, .ref u_129, .ref u_130, .ref u_131, .ref u_132, .int 0])), (u_124, .inl (G.2.2 0, 5, .inl (fun _ => 0))), (u_125, .inl (G.2.2 0, 5, .inl (fun _ => 0))), (u_126, .inl (G.2.2 0, 5, .inl (fun _ => 0))), (u_127, .inl (G.2.2 0, 5, .inl (fun _ => 0))), (u_128, .inl (G.2.2 0, 3, .inl (fun _ => 0))), (u_129, .inl (G.2.2 0, 3, .inl (fun _ => 0))), (u_130, .inl (G.2.2 0, 3, .inl (fun _ => 0))), (u_131, .inl (G.2.2 0, 3, .inl (fun _ => 0))), (u_132, .inl (G.2.2 0, 3, .inl (fun _ => 0)))] H := hP
  have hD : va_D A [(t, .inr (3, [.ref q_1, .int 0, .int 0])), (q_1, .inl (G.2.2 4, 20, .inr (.inr (.inr (.inr f_122))))), (q_123, .inr (7, [.ref u_124, .ref u_125, .ref u_126, .ref u_127, .ref u_128, .ref u_129, .ref u_130, .ref u_131, .ref u_132, .int 0])), (u_124, .inl (G.2.2 0, 5, .inl (fun _ => 0))), (u_125, .inl (G.2.2 0, 5, .inl (fun _ => 0))), (u_126, .inl (G.2.2 0, 5, .inl (fun _ => 0))), (u_127, .inl (G.2.2 0, 5, .inl (fun _ => 0))), (u_128, .inl (G.2.2 0, 3, .inl (fun _ => 0))), (u_129, .inl (G.2.2 0, 3, .inl (fun _ => 0))), (u_130, .inl (G.2.2 0, 3, .inl (fun _ => 0))), (u_131, .inl (G.2.2 0, 3, .inl (fun _ => 0))), (u_132, .inl (G.2.2 0, 3, .inl (fun _ => 0)))] := hD
  refine W.widen (k := 121) (n := 560) (Nat.le_of_ble_eq_true rfl) (Nat.le_of_ble_eq_true rfl) ?_
  obtain ⟨f_133, ef_133⟩ : ∃ z : Nat → Option Nat, va_up f_122 (Int32.toNatClampNeg 11) (some q_123) = z := ⟨_, rfl⟩
  refine gq_aast (ws' := [(t, .inr (3, [.ref q_1, .int 0, .int 0])), (q_1, .inl (G.2.2 4, 20, .inr (.inr (.inr (.inr f_133))))), (q_123, .inr (7, [.ref u_124, .ref u_125, .ref u_126, .ref u_127, .ref u_128, .ref u_129, .ref u_130, .ref u_131, .ref u_132, .int 0])), (u_124, .inl (G.2.2 0, 5, .inl (fun _ => 0))), (u_125, .inl (G.2.2 0, 5, .inl (fun _ => 0))), (u_126, .inl (G.2.2 0, 5, .inl (fun _ => 0))), (u_127, .inl (G.2.2 0, 5, .inl (fun _ => 0))), (u_128, .inl (G.2.2 0, 3, .inl (fun _ => 0))), (u_129, .inl (G.2.2 0, 3, .inl (fun _ => 0))), (u_130, .inl (G.2.2 0, 3, .inl (fun _ => 0))), (u_131, .inl (G.2.2 0, 3, .inl (fun _ => 0))), (u_132, .inl (G.2.2 0, 3, .inl (fun _ => 0)))]) hx hb hK hP hD hS 1 4 2 7 rfl rfl rfl rfl f_133 (by unfold vp_in; decide +kernel) ef_133 rfl dX3_init_43 (fun H locs hP hD hS => ?_)
  have hP := hP.sub (ws' := [(t, .inr (3, [.ref q_1, .int 0, .int 0])), (q_1, .inl (G.2.2 4, 20, .inr (.inr (.inr (.inr f_133)))))]) [0, 1] rfl
  have hD := hD.sub (ws' := [(t, .inr (3, [.ref q_1, .int 0, .int 0])), (q_1, .inl (G.2.2 4, 20, .inr (.inr (.inr (.inr f_133)))))]) [0, 1] (by decide) rfl
  refine lv_iinc (v := 12) (lv' := [(1, .int 12), (0, .ref t)]) hx hb dX3_init_44 hl (k := 0) rfl (by decide +kernel) (by decide) rfl (fun ls hl => ?_)
  refine lv_goto (tgt := 25) hx hb dX3_init_47 (by decide) ?_
  refine lv_iload_n hx hb dX3_init_25 rfl (lv_at hl 0 rfl) ?_
  refine lv_bipush (v := 20) hx hb dX3_init_26 (by decide +kernel) ?_
  refine lv_icmp_ge (tgt := 50) hx hb dX3_init_28 (by decide) (fun c0 => absurd c0 (by decide +kernel)) (fun _ => ?_)
  refine lv_aload_n hx hb dX3_init_31 rfl (lv_at hl 1 rfl) ?_
  refine gq_get hx hb ht hown hK hP i_X3 0 rfl rfl 0 (by decide) wd_299 rfl rfl dX3_init_32 ?_
  refine lv_iload_n hx hb dX3_init_35 rfl (lv_at hl 0 rfl) ?_
  refine gq_new (ci := 7) hx hb ht hown i_X7 tyX7 tyX7_ok wd_296 wd_226 wd_125 hK hP hD hS hA rfl [.null, .null, .null, .null, .null, .null, .null, .null, .null, .int 0] df_X7 122 570 (Nat.le_of_ble_eq_true rfl) (Nat.le_of_ble_eq_true rfl) (Nat.le_of_ble_eq_true rfl) (Nat.le_of_ble_eq_true rfl) dX3_init_36 (fun q_134 H hP hD hS => ?_)
  have hP : va_P (gg_D G) classes [(t, .inr (3, [.ref q_1, .int 0, .int 0])), (q_1, .inl (G.2.2 4, 20, .inr (.inr (.inr (.inr f_133))))), (q_134, .inr (7, [.null, .null, .null, .null, .null, .null, .null, .null, .null, .int 0]))] H := hP
  have hD : va_D A [(t, .inr (3, [.ref q_1, .int 0, .int 0])), (q_1, .inl (G.2.2 4, 20, .inr (.inr (.inr (.inr f_133))))), (q_134, .inr (7, [.null, .null, .null, .null, .null, .null, .null, .null, .null, .int 0]))] := hD
  refine lv_dup hx hb dX3_init_39 rfl ?_
  have hPc := hP.sub (ws' := [(q_134, .inr (7, [.null, .null, .null, .null, .null, .null, .null, .null, .null, .int 0]))]) [2] rfl
  have hDc := hD.sub (ws' := [(q_134, .inr (7, [.null, .null, .null, .null, .null, .null, .null, .null, .null, .int 0]))]) [2] (by decide) rfl
  refine gq_callV (wr := [(t, .inr (3, [.ref q_1, .int 0, .int 0])), (q_1, .inl (G.2.2 4, 20, .inr (.inr (.inr (.inr f_133)))))]) (va_runIN (As := []) (rest := [.ref q_134, .int 12, .ref q_1]) ⟨hx, hb, hml, hown, ht⟩ (c_State_init l G H.size q_134) ⟨va_cnB 0 ht (tb_good (ts_good wd_229)) rfl rfl rfl (hK.2.1 _ wn_298 rfl) (ht _ wd_125) (by decide +kernel) ⟨Nat.le_of_ble_eq_true rfl, Nat.le_of_ble_eq_true rfl⟩, rfl, ht _ wd_228⟩ (gc_preS hK hPc hDc) rfl rfl hl.1 rfl (lv_room (Nat.le_of_ble_eq_true rfl)) dX3_init_40 ⟨Nat.le_of_ble_eq_true rfl, Nat.le_of_ble_eq_true rfl⟩) hP hD hS hA [2] [0, 1] rfl rfl (by decide) (by decide) (fun u H locs hw hP hD hS => ?_)
  obtain ⟨u_135, u_136, u_137, u_138, u_139, u_140, u_141, u_142, u_143⟩ := u
  have hP : va_P (gg_D G) classes [(t, .inr (3, [.ref q_1, .int 0, .int 0])), (q_1, .inl (G.2.2 4, 20, .inr (.inr (.inr (.inr f_133))))), (q_134, .inr (7, [.ref u_135, .ref u_136, .ref u_137, .ref u_138, .ref u_139, .ref u_140, .ref u_141, .ref u_142, .ref u_143, .int 0])), (u_135, .inl (G.2.2 0, 5, .inl (fun _ => 0))), (u_136, .inl (G.2.2 0, 5, .inl (fun _ => 0))), (u_137, .inl (G.2.2 0, 5, .inl (fun _ => 0))), (u_138, .inl (G.2.2 0, 5, .inl (fun _ => 0))), (u_139, .inl (G.2.2 0, 3, .inl (fun _ => 0))), (u_140, .inl (G.2.2 0, 3, .inl (fun _ => 0))), (u_141, .inl (G.2.2 0, 3, .inl (fun _ => 0))), (u_142, .inl (G.2.2 0, 3, .inl (fun _ => 0))), (u_143, .inl (G.2.2 0, 3, .inl (fun _ => 0)))] H := hP
  have hD : va_D A [(t, .inr (3, [.ref q_1, .int 0, .int 0])), (q_1, .inl (G.2.2 4, 20, .inr (.inr (.inr (.inr f_133))))), (q_134, .inr (7, [.ref u_135, .ref u_136, .ref u_137, .ref u_138, .ref u_139, .ref u_140, .ref u_141, .ref u_142, .ref u_143, .int 0])), (u_135, .inl (G.2.2 0, 5, .inl (fun _ => 0))), (u_136, .inl (G.2.2 0, 5, .inl (fun _ => 0))), (u_137, .inl (G.2.2 0, 5, .inl (fun _ => 0))), (u_138, .inl (G.2.2 0, 5, .inl (fun _ => 0))), (u_139, .inl (G.2.2 0, 3, .inl (fun _ => 0))), (u_140, .inl (G.2.2 0, 3, .inl (fun _ => 0))), (u_141, .inl (G.2.2 0, 3, .inl (fun _ => 0))), (u_142, .inl (G.2.2 0, 3, .inl (fun _ => 0))), (u_143, .inl (G.2.2 0, 3, .inl (fun _ => 0)))] := hD
  refine W.widen (k := 131) (n := 605) (Nat.le_of_ble_eq_true rfl) (Nat.le_of_ble_eq_true rfl) ?_
  obtain ⟨f_144, ef_144⟩ : ∃ z : Nat → Option Nat, va_up f_133 (Int32.toNatClampNeg 12) (some q_134) = z := ⟨_, rfl⟩
  refine gq_aast (ws' := [(t, .inr (3, [.ref q_1, .int 0, .int 0])), (q_1, .inl (G.2.2 4, 20, .inr (.inr (.inr (.inr f_144))))), (q_134, .inr (7, [.ref u_135, .ref u_136, .ref u_137, .ref u_138, .ref u_139, .ref u_140, .ref u_141, .ref u_142, .ref u_143, .int 0])), (u_135, .inl (G.2.2 0, 5, .inl (fun _ => 0))), (u_136, .inl (G.2.2 0, 5, .inl (fun _ => 0))), (u_137, .inl (G.2.2 0, 5, .inl (fun _ => 0))), (u_138, .inl (G.2.2 0, 5, .inl (fun _ => 0))), (u_139, .inl (G.2.2 0, 3, .inl (fun _ => 0))), (u_140, .inl (G.2.2 0, 3, .inl (fun _ => 0))), (u_141, .inl (G.2.2 0, 3, .inl (fun _ => 0))), (u_142, .inl (G.2.2 0, 3, .inl (fun _ => 0))), (u_143, .inl (G.2.2 0, 3, .inl (fun _ => 0)))]) hx hb hK hP hD hS 1 4 2 7 rfl rfl rfl rfl f_144 (by unfold vp_in; decide +kernel) ef_144 rfl dX3_init_43 (fun H locs hP hD hS => ?_)
  have hP := hP.sub (ws' := [(t, .inr (3, [.ref q_1, .int 0, .int 0])), (q_1, .inl (G.2.2 4, 20, .inr (.inr (.inr (.inr f_144)))))]) [0, 1] rfl
  have hD := hD.sub (ws' := [(t, .inr (3, [.ref q_1, .int 0, .int 0])), (q_1, .inl (G.2.2 4, 20, .inr (.inr (.inr (.inr f_144)))))]) [0, 1] (by decide) rfl
  refine lv_iinc (v := 13) (lv' := [(1, .int 13), (0, .ref t)]) hx hb dX3_init_44 hl (k := 0) rfl (by decide +kernel) (by decide) rfl (fun ls hl => ?_)
  refine lv_goto (tgt := 25) hx hb dX3_init_47 (by decide) ?_
  refine lv_iload_n hx hb dX3_init_25 rfl (lv_at hl 0 rfl) ?_
  refine lv_bipush (v := 20) hx hb dX3_init_26 (by decide +kernel) ?_
  refine lv_icmp_ge (tgt := 50) hx hb dX3_init_28 (by decide) (fun c0 => absurd c0 (by decide +kernel)) (fun _ => ?_)
  refine lv_aload_n hx hb dX3_init_31 rfl (lv_at hl 1 rfl) ?_
  refine gq_get hx hb ht hown hK hP i_X3 0 rfl rfl 0 (by decide) wd_299 rfl rfl dX3_init_32 ?_
  refine lv_iload_n hx hb dX3_init_35 rfl (lv_at hl 0 rfl) ?_
  refine gq_new (ci := 7) hx hb ht hown i_X7 tyX7 tyX7_ok wd_296 wd_226 wd_125 hK hP hD hS hA rfl [.null, .null, .null, .null, .null, .null, .null, .null, .null, .int 0] df_X7 132 615 (Nat.le_of_ble_eq_true rfl) (Nat.le_of_ble_eq_true rfl) (Nat.le_of_ble_eq_true rfl) (Nat.le_of_ble_eq_true rfl) dX3_init_36 (fun q_145 H hP hD hS => ?_)
  have hP : va_P (gg_D G) classes [(t, .inr (3, [.ref q_1, .int 0, .int 0])), (q_1, .inl (G.2.2 4, 20, .inr (.inr (.inr (.inr f_144))))), (q_145, .inr (7, [.null, .null, .null, .null, .null, .null, .null, .null, .null, .int 0]))] H := hP
  have hD : va_D A [(t, .inr (3, [.ref q_1, .int 0, .int 0])), (q_1, .inl (G.2.2 4, 20, .inr (.inr (.inr (.inr f_144))))), (q_145, .inr (7, [.null, .null, .null, .null, .null, .null, .null, .null, .null, .int 0]))] := hD
  refine lv_dup hx hb dX3_init_39 rfl ?_
  have hPc := hP.sub (ws' := [(q_145, .inr (7, [.null, .null, .null, .null, .null, .null, .null, .null, .null, .int 0]))]) [2] rfl
  have hDc := hD.sub (ws' := [(q_145, .inr (7, [.null, .null, .null, .null, .null, .null, .null, .null, .null, .int 0]))]) [2] (by decide) rfl
  refine gq_callV (wr := [(t, .inr (3, [.ref q_1, .int 0, .int 0])), (q_1, .inl (G.2.2 4, 20, .inr (.inr (.inr (.inr f_144)))))]) (va_runIN (As := []) (rest := [.ref q_145, .int 13, .ref q_1]) ⟨hx, hb, hml, hown, ht⟩ (c_State_init l G H.size q_145) ⟨va_cnB 0 ht (tb_good (ts_good wd_229)) rfl rfl rfl (hK.2.1 _ wn_298 rfl) (ht _ wd_125) (by decide +kernel) ⟨Nat.le_of_ble_eq_true rfl, Nat.le_of_ble_eq_true rfl⟩, rfl, ht _ wd_228⟩ (gc_preS hK hPc hDc) rfl rfl hl.1 rfl (lv_room (Nat.le_of_ble_eq_true rfl)) dX3_init_40 ⟨Nat.le_of_ble_eq_true rfl, Nat.le_of_ble_eq_true rfl⟩) hP hD hS hA [2] [0, 1] rfl rfl (by decide) (by decide) (fun u H locs hw hP hD hS => ?_)
  obtain ⟨u_146, u_147, u_148, u_149, u_150, u_151, u_152, u_153, u_154⟩ := u
  have hP : va_P (gg_D G) classes [(t, .inr (3, [.ref q_1, .int 0, .int 0])), (q_1, .inl (G.2.2 4, 20, .inr (.inr (.inr (.inr f_144))))), (q_145, .inr (7, [.ref u_146, .ref u_147, .ref u_148, .ref u_149, .ref u_150, .ref u_151, .ref u_152, .ref u_153, .ref u_154, .int 0])), (u_146, .inl (G.2.2 0, 5, .inl (fun _ => 0))), (u_147, .inl (G.2.2 0, 5, .inl (fun _ => 0))), (u_148, .inl (G.2.2 0, 5, .inl (fun _ => 0))), (u_149, .inl (G.2.2 0, 5, .inl (fun _ => 0))), (u_150, .inl (G.2.2 0, 3, .inl (fun _ => 0))), (u_151, .inl (G.2.2 0, 3, .inl (fun _ => 0))), (u_152, .inl (G.2.2 0, 3, .inl (fun _ => 0))), (u_153, .inl (G.2.2 0, 3, .inl (fun _ => 0))), (u_154, .inl (G.2.2 0, 3, .inl (fun _ => 0)))] H := hP
  have hD : va_D A [(t, .inr (3, [.ref q_1, .int 0, .int 0])), (q_1, .inl (G.2.2 4, 20, .inr (.inr (.inr (.inr f_144))))), (q_145, .inr (7, [.ref u_146, .ref u_147, .ref u_148, .ref u_149, .ref u_150, .ref u_151, .ref u_152, .ref u_153, .ref u_154, .int 0])), (u_146, .inl (G.2.2 0, 5, .inl (fun _ => 0))), (u_147, .inl (G.2.2 0, 5, .inl (fun _ => 0))), (u_148, .inl (G.2.2 0, 5, .inl (fun _ => 0))), (u_149, .inl (G.2.2 0, 5, .inl (fun _ => 0))), (u_150, .inl (G.2.2 0, 3, .inl (fun _ => 0))), (u_151, .inl (G.2.2 0, 3, .inl (fun _ => 0))), (u_152, .inl (G.2.2 0, 3, .inl (fun _ => 0))), (u_153, .inl (G.2.2 0, 3, .inl (fun _ => 0))), (u_154, .inl (G.2.2 0, 3, .inl (fun _ => 0)))] := hD
  refine W.widen (k := 141) (n := 650) (Nat.le_of_ble_eq_true rfl) (Nat.le_of_ble_eq_true rfl) ?_
  obtain ⟨f_155, ef_155⟩ : ∃ z : Nat → Option Nat, va_up f_144 (Int32.toNatClampNeg 13) (some q_145) = z := ⟨_, rfl⟩
  refine gq_aast (ws' := [(t, .inr (3, [.ref q_1, .int 0, .int 0])), (q_1, .inl (G.2.2 4, 20, .inr (.inr (.inr (.inr f_155))))), (q_145, .inr (7, [.ref u_146, .ref u_147, .ref u_148, .ref u_149, .ref u_150, .ref u_151, .ref u_152, .ref u_153, .ref u_154, .int 0])), (u_146, .inl (G.2.2 0, 5, .inl (fun _ => 0))), (u_147, .inl (G.2.2 0, 5, .inl (fun _ => 0))), (u_148, .inl (G.2.2 0, 5, .inl (fun _ => 0))), (u_149, .inl (G.2.2 0, 5, .inl (fun _ => 0))), (u_150, .inl (G.2.2 0, 3, .inl (fun _ => 0))), (u_151, .inl (G.2.2 0, 3, .inl (fun _ => 0))), (u_152, .inl (G.2.2 0, 3, .inl (fun _ => 0))), (u_153, .inl (G.2.2 0, 3, .inl (fun _ => 0))), (u_154, .inl (G.2.2 0, 3, .inl (fun _ => 0)))]) hx hb hK hP hD hS 1 4 2 7 rfl rfl rfl rfl f_155 (by unfold vp_in; decide +kernel) ef_155 rfl dX3_init_43 (fun H locs hP hD hS => ?_)
  have hP := hP.sub (ws' := [(t, .inr (3, [.ref q_1, .int 0, .int 0])), (q_1, .inl (G.2.2 4, 20, .inr (.inr (.inr (.inr f_155)))))]) [0, 1] rfl
  have hD := hD.sub (ws' := [(t, .inr (3, [.ref q_1, .int 0, .int 0])), (q_1, .inl (G.2.2 4, 20, .inr (.inr (.inr (.inr f_155)))))]) [0, 1] (by decide) rfl
  refine lv_iinc (v := 14) (lv' := [(1, .int 14), (0, .ref t)]) hx hb dX3_init_44 hl (k := 0) rfl (by decide +kernel) (by decide) rfl (fun ls hl => ?_)
  refine lv_goto (tgt := 25) hx hb dX3_init_47 (by decide) ?_
  refine lv_iload_n hx hb dX3_init_25 rfl (lv_at hl 0 rfl) ?_
  refine lv_bipush (v := 20) hx hb dX3_init_26 (by decide +kernel) ?_
  refine lv_icmp_ge (tgt := 50) hx hb dX3_init_28 (by decide) (fun c0 => absurd c0 (by decide +kernel)) (fun _ => ?_)
  refine lv_aload_n hx hb dX3_init_31 rfl (lv_at hl 1 rfl) ?_
  refine gq_get hx hb ht hown hK hP i_X3 0 rfl rfl 0 (by decide) wd_299 rfl rfl dX3_init_32 ?_
  refine lv_iload_n hx hb dX3_init_35 rfl (lv_at hl 0 rfl) ?_
  refine gq_new (ci := 7) hx hb ht hown i_X7 tyX7 tyX7_ok wd_296 wd_226 wd_125 hK hP hD hS hA rfl [.null, .null, .null, .null, .null, .null, .null, .null, .null, .int 0] df_X7 142 660 (Nat.le_of_ble_eq_true rfl) (Nat.le_of_ble_eq_true rfl) (Nat.le_of_ble_eq_true rfl) (Nat.le_of_ble_eq_true rfl) dX3_init_36 (fun q_156 H hP hD hS => ?_)
  have hP : va_P (gg_D G) classes [(t, .inr (3, [.ref q_1, .int 0, .int 0])), (q_1, .inl (G.2.2 4, 20, .inr (.inr (.inr (.inr f_155))))), (q_156, .inr (7, [.null, .null, .null, .null, .null, .null, .null, .null, .null, .int 0]))] H := hP
  have hD : va_D A [(t, .inr (3, [.ref q_1, .int 0, .int 0])), (q_1, .inl (G.2.2 4, 20, .inr (.inr (.inr (.inr f_155))))), (q_156, .inr (7, [.null, .null, .null, .null, .null, .null, .null, .null, .null, .int 0]))] := hD
  refine lv_dup hx hb dX3_init_39 rfl ?_
  have hPc := hP.sub (ws' := [(q_156, .inr (7, [.null, .null, .null, .null, .null, .null, .null, .null, .null, .int 0]))]) [2] rfl
  have hDc := hD.sub (ws' := [(q_156, .inr (7, [.null, .null, .null, .null, .null, .null, .null, .null, .null, .int 0]))]) [2] (by decide) rfl
  refine gq_callV (wr := [(t, .inr (3, [.ref q_1, .int 0, .int 0])), (q_1, .inl (G.2.2 4, 20, .inr (.inr (.inr (.inr f_155)))))]) (va_runIN (As := []) (rest := [.ref q_156, .int 14, .ref q_1]) ⟨hx, hb, hml, hown, ht⟩ (c_State_init l G H.size q_156) ⟨va_cnB 0 ht (tb_good (ts_good wd_229)) rfl rfl rfl (hK.2.1 _ wn_298 rfl) (ht _ wd_125) (by decide +kernel) ⟨Nat.le_of_ble_eq_true rfl, Nat.le_of_ble_eq_true rfl⟩, rfl, ht _ wd_228⟩ (gc_preS hK hPc hDc) rfl rfl hl.1 rfl (lv_room (Nat.le_of_ble_eq_true rfl)) dX3_init_40 ⟨Nat.le_of_ble_eq_true rfl, Nat.le_of_ble_eq_true rfl⟩) hP hD hS hA [2] [0, 1] rfl rfl (by decide) (by decide) (fun u H locs hw hP hD hS => ?_)
  obtain ⟨u_157, u_158, u_159, u_160, u_161, u_162, u_163, u_164, u_165⟩ := u
  have hP : va_P (gg_D G) classes [(t, .inr (3, [.ref q_1, .int 0, .int 0])), (q_1, .inl (G.2.2 4, 20, .inr (.inr (.inr (.inr f_155))))), (q_156, .inr (7, [.ref u_157, .ref u_158, .ref u_159, .ref u_160, .ref u_161, .ref u_162, .ref u_163, .ref u_164, .ref u_165, .int 0])), (u_157, .inl (G.2.2 0, 5, .inl (fun _ => 0))), (u_158, .inl (G.2.2 0, 5, .inl (fun _ => 0))), (u_159, .inl (G.2.2 0, 5, .inl (fun _ => 0))), (u_160, .inl (G.2.2 0, 5, .inl (fun _ => 0))), (u_161, .inl (G.2.2 0, 3, .inl (fun _ => 0))), (u_162, .inl (G.2.2 0, 3, .inl (fun _ => 0))), (u_163, .inl (G.2.2 0, 3, .inl (fun _ => 0))), (u_164, .inl (G.2.2 0, 3, .inl (fun _ => 0))), (u_165, .inl (G.2.2 0, 3, .inl (fun _ => 0)))] H := hP
  have hD : va_D A [(t, .inr (3, [.ref q_1, .int 0, .int 0])), (q_1, .inl (G.2.2 4, 20, .inr (.inr (.inr (.inr f_155))))), (q_156, .inr (7, [.ref u_157, .ref u_158, .ref u_159, .ref u_160, .ref u_161, .ref u_162, .ref u_163, .ref u_164, .ref u_165, .int 0])), (u_157, .inl (G.2.2 0, 5, .inl (fun _ => 0))), (u_158, .inl (G.2.2 0, 5, .inl (fun _ => 0))), (u_159, .inl (G.2.2 0, 5, .inl (fun _ => 0))), (u_160, .inl (G.2.2 0, 5, .inl (fun _ => 0))), (u_161, .inl (G.2.2 0, 3, .inl (fun _ => 0))), (u_162, .inl (G.2.2 0, 3, .inl (fun _ => 0))), (u_163, .inl (G.2.2 0, 3, .inl (fun _ => 0))), (u_164, .inl (G.2.2 0, 3, .inl (fun _ => 0))), (u_165, .inl (G.2.2 0, 3, .inl (fun _ => 0)))] := hD
  refine W.widen (k := 151) (n := 695) (Nat.le_of_ble_eq_true rfl) (Nat.le_of_ble_eq_true rfl) ?_
  obtain ⟨f_166, ef_166⟩ : ∃ z : Nat → Option Nat, va_up f_155 (Int32.toNatClampNeg 14) (some q_156) = z := ⟨_, rfl⟩
  refine gq_aast (ws' := [(t, .inr (3, [.ref q_1, .int 0, .int 0])), (q_1, .inl (G.2.2 4, 20, .inr (.inr (.inr (.inr f_166))))), (q_156, .inr (7, [.ref u_157, .ref u_158, .ref u_159, .ref u_160, .ref u_161, .ref u_162, .ref u_163, .ref u_164, .ref u_165, .int 0])), (u_157, .inl (G.2.2 0, 5, .inl (fun _ => 0))), (u_158, .inl (G.2.2 0, 5, .inl (fun _ => 0))), (u_159, .inl (G.2.2 0, 5, .inl (fun _ => 0))), (u_160, .inl (G.2.2 0, 5, .inl (fun _ => 0))), (u_161, .inl (G.2.2 0, 3, .inl (fun _ => 0))), (u_162, .inl (G.2.2 0, 3, .inl (fun _ => 0))), (u_163, .inl (G.2.2 0, 3, .inl (fun _ => 0))), (u_164, .inl (G.2.2 0, 3, .inl (fun _ => 0))), (u_165, .inl (G.2.2 0, 3, .inl (fun _ => 0)))]) hx hb hK hP hD hS 1 4 2 7 rfl rfl rfl rfl f_166 (by unfold vp_in; decide +kernel) ef_166 rfl dX3_init_43 (fun H locs hP hD hS => ?_)
  have hP := hP.sub (ws' := [(t, .inr (3, [.ref q_1, .int 0, .int 0])), (q_1, .inl (G.2.2 4, 20, .inr (.inr (.inr (.inr f_166)))))]) [0, 1] rfl
  have hD := hD.sub (ws' := [(t, .inr (3, [.ref q_1, .int 0, .int 0])), (q_1, .inl (G.2.2 4, 20, .inr (.inr (.inr (.inr f_166)))))]) [0, 1] (by decide) rfl
  refine lv_iinc (v := 15) (lv' := [(1, .int 15), (0, .ref t)]) hx hb dX3_init_44 hl (k := 0) rfl (by decide +kernel) (by decide) rfl (fun ls hl => ?_)
  refine lv_goto (tgt := 25) hx hb dX3_init_47 (by decide) ?_
  refine lv_iload_n hx hb dX3_init_25 rfl (lv_at hl 0 rfl) ?_
  refine lv_bipush (v := 20) hx hb dX3_init_26 (by decide +kernel) ?_
  refine lv_icmp_ge (tgt := 50) hx hb dX3_init_28 (by decide) (fun c0 => absurd c0 (by decide +kernel)) (fun _ => ?_)
  refine lv_aload_n hx hb dX3_init_31 rfl (lv_at hl 1 rfl) ?_
  refine gq_get hx hb ht hown hK hP i_X3 0 rfl rfl 0 (by decide) wd_299 rfl rfl dX3_init_32 ?_
  refine lv_iload_n hx hb dX3_init_35 rfl (lv_at hl 0 rfl) ?_
  refine gq_new (ci := 7) hx hb ht hown i_X7 tyX7 tyX7_ok wd_296 wd_226 wd_125 hK hP hD hS hA rfl [.null, .null, .null, .null, .null, .null, .null, .null, .null, .int 0] df_X7 152 705 (Nat.le_of_ble_eq_true rfl) (Nat.le_of_ble_eq_true rfl) (Nat.le_of_ble_eq_true rfl) (Nat.le_of_ble_eq_true rfl) dX3_init_36 (fun q_167 H hP hD hS => ?_)
  have hP : va_P (gg_D G) classes [(t, .inr (3, [.ref q_1, .int 0, .int 0])), (q_1, .inl (G.2.2 4, 20, .inr (.inr (.inr (.inr f_166))))), (q_167, .inr (7, [.null, .null, .null, .null, .null, .null, .null, .null, .null, .int 0]))] H := hP
  have hD : va_D A [(t, .inr (3, [.ref q_1, .int 0, .int 0])), (q_1, .inl (G.2.2 4, 20, .inr (.inr (.inr (.inr f_166))))), (q_167, .inr (7, [.null, .null, .null, .null, .null, .null, .null, .null, .null, .int 0]))] := hD
  refine lv_dup hx hb dX3_init_39 rfl ?_
  have hPc := hP.sub (ws' := [(q_167, .inr (7, [.null, .null, .null, .null, .null, .null, .null, .null, .null, .int 0]))]) [2] rfl
  have hDc := hD.sub (ws' := [(q_167, .inr (7, [.null, .null, .null, .null, .null, .null, .null, .null, .null, .int 0]))]) [2] (by decide) rfl
  refine gq_callV (wr := [(t, .inr (3, [.ref q_1, .int 0, .int 0])), (q_1, .inl (G.2.2 4, 20, .inr (.inr (.inr (.inr f_166)))))]) (va_runIN (As := []) (rest := [.ref q_167, .int 15, .ref q_1]) ⟨hx, hb, hml, hown, ht⟩ (c_State_init l G H.size q_167) ⟨va_cnB 0 ht (tb_good (ts_good wd_229)) rfl rfl rfl (hK.2.1 _ wn_298 rfl) (ht _ wd_125) (by decide +kernel) ⟨Nat.le_of_ble_eq_true rfl, Nat.le_of_ble_eq_true rfl⟩, rfl, ht _ wd_228⟩ (gc_preS hK hPc hDc) rfl rfl hl.1 rfl (lv_room (Nat.le_of_ble_eq_true rfl)) dX3_init_40 ⟨Nat.le_of_ble_eq_true rfl, Nat.le_of_ble_eq_true rfl⟩) hP hD hS hA [2] [0, 1] rfl rfl (by decide) (by decide) (fun u H locs hw hP hD hS => ?_)
  obtain ⟨u_168, u_169, u_170, u_171, u_172, u_173, u_174, u_175, u_176⟩ := u
  have hP : va_P (gg_D G) classes [(t, .inr (3, [.ref q_1, .int 0, .int 0])), (q_1, .inl (G.2.2 4, 20, .inr (.inr (.inr (.inr f_166))))), (q_167, .inr (7, [.ref u_168, .ref u_169, .ref u_170, .ref u_171, .ref u_172, .ref u_173, .ref u_174, .ref u_175, .ref u_176, .int 0])), (u_168, .inl (G.2.2 0, 5, .inl (fun _ => 0))), (u_169, .inl (G.2.2 0, 5, .inl (fun _ => 0))), (u_170, .inl (G.2.2 0, 5, .inl (fun _ => 0))), (u_171, .inl (G.2.2 0, 5, .inl (fun _ => 0))), (u_172, .inl (G.2.2 0, 3, .inl (fun _ => 0))), (u_173, .inl (G.2.2 0, 3, .inl (fun _ => 0))), (u_174, .inl (G.2.2 0, 3, .inl (fun _ => 0))), (u_175, .inl (G.2.2 0, 3, .inl (fun _ => 0))), (u_176, .inl (G.2.2 0, 3, .inl (fun _ => 0)))] H := hP
  have hD : va_D A [(t, .inr (3, [.ref q_1, .int 0, .int 0])), (q_1, .inl (G.2.2 4, 20, .inr (.inr (.inr (.inr f_166))))), (q_167, .inr (7, [.ref u_168, .ref u_169, .ref u_170, .ref u_171, .ref u_172, .ref u_173, .ref u_174, .ref u_175, .ref u_176, .int 0])), (u_168, .inl (G.2.2 0, 5, .inl (fun _ => 0))), (u_169, .inl (G.2.2 0, 5, .inl (fun _ => 0))), (u_170, .inl (G.2.2 0, 5, .inl (fun _ => 0))), (u_171, .inl (G.2.2 0, 5, .inl (fun _ => 0))), (u_172, .inl (G.2.2 0, 3, .inl (fun _ => 0))), (u_173, .inl (G.2.2 0, 3, .inl (fun _ => 0))), (u_174, .inl (G.2.2 0, 3, .inl (fun _ => 0))), (u_175, .inl (G.2.2 0, 3, .inl (fun _ => 0))), (u_176, .inl (G.2.2 0, 3, .inl (fun _ => 0)))] := hD
  refine W.widen (k := 161) (n := 740) (Nat.le_of_ble_eq_true rfl) (Nat.le_of_ble_eq_true rfl) ?_
  obtain ⟨f_177, ef_177⟩ : ∃ z : Nat → Option Nat, va_up f_166 (Int32.toNatClampNeg 15) (some q_167) = z := ⟨_, rfl⟩
  refine gq_aast (ws' := [(t, .inr (3, [.ref q_1, .int 0, .int 0])), (q_1, .inl (G.2.2 4, 20, .inr (.inr (.inr (.inr f_177))))), (q_167, .inr (7, [.ref u_168, .ref u_169, .ref u_170, .ref u_171, .ref u_172, .ref u_173, .ref u_174, .ref u_175, .ref u_176, .int 0])), (u_168, .inl (G.2.2 0, 5, .inl (fun _ => 0))), (u_169, .inl (G.2.2 0, 5, .inl (fun _ => 0))), (u_170, .inl (G.2.2 0, 5, .inl (fun _ => 0))), (u_171, .inl (G.2.2 0, 5, .inl (fun _ => 0))), (u_172, .inl (G.2.2 0, 3, .inl (fun _ => 0))), (u_173, .inl (G.2.2 0, 3, .inl (fun _ => 0))), (u_174, .inl (G.2.2 0, 3, .inl (fun _ => 0))), (u_175, .inl (G.2.2 0, 3, .inl (fun _ => 0))), (u_176, .inl (G.2.2 0, 3, .inl (fun _ => 0)))]) hx hb hK hP hD hS 1 4 2 7 rfl rfl rfl rfl f_177 (by unfold vp_in; decide +kernel) ef_177 rfl dX3_init_43 (fun H locs hP hD hS => ?_)
  have hP := hP.sub (ws' := [(t, .inr (3, [.ref q_1, .int 0, .int 0])), (q_1, .inl (G.2.2 4, 20, .inr (.inr (.inr (.inr f_177)))))]) [0, 1] rfl
  have hD := hD.sub (ws' := [(t, .inr (3, [.ref q_1, .int 0, .int 0])), (q_1, .inl (G.2.2 4, 20, .inr (.inr (.inr (.inr f_177)))))]) [0, 1] (by decide) rfl
  refine lv_iinc (v := 16) (lv' := [(1, .int 16), (0, .ref t)]) hx hb dX3_init_44 hl (k := 0) rfl (by decide +kernel) (by decide) rfl (fun ls hl => ?_)
  refine lv_goto (tgt := 25) hx hb dX3_init_47 (by decide) ?_
  refine lv_iload_n hx hb dX3_init_25 rfl (lv_at hl 0 rfl) ?_
  refine lv_bipush (v := 20) hx hb dX3_init_26 (by decide +kernel) ?_
  refine lv_icmp_ge (tgt := 50) hx hb dX3_init_28 (by decide) (fun c0 => absurd c0 (by decide +kernel)) (fun _ => ?_)
  refine lv_aload_n hx hb dX3_init_31 rfl (lv_at hl 1 rfl) ?_
  refine gq_get hx hb ht hown hK hP i_X3 0 rfl rfl 0 (by decide) wd_299 rfl rfl dX3_init_32 ?_
  refine lv_iload_n hx hb dX3_init_35 rfl (lv_at hl 0 rfl) ?_
  refine gq_new (ci := 7) hx hb ht hown i_X7 tyX7 tyX7_ok wd_296 wd_226 wd_125 hK hP hD hS hA rfl [.null, .null, .null, .null, .null, .null, .null, .null, .null, .int 0] df_X7 162 750 (Nat.le_of_ble_eq_true rfl) (Nat.le_of_ble_eq_true rfl) (Nat.le_of_ble_eq_true rfl) (Nat.le_of_ble_eq_true rfl) dX3_init_36 (fun q_178 H hP hD hS => ?_)
  have hP : va_P (gg_D G) classes [(t, .inr (3, [.ref q_1, .int 0, .int 0])), (q_1, .inl (G.2.2 4, 20, .inr (.inr (.inr (.inr f_177))))), (q_178, .inr (7, [.null, .null, .null, .null, .null, .null, .null, .null, .null, .int 0]))] H := hP
  have hD : va_D A [(t, .inr (3, [.ref q_1, .int 0, .int 0])), (q_1, .inl (G.2.2 4, 20, .inr (.inr (.inr (.inr f_177))))), (q_178, .inr (7, [.null, .null, .null, .null, .null, .null, .null, .null, .null, .int 0]))] := hD
  refine lv_dup hx hb dX3_init_39 rfl ?_
  have hPc := hP.sub (ws' := [(q_178, .inr (7, [.null, .null, .null, .null, .null, .null, .null, .null, .null, .int 0]))]) [2] rfl
  have hDc := hD.sub (ws' := [(q_178, .inr (7, [.null, .null, .null, .null, .null, .null, .null, .null, .null, .int 0]))]) [2] (by decide) rfl
  refine gq_callV (wr := [(t, .inr (3, [.ref q_1, .int 0, .int 0])), (q_1, .inl (G.2.2 4, 20, .inr (.inr (.inr (.inr f_177)))))]) (va_runIN (As := []) (rest := [.ref q_178, .int 16, .ref q_1]) ⟨hx, hb, hml, hown, ht⟩ (c_State_init l G H.size q_178) ⟨va_cnB 0 ht (tb_good (ts_good wd_229)) rfl rfl rfl (hK.2.1 _ wn_298 rfl) (ht _ wd_125) (by decide +kernel) ⟨Nat.le_of_ble_eq_true rfl, Nat.le_of_ble_eq_true rfl⟩, rfl, ht _ wd_228⟩ (gc_preS hK hPc hDc) rfl rfl hl.1 rfl (lv_room (Nat.le_of_ble_eq_true rfl)) dX3_init_40 ⟨Nat.le_of_ble_eq_true rfl, Nat.le_of_ble_eq_true rfl⟩) hP hD hS hA [2] [0, 1] rfl rfl (by decide) (by decide) (fun u H locs hw hP hD hS => ?_)
  obtain ⟨u_179, u_180, u_181, u_182, u_183, u_184, u_185, u_186, u_187⟩ := u
  have hP : va_P (gg_D G) classes [(t, .inr (3, [.ref q_1, .int 0, .int 0])), (q_1, .inl (G.2.2 4, 20, .inr (.inr (.inr (.inr f_177))))), (q_178, .inr (7, [.ref u_179, .ref u_180, .ref u_181, .ref u_182, .ref u_183, .ref u_184, .ref u_185, .ref u_186, .ref u_187, .int 0])), (u_179, .inl (G.2.2 0, 5, .inl (fun _ => 0))), (u_180, .inl (G.2.2 0, 5, .inl (fun _ => 0))), (u_181, .inl (G.2.2 0, 5, .inl (fun _ => 0))), (u_182, .inl (G.2.2 0, 5, .inl (fun _ => 0))), (u_183, .inl (G.2.2 0, 3, .inl (fun _ => 0))), (u_184, .inl (G.2.2 0, 3, .inl (fun _ => 0))), (u_185, .inl (G.2.2 0, 3, .inl (fun _ => 0))), (u_186, .inl (G.2.2 0, 3, .inl (fun _ => 0))), (u_187, .inl (G.2.2 0, 3, .inl (fun _ => 0)))] H := hP
  have hD : va_D A [(t, .inr (3, [.ref q_1, .int 0, .int 0])), (q_1, .inl (G.2.2 4, 20, .inr (.inr (.inr (.inr f_177))))), (q_178, .inr (7, [.ref u_179, .ref u_180, .ref u_181, .ref u_182, .ref u_183, .ref u_184, .ref u_185, .ref u_186, .ref u_187, .int 0])), (u_179, .inl (G.2.2 0, 5, .inl (fun _ => 0))), (u_180, .inl (G.2.2 0, 5, .inl (fun _ => 0))), (u_181, .inl (G.2.2 0, 5, .inl (fun _ => 0))), (u_182, .inl (G.2.2 0, 5, .inl (fun _ => 0))), (u_183, .inl (G.2.2 0, 3, .inl (fun _ => 0))), (u_184, .inl (G.2.2 0, 3, .inl (fun _ => 0))), (u_185, .inl (G.2.2 0, 3, .inl (fun _ => 0))), (u_186, .inl (G.2.2 0, 3, .inl (fun _ => 0))), (u_187, .inl (G.2.2 0, 3, .inl (fun _ => 0)))] := hD
  refine W.widen (k := 171) (n := 785) (Nat.le_of_ble_eq_true rfl) (Nat.le_of_ble_eq_true rfl) ?_
  obtain ⟨f_188, ef_188⟩ : ∃ z : Nat → Option Nat, va_up f_177 (Int32.toNatClampNeg 16) (some q_178) = z := ⟨_, rfl⟩
  refine gq_aast (ws' := [(t, .inr (3, [.ref q_1, .int 0, .int 0])), (q_1, .inl (G.2.2 4, 20, .inr (.inr (.inr (.inr f_188))))), (q_178, .inr (7, [.ref u_179, .ref u_180, .ref u_181, .ref u_182, .ref u_183, .ref u_184, .ref u_185, .ref u_186, .ref u_187, .int 0])), (u_179, .inl (G.2.2 0, 5, .inl (fun _ => 0))), (u_180, .inl (G.2.2 0, 5, .inl (fun _ => 0))), (u_181, .inl (G.2.2 0, 5, .inl (fun _ => 0))), (u_182, .inl (G.2.2 0, 5, .inl (fun _ => 0))), (u_183, .inl (G.2.2 0, 3, .inl (fun _ => 0))), (u_184, .inl (G.2.2 0, 3, .inl (fun _ => 0))), (u_185, .inl (G.2.2 0, 3, .inl (fun _ => 0))), (u_186, .inl (G.2.2 0, 3, .inl (fun _ => 0))), (u_187, .inl (G.2.2 0, 3, .inl (fun _ => 0)))]) hx hb hK hP hD hS 1 4 2 7 rfl rfl rfl rfl f_188 (by unfold vp_in; decide +kernel) ef_188 rfl dX3_init_43 (fun H locs hP hD hS => ?_)
  have hP := hP.sub (ws' := [(t, .inr (3, [.ref q_1, .int 0, .int 0])), (q_1, .inl (G.2.2 4, 20, .inr (.inr (.inr (.inr f_188)))))]) [0, 1] rfl
  have hD := hD.sub (ws' := [(t, .inr (3, [.ref q_1, .int 0, .int 0])), (q_1, .inl (G.2.2 4, 20, .inr (.inr (.inr (.inr f_188)))))]) [0, 1] (by decide) rfl
  refine lv_iinc (v := 17) (lv' := [(1, .int 17), (0, .ref t)]) hx hb dX3_init_44 hl (k := 0) rfl (by decide +kernel) (by decide) rfl (fun ls hl => ?_)
  refine lv_goto (tgt := 25) hx hb dX3_init_47 (by decide) ?_
  refine lv_iload_n hx hb dX3_init_25 rfl (lv_at hl 0 rfl) ?_
  refine lv_bipush (v := 20) hx hb dX3_init_26 (by decide +kernel) ?_
  refine lv_icmp_ge (tgt := 50) hx hb dX3_init_28 (by decide) (fun c0 => absurd c0 (by decide +kernel)) (fun _ => ?_)
  refine lv_aload_n hx hb dX3_init_31 rfl (lv_at hl 1 rfl) ?_
  refine gq_get hx hb ht hown hK hP i_X3 0 rfl rfl 0 (by decide) wd_299 rfl rfl dX3_init_32 ?_
  refine lv_iload_n hx hb dX3_init_35 rfl (lv_at hl 0 rfl) ?_
  refine gq_new (ci := 7) hx hb ht hown i_X7 tyX7 tyX7_ok wd_296 wd_226 wd_125 hK hP hD hS hA rfl [.null, .null, .null, .null, .null, .null, .null, .null, .null, .int 0] df_X7 172 795 (Nat.le_of_ble_eq_true rfl) (Nat.le_of_ble_eq_true rfl) (Nat.le_of_ble_eq_true rfl) (Nat.le_of_ble_eq_true rfl) dX3_init_36 (fun q_189 H hP hD hS => ?_)
  have hP : va_P (gg_D G) classes [(t, .inr (3, [.ref q_1, .int 0, .int 0])), (q_1, .inl (G.2.2 4, 20, .inr (.inr (.inr (.inr f_188))))), (q_189, .inr (7, [.null, .null, .null, .null, .null, .null, .null, .null, .null, .int 0]))] H := hP
  have hD : va_D A [(t, .inr (3, [.ref q_1, .int 0, .int 0])), (q_1, .inl (G.2.2 4, 20, .inr (.inr (.inr (.inr f_188))))), (q_189, .inr (7, [.null, .null, .null, .null, .null, .null, .null, .null, .null, .int 0]))] := hD
  refine lv_dup hx hb dX3_init_39 rfl ?_
  have hPc := hP.sub (ws' := [(q_189, .inr (7, [.null, .null, .null, .null, .null, .null, .null, .null, .null, .int 0]))]) [2] rfl
  have hDc := hD.sub (ws' := [(q_189, .inr (7, [.null, .null, .null, .null, .null, .null, .null, .null, .null, .int 0]))]) [2] (by decide) rfl
  refine gq_callV (wr := [(t, .inr (3, [.ref q_1, .int 0, .int 0])), (q_1, .inl (G.2.2 4, 20, .inr (.inr (.inr (.inr f_188)))))]) (va_runIN (As := []) (rest := [.ref q_189, .int 17, .ref q_1]) ⟨hx, hb, hml, hown, ht⟩ (c_State_init l G H.size q_189) ⟨va_cnB 0 ht (tb_good (ts_good wd_229)) rfl rfl rfl (hK.2.1 _ wn_298 rfl) (ht _ wd_125) (by decide +kernel) ⟨Nat.le_of_ble_eq_true rfl, Nat.le_of_ble_eq_true rfl⟩, rfl, ht _ wd_228⟩ (gc_preS hK hPc hDc) rfl rfl hl.1 rfl (lv_room (Nat.le_of_ble_eq_true rfl)) dX3_init_40 ⟨Nat.le_of_ble_eq_true rfl, Nat.le_of_ble_eq_true rfl⟩) hP hD hS hA [2] [0, 1] rfl rfl (by decide) (by decide) (fun u H locs hw hP hD hS => ?_)
  obtain ⟨u_190, u_191, u_192, u_193, u_194, u_195, u_196, u_197, u_198⟩ := u
  have hP : va_P (gg_D G) classes [(t, .inr (3, [.ref q_1, .int 0, .int 0])), (q_1, .inl (G.2.2 4, 20, .inr (.inr (.inr (.inr f_188))))), (q_189, .inr (7, [.ref u_190, .ref u_191, .ref u_192, .ref u_193, .ref u_194, .ref u_195, .ref u_196, .ref u_197, .ref u_198, .int 0])), (u_190, .inl (G.2.2 0, 5, .inl (fun _ => 0))), (u_191, .inl (G.2.2 0, 5, .inl (fun _ => 0))), (u_192, .inl (G.2.2 0, 5, .inl (fun _ => 0))), (u_193, .inl (G.2.2 0, 5, .inl (fun _ => 0))), (u_194, .inl (G.2.2 0, 3, .inl (fun _ => 0))), (u_195, .inl (G.2.2 0, 3, .inl (fun _ => 0))), (u_196, .inl (G.2.2 0, 3, .inl (fun _ => 0))), (u_197, .inl (G.2.2 0, 3, .inl (fun _ => 0))), (u_198, .inl (G.2.2 0, 3, .inl (fun _ => 0)))] H := hP
  have hD : va_D A [(t, .inr (3, [.ref q_1, .int 0, .int 0])), (q_1, .inl (G.2.2 4, 20, .inr (.inr (.inr (.inr f_188))))), (q_189, .inr (7, [.ref u_190, .ref u_191, .ref u_192, .ref u_193, .ref u_194, .ref u_195, .ref u_196, .ref u_197, .ref u_198, .int 0])), (u_190, .inl (G.2.2 0, 5, .inl (fun _ => 0))), (u_191, .inl (G.2.2 0, 5, .inl (fun _ => 0))), (u_192, .inl (G.2.2 0, 5, .inl (fun _ => 0))), (u_193, .inl (G.2.2 0, 5, .inl (fun _ => 0))), (u_194, .inl (G.2.2 0, 3, .inl (fun _ => 0))), (u_195, .inl (G.2.2 0, 3, .inl (fun _ => 0))), (u_196, .inl (G.2.2 0, 3, .inl (fun _ => 0))), (u_197, .inl (G.2.2 0, 3, .inl (fun _ => 0))), (u_198, .inl (G.2.2 0, 3, .inl (fun _ => 0)))] := hD
  refine W.widen (k := 181) (n := 830) (Nat.le_of_ble_eq_true rfl) (Nat.le_of_ble_eq_true rfl) ?_
  obtain ⟨f_199, ef_199⟩ : ∃ z : Nat → Option Nat, va_up f_188 (Int32.toNatClampNeg 17) (some q_189) = z := ⟨_, rfl⟩
  refine gq_aast (ws' := [(t, .inr (3, [.ref q_1, .int 0, .int 0])), (q_1, .inl (G.2.2 4, 20, .inr (.inr (.inr (.inr f_199))))), (q_189, .inr (7, [.ref u_190, .ref u_191, .ref u_192, .ref u_193, .ref u_194, .ref u_195, .ref u_196, .ref u_197, .ref u_198, .int 0])), (u_190, .inl (G.2.2 0, 5, .inl (fun _ => 0))), (u_191, .inl (G.2.2 0, 5, .inl (fun _ => 0))), (u_192, .inl (G.2.2 0, 5, .inl (fun _ => 0))), (u_193, .inl (G.2.2 0, 5, .inl (fun _ => 0))), (u_194, .inl (G.2.2 0, 3, .inl (fun _ => 0))), (u_195, .inl (G.2.2 0, 3, .inl (fun _ => 0))), (u_196, .inl (G.2.2 0, 3, .inl (fun _ => 0))), (u_197, .inl (G.2.2 0, 3, .inl (fun _ => 0))), (u_198, .inl (G.2.2 0, 3, .inl (fun _ => 0)))]) hx hb hK hP hD hS 1 4 2 7 rfl rfl rfl rfl f_199 (by unfold vp_in; decide +kernel) ef_199 rfl dX3_init_43 (fun H locs hP hD hS => ?_)
  have hP := hP.sub (ws' := [(t, .inr (3, [.ref q_1, .int 0, .int 0])), (q_1, .inl (G.2.2 4, 20, .inr (.inr (.inr (.inr f_199)))))]) [0, 1] rfl
  have hD := hD.sub (ws' := [(t, .inr (3, [.ref q_1, .int 0, .int 0])), (q_1, .inl (G.2.2 4, 20, .inr (.inr (.inr (.inr f_199)))))]) [0, 1] (by decide) rfl
  refine lv_iinc (v := 18) (lv' := [(1, .int 18), (0, .ref t)]) hx hb dX3_init_44 hl (k := 0) rfl (by decide +kernel) (by decide) rfl (fun ls hl => ?_)
  refine lv_goto (tgt := 25) hx hb dX3_init_47 (by decide) ?_
  refine lv_iload_n hx hb dX3_init_25 rfl (lv_at hl 0 rfl) ?_
  refine lv_bipush (v := 20) hx hb dX3_init_26 (by decide +kernel) ?_
  refine lv_icmp_ge (tgt := 50) hx hb dX3_init_28 (by decide) (fun c0 => absurd c0 (by decide +kernel)) (fun _ => ?_)
  refine lv_aload_n hx hb dX3_init_31 rfl (lv_at hl 1 rfl) ?_
  refine gq_get hx hb ht hown hK hP i_X3 0 rfl rfl 0 (by decide) wd_299 rfl rfl dX3_init_32 ?_
  refine lv_iload_n hx hb dX3_init_35 rfl (lv_at hl 0 rfl) ?_
  refine gq_new (ci := 7) hx hb ht hown i_X7 tyX7 tyX7_ok wd_296 wd_226 wd_125 hK hP hD hS hA rfl [.null, .null, .null, .null, .null, .null, .null, .null, .null, .int 0] df_X7 182 840 (Nat.le_of_ble_eq_true rfl) (Nat.le_of_ble_eq_true rfl) (Nat.le_of_ble_eq_true rfl) (Nat.le_of_ble_eq_true rfl) dX3_init_36 (fun q_200 H hP hD hS => ?_)
  have hP : va_P (gg_D G) classes [(t, .inr (3, [.ref q_1, .int 0, .int 0])), (q_1, .inl (G.2.2 4, 20, .inr (.inr (.inr (.inr f_199))))), (q_200, .inr (7, [.null, .null, .null, .null, .null, .null, .null, .null, .null, .int 0]))] H := hP
  have hD : va_D A [(t, .inr (3, [.ref q_1, .int 0, .int 0])), (q_1, .inl (G.2.2 4, 20, .inr (.inr (.inr (.inr f_199))))), (q_200, .inr (7, [.null, .null, .null, .null, .null, .null, .null, .null, .null, .int 0]))] := hD
  refine lv_dup hx hb dX3_init_39 rfl ?_
  have hPc := hP.sub (ws' := [(q_200, .inr (7, [.null, .null, .null, .null, .null, .null, .null, .null, .null, .int 0]))]) [2] rfl
  have hDc := hD.sub (ws' := [(q_200, .inr (7, [.null, .null, .null, .null, .null, .null, .null, .null, .null, .int 0]))]) [2] (by decide) rfl
  refine gq_callV (wr := [(t, .inr (3, [.ref q_1, .int 0, .int 0])), (q_1, .inl (G.2.2 4, 20, .inr (.inr (.inr (.inr f_199)))))]) (va_runIN (As := []) (rest := [.ref q_200, .int 18, .ref q_1]) ⟨hx, hb, hml, hown, ht⟩ (c_State_init l G H.size q_200) ⟨va_cnB 0 ht (tb_good (ts_good wd_229)) rfl rfl rfl (hK.2.1 _ wn_298 rfl) (ht _ wd_125) (by decide +kernel) ⟨Nat.le_of_ble_eq_true rfl, Nat.le_of_ble_eq_true rfl⟩, rfl, ht _ wd_228⟩ (gc_preS hK hPc hDc) rfl rfl hl.1 rfl (lv_room (Nat.le_of_ble_eq_true rfl)) dX3_init_40 ⟨Nat.le_of_ble_eq_true rfl, Nat.le_of_ble_eq_true rfl⟩) hP hD hS hA [2] [0, 1] rfl rfl (by decide) (by decide) (fun u H locs hw hP hD hS => ?_)
  obtain ⟨u_201, u_202, u_203, u_204, u_205, u_206, u_207, u_208, u_209⟩ := u
  have hP : va_P (gg_D G) classes [(t, .inr (3, [.ref q_1, .int 0, .int 0])), (q_1, .inl (G.2.2 4, 20, .inr (.inr (.inr (.inr f_199))))), (q_200, .inr (7, [.ref u_201, .ref u_202, .ref u_203, .ref u_204, .ref u_205, .ref u_206, .ref u_207, .ref u_208, .ref u_209, .int 0])), (u_201, .inl (G.2.2 0, 5, .inl (fun _ => 0))), (u_202, .inl (G.2.2 0, 5, .inl (fun _ => 0))), (u_203, .inl (G.2.2 0, 5, .inl (fun _ => 0))), (u_204, .inl (G.2.2 0, 5, .inl (fun _ => 0))), (u_205, .inl (G.2.2 0, 3, .inl (fun _ => 0))), (u_206, .inl (G.2.2 0, 3, .inl (fun _ => 0))), (u_207, .inl (G.2.2 0, 3, .inl (fun _ => 0))), (u_208, .inl (G.2.2 0, 3, .inl (fun _ => 0))), (u_209, .inl (G.2.2 0, 3, .inl (fun _ => 0)))] H := hP
  have hD : va_D A [(t, .inr (3, [.ref q_1, .int 0, .int 0])), (q_1, .inl (G.2.2 4, 20, .inr (.inr (.inr (.inr f_199))))), (q_200, .inr (7, [.ref u_201, .ref u_202, .ref u_203, .ref u_204, .ref u_205, .ref u_206, .ref u_207, .ref u_208, .ref u_209, .int 0])), (u_201, .inl (G.2.2 0, 5, .inl (fun _ => 0))), (u_202, .inl (G.2.2 0, 5, .inl (fun _ => 0))), (u_203, .inl (G.2.2 0, 5, .inl (fun _ => 0))), (u_204, .inl (G.2.2 0, 5, .inl (fun _ => 0))), (u_205, .inl (G.2.2 0, 3, .inl (fun _ => 0))), (u_206, .inl (G.2.2 0, 3, .inl (fun _ => 0))), (u_207, .inl (G.2.2 0, 3, .inl (fun _ => 0))), (u_208, .inl (G.2.2 0, 3, .inl (fun _ => 0))), (u_209, .inl (G.2.2 0, 3, .inl (fun _ => 0)))] := hD
  refine W.widen (k := 191) (n := 875) (Nat.le_of_ble_eq_true rfl) (Nat.le_of_ble_eq_true rfl) ?_
  obtain ⟨f_210, ef_210⟩ : ∃ z : Nat → Option Nat, va_up f_199 (Int32.toNatClampNeg 18) (some q_200) = z := ⟨_, rfl⟩
  refine gq_aast (ws' := [(t, .inr (3, [.ref q_1, .int 0, .int 0])), (q_1, .inl (G.2.2 4, 20, .inr (.inr (.inr (.inr f_210))))), (q_200, .inr (7, [.ref u_201, .ref u_202, .ref u_203, .ref u_204, .ref u_205, .ref u_206, .ref u_207, .ref u_208, .ref u_209, .int 0])), (u_201, .inl (G.2.2 0, 5, .inl (fun _ => 0))), (u_202, .inl (G.2.2 0, 5, .inl (fun _ => 0))), (u_203, .inl (G.2.2 0, 5, .inl (fun _ => 0))), (u_204, .inl (G.2.2 0, 5, .inl (fun _ => 0))), (u_205, .inl (G.2.2 0, 3, .inl (fun _ => 0))), (u_206, .inl (G.2.2 0, 3, .inl (fun _ => 0))), (u_207, .inl (G.2.2 0, 3, .inl (fun _ => 0))), (u_208, .inl (G.2.2 0, 3, .inl (fun _ => 0))), (u_209, .inl (G.2.2 0, 3, .inl (fun _ => 0)))]) hx hb hK hP hD hS 1 4 2 7 rfl rfl rfl rfl f_210 (by unfold vp_in; decide +kernel) ef_210 rfl dX3_init_43 (fun H locs hP hD hS => ?_)
  have hP := hP.sub (ws' := [(t, .inr (3, [.ref q_1, .int 0, .int 0])), (q_1, .inl (G.2.2 4, 20, .inr (.inr (.inr (.inr f_210)))))]) [0, 1] rfl
  have hD := hD.sub (ws' := [(t, .inr (3, [.ref q_1, .int 0, .int 0])), (q_1, .inl (G.2.2 4, 20, .inr (.inr (.inr (.inr f_210)))))]) [0, 1] (by decide) rfl
  refine lv_iinc (v := 19) (lv' := [(1, .int 19), (0, .ref t)]) hx hb dX3_init_44 hl (k := 0) rfl (by decide +kernel) (by decide) rfl (fun ls hl => ?_)
  refine lv_goto (tgt := 25) hx hb dX3_init_47 (by decide) ?_
  refine lv_iload_n hx hb dX3_init_25 rfl (lv_at hl 0 rfl) ?_
  refine lv_bipush (v := 20) hx hb dX3_init_26 (by decide +kernel) ?_
  refine lv_icmp_ge (tgt := 50) hx hb dX3_init_28 (by decide) (fun c0 => absurd c0 (by decide +kernel)) (fun _ => ?_)
  refine lv_aload_n hx hb dX3_init_31 rfl (lv_at hl 1 rfl) ?_
  refine gq_get hx hb ht hown hK hP i_X3 0 rfl rfl 0 (by decide) wd_299 rfl rfl dX3_init_32 ?_
  refine lv_iload_n hx hb dX3_init_35 rfl (lv_at hl 0 rfl) ?_
  refine gq_new (ci := 7) hx hb ht hown i_X7 tyX7 tyX7_ok wd_296 wd_226 wd_125 hK hP hD hS hA rfl [.null, .null, .null, .null, .null, .null, .null, .null, .null, .int 0] df_X7 192 885 (Nat.le_of_ble_eq_true rfl) (Nat.le_of_ble_eq_true rfl) (Nat.le_of_ble_eq_true rfl) (Nat.le_of_ble_eq_true rfl) dX3_init_36 (fun q_211 H hP hD hS => ?_)
  have hP : va_P (gg_D G) classes [(t, .inr (3, [.ref q_1, .int 0, .int 0])), (q_1, .inl (G.2.2 4, 20, .inr (.inr (.inr (.inr f_210))))), (q_211, .inr (7, [.null, .null, .null, .null, .null, .null, .null, .null, .null, .int 0]))] H := hP
  have hD : va_D A [(t, .inr (3, [.ref q_1, .int 0, .int 0])), (q_1, .inl (G.2.2 4, 20, .inr (.inr (.inr (.inr f_210))))), (q_211, .inr (7, [.null, .null, .null, .null, .null, .null, .null, .null, .null, .int 0]))] := hD
  refine lv_dup hx hb dX3_init_39 rfl ?_
  have hPc := hP.sub (ws' := [(q_211, .inr (7, [.null, .null, .null, .null, .null, .null, .null, .null, .null, .int 0]))]) [2] rfl
  have hDc := hD.sub (ws' := [(q_211, .inr (7, [.null, .null, .null, .null, .null, .null, .null, .null, .null, .int 0]))]) [2] (by decide) rfl
  refine gq_callV (wr := [(t, .inr (3, [.ref q_1, .int 0, .int 0])), (q_1, .inl (G.2.2 4, 20, .inr (.inr (.inr (.inr f_210)))))]) (va_runIN (As := []) (rest := [.ref q_211, .int 19, .ref q_1]) ⟨hx, hb, hml, hown, ht⟩ (c_State_init l G H.size q_211) ⟨va_cnB 0 ht (tb_good (ts_good wd_229)) rfl rfl rfl (hK.2.1 _ wn_298 rfl) (ht _ wd_125) (by decide +kernel) ⟨Nat.le_of_ble_eq_true rfl, Nat.le_of_ble_eq_true rfl⟩, rfl, ht _ wd_228⟩ (gc_preS hK hPc hDc) rfl rfl hl.1 rfl (lv_room (Nat.le_of_ble_eq_true rfl)) dX3_init_40 ⟨Nat.le_of_ble_eq_true rfl, Nat.le_of_ble_eq_true rfl⟩) hP hD hS hA [2] [0, 1] rfl rfl (by decide) (by decide) (fun u H locs hw hP hD hS => ?_)
  obtain ⟨u_212, u_213, u_214, u_215, u_216, u_217, u_218, u_219, u_220⟩ := u
  have hP : va_P (gg_D G) classes [(t, .inr (3, [.ref q_1, .int 0, .int 0])), (q_1, .inl (G.2.2 4, 20, .inr (.inr (.inr (.inr f_210))))), (q_211, .inr (7, [.ref u_212, .ref u_213, .ref u_214, .ref u_215, .ref u_216, .ref u_217, .ref u_218, .ref u_219, .ref u_220, .int 0])), (u_212, .inl (G.2.2 0, 5, .inl (fun _ => 0))), (u_213, .inl (G.2.2 0, 5, .inl (fun _ => 0))), (u_214, .inl (G.2.2 0, 5, .inl (fun _ => 0))), (u_215, .inl (G.2.2 0, 5, .inl (fun _ => 0))), (u_216, .inl (G.2.2 0, 3, .inl (fun _ => 0))), (u_217, .inl (G.2.2 0, 3, .inl (fun _ => 0))), (u_218, .inl (G.2.2 0, 3, .inl (fun _ => 0))), (u_219, .inl (G.2.2 0, 3, .inl (fun _ => 0))), (u_220, .inl (G.2.2 0, 3, .inl (fun _ => 0)))] H := hP
  have hD : va_D A [(t, .inr (3, [.ref q_1, .int 0, .int 0])), (q_1, .inl (G.2.2 4, 20, .inr (.inr (.inr (.inr f_210))))), (q_211, .inr (7, [.ref u_212, .ref u_213, .ref u_214, .ref u_215, .ref u_216, .ref u_217, .ref u_218, .ref u_219, .ref u_220, .int 0])), (u_212, .inl (G.2.2 0, 5, .inl (fun _ => 0))), (u_213, .inl (G.2.2 0, 5, .inl (fun _ => 0))), (u_214, .inl (G.2.2 0, 5, .inl (fun _ => 0))), (u_215, .inl (G.2.2 0, 5, .inl (fun _ => 0))), (u_216, .inl (G.2.2 0, 3, .inl (fun _ => 0))), (u_217, .inl (G.2.2 0, 3, .inl (fun _ => 0))), (u_218, .inl (G.2.2 0, 3, .inl (fun _ => 0))), (u_219, .inl (G.2.2 0, 3, .inl (fun _ => 0))), (u_220, .inl (G.2.2 0, 3, .inl (fun _ => 0)))] := hD
  refine W.widen (k := 201) (n := 920) (Nat.le_of_ble_eq_true rfl) (Nat.le_of_ble_eq_true rfl) ?_
  obtain ⟨f_221, ef_221⟩ : ∃ z : Nat → Option Nat, va_up f_210 (Int32.toNatClampNeg 19) (some q_211) = z := ⟨_, rfl⟩
  refine gq_aast (ws' := [(t, .inr (3, [.ref q_1, .int 0, .int 0])), (q_1, .inl (G.2.2 4, 20, .inr (.inr (.inr (.inr f_221))))), (q_211, .inr (7, [.ref u_212, .ref u_213, .ref u_214, .ref u_215, .ref u_216, .ref u_217, .ref u_218, .ref u_219, .ref u_220, .int 0])), (u_212, .inl (G.2.2 0, 5, .inl (fun _ => 0))), (u_213, .inl (G.2.2 0, 5, .inl (fun _ => 0))), (u_214, .inl (G.2.2 0, 5, .inl (fun _ => 0))), (u_215, .inl (G.2.2 0, 5, .inl (fun _ => 0))), (u_216, .inl (G.2.2 0, 3, .inl (fun _ => 0))), (u_217, .inl (G.2.2 0, 3, .inl (fun _ => 0))), (u_218, .inl (G.2.2 0, 3, .inl (fun _ => 0))), (u_219, .inl (G.2.2 0, 3, .inl (fun _ => 0))), (u_220, .inl (G.2.2 0, 3, .inl (fun _ => 0)))]) hx hb hK hP hD hS 1 4 2 7 rfl rfl rfl rfl f_221 (by unfold vp_in; decide +kernel) ef_221 rfl dX3_init_43 (fun H locs hP hD hS => ?_)
  have hP := hP.sub (ws' := [(t, .inr (3, [.ref q_1, .int 0, .int 0])), (q_1, .inl (G.2.2 4, 20, .inr (.inr (.inr (.inr f_221)))))]) [0, 1] rfl
  have hD := hD.sub (ws' := [(t, .inr (3, [.ref q_1, .int 0, .int 0])), (q_1, .inl (G.2.2 4, 20, .inr (.inr (.inr (.inr f_221)))))]) [0, 1] (by decide) rfl
  refine lv_iinc (v := 20) (lv' := [(1, .int 20), (0, .ref t)]) hx hb dX3_init_44 hl (k := 0) rfl (by decide +kernel) (by decide) rfl (fun ls hl => ?_)
  refine lv_goto (tgt := 25) hx hb dX3_init_47 (by decide) ?_
  refine lv_iload_n hx hb dX3_init_25 rfl (lv_at hl 0 rfl) ?_
  refine lv_bipush (v := 20) hx hb dX3_init_26 (by decide +kernel) ?_
  refine lv_icmp_ge (tgt := 50) hx hb dX3_init_28 (by decide) (fun _ => ?_) (fun c0 => absurd (by decide +kernel) c0)
  have hP9 := hP.sub (ws' := [(t, .inr (3, [.ref q_1, .int 0, .int 0]))]) [0] rfl
  have hD9 := hD.sub (ws' := [(t, .inr (3, [.ref q_1, .int 0, .int 0]))]) [0] (by decide) rfl
  refine W.widen (k := 201) (n := 920) (Nat.le_of_ble_eq_true rfl) (Nat.le_of_ble_eq_true rfl) ?_
  exact W.vret hx hb hr (gq_endV (q_1) trivial hP9 hD9 hS) hS.2.2 dX3_init_50
set_option maxHeartbeats 4000000 in
set_option maxRecDepth 100000 in
theorem c_Image_init (l : Launch) (G : gg_T) (sz : Nat) (t : Nat) : Met l yX1_init (ts_L yX1_init cX1_init 1 none) ({ frames := 2, cells := 20, slots := 119, locals := 32 }) (gc_P G [(t, .inr (1, [.null, .null, .null, .int 0, .int 0, .int 0]))] sz [.ref t]) (gc_V G (va_A [(t, .inr (1, [.null, .null, .null, .int 0, .int 0, .int 0]))] sz) (fun (_ : (Nat → Nat)) => True) (fun (u : (Nat → Nat)) => match u with | ad => [(t, .inr (1, [.ref (ad 1), .ref (ad 2), .ref (ad 3), .int 0, .int (-1), .int 0])), ((ad 1), .inr (9, [.int 0, .int 0, .int 0, .int 0, .ref (ad 4), .ref (ad 5), .ref (ad 6), .ref (ad 7), .ref (ad 8)])), ((ad 4), .inl (G.2.2 0, 5, .inl (fun _ => 0))), ((ad 5), .inl (G.2.2 0, 5, .inl (fun _ => 0))), ((ad 6), .inl (G.2.2 0, 15, .inl (fun _ => 0))), ((ad 7), .inl (G.2.2 0, 3, .inl (fun _ => 0))), ((ad 8), .inl (G.2.2 0, 3, .inl (fun _ => 0))), ((ad 2), .inr (7, [.ref (ad 9), .ref (ad 10), .ref (ad 11), .ref (ad 12), .ref (ad 13), .ref (ad 14), .ref (ad 15), .ref (ad 16), .ref (ad 17), .int 0])), ((ad 9), .inl (G.2.2 0, 5, .inl (fun _ => 0))), ((ad 10), .inl (G.2.2 0, 5, .inl (fun _ => 0))), ((ad 11), .inl (G.2.2 0, 5, .inl (fun _ => 0))), ((ad 12), .inl (G.2.2 0, 5, .inl (fun _ => 0))), ((ad 13), .inl (G.2.2 0, 3, .inl (fun _ => 0))), ((ad 14), .inl (G.2.2 0, 3, .inl (fun _ => 0))), ((ad 15), .inl (G.2.2 0, 3, .inl (fun _ => 0))), ((ad 16), .inl (G.2.2 0, 3, .inl (fun _ => 0))), ((ad 17), .inl (G.2.2 0, 3, .inl (fun _ => 0))), ((ad 3), .inr (2, [.ref (ad 18), .ref (ad 19), .ref (ad 20), .int 0])), ((ad 18), .inl (G.2.2 0, 10, .inl (fun _ => 0))), ((ad 19), .inl (G.2.2 0, 10, .inl (fun _ => 0))), ((ad 20), .inl (G.2.2 0, 10, .inl (fun _ => 0)))])) 20 119 (va_A [(t, .inr (1, [.null, .null, .null, .int 0, .int 0, .int 0]))] sz) := by
  refine Met.ofW (cc := cX1_init) (maxL := 1) (ret := none) (by decide) rfl ?_
  intro p e s m args below meth c s₁ B hml hv
  obtain ⟨rfl, hsz, hP, hK, hD0⟩ := hv
  have hx := B.exec
  have hb := B.bytes
  have hr := B.returns
  have ht := ts_ht (atoms_spec (ws := ts_L yX1_init cX1_init 1 none) B.pre)
  have hown : s.vm.findClass RX1 = some m.cls := findClass_of_methodNamed B.named
  have hlocks := B.notSynchronized
  have hin : meth.name = "<init>" := (name_of_methodNamed B.named B.method).1
  subst hsz
  have hD := hD0.self (sz := s.heap.size)
  generalize hAe : va_A [(t, .inr (1, [.null, .null, .null, .int 0, .int 0, .int 0]))] s.heap.size = A at hD ⊢
  have hA : ∀ q : Nat, s.heap.size ≤ q → A q := fun q h => by rw [← hAe]; exact Or.inr h
  have hS : va_S A s.heap s.heap [] := va_S.rf
  have hl := lv_entry ([.ref t]) (n := 1) (Nat.le_of_ble_eq_true rfl)
  rw [lg_entry_eq]
  generalize (lg_sl ([.ref t]) ++ List.replicate (1 - (lg_sl ([.ref t])).length) Slot.unset).toArray = ls at hl ⊢
  have hl : lv_has ls 1 [(0, .ref t)] := hl
  refine lv_aload_n hx hb dX1_init_0 rfl (lv_at hl 0 rfl) ?_
  refine W.objInit hx hb hown (ht _ wd_372) (ht _ wd_148) (ht _ wd_149) rfl (by rw [hml]; exact hl.1) rfl dX1_init_1 (Nat.le_of_ble_eq_true rfl) (Nat.le_of_ble_eq_true rfl) ?_
  refine W.eq (g2 := F0 m 4 ls []) rfl ?_
  refine lv_aload_n hx hb dX1_init_4 rfl (lv_at hl 0 rfl) ?_
  refine gq_new (ci := 9) hx hb ht hown i_X9 tyX9 tyX9_ok wd_373 wd_174 wd_124 hK hP hD hS hA rfl [.int 0, .int 0, .int 0, .int 0, .null, .null, .null, .null, .null] df_X9 1 9 (Nat.le_of_ble_eq_true rfl) (Nat.le_of_ble_eq_true rfl) (Nat.le_of_ble_eq_true rfl) (Nat.le_of_ble_eq_true rfl) dX1_init_5 (fun q_1 H hP hD hS => ?_)
  have hP : va_P (gg_D G) classes [(t, .inr (1, [.null, .null, .null, .int 0, .int 0, .int 0])), (q_1, .inr (9, [.int 0, .int 0, .int 0, .int 0, .null, .null, .null, .null, .null]))] H := hP
  have hD : va_D A [(t, .inr (1, [.null, .null, .null, .int 0, .int 0, .int 0])), (q_1, .inr (9, [.int 0, .int 0, .int 0, .int 0, .null, .null, .null, .null, .null]))] := hD
  refine lv_dup hx hb dX1_init_8 rfl ?_
  have hPc := hP.sub (ws' := [(q_1, .inr (9, [.int 0, .int 0, .int 0, .int 0, .null, .null, .null, .null, .null]))]) [1] rfl
  have hDc := hD.sub (ws' := [(q_1, .inr (9, [.int 0, .int 0, .int 0, .int 0, .null, .null, .null, .null, .null]))]) [1] (by decide) rfl
  refine gq_callV (wr := [(t, .inr (1, [.null, .null, .null, .int 0, .int 0, .int 0]))]) (va_runIN (As := []) (rest := [.ref q_1, .ref t]) ⟨hx, hb, hml, hown, ht⟩ (c_Terms_init l G H.size q_1) ⟨va_cnB 0 ht (tb_good (ts_good wd_177)) rfl rfl rfl (hK.2.1 _ wn_374 rfl) (ht _ wd_124) (by decide +kernel) ⟨Nat.le_of_ble_eq_true rfl, Nat.le_of_ble_eq_true rfl⟩, rfl, ht _ wd_176⟩ (gc_preS hK hPc hDc) rfl rfl hl.1 rfl (lv_room (Nat.le_of_ble_eq_true rfl)) dX1_init_9 ⟨Nat.le_of_ble_eq_true rfl, Nat.le_of_ble_eq_true rfl⟩) hP hD hS hA [1] [0] rfl rfl (by decide) (by decide) (fun u H locs hw hP hD hS => ?_)
  obtain ⟨u_2, u_3, u_4, u_5, u_6⟩ := u
  have hP : va_P (gg_D G) classes [(t, .inr (1, [.null, .null, .null, .int 0, .int 0, .int 0])), (q_1, .inr (9, [.int 0, .int 0, .int 0, .int 0, .ref u_2, .ref u_3, .ref u_4, .ref u_5, .ref u_6])), (u_2, .inl (G.2.2 0, 5, .inl (fun _ => 0))), (u_3, .inl (G.2.2 0, 5, .inl (fun _ => 0))), (u_4, .inl (G.2.2 0, 15, .inl (fun _ => 0))), (u_5, .inl (G.2.2 0, 3, .inl (fun _ => 0))), (u_6, .inl (G.2.2 0, 3, .inl (fun _ => 0)))] H := hP
  have hD : va_D A [(t, .inr (1, [.null, .null, .null, .int 0, .int 0, .int 0])), (q_1, .inr (9, [.int 0, .int 0, .int 0, .int 0, .ref u_2, .ref u_3, .ref u_4, .ref u_5, .ref u_6])), (u_2, .inl (G.2.2 0, 5, .inl (fun _ => 0))), (u_3, .inl (G.2.2 0, 5, .inl (fun _ => 0))), (u_4, .inl (G.2.2 0, 15, .inl (fun _ => 0))), (u_5, .inl (G.2.2 0, 3, .inl (fun _ => 0))), (u_6, .inl (G.2.2 0, 3, .inl (fun _ => 0)))] := hD
  refine W.widen (k := 6) (n := 40) (Nat.le_of_ble_eq_true rfl) (Nat.le_of_ble_eq_true rfl) ?_
  refine gq_putF (ws' := [(t, .inr (1, [.ref q_1, .null, .null, .int 0, .int 0, .int 0])), (q_1, .inr (9, [.int 0, .int 0, .int 0, .int 0, .ref u_2, .ref u_3, .ref u_4, .ref u_5, .ref u_6])), (u_2, .inl (G.2.2 0, 5, .inl (fun _ => 0))), (u_3, .inl (G.2.2 0, 5, .inl (fun _ => 0))), (u_4, .inl (G.2.2 0, 15, .inl (fun _ => 0))), (u_5, .inl (G.2.2 0, 3, .inl (fun _ => 0))), (u_6, .inl (G.2.2 0, 3, .inl (fun _ => 0)))]) hx hb ht hown hin hK hP hD hS i_X1 tyX1 tyX1_ok nmX1 0 rfl rfl 0 (by decide) wd_379 rfl rfl rfl rfl (Nat.le_of_ble_eq_true rfl) rfl dX1_init_12 (fun H locs hP hD hS => ?_)
  refine lv_aload_n hx hb dX1_init_15 rfl (lv_at hl 0 rfl) ?_
  refine gq_new (ci := 7) hx hb ht hown i_X7 tyX7 tyX7_ok wd_375 wd_226 wd_125 hK hP hD hS hA rfl [.null, .null, .null, .null, .null, .null, .null, .null, .null, .int 0] df_X7 7 50 (Nat.le_of_ble_eq_true rfl) (Nat.le_of_ble_eq_true rfl) (Nat.le_of_ble_eq_true rfl) (Nat.le_of_ble_eq_true rfl) dX1_init_16 (fun q_7 H hP hD hS => ?_)
  have hP : va_P (gg_D G) classes [(t, .inr (1, [.ref q_1, .null, .null, .int 0, .int 0, .int 0])), (q_1, .inr (9, [.int 0, .int 0, .int 0, .int 0, .ref u_2, .ref u_3, .ref u_4, .ref u_5, .ref u_6])), (u_2, .inl (G.2.2 0, 5, .inl (fun _ => 0))), (u_3, .inl (G.2.2 0, 5, .inl (fun _ => 0))), (u_4, .inl (G.2.2 0, 15, .inl (fun _ => 0))), (u_5, .inl (G.2.2 0, 3, .inl (fun _ => 0))), (u_6, .inl (G.2.2 0, 3, .inl (fun _ => 0))), (q_7, .inr (7, [.null, .null, .null, .null, .null, .null, .null, .null, .null, .int 0]))] H := hP
  have hD : va_D A [(t, .inr (1, [.ref q_1, .null, .null, .int 0, .int 0, .int 0])), (q_1, .inr (9, [.int 0, .int 0, .int 0, .int 0, .ref u_2, .ref u_3, .ref u_4, .ref u_5, .ref u_6])), (u_2, .inl (G.2.2 0, 5, .inl (fun _ => 0))), (u_3, .inl (G.2.2 0, 5, .inl (fun _ => 0))), (u_4, .inl (G.2.2 0, 15, .inl (fun _ => 0))), (u_5, .inl (G.2.2 0, 3, .inl (fun _ => 0))), (u_6, .inl (G.2.2 0, 3, .inl (fun _ => 0))), (q_7, .inr (7, [.null, .null, .null, .null, .null, .null, .null, .null, .null, .int 0]))] := hD
  refine lv_dup hx hb dX1_init_19 rfl ?_
  have hPc := hP.sub (ws' := [(q_7, .inr (7, [.null, .null, .null, .null, .null, .null, .null, .null, .null, .int 0]))]) [7] rfl
  have hDc := hD.sub (ws' := [(q_7, .inr (7, [.null, .null, .null, .null, .null, .null, .null, .null, .null, .int 0]))]) [7] (by decide) rfl
  refine gq_callV (wr := [(t, .inr (1, [.ref q_1, .null, .null, .int 0, .int 0, .int 0])), (q_1, .inr (9, [.int 0, .int 0, .int 0, .int 0, .ref u_2, .ref u_3, .ref u_4, .ref u_5, .ref u_6])), (u_2, .inl (G.2.2 0, 5, .inl (fun _ => 0))), (u_3, .inl (G.2.2 0, 5, .inl (fun _ => 0))), (u_4, .inl (G.2.2 0, 15, .inl (fun _ => 0))), (u_5, .inl (G.2.2 0, 3, .inl (fun _ => 0))), (u_6, .inl (G.2.2 0, 3, .inl (fun _ => 0)))]) (va_runIN (As := []) (rest := [.ref q_7, .ref t]) ⟨hx, hb, hml, hown, ht⟩ (c_State_init l G H.size q_7) ⟨va_cnB 0 ht (tb_good (ts_good wd_229)) rfl rfl rfl (hK.2.1 _ wn_376 rfl) (ht _ wd_125) (by decide +kernel) ⟨Nat.le_of_ble_eq_true rfl, Nat.le_of_ble_eq_true rfl⟩, rfl, ht _ wd_228⟩ (gc_preS hK hPc hDc) rfl rfl hl.1 rfl (lv_room (Nat.le_of_ble_eq_true rfl)) dX1_init_20 ⟨Nat.le_of_ble_eq_true rfl, Nat.le_of_ble_eq_true rfl⟩) hP hD hS hA [7] [0, 1, 2, 3, 4, 5, 6] rfl rfl (by decide) (by decide) (fun u H locs hw hP hD hS => ?_)
  obtain ⟨u_8, u_9, u_10, u_11, u_12, u_13, u_14, u_15, u_16⟩ := u
  have hP : va_P (gg_D G) classes [(t, .inr (1, [.ref q_1, .null, .null, .int 0, .int 0, .int 0])), (q_1, .inr (9, [.int 0, .int 0, .int 0, .int 0, .ref u_2, .ref u_3, .ref u_4, .ref u_5, .ref u_6])), (u_2, .inl (G.2.2 0, 5, .inl (fun _ => 0))), (u_3, .inl (G.2.2 0, 5, .inl (fun _ => 0))), (u_4, .inl (G.2.2 0, 15, .inl (fun _ => 0))), (u_5, .inl (G.2.2 0, 3, .inl (fun _ => 0))), (u_6, .inl (G.2.2 0, 3, .inl (fun _ => 0))), (q_7, .inr (7, [.ref u_8, .ref u_9, .ref u_10, .ref u_11, .ref u_12, .ref u_13, .ref u_14, .ref u_15, .ref u_16, .int 0])), (u_8, .inl (G.2.2 0, 5, .inl (fun _ => 0))), (u_9, .inl (G.2.2 0, 5, .inl (fun _ => 0))), (u_10, .inl (G.2.2 0, 5, .inl (fun _ => 0))), (u_11, .inl (G.2.2 0, 5, .inl (fun _ => 0))), (u_12, .inl (G.2.2 0, 3, .inl (fun _ => 0))), (u_13, .inl (G.2.2 0, 3, .inl (fun _ => 0))), (u_14, .inl (G.2.2 0, 3, .inl (fun _ => 0))), (u_15, .inl (G.2.2 0, 3, .inl (fun _ => 0))), (u_16, .inl (G.2.2 0, 3, .inl (fun _ => 0)))] H := hP
  have hD : va_D A [(t, .inr (1, [.ref q_1, .null, .null, .int 0, .int 0, .int 0])), (q_1, .inr (9, [.int 0, .int 0, .int 0, .int 0, .ref u_2, .ref u_3, .ref u_4, .ref u_5, .ref u_6])), (u_2, .inl (G.2.2 0, 5, .inl (fun _ => 0))), (u_3, .inl (G.2.2 0, 5, .inl (fun _ => 0))), (u_4, .inl (G.2.2 0, 15, .inl (fun _ => 0))), (u_5, .inl (G.2.2 0, 3, .inl (fun _ => 0))), (u_6, .inl (G.2.2 0, 3, .inl (fun _ => 0))), (q_7, .inr (7, [.ref u_8, .ref u_9, .ref u_10, .ref u_11, .ref u_12, .ref u_13, .ref u_14, .ref u_15, .ref u_16, .int 0])), (u_8, .inl (G.2.2 0, 5, .inl (fun _ => 0))), (u_9, .inl (G.2.2 0, 5, .inl (fun _ => 0))), (u_10, .inl (G.2.2 0, 5, .inl (fun _ => 0))), (u_11, .inl (G.2.2 0, 5, .inl (fun _ => 0))), (u_12, .inl (G.2.2 0, 3, .inl (fun _ => 0))), (u_13, .inl (G.2.2 0, 3, .inl (fun _ => 0))), (u_14, .inl (G.2.2 0, 3, .inl (fun _ => 0))), (u_15, .inl (G.2.2 0, 3, .inl (fun _ => 0))), (u_16, .inl (G.2.2 0, 3, .inl (fun _ => 0)))] := hD
  refine W.widen (k := 16) (n := 85) (Nat.le_of_ble_eq_true rfl) (Nat.le_of_ble_eq_true rfl) ?_
  refine gq_putF (ws' := [(t, .inr (1, [.ref q_1, .ref q_7, .null, .int 0, .int 0, .int 0])), (q_1, .inr (9, [.int 0, .int 0, .int 0, .int 0, .ref u_2, .ref u_3, .ref u_4, .ref u_5, .ref u_6])), (u_2, .inl (G.2.2 0, 5, .inl (fun _ => 0))), (u_3, .inl (G.2.2 0, 5, .inl (fun _ => 0))), (u_4, .inl (G.2.2 0, 15, .inl (fun _ => 0))), (u_5, .inl (G.2.2 0, 3, .inl (fun _ => 0))), (u_6, .inl (G.2.2 0, 3, .inl (fun _ => 0))), (q_7, .inr (7, [.ref u_8, .ref u_9, .ref u_10, .ref u_11, .ref u_12, .ref u_13, .ref u_14, .ref u_15, .ref u_16, .int 0])), (u_8, .inl (G.2.2 0, 5, .inl (fun _ => 0))), (u_9, .inl (G.2.2 0, 5, .inl (fun _ => 0))), (u_10, .inl (G.2.2 0, 5, .inl (fun _ => 0))), (u_11, .inl (G.2.2 0, 5, .inl (fun _ => 0))), (u_12, .inl (G.2.2 0, 3, .inl (fun _ => 0))), (u_13, .inl (G.2.2 0, 3, .inl (fun _ => 0))), (u_14, .inl (G.2.2 0, 3, .inl (fun _ => 0))), (u_15, .inl (G.2.2 0, 3, .inl (fun _ => 0))), (u_16, .inl (G.2.2 0, 3, .inl (fun _ => 0)))]) hx hb ht hown hin hK hP hD hS i_X1 tyX1 tyX1_ok nmX1 0 rfl rfl 1 (by decide) wd_380 rfl rfl rfl rfl (Nat.le_of_ble_eq_true rfl) rfl dX1_init_23 (fun H locs hP hD hS => ?_)
  refine lv_aload_n hx hb dX1_init_26 rfl (lv_at hl 0 rfl) ?_
  refine gq_new (ci := 2) hx hb ht hown i_X2 tyX2 tyX2_ok wd_377 wd_311 wd_127 hK hP hD hS hA rfl [.null, .null, .null, .int 0] df_X2 17 89 (Nat.le_of_ble_eq_true rfl) (Nat.le_of_ble_eq_true rfl) (Nat.le_of_ble_eq_true rfl) (Nat.le_of_ble_eq_true rfl) dX1_init_27 (fun q_17 H hP hD hS => ?_)
  have hP : va_P (gg_D G) classes [(t, .inr (1, [.ref q_1, .ref q_7, .null, .int 0, .int 0, .int 0])), (q_1, .inr (9, [.int 0, .int 0, .int 0, .int 0, .ref u_2, .ref u_3, .ref u_4, .ref u_5, .ref u_6])), (u_2, .inl (G.2.2 0, 5, .inl (fun _ => 0))), (u_3, .inl (G.2.2 0, 5, .inl (fun _ => 0))), (u_4, .inl (G.2.2 0, 15, .inl (fun _ => 0))), (u_5, .inl (G.2.2 0, 3, .inl (fun _ => 0))), (u_6, .inl (G.2.2 0, 3, .inl (fun _ => 0))), (q_7, .inr (7, [.ref u_8, .ref u_9, .ref u_10, .ref u_11, .ref u_12, .ref u_13, .ref u_14, .ref u_15, .ref u_16, .int 0])), (u_8, .inl (G.2.2 0, 5, .inl (fun _ => 0))), (u_9, .inl (G.2.2 0, 5, .inl (fun _ => 0))), (u_10, .inl (G.2.2 0, 5, .inl (fun _ => 0))), (u_11, .inl (G.2.2 0, 5, .inl (fun _ => 0))), (u_12, .inl (G.2.2 0, 3, .inl (fun _ => 0))), (u_13, .inl (G.2.2 0, 3, .inl (fun _ => 0))), (u_14, .inl (G.2.2 0, 3, .inl (fun _ => 0))), (u_15, .inl (G.2.2 0, 3, .inl (fun _ => 0))), (u_16, .inl (G.2.2 0, 3, .inl (fun _ => 0))), (q_17, .inr (2, [.null, .null, .null, .int 0]))] H := hP
  have hD : va_D A [(t, .inr (1, [.ref q_1, .ref q_7, .null, .int 0, .int 0, .int 0])), (q_1, .inr (9, [.int 0, .int 0, .int 0, .int 0, .ref u_2, .ref u_3, .ref u_4, .ref u_5, .ref u_6])), (u_2, .inl (G.2.2 0, 5, .inl (fun _ => 0))), (u_3, .inl (G.2.2 0, 5, .inl (fun _ => 0))), (u_4, .inl (G.2.2 0, 15, .inl (fun _ => 0))), (u_5, .inl (G.2.2 0, 3, .inl (fun _ => 0))), (u_6, .inl (G.2.2 0, 3, .inl (fun _ => 0))), (q_7, .inr (7, [.ref u_8, .ref u_9, .ref u_10, .ref u_11, .ref u_12, .ref u_13, .ref u_14, .ref u_15, .ref u_16, .int 0])), (u_8, .inl (G.2.2 0, 5, .inl (fun _ => 0))), (u_9, .inl (G.2.2 0, 5, .inl (fun _ => 0))), (u_10, .inl (G.2.2 0, 5, .inl (fun _ => 0))), (u_11, .inl (G.2.2 0, 5, .inl (fun _ => 0))), (u_12, .inl (G.2.2 0, 3, .inl (fun _ => 0))), (u_13, .inl (G.2.2 0, 3, .inl (fun _ => 0))), (u_14, .inl (G.2.2 0, 3, .inl (fun _ => 0))), (u_15, .inl (G.2.2 0, 3, .inl (fun _ => 0))), (u_16, .inl (G.2.2 0, 3, .inl (fun _ => 0))), (q_17, .inr (2, [.null, .null, .null, .int 0]))] := hD
  refine lv_dup hx hb dX1_init_30 rfl ?_
  have hPc := hP.sub (ws' := [(q_17, .inr (2, [.null, .null, .null, .int 0]))]) [17] rfl
  have hDc := hD.sub (ws' := [(q_17, .inr (2, [.null, .null, .null, .int 0]))]) [17] (by decide) rfl
  refine gq_callV (wr := [(t, .inr (1, [.ref q_1, .ref q_7, .null, .int 0, .int 0, .int 0])), (q_1, .inr (9, [.int 0, .int 0, .int 0, .int 0, .ref u_2, .ref u_3, .ref u_4, .ref u_5, .ref u_6])), (u_2, .inl (G.2.2 0, 5, .inl (fun _ => 0))), (u_3, .inl (G.2.2 0, 5, .inl (fun _ => 0))), (u_4, .inl (G.2.2 0, 15, .inl (fun _ => 0))), (u_5, .inl (G.2.2 0, 3, .inl (fun _ => 0))), (u_6, .inl (G.2.2 0, 3, .inl (fun _ => 0))), (q_7, .inr (7, [.ref u_8, .ref u_9, .ref u_10, .ref u_11, .ref u_12, .ref u_13, .ref u_14, .ref u_15, .ref u_16, .int 0])), (u_8, .inl (G.2.2 0, 5, .inl (fun _ => 0))), (u_9, .inl (G.2.2 0, 5, .inl (fun _ => 0))), (u_10, .inl (G.2.2 0, 5, .inl (fun _ => 0))), (u_11, .inl (G.2.2 0, 5, .inl (fun _ => 0))), (u_12, .inl (G.2.2 0, 3, .inl (fun _ => 0))), (u_13, .inl (G.2.2 0, 3, .inl (fun _ => 0))), (u_14, .inl (G.2.2 0, 3, .inl (fun _ => 0))), (u_15, .inl (G.2.2 0, 3, .inl (fun _ => 0))), (u_16, .inl (G.2.2 0, 3, .inl (fun _ => 0)))]) (va_runIN (As := []) (rest := [.ref q_17, .ref t]) ⟨hx, hb, hml, hown, ht⟩ (c_Logs_init l G H.size q_17) ⟨va_cnB 0 ht (tb_good (ts_good wd_314)) rfl rfl rfl (hK.2.1 _ wn_378 rfl) (ht _ wd_127) (by decide +kernel) ⟨Nat.le_of_ble_eq_true rfl, Nat.le_of_ble_eq_true rfl⟩, rfl, ht _ wd_313⟩ (gc_preS hK hPc hDc) rfl rfl hl.1 rfl (lv_room (Nat.le_of_ble_eq_true rfl)) dX1_init_31 ⟨Nat.le_of_ble_eq_true rfl, Nat.le_of_ble_eq_true rfl⟩) hP hD hS hA [17] [0, 1, 2, 3, 4, 5, 6, 7, 8, 9, 10, 11, 12, 13, 14, 15, 16] rfl rfl (by decide) (by decide) (fun u H locs hw hP hD hS => ?_)
  obtain ⟨u_18, u_19, u_20⟩ := u
  have hP : va_P (gg_D G) classes [(t, .inr (1, [.ref q_1, .ref q_7, .null, .int 0, .int 0, .int 0])), (q_1, .inr (9, [.int 0, .int 0, .int 0, .int 0, .ref u_2, .ref u_3, .ref u_4, .ref u_5, .ref u_6])), (u_2, .inl (G.2.2 0, 5, .inl (fun _ => 0))), (u_3, .inl (G.2.2 0, 5, .inl (fun _ => 0))), (u_4, .inl (G.2.2 0, 15, .inl (fun _ => 0))), (u_5, .inl (G.2.2 0, 3, .inl (fun _ => 0))), (u_6, .inl (G.2.2 0, 3, .inl (fun _ => 0))), (q_7, .inr (7, [.ref u_8, .ref u_9, .ref u_10, .ref u_11, .ref u_12, .ref u_13, .ref u_14, .ref u_15, .ref u_16, .int 0])), (u_8, .inl (G.2.2 0, 5, .inl (fun _ => 0))), (u_9, .inl (G.2.2 0, 5, .inl (fun _ => 0))), (u_10, .inl (G.2.2 0, 5, .inl (fun _ => 0))), (u_11, .inl (G.2.2 0, 5, .inl (fun _ => 0))), (u_12, .inl (G.2.2 0, 3, .inl (fun _ => 0))), (u_13, .inl (G.2.2 0, 3, .inl (fun _ => 0))), (u_14, .inl (G.2.2 0, 3, .inl (fun _ => 0))), (u_15, .inl (G.2.2 0, 3, .inl (fun _ => 0))), (u_16, .inl (G.2.2 0, 3, .inl (fun _ => 0))), (q_17, .inr (2, [.ref u_18, .ref u_19, .ref u_20, .int 0])), (u_18, .inl (G.2.2 0, 10, .inl (fun _ => 0))), (u_19, .inl (G.2.2 0, 10, .inl (fun _ => 0))), (u_20, .inl (G.2.2 0, 10, .inl (fun _ => 0)))] H := hP
  have hD : va_D A [(t, .inr (1, [.ref q_1, .ref q_7, .null, .int 0, .int 0, .int 0])), (q_1, .inr (9, [.int 0, .int 0, .int 0, .int 0, .ref u_2, .ref u_3, .ref u_4, .ref u_5, .ref u_6])), (u_2, .inl (G.2.2 0, 5, .inl (fun _ => 0))), (u_3, .inl (G.2.2 0, 5, .inl (fun _ => 0))), (u_4, .inl (G.2.2 0, 15, .inl (fun _ => 0))), (u_5, .inl (G.2.2 0, 3, .inl (fun _ => 0))), (u_6, .inl (G.2.2 0, 3, .inl (fun _ => 0))), (q_7, .inr (7, [.ref u_8, .ref u_9, .ref u_10, .ref u_11, .ref u_12, .ref u_13, .ref u_14, .ref u_15, .ref u_16, .int 0])), (u_8, .inl (G.2.2 0, 5, .inl (fun _ => 0))), (u_9, .inl (G.2.2 0, 5, .inl (fun _ => 0))), (u_10, .inl (G.2.2 0, 5, .inl (fun _ => 0))), (u_11, .inl (G.2.2 0, 5, .inl (fun _ => 0))), (u_12, .inl (G.2.2 0, 3, .inl (fun _ => 0))), (u_13, .inl (G.2.2 0, 3, .inl (fun _ => 0))), (u_14, .inl (G.2.2 0, 3, .inl (fun _ => 0))), (u_15, .inl (G.2.2 0, 3, .inl (fun _ => 0))), (u_16, .inl (G.2.2 0, 3, .inl (fun _ => 0))), (q_17, .inr (2, [.ref u_18, .ref u_19, .ref u_20, .int 0])), (u_18, .inl (G.2.2 0, 10, .inl (fun _ => 0))), (u_19, .inl (G.2.2 0, 10, .inl (fun _ => 0))), (u_20, .inl (G.2.2 0, 10, .inl (fun _ => 0)))] := hD
  refine W.widen (k := 20) (n := 119) (Nat.le_of_ble_eq_true rfl) (Nat.le_of_ble_eq_true rfl) ?_
  refine gq_putF (ws' := [(t, .inr (1, [.ref q_1, .ref q_7, .ref q_17, .int 0, .int 0, .int 0])), (q_1, .inr (9, [.int 0, .int 0, .int 0, .int 0, .ref u_2, .ref u_3, .ref u_4, .ref u_5, .ref u_6])), (u_2, .inl (G.2.2 0, 5, .inl (fun _ => 0))), (u_3, .inl (G.2.2 0, 5, .inl (fun _ => 0))), (u_4, .inl (G.2.2 0, 15, .inl (fun _ => 0))), (u_5, .inl (G.2.2 0, 3, .inl (fun _ => 0))), (u_6, .inl (G.2.2 0, 3, .inl (fun _ => 0))), (q_7, .inr (7, [.ref u_8, .ref u_9, .ref u_10, .ref u_11, .ref u_12, .ref u_13, .ref u_14, .ref u_15, .ref u_16, .int 0])), (u_8, .inl (G.2.2 0, 5, .inl (fun _ => 0))), (u_9, .inl (G.2.2 0, 5, .inl (fun _ => 0))), (u_10, .inl (G.2.2 0, 5, .inl (fun _ => 0))), (u_11, .inl (G.2.2 0, 5, .inl (fun _ => 0))), (u_12, .inl (G.2.2 0, 3, .inl (fun _ => 0))), (u_13, .inl (G.2.2 0, 3, .inl (fun _ => 0))), (u_14, .inl (G.2.2 0, 3, .inl (fun _ => 0))), (u_15, .inl (G.2.2 0, 3, .inl (fun _ => 0))), (u_16, .inl (G.2.2 0, 3, .inl (fun _ => 0))), (q_17, .inr (2, [.ref u_18, .ref u_19, .ref u_20, .int 0])), (u_18, .inl (G.2.2 0, 10, .inl (fun _ => 0))), (u_19, .inl (G.2.2 0, 10, .inl (fun _ => 0))), (u_20, .inl (G.2.2 0, 10, .inl (fun _ => 0)))]) hx hb ht hown hin hK hP hD hS i_X1 tyX1 tyX1_ok nmX1 0 rfl rfl 2 (by decide) wd_381 rfl rfl rfl rfl (Nat.le_of_ble_eq_true rfl) rfl dX1_init_34 (fun H locs hP hD hS => ?_)
  refine lv_aload_n hx hb dX1_init_37 rfl (lv_at hl 0 rfl) ?_
  refine lv_iconst (v := 0) hx hb dX1_init_38 (by decide) ?_
  refine gq_put (ws' := [(t, .inr (1, [.ref q_1, .ref q_7, .ref q_17, .int 0, .int 0, .int 0])), (q_1, .inr (9, [.int 0, .int 0, .int 0, .int 0, .ref u_2, .ref u_3, .ref u_4, .ref u_5, .ref u_6])), (u_2, .inl (G.2.2 0, 5, .inl (fun _ => 0))), (u_3, .inl (G.2.2 0, 5, .inl (fun _ => 0))), (u_4, .inl (G.2.2 0, 15, .inl (fun _ => 0))), (u_5, .inl (G.2.2 0, 3, .inl (fun _ => 0))), (u_6, .inl (G.2.2 0, 3, .inl (fun _ => 0))), (q_7, .inr (7, [.ref u_8, .ref u_9, .ref u_10, .ref u_11, .ref u_12, .ref u_13, .ref u_14, .ref u_15, .ref u_16, .int 0])), (u_8, .inl (G.2.2 0, 5, .inl (fun _ => 0))), (u_9, .inl (G.2.2 0, 5, .inl (fun _ => 0))), (u_10, .inl (G.2.2 0, 5, .inl (fun _ => 0))), (u_11, .inl (G.2.2 0, 5, .inl (fun _ => 0))), (u_12, .inl (G.2.2 0, 3, .inl (fun _ => 0))), (u_13, .inl (G.2.2 0, 3, .inl (fun _ => 0))), (u_14, .inl (G.2.2 0, 3, .inl (fun _ => 0))), (u_15, .inl (G.2.2 0, 3, .inl (fun _ => 0))), (u_16, .inl (G.2.2 0, 3, .inl (fun _ => 0))), (q_17, .inr (2, [.ref u_18, .ref u_19, .ref u_20, .int 0])), (u_18, .inl (G.2.2 0, 10, .inl (fun _ => 0))), (u_19, .inl (G.2.2 0, 10, .inl (fun _ => 0))), (u_20, .inl (G.2.2 0, 10, .inl (fun _ => 0)))]) hx hb ht hown hK hP hD hS i_X1 tyX1 tyX1_ok nmX1 0 rfl rfl 3 (by decide) wd_382 rfl rfl (by decide +kernel) (by decide +kernel) (Nat.le_of_ble_eq_true rfl) rfl dX1_init_39 (fun H locs hP hD hS => ?_)
  refine lv_aload_n hx hb dX1_init_42 rfl (lv_at hl 0 rfl) ?_
  refine lv_iconst (v := (-1)) hx hb dX1_init_43 (by decide) ?_
  refine gq_put (ws' := [(t, .inr (1, [.ref q_1, .ref q_7, .ref q_17, .int 0, .int (-1), .int 0])), (q_1, .inr (9, [.int 0, .int 0, .int 0, .int 0, .ref u_2, .ref u_3, .ref u_4, .ref u_5, .ref u_6])), (u_2, .inl (G.2.2 0, 5, .inl (fun _ => 0))), (u_3, .inl (G.2.2 0, 5, .inl (fun _ => 0))), (u_4, .inl (G.2.2 0, 15, .inl (fun _ => 0))), (u_5, .inl (G.2.2 0, 3, .inl (fun _ => 0))), (u_6, .inl (G.2.2 0, 3, .inl (fun _ => 0))), (q_7, .inr (7, [.ref u_8, .ref u_9, .ref u_10, .ref u_11, .ref u_12, .ref u_13, .ref u_14, .ref u_15, .ref u_16, .int 0])), (u_8, .inl (G.2.2 0, 5, .inl (fun _ => 0))), (u_9, .inl (G.2.2 0, 5, .inl (fun _ => 0))), (u_10, .inl (G.2.2 0, 5, .inl (fun _ => 0))), (u_11, .inl (G.2.2 0, 5, .inl (fun _ => 0))), (u_12, .inl (G.2.2 0, 3, .inl (fun _ => 0))), (u_13, .inl (G.2.2 0, 3, .inl (fun _ => 0))), (u_14, .inl (G.2.2 0, 3, .inl (fun _ => 0))), (u_15, .inl (G.2.2 0, 3, .inl (fun _ => 0))), (u_16, .inl (G.2.2 0, 3, .inl (fun _ => 0))), (q_17, .inr (2, [.ref u_18, .ref u_19, .ref u_20, .int 0])), (u_18, .inl (G.2.2 0, 10, .inl (fun _ => 0))), (u_19, .inl (G.2.2 0, 10, .inl (fun _ => 0))), (u_20, .inl (G.2.2 0, 10, .inl (fun _ => 0)))]) hx hb ht hown hK hP hD hS i_X1 tyX1 tyX1_ok nmX1 0 rfl rfl 4 (by decide) wd_384 rfl rfl rfl rfl (Nat.le_of_ble_eq_true rfl) rfl dX1_init_44 (fun H locs hP hD hS => ?_)
  refine lv_aload_n hx hb dX1_init_47 rfl (lv_at hl 0 rfl) ?_
  refine lv_iconst (v := 0) hx hb dX1_init_48 (by decide) ?_
  refine gq_put (ws' := [(t, .inr (1, [.ref q_1, .ref q_7, .ref q_17, .int 0, .int (-1), .int 0])), (q_1, .inr (9, [.int 0, .int 0, .int 0, .int 0, .ref u_2, .ref u_3, .ref u_4, .ref u_5, .ref u_6])), (u_2, .inl (G.2.2 0, 5, .inl (fun _ => 0))), (u_3, .inl (G.2.2 0, 5, .inl (fun _ => 0))), (u_4, .inl (G.2.2 0, 15, .inl (fun _ => 0))), (u_5, .inl (G.2.2 0, 3, .inl (fun _ => 0))), (u_6, .inl (G.2.2 0, 3, .inl (fun _ => 0))), (q_7, .inr (7, [.ref u_8, .ref u_9, .ref u_10, .ref u_11, .ref u_12, .ref u_13, .ref u_14, .ref u_15, .ref u_16, .int 0])), (u_8, .inl (G.2.2 0, 5, .inl (fun _ => 0))), (u_9, .inl (G.2.2 0, 5, .inl (fun _ => 0))), (u_10, .inl (G.2.2 0, 5, .inl (fun _ => 0))), (u_11, .inl (G.2.2 0, 5, .inl (fun _ => 0))), (u_12, .inl (G.2.2 0, 3, .inl (fun _ => 0))), (u_13, .inl (G.2.2 0, 3, .inl (fun _ => 0))), (u_14, .inl (G.2.2 0, 3, .inl (fun _ => 0))), (u_15, .inl (G.2.2 0, 3, .inl (fun _ => 0))), (u_16, .inl (G.2.2 0, 3, .inl (fun _ => 0))), (q_17, .inr (2, [.ref u_18, .ref u_19, .ref u_20, .int 0])), (u_18, .inl (G.2.2 0, 10, .inl (fun _ => 0))), (u_19, .inl (G.2.2 0, 10, .inl (fun _ => 0))), (u_20, .inl (G.2.2 0, 10, .inl (fun _ => 0)))]) hx hb ht hown hK hP hD hS i_X1 tyX1 tyX1_ok nmX1 0 rfl rfl 5 (by decide) wd_386 rfl rfl rfl rfl (Nat.le_of_ble_eq_true rfl) rfl dX1_init_49 (fun H locs hP hD hS => ?_)
  have hP9 := hP.sub (ws' := [(t, .inr (1, [.ref q_1, .ref q_7, .ref q_17, .int 0, .int (-1), .int 0])), (q_1, .inr (9, [.int 0, .int 0, .int 0, .int 0, .ref u_2, .ref u_3, .ref u_4, .ref u_5, .ref u_6])), (u_2, .inl (G.2.2 0, 5, .inl (fun _ => 0))), (u_3, .inl (G.2.2 0, 5, .inl (fun _ => 0))), (u_4, .inl (G.2.2 0, 15, .inl (fun _ => 0))), (u_5, .inl (G.2.2 0, 3, .inl (fun _ => 0))), (u_6, .inl (G.2.2 0, 3, .inl (fun _ => 0))), (q_7, .inr (7, [.ref u_8, .ref u_9, .ref u_10, .ref u_11, .ref u_12, .ref u_13, .ref u_14, .ref u_15, .ref u_16, .int 0])), (u_8, .inl (G.2.2 0, 5, .inl (fun _ => 0))), (u_9, .inl (G.2.2 0, 5, .inl (fun _ => 0))), (u_10, .inl (G.2.2 0, 5, .inl (fun _ => 0))), (u_11, .inl (G.2.2 0, 5, .inl (fun _ => 0))), (u_12, .inl (G.2.2 0, 3, .inl (fun _ => 0))), (u_13, .inl (G.2.2 0, 3, .inl (fun _ => 0))), (u_14, .inl (G.2.2 0, 3, .inl (fun _ => 0))), (u_15, .inl (G.2.2 0, 3, .inl (fun _ => 0))), (u_16, .inl (G.2.2 0, 3, .inl (fun _ => 0))), (q_17, .inr (2, [.ref u_18, .ref u_19, .ref u_20, .int 0])), (u_18, .inl (G.2.2 0, 10, .inl (fun _ => 0))), (u_19, .inl (G.2.2 0, 10, .inl (fun _ => 0))), (u_20, .inl (G.2.2 0, 10, .inl (fun _ => 0)))]) [0, 1, 2, 3, 4, 5, 6, 7, 8, 9, 10, 11, 12, 13, 14, 15, 16, 17, 18, 19, 20] rfl
  have hD9 := hD.sub (ws' := [(t, .inr (1, [.ref q_1, .ref q_7, .ref q_17, .int 0, .int (-1), .int 0])), (q_1, .inr (9, [.int 0, .int 0, .int 0, .int 0, .ref u_2, .ref u_3, .ref u_4, .ref u_5, .ref u_6])), (u_2, .inl (G.2.2 0, 5, .inl (fun _ => 0))), (u_3, .inl (G.2.2 0, 5, .inl (fun _ => 0))), (u_4, .inl (G.2.2 0, 15, .inl (fun _ => 0))), (u_5, .inl (G.2.2 0, 3, .inl (fun _ => 0))), (u_6, .inl (G.2.2 0, 3, .inl (fun _ => 0))), (q_7, .inr (7, [.ref u_8, .ref u_9, .ref u_10, .ref u_11, .ref u_12, .ref u_13, .ref u_14, .ref u_15, .ref u_16, .int 0])), (u_8, .inl (G.2.2 0, 5, .inl (fun _ => 0))), (u_9, .inl (G.2.2 0, 5, .inl (fun _ => 0))), (u_10, .inl (G.2.2 0, 5, .inl (fun _ => 0))), (u_11, .inl (G.2.2 0, 5, .inl (fun _ => 0))), (u_12, .inl (G.2.2 0, 3, .inl (fun _ => 0))), (u_13, .inl (G.2.2 0, 3, .inl (fun _ => 0))), (u_14, .inl (G.2.2 0, 3, .inl (fun _ => 0))), (u_15, .inl (G.2.2 0, 3, .inl (fun _ => 0))), (u_16, .inl (G.2.2 0, 3, .inl (fun _ => 0))), (q_17, .inr (2, [.ref u_18, .ref u_19, .ref u_20, .int 0])), (u_18, .inl (G.2.2 0, 10, .inl (fun _ => 0))), (u_19, .inl (G.2.2 0, 10, .inl (fun _ => 0))), (u_20, .inl (G.2.2 0, 10, .inl (fun _ => 0)))]) [0, 1, 2, 3, 4, 5, 6, 7, 8, 9, 10, 11, 12, 13, 14, 15, 16, 17, 18, 19, 20] (by decide) rfl
  refine W.widen (k := 20) (n := 119) (Nat.le_of_ble_eq_true rfl) (Nat.le_of_ble_eq_true rfl) ?_
  exact W.vret hx hb hr (gq_endV ((fun k => ([0, q_1, q_7, q_17, u_2, u_3, u_4, u_5, u_6, u_8, u_9, u_10, u_11, u_12, u_13, u_14, u_15, u_16, u_18, u_19, u_20] : List Nat).getD k 0)) trivial hP9 hD9 hS) hS.2.2 dX1_init_52
set_option maxHeartbeats 4000000 in
set_option maxRecDepth 100000 in
theorem c_Clerk_init (l : Launch) (G : gg_T) (sz : Nat) (t : Nat) : Met l yX0_init (ts_L yX0_init cX0_init 1 none) ({ frames := 2, cells := 6, slots := 40, locals := 32 }) (gc_P G [(t, .inr (0, [.null, .null, .int 0, .long 0]))] sz [.ref t]) (gc_V G (va_A [(t, .inr (0, [.null, .null, .int 0, .long 0]))] sz) (fun (_ : (Nat)) => True) (fun (u : (Nat)) => match u with | b => [(t, .inr (0, [.ref b, .null, .int 0, .long 0]))])) 6 40 (va_A [(t, .inr (0, [.null, .null, .int 0, .long 0]))] sz) := by
  refine Met.ofW (cc := cX0_init) (maxL := 1) (ret := none) (by decide) rfl ?_
  intro p e s m args below meth c s₁ B hml hv
  obtain ⟨rfl, hsz, hP, hK, hD0⟩ := hv
  have hx := B.exec
  have hb := B.bytes
  have hr := B.returns
  have ht := ts_ht (atoms_spec (ws := ts_L yX0_init cX0_init 1 none) B.pre)
  have hown : s.vm.findClass RX0 = some m.cls := findClass_of_methodNamed B.named
  have hlocks := B.notSynchronized
  have hin : meth.name = "<init>" := (name_of_methodNamed B.named B.method).1
  subst hsz
  have hD := hD0.self (sz := s.heap.size)
  generalize hAe : va_A [(t, .inr (0, [.null, .null, .int 0, .long 0]))] s.heap.size = A at hD ⊢
  have hA : ∀ q : Nat, s.heap.size ≤ q → A q := fun q h => by rw [← hAe]; exact Or.inr h
  have hS : va_S A s.heap s.heap [] := va_S.rf
  have hl := lv_entry ([.ref t]) (n := 1) (Nat.le_of_ble_eq_true rfl)
  rw [lg_entry_eq]
  generalize (lg_sl ([.ref t]) ++ List.replicate (1 - (lg_sl ([.ref t])).length) Slot.unset).toArray = ls at hl ⊢
  have hl : lv_has ls 1 [(0, .ref t)] := hl
  refine lv_aload_n hx hb dX0_init_0 rfl (lv_at hl 0 rfl) ?_
  refine W.objInit hx hb hown (ht _ wd_406) (ht _ wd_148) (ht _ wd_149) rfl (by rw [hml]; exact hl.1) rfl dX0_init_1 (Nat.le_of_ble_eq_true rfl) (Nat.le_of_ble_eq_true rfl) ?_
  refine W.eq (g2 := F0 m 4 ls []) rfl ?_
  refine lv_aload_n hx hb dX0_init_4 rfl (lv_at hl 0 rfl) ?_
  refine gq_new (ci := 9) hx hb ht hown i_X9 tyX9 tyX9_ok wd_407 wd_174 wd_124 hK hP hD hS hA rfl [.int 0, .int 0, .int 0, .int 0, .null, .null, .null, .null, .null] df_X9 1 9 (Nat.le_of_ble_eq_true rfl) (Nat.le_of_ble_eq_true rfl) (Nat.le_of_ble_eq_true rfl) (Nat.le_of_ble_eq_true rfl) dX0_init_5 (fun q_1 H hP hD hS => ?_)
  have hP : va_P (gg_D G) classes [(t, .inr (0, [.null, .null, .int 0, .long 0])), (q_1, .inr (9, [.int 0, .int 0, .int 0, .int 0, .null, .null, .null, .null, .null]))] H := hP
  have hD : va_D A [(t, .inr (0, [.null, .null, .int 0, .long 0])), (q_1, .inr (9, [.int 0, .int 0, .int 0, .int 0, .null, .null, .null, .null, .null]))] := hD
  refine lv_dup hx hb dX0_init_8 rfl ?_
  have hPc := hP.sub (ws' := [(q_1, .inr (9, [.int 0, .int 0, .int 0, .int 0, .null, .null, .null, .null, .null]))]) [1] rfl
  have hDc := hD.sub (ws' := [(q_1, .inr (9, [.int 0, .int 0, .int 0, .int 0, .null, .null, .null, .null, .null]))]) [1] (by decide) rfl
  refine gq_callV (wr := [(t, .inr (0, [.null, .null, .int 0, .long 0]))]) (va_runIN (As := []) (rest := [.ref q_1, .ref t]) ⟨hx, hb, hml, hown, ht⟩ (c_Terms_init l G H.size q_1) ⟨va_cnB 0 ht (tb_good (ts_good wd_177)) rfl rfl rfl (hK.2.1 _ wn_408 rfl) (ht _ wd_124) (by decide +kernel) ⟨Nat.le_of_ble_eq_true rfl, Nat.le_of_ble_eq_true rfl⟩, rfl, ht _ wd_176⟩ (gc_preS hK hPc hDc) rfl rfl hl.1 rfl (lv_room (Nat.le_of_ble_eq_true rfl)) dX0_init_9 ⟨Nat.le_of_ble_eq_true rfl, Nat.le_of_ble_eq_true rfl⟩) hP hD hS hA [1] [0] rfl rfl (by decide) (by decide) (fun u H locs hw hP hD hS => ?_)
  obtain ⟨u_2, u_3, u_4, u_5, u_6⟩ := u
  have hP : va_P (gg_D G) classes [(t, .inr (0, [.null, .null, .int 0, .long 0])), (q_1, .inr (9, [.int 0, .int 0, .int 0, .int 0, .ref u_2, .ref u_3, .ref u_4, .ref u_5, .ref u_6])), (u_2, .inl (G.2.2 0, 5, .inl (fun _ => 0))), (u_3, .inl (G.2.2 0, 5, .inl (fun _ => 0))), (u_4, .inl (G.2.2 0, 15, .inl (fun _ => 0))), (u_5, .inl (G.2.2 0, 3, .inl (fun _ => 0))), (u_6, .inl (G.2.2 0, 3, .inl (fun _ => 0)))] H := hP
  have hD : va_D A [(t, .inr (0, [.null, .null, .int 0, .long 0])), (q_1, .inr (9, [.int 0, .int 0, .int 0, .int 0, .ref u_2, .ref u_3, .ref u_4, .ref u_5, .ref u_6])), (u_2, .inl (G.2.2 0, 5, .inl (fun _ => 0))), (u_3, .inl (G.2.2 0, 5, .inl (fun _ => 0))), (u_4, .inl (G.2.2 0, 15, .inl (fun _ => 0))), (u_5, .inl (G.2.2 0, 3, .inl (fun _ => 0))), (u_6, .inl (G.2.2 0, 3, .inl (fun _ => 0)))] := hD
  refine W.widen (k := 6) (n := 40) (Nat.le_of_ble_eq_true rfl) (Nat.le_of_ble_eq_true rfl) ?_
  refine gq_put (ws' := [(t, .inr (0, [.ref q_1, .null, .int 0, .long 0])), (q_1, .inr (9, [.int 0, .int 0, .int 0, .int 0, .ref u_2, .ref u_3, .ref u_4, .ref u_5, .ref u_6])), (u_2, .inl (G.2.2 0, 5, .inl (fun _ => 0))), (u_3, .inl (G.2.2 0, 5, .inl (fun _ => 0))), (u_4, .inl (G.2.2 0, 15, .inl (fun _ => 0))), (u_5, .inl (G.2.2 0, 3, .inl (fun _ => 0))), (u_6, .inl (G.2.2 0, 3, .inl (fun _ => 0)))]) hx hb ht hown hK hP hD hS i_X0 tyX0 tyX0_ok nmX0 0 rfl rfl 0 (by decide) wd_409 rfl rfl rfl rfl (Nat.le_of_ble_eq_true rfl) rfl dX0_init_12 (fun H locs hP hD hS => ?_)
  refine lv_aload_n hx hb dX0_init_15 rfl (lv_at hl 0 rfl) ?_
  refine lv_null hx hb dX0_init_16 ?_
  refine gq_put (ws' := [(t, .inr (0, [.ref q_1, .null, .int 0, .long 0])), (q_1, .inr (9, [.int 0, .int 0, .int 0, .int 0, .ref u_2, .ref u_3, .ref u_4, .ref u_5, .ref u_6])), (u_2, .inl (G.2.2 0, 5, .inl (fun _ => 0))), (u_3, .inl (G.2.2 0, 5, .inl (fun _ => 0))), (u_4, .inl (G.2.2 0, 15, .inl (fun _ => 0))), (u_5, .inl (G.2.2 0, 3, .inl (fun _ => 0))), (u_6, .inl (G.2.2 0, 3, .inl (fun _ => 0)))]) hx hb ht hown hK hP hD hS i_X0 tyX0 tyX0_ok nmX0 0 rfl rfl 1 (by decide) wd_410 rfl rfl rfl rfl (Nat.le_of_ble_eq_true rfl) rfl dX0_init_17 (fun H locs hP hD hS => ?_)
  refine lv_aload_n hx hb dX0_init_20 rfl (lv_at hl 0 rfl) ?_
  refine lv_iconst (v := 0) hx hb dX0_init_21 (by decide) ?_
  refine gq_put (ws' := [(t, .inr (0, [.ref q_1, .null, .int 0, .long 0])), (q_1, .inr (9, [.int 0, .int 0, .int 0, .int 0, .ref u_2, .ref u_3, .ref u_4, .ref u_5, .ref u_6])), (u_2, .inl (G.2.2 0, 5, .inl (fun _ => 0))), (u_3, .inl (G.2.2 0, 5, .inl (fun _ => 0))), (u_4, .inl (G.2.2 0, 15, .inl (fun _ => 0))), (u_5, .inl (G.2.2 0, 3, .inl (fun _ => 0))), (u_6, .inl (G.2.2 0, 3, .inl (fun _ => 0)))]) hx hb ht hown hK hP hD hS i_X0 tyX0 tyX0_ok nmX0 0 rfl rfl 2 (by decide) wd_411 rfl rfl rfl rfl (Nat.le_of_ble_eq_true rfl) rfl dX0_init_22 (fun H locs hP hD hS => ?_)
  refine lv_aload_n hx hb dX0_init_25 rfl (lv_at hl 0 rfl) ?_
  refine lv_lconst (v := 0) hx hb dX0_init_26 (by decide +kernel) ?_
  refine gq_put (ws' := [(t, .inr (0, [.ref q_1, .null, .int 0, .long 0])), (q_1, .inr (9, [.int 0, .int 0, .int 0, .int 0, .ref u_2, .ref u_3, .ref u_4, .ref u_5, .ref u_6])), (u_2, .inl (G.2.2 0, 5, .inl (fun _ => 0))), (u_3, .inl (G.2.2 0, 5, .inl (fun _ => 0))), (u_4, .inl (G.2.2 0, 15, .inl (fun _ => 0))), (u_5, .inl (G.2.2 0, 3, .inl (fun _ => 0))), (u_6, .inl (G.2.2 0, 3, .inl (fun _ => 0)))]) hx hb ht hown hK hP hD hS i_X0 tyX0 tyX0_ok nmX0 0 rfl rfl 3 (by decide) wd_412 rfl rfl rfl rfl (Nat.le_of_ble_eq_true rfl) rfl dX0_init_27 (fun H locs hP hD hS => ?_)
  have hP9 := hP.sub (ws' := [(t, .inr (0, [.ref q_1, .null, .int 0, .long 0]))]) [0] rfl
  have hD9 := hD.sub (ws' := [(t, .inr (0, [.ref q_1, .null, .int 0, .long 0]))]) [0] (by decide) rfl
  refine W.widen (k := 6) (n := 40) (Nat.le_of_ble_eq_true rfl) (Nat.le_of_ble_eq_true rfl) ?_
  exact W.vret hx hb hr (gq_endV (q_1) trivial hP9 hD9 hS) hS.2.2 dX0_init_30
set_option maxHeartbeats 4000000 in
set_option maxRecDepth 100000 in
theorem c_Seating_init (l : Launch) (G : gg_T) (sz : Nat) (t : Nat) : Met l yX5_init (ts_L yX5_init cX5_init 1 none) ({ frames := 2, cells := 13, slots := 151, locals := 32 }) (gc_P G [(t, .inr (5, [.null, .null, .null, .null, .int 0]))] sz [.ref t]) (gc_V G (va_A [(t, .inr (5, [.null, .null, .null, .null, .int 0]))] sz) (fun (_ : Unit) => True) (fun _ => [])) 13 151 (va_A [(t, .inr (5, [.null, .null, .null, .null, .int 0]))] sz) := by
  refine Met.ofW (cc := cX5_init) (maxL := 1) (ret := none) (by decide) rfl ?_
  intro p e s m args below meth c s₁ B hml hv
  obtain ⟨rfl, hsz, hP, hK, hD0⟩ := hv
  have hx := B.exec
  have hb := B.bytes
  have hr := B.returns
  have ht := ts_ht (atoms_spec (ws := ts_L yX5_init cX5_init 1 none) B.pre)
  have hown : s.vm.findClass RX5 = some m.cls := findClass_of_methodNamed B.named
  have hlocks := B.notSynchronized
  have hin : meth.name = "<init>" := (name_of_methodNamed B.named B.method).1
  subst hsz
  have hD := hD0.self (sz := s.heap.size)
  generalize hAe : va_A [(t, .inr (5, [.null, .null, .null, .null, .int 0]))] s.heap.size = A at hD ⊢
  have hA : ∀ q : Nat, s.heap.size ≤ q → A q := fun q h => by rw [← hAe]; exact Or.inr h
  have hS : va_S A s.heap s.heap [] := va_S.rf
  have hl := lv_entry ([.ref t]) (n := 1) (Nat.le_of_ble_eq_true rfl)
  rw [lg_entry_eq]
  generalize (lg_sl ([.ref t]) ++ List.replicate (1 - (lg_sl ([.ref t])).length) Slot.unset).toArray = ls at hl ⊢
  have hl : lv_has ls 1 [(0, .ref t)] := hl
  refine lv_aload_n hx hb dX5_init_0 rfl (lv_at hl 0 rfl) ?_
  refine W.objInit hx hb hown (ht _ wd_427) (ht _ wd_148) (ht _ wd_149) rfl (by rw [hml]; exact hl.1) rfl dX5_init_1 (Nat.le_of_ble_eq_true rfl) (Nat.le_of_ble_eq_true rfl) ?_
  refine W.eq (g2 := F0 m 4 ls []) rfl ?_
  refine lv_aload_n hx hb dX5_init_4 rfl (lv_at hl 0 rfl) ?_
  refine gq_new (ci := 7) hx hb ht hown i_X7 tyX7 tyX7_ok wd_428 wd_226 wd_125 hK hP hD hS hA rfl [.null, .null, .null, .null, .null, .null, .null, .null, .null, .int 0] df_X7 1 10 (Nat.le_of_ble_eq_true rfl) (Nat.le_of_ble_eq_true rfl) (Nat.le_of_ble_eq_true rfl) (Nat.le_of_ble_eq_true rfl) dX5_init_5 (fun q_1 H hP hD hS => ?_)
  have hP : va_P (gg_D G) classes [(t, .inr (5, [.null, .null, .null, .null, .int 0])), (q_1, .inr (7, [.null, .null, .null, .null, .null, .null, .null, .null, .null, .int 0]))] H := hP
  have hD : va_D A [(t, .inr (5, [.null, .null, .null, .null, .int 0])), (q_1, .inr (7, [.null, .null, .null, .null, .null, .null, .null, .null, .null, .int 0]))] := hD
  refine lv_dup hx hb dX5_init_8 rfl ?_
  have hPc := hP.sub (ws' := [(q_1, .inr (7, [.null, .null, .null, .null, .null, .null, .null, .null, .null, .int 0]))]) [1] rfl
  have hDc := hD.sub (ws' := [(q_1, .inr (7, [.null, .null, .null, .null, .null, .null, .null, .null, .null, .int 0]))]) [1] (by decide) rfl
  refine gq_callV (wr := [(t, .inr (5, [.null, .null, .null, .null, .int 0]))]) (va_runIN (As := []) (rest := [.ref q_1, .ref t]) ⟨hx, hb, hml, hown, ht⟩ (c_State_init l G H.size q_1) ⟨va_cnB 0 ht (tb_good (ts_good wd_229)) rfl rfl rfl (hK.2.1 _ wn_429 rfl) (ht _ wd_125) (by decide +kernel) ⟨Nat.le_of_ble_eq_true rfl, Nat.le_of_ble_eq_true rfl⟩, rfl, ht _ wd_228⟩ (gc_preS hK hPc hDc) rfl rfl hl.1 rfl (lv_room (Nat.le_of_ble_eq_true rfl)) dX5_init_9 ⟨Nat.le_of_ble_eq_true rfl, Nat.le_of_ble_eq_true rfl⟩) hP hD hS hA [1] [0] rfl rfl (by decide) (by decide) (fun u H locs hw hP hD hS => ?_)
  obtain ⟨u_2, u_3, u_4, u_5, u_6, u_7, u_8, u_9, u_10⟩ := u
  have hP : va_P (gg_D G) classes [(t, .inr (5, [.null, .null, .null, .null, .int 0])), (q_1, .inr (7, [.ref u_2, .ref u_3, .ref u_4, .ref u_5, .ref u_6, .ref u_7, .ref u_8, .ref u_9, .ref u_10, .int 0])), (u_2, .inl (G.2.2 0, 5, .inl (fun _ => 0))), (u_3, .inl (G.2.2 0, 5, .inl (fun _ => 0))), (u_4, .inl (G.2.2 0, 5, .inl (fun _ => 0))), (u_5, .inl (G.2.2 0, 5, .inl (fun _ => 0))), (u_6, .inl (G.2.2 0, 3, .inl (fun _ => 0))), (u_7, .inl (G.2.2 0, 3, .inl (fun _ => 0))), (u_8, .inl (G.2.2 0, 3, .inl (fun _ => 0))), (u_9, .inl (G.2.2 0, 3, .inl (fun _ => 0))), (u_10, .inl (G.2.2 0, 3, .inl (fun _ => 0)))] H := hP
  have hD : va_D A [(t, .inr (5, [.null, .null, .null, .null, .int 0])), (q_1, .inr (7, [.ref u_2, .ref u_3, .ref u_4, .ref u_5, .ref u_6, .ref u_7, .ref u_8, .ref u_9, .ref u_10, .int 0])), (u_2, .inl (G.2.2 0, 5, .inl (fun _ => 0))), (u_3, .inl (G.2.2 0, 5, .inl (fun _ => 0))), (u_4, .inl (G.2.2 0, 5, .inl (fun _ => 0))), (u_5, .inl (G.2.2 0, 5, .inl (fun _ => 0))), (u_6, .inl (G.2.2 0, 3, .inl (fun _ => 0))), (u_7, .inl (G.2.2 0, 3, .inl (fun _ => 0))), (u_8, .inl (G.2.2 0, 3, .inl (fun _ => 0))), (u_9, .inl (G.2.2 0, 3, .inl (fun _ => 0))), (u_10, .inl (G.2.2 0, 3, .inl (fun _ => 0)))] := hD
  refine W.widen (k := 10) (n := 45) (Nat.le_of_ble_eq_true rfl) (Nat.le_of_ble_eq_true rfl) ?_
  refine gq_putF (ws' := [(t, .inr (5, [.ref q_1, .null, .null, .null, .int 0])), (q_1, .inr (7, [.ref u_2, .ref u_3, .ref u_4, .ref u_5, .ref u_6, .ref u_7, .ref u_8, .ref u_9, .ref u_10, .int 0])), (u_2, .inl (G.2.2 0, 5, .inl (fun _ => 0))), (u_3, .inl (G.2.2 0, 5, .inl (fun _ => 0))), (u_4, .inl (G.2.2 0, 5, .inl (fun _ => 0))), (u_5, .inl (G.2.2 0, 5, .inl (fun _ => 0))), (u_6, .inl (G.2.2 0, 3, .inl (fun _ => 0))), (u_7, .inl (G.2.2 0, 3, .inl (fun _ => 0))), (u_8, .inl (G.2.2 0, 3, .inl (fun _ => 0))), (u_9, .inl (G.2.2 0, 3, .inl (fun _ => 0))), (u_10, .inl (G.2.2 0, 3, .inl (fun _ => 0)))]) hx hb ht hown hin hK hP hD hS i_X5 tyX5 tyX5_ok nmX5 0 rfl rfl 0 (by decide) wd_430 rfl rfl rfl rfl (Nat.le_of_ble_eq_true rfl) rfl dX5_init_12 (fun H locs hP hD hS => ?_)
  refine lv_aload_n hx hb dX5_init_15 rfl (lv_at hl 0 rfl) ?_
  refine lv_iconst (v := 5) hx hb dX5_init_16 (by decide) ?_
  refine gq_newa (atype := .int) (ty := .int) hx hb rfl (ht _ wd_172) hK hP hD hS hA 0 rfl 5 (5, .inl (fun _ => 0)) (fun _ => rfl) (by decide +kernel) (by decide +kernel) (Nat.le_of_ble_eq_true rfl) 11 50 (Nat.le_of_ble_eq_true rfl) (Nat.le_of_ble_eq_true rfl) (Nat.le_of_ble_eq_true rfl) (Nat.le_of_ble_eq_true rfl) dX5_init_17 (fun q_11 H hP hD hS => ?_)
  have hP : va_P (gg_D G) classes [(t, .inr (5, [.ref q_1, .null, .null, .null, .int 0])), (q_1, .inr (7, [.ref u_2, .ref u_3, .ref u_4, .ref u_5, .ref u_6, .ref u_7, .ref u_8, .ref u_9, .ref u_10, .int 0])), (u_2, .inl (G.2.2 0, 5, .inl (fun _ => 0))), (u_3, .inl (G.2.2 0, 5, .inl (fun _ => 0))), (u_4, .inl (G.2.2 0, 5, .inl (fun _ => 0))), (u_5, .inl (G.2.2 0, 5, .inl (fun _ => 0))), (u_6, .inl (G.2.2 0, 3, .inl (fun _ => 0))), (u_7, .inl (G.2.2 0, 3, .inl (fun _ => 0))), (u_8, .inl (G.2.2 0, 3, .inl (fun _ => 0))), (u_9, .inl (G.2.2 0, 3, .inl (fun _ => 0))), (u_10, .inl (G.2.2 0, 3, .inl (fun _ => 0))), (q_11, .inl (G.2.2 0, 5, .inl (fun _ => 0)))] H := hP
  have hD : va_D A [(t, .inr (5, [.ref q_1, .null, .null, .null, .int 0])), (q_1, .inr (7, [.ref u_2, .ref u_3, .ref u_4, .ref u_5, .ref u_6, .ref u_7, .ref u_8, .ref u_9, .ref u_10, .int 0])), (u_2, .inl (G.2.2 0, 5, .inl (fun _ => 0))), (u_3, .inl (G.2.2 0, 5, .inl (fun _ => 0))), (u_4, .inl (G.2.2 0, 5, .inl (fun _ => 0))), (u_5, .inl (G.2.2 0, 5, .inl (fun _ => 0))), (u_6, .inl (G.2.2 0, 3, .inl (fun _ => 0))), (u_7, .inl (G.2.2 0, 3, .inl (fun _ => 0))), (u_8, .inl (G.2.2 0, 3, .inl (fun _ => 0))), (u_9, .inl (G.2.2 0, 3, .inl (fun _ => 0))), (u_10, .inl (G.2.2 0, 3, .inl (fun _ => 0))), (q_11, .inl (G.2.2 0, 5, .inl (fun _ => 0)))] := hD
  refine gq_putF (ws' := [(t, .inr (5, [.ref q_1, .ref q_11, .null, .null, .int 0])), (q_1, .inr (7, [.ref u_2, .ref u_3, .ref u_4, .ref u_5, .ref u_6, .ref u_7, .ref u_8, .ref u_9, .ref u_10, .int 0])), (u_2, .inl (G.2.2 0, 5, .inl (fun _ => 0))), (u_3, .inl (G.2.2 0, 5, .inl (fun _ => 0))), (u_4, .inl (G.2.2 0, 5, .inl (fun _ => 0))), (u_5, .inl (G.2.2 0, 5, .inl (fun _ => 0))), (u_6, .inl (G.2.2 0, 3, .inl (fun _ => 0))), (u_7, .inl (G.2.2 0, 3, .inl (fun _ => 0))), (u_8, .inl (G.2.2 0, 3, .inl (fun _ => 0))), (u_9, .inl (G.2.2 0, 3, .inl (fun _ => 0))), (u_10, .inl (G.2.2 0, 3, .inl (fun _ => 0))), (q_11, .inl (G.2.2 0, 5, .inl (fun _ => 0)))]) hx hb ht hown hin hK hP hD hS i_X5 tyX5 tyX5_ok nmX5 0 rfl rfl 1 (by decide) wd_431 rfl rfl rfl rfl (Nat.le_of_ble_eq_true rfl) rfl dX5_init_19 (fun H locs hP hD hS => ?_)
  refine lv_aload_n hx hb dX5_init_22 rfl (lv_at hl 0 rfl) ?_
  refine lv_bipush (v := 96) hx hb dX5_init_23 (by decide +kernel) ?_
  refine gq_newa (atype := .int) (ty := .int) hx hb rfl (ht _ wd_172) hK hP hD hS hA 0 rfl 96 (96, .inl (fun _ => 0)) (fun _ => rfl) (by decide +kernel) (by decide +kernel) (Nat.le_of_ble_eq_true rfl) 12 146 (Nat.le_of_ble_eq_true rfl) (Nat.le_of_ble_eq_true rfl) (Nat.le_of_ble_eq_true rfl) (Nat.le_of_ble_eq_true rfl) dX5_init_25 (fun q_12 H hP hD hS => ?_)
  have hP : va_P (gg_D G) classes [(t, .inr (5, [.ref q_1, .ref q_11, .null, .null, .int 0])), (q_1, .inr (7, [.ref u_2, .ref u_3, .ref u_4, .ref u_5, .ref u_6, .ref u_7, .ref u_8, .ref u_9, .ref u_10, .int 0])), (u_2, .inl (G.2.2 0, 5, .inl (fun _ => 0))), (u_3, .inl (G.2.2 0, 5, .inl (fun _ => 0))), (u_4, .inl (G.2.2 0, 5, .inl (fun _ => 0))), (u_5, .inl (G.2.2 0, 5, .inl (fun _ => 0))), (u_6, .inl (G.2.2 0, 3, .inl (fun _ => 0))), (u_7, .inl (G.2.2 0, 3, .inl (fun _ => 0))), (u_8, .inl (G.2.2 0, 3, .inl (fun _ => 0))), (u_9, .inl (G.2.2 0, 3, .inl (fun _ => 0))), (u_10, .inl (G.2.2 0, 3, .inl (fun _ => 0))), (q_11, .inl (G.2.2 0, 5, .inl (fun _ => 0))), (q_12, .inl (G.2.2 0, 96, .inl (fun _ => 0)))] H := hP
  have hD : va_D A [(t, .inr (5, [.ref q_1, .ref q_11, .null, .null, .int 0])), (q_1, .inr (7, [.ref u_2, .ref u_3, .ref u_4, .ref u_5, .ref u_6, .ref u_7, .ref u_8, .ref u_9, .ref u_10, .int 0])), (u_2, .inl (G.2.2 0, 5, .inl (fun _ => 0))), (u_3, .inl (G.2.2 0, 5, .inl (fun _ => 0))), (u_4, .inl (G.2.2 0, 5, .inl (fun _ => 0))), (u_5, .inl (G.2.2 0, 5, .inl (fun _ => 0))), (u_6, .inl (G.2.2 0, 3, .inl (fun _ => 0))), (u_7, .inl (G.2.2 0, 3, .inl (fun _ => 0))), (u_8, .inl (G.2.2 0, 3, .inl (fun _ => 0))), (u_9, .inl (G.2.2 0, 3, .inl (fun _ => 0))), (u_10, .inl (G.2.2 0, 3, .inl (fun _ => 0))), (q_11, .inl (G.2.2 0, 5, .inl (fun _ => 0))), (q_12, .inl (G.2.2 0, 96, .inl (fun _ => 0)))] := hD
  refine gq_putF (ws' := [(t, .inr (5, [.ref q_1, .ref q_11, .ref q_12, .null, .int 0])), (q_1, .inr (7, [.ref u_2, .ref u_3, .ref u_4, .ref u_5, .ref u_6, .ref u_7, .ref u_8, .ref u_9, .ref u_10, .int 0])), (u_2, .inl (G.2.2 0, 5, .inl (fun _ => 0))), (u_3, .inl (G.2.2 0, 5, .inl (fun _ => 0))), (u_4, .inl (G.2.2 0, 5, .inl (fun _ => 0))), (u_5, .inl (G.2.2 0, 5, .inl (fun _ => 0))), (u_6, .inl (G.2.2 0, 3, .inl (fun _ => 0))), (u_7, .inl (G.2.2 0, 3, .inl (fun _ => 0))), (u_8, .inl (G.2.2 0, 3, .inl (fun _ => 0))), (u_9, .inl (G.2.2 0, 3, .inl (fun _ => 0))), (u_10, .inl (G.2.2 0, 3, .inl (fun _ => 0))), (q_11, .inl (G.2.2 0, 5, .inl (fun _ => 0))), (q_12, .inl (G.2.2 0, 96, .inl (fun _ => 0)))]) hx hb ht hown hin hK hP hD hS i_X5 tyX5 tyX5_ok nmX5 0 rfl rfl 2 (by decide) wd_432 rfl rfl rfl rfl (Nat.le_of_ble_eq_true rfl) rfl dX5_init_27 (fun H locs hP hD hS => ?_)
  refine lv_aload_n hx hb dX5_init_30 rfl (lv_at hl 0 rfl) ?_
  refine lv_iconst (v := 5) hx hb dX5_init_31 (by decide) ?_
  refine gq_newa (atype := .int) (ty := .int) hx hb rfl (ht _ wd_172) hK hP hD hS hA 0 rfl 5 (5, .inl (fun _ => 0)) (fun _ => rfl) (by decide +kernel) (by decide +kernel) (Nat.le_of_ble_eq_true rfl) 13 151 (Nat.le_of_ble_eq_true rfl) (Nat.le_of_ble_eq_true rfl) (Nat.le_of_ble_eq_true rfl) (Nat.le_of_ble_eq_true rfl) dX5_init_32 (fun q_13 H hP hD hS => ?_)
  have hP : va_P (gg_D G) classes [(t, .inr (5, [.ref q_1, .ref q_11, .ref q_12, .null, .int 0])), (q_1, .inr (7, [.ref u_2, .ref u_3, .ref u_4, .ref u_5, .ref u_6, .ref u_7, .ref u_8, .ref u_9, .ref u_10, .int 0])), (u_2, .inl (G.2.2 0, 5, .inl (fun _ => 0))), (u_3, .inl (G.2.2 0, 5, .inl (fun _ => 0))), (u_4, .inl (G.2.2 0, 5, .inl (fun _ => 0))), (u_5, .inl (G.2.2 0, 5, .inl (fun _ => 0))), (u_6, .inl (G.2.2 0, 3, .inl (fun _ => 0))), (u_7, .inl (G.2.2 0, 3, .inl (fun _ => 0))), (u_8, .inl (G.2.2 0, 3, .inl (fun _ => 0))), (u_9, .inl (G.2.2 0, 3, .inl (fun _ => 0))), (u_10, .inl (G.2.2 0, 3, .inl (fun _ => 0))), (q_11, .inl (G.2.2 0, 5, .inl (fun _ => 0))), (q_12, .inl (G.2.2 0, 96, .inl (fun _ => 0))), (q_13, .inl (G.2.2 0, 5, .inl (fun _ => 0)))] H := hP
  have hD : va_D A [(t, .inr (5, [.ref q_1, .ref q_11, .ref q_12, .null, .int 0])), (q_1, .inr (7, [.ref u_2, .ref u_3, .ref u_4, .ref u_5, .ref u_6, .ref u_7, .ref u_8, .ref u_9, .ref u_10, .int 0])), (u_2, .inl (G.2.2 0, 5, .inl (fun _ => 0))), (u_3, .inl (G.2.2 0, 5, .inl (fun _ => 0))), (u_4, .inl (G.2.2 0, 5, .inl (fun _ => 0))), (u_5, .inl (G.2.2 0, 5, .inl (fun _ => 0))), (u_6, .inl (G.2.2 0, 3, .inl (fun _ => 0))), (u_7, .inl (G.2.2 0, 3, .inl (fun _ => 0))), (u_8, .inl (G.2.2 0, 3, .inl (fun _ => 0))), (u_9, .inl (G.2.2 0, 3, .inl (fun _ => 0))), (u_10, .inl (G.2.2 0, 3, .inl (fun _ => 0))), (q_11, .inl (G.2.2 0, 5, .inl (fun _ => 0))), (q_12, .inl (G.2.2 0, 96, .inl (fun _ => 0))), (q_13, .inl (G.2.2 0, 5, .inl (fun _ => 0)))] := hD
  refine gq_putF (ws' := [(t, .inr (5, [.ref q_1, .ref q_11, .ref q_12, .ref q_13, .int 0])), (q_1, .inr (7, [.ref u_2, .ref u_3, .ref u_4, .ref u_5, .ref u_6, .ref u_7, .ref u_8, .ref u_9, .ref u_10, .int 0])), (u_2, .inl (G.2.2 0, 5, .inl (fun _ => 0))), (u_3, .inl (G.2.2 0, 5, .inl (fun _ => 0))), (u_4, .inl (G.2.2 0, 5, .inl (fun _ => 0))), (u_5, .inl (G.2.2 0, 5, .inl (fun _ => 0))), (u_6, .inl (G.2.2 0, 3, .inl (fun _ => 0))), (u_7, .inl (G.2.2 0, 3, .inl (fun _ => 0))), (u_8, .inl (G.2.2 0, 3, .inl (fun _ => 0))), (u_9, .inl (G.2.2 0, 3, .inl (fun _ => 0))), (u_10, .inl (G.2.2 0, 3, .inl (fun _ => 0))), (q_11, .inl (G.2.2 0, 5, .inl (fun _ => 0))), (q_12, .inl (G.2.2 0, 96, .inl (fun _ => 0))), (q_13, .inl (G.2.2 0, 5, .inl (fun _ => 0)))]) hx hb ht hown hin hK hP hD hS i_X5 tyX5 tyX5_ok nmX5 0 rfl rfl 3 (by decide) wd_433 rfl rfl rfl rfl (Nat.le_of_ble_eq_true rfl) rfl dX5_init_34 (fun H locs hP hD hS => ?_)
  refine lv_aload_n hx hb dX5_init_37 rfl (lv_at hl 0 rfl) ?_
  refine lv_iconst (v := 0) hx hb dX5_init_38 (by decide) ?_
  refine gq_put (ws' := [(t, .inr (5, [.ref q_1, .ref q_11, .ref q_12, .ref q_13, .int 0])), (q_1, .inr (7, [.ref u_2, .ref u_3, .ref u_4, .ref u_5, .ref u_6, .ref u_7, .ref u_8, .ref u_9, .ref u_10, .int 0])), (u_2, .inl (G.2.2 0, 5, .inl (fun _ => 0))), (u_3, .inl (G.2.2 0, 5, .inl (fun _ => 0))), (u_4, .inl (G.2.2 0, 5, .inl (fun _ => 0))), (u_5, .inl (G.2.2 0, 5, .inl (fun _ => 0))), (u_6, .inl (G.2.2 0, 3, .inl (fun _ => 0))), (u_7, .inl (G.2.2 0, 3, .inl (fun _ => 0))), (u_8, .inl (G.2.2 0, 3, .inl (fun _ => 0))), (u_9, .inl (G.2.2 0, 3, .inl (fun _ => 0))), (u_10, .inl (G.2.2 0, 3, .inl (fun _ => 0))), (q_11, .inl (G.2.2 0, 5, .inl (fun _ => 0))), (q_12, .inl (G.2.2 0, 96, .inl (fun _ => 0))), (q_13, .inl (G.2.2 0, 5, .inl (fun _ => 0)))]) hx hb ht hown hK hP hD hS i_X5 tyX5 tyX5_ok nmX5 0 rfl rfl 4 (by decide) wd_435 rfl rfl rfl rfl (Nat.le_of_ble_eq_true rfl) rfl dX5_init_39 (fun H locs hP hD hS => ?_)
  have hP9 := hP.sub (ws' := []) [] rfl
  have hD9 := hD.sub (ws' := []) [] (by decide) rfl
  refine W.widen (k := 13) (n := 151) (Nat.le_of_ble_eq_true rfl) (Nat.le_of_ble_eq_true rfl) ?_
  exact W.vret hx hb hr (gq_endV () trivial hP9 hD9 hS) hS.2.2 dX5_init_42
set_option maxHeartbeats 4000000 in
set_option maxRecDepth 100000 in
theorem c_Trickery_init (l : Launch) (G : gg_T) (sz : Nat) (t : Nat) : Met l yX10_init (ts_L yX10_init cX10_init 1 none) ({ frames := 2, cells := 12, slots := 55, locals := 32 }) (gc_P G [(t, .inr (10, [.null, .null, .null, .int 0]))] sz [.ref t]) (gc_V G (va_A [(t, .inr (10, [.null, .null, .null, .int 0]))] sz) (fun (_ : Unit) => True) (fun _ => [])) 12 55 (va_A [(t, .inr (10, [.null, .null, .null, .int 0]))] sz) := by
  refine Met.ofW (cc := cX10_init) (maxL := 1) (ret := none) (by decide) rfl ?_
  intro p e s m args below meth c s₁ B hml hv
  obtain ⟨rfl, hsz, hP, hK, hD0⟩ := hv
  have hx := B.exec
  have hb := B.bytes
  have hr := B.returns
  have ht := ts_ht (atoms_spec (ws := ts_L yX10_init cX10_init 1 none) B.pre)
  have hown : s.vm.findClass RX10 = some m.cls := findClass_of_methodNamed B.named
  have hlocks := B.notSynchronized
  have hin : meth.name = "<init>" := (name_of_methodNamed B.named B.method).1
  subst hsz
  have hD := hD0.self (sz := s.heap.size)
  generalize hAe : va_A [(t, .inr (10, [.null, .null, .null, .int 0]))] s.heap.size = A at hD ⊢
  have hA : ∀ q : Nat, s.heap.size ≤ q → A q := fun q h => by rw [← hAe]; exact Or.inr h
  have hS : va_S A s.heap s.heap [] := va_S.rf
  have hl := lv_entry ([.ref t]) (n := 1) (Nat.le_of_ble_eq_true rfl)
  rw [lg_entry_eq]
  generalize (lg_sl ([.ref t]) ++ List.replicate (1 - (lg_sl ([.ref t])).length) Slot.unset).toArray = ls at hl ⊢
  have hl : lv_has ls 1 [(0, .ref t)] := hl
  refine lv_aload_n hx hb dX10_init_0 rfl (lv_at hl 0 rfl) ?_
  refine W.objInit hx hb hown (ht _ wd_453) (ht _ wd_148) (ht _ wd_149) rfl (by rw [hml]; exact hl.1) rfl dX10_init_1 (Nat.le_of_ble_eq_true rfl) (Nat.le_of_ble_eq_true rfl) ?_
  refine W.eq (g2 := F0 m 4 ls []) rfl ?_
  refine lv_aload_n hx hb dX10_init_4 rfl (lv_at hl 0 rfl) ?_
  refine gq_new (ci := 7) hx hb ht hown i_X7 tyX7 tyX7_ok wd_454 wd_226 wd_125 hK hP hD hS hA rfl [.null, .null, .null, .null, .null, .null, .null, .null, .null, .int 0] df_X7 1 10 (Nat.le_of_ble_eq_true rfl) (Nat.le_of_ble_eq_true rfl) (Nat.le_of_ble_eq_true rfl) (Nat.le_of_ble_eq_true rfl) dX10_init_5 (fun q_1 H hP hD hS => ?_)
  have hP : va_P (gg_D G) classes [(t, .inr (10, [.null, .null, .null, .int 0])), (q_1, .inr (7, [.null, .null, .null, .null, .null, .null, .null, .null, .null, .int 0]))] H := hP
  have hD : va_D A [(t, .inr (10, [.null, .null, .null, .int 0])), (q_1, .inr (7, [.null, .null, .null, .null, .null, .null, .null, .null, .null, .int 0]))] := hD
  refine lv_dup hx hb dX10_init_8 rfl ?_
  have hPc := hP.sub (ws' := [(q_1, .inr (7, [.null, .null, .null, .null, .null, .null, .null, .null, .null, .int 0]))]) [1] rfl
  have hDc := hD.sub (ws' := [(q_1, .inr (7, [.null, .null, .null, .null, .null, .null, .null, .null, .null, .int 0]))]) [1] (by decide) rfl
  refine gq_callV (wr := [(t, .inr (10, [.null, .null, .null, .int 0]))]) (va_runIN (As := []) (rest := [.ref q_1, .ref t]) ⟨hx, hb, hml, hown, ht⟩ (c_State_init l G H.size q_1) ⟨va_cnB 0 ht (tb_good (ts_good wd_229)) rfl rfl rfl (hK.2.1 _ wn_455 rfl) (ht _ wd_125) (by decide +kernel) ⟨Nat.le_of_ble_eq_true rfl, Nat.le_of_ble_eq_true rfl⟩, rfl, ht _ wd_228⟩ (gc_preS hK hPc hDc) rfl rfl hl.1 rfl (lv_room (Nat.le_of_ble_eq_true rfl)) dX10_init_9 ⟨Nat.le_of_ble_eq_true rfl, Nat.le_of_ble_eq_true rfl⟩) hP hD hS hA [1] [0] rfl rfl (by decide) (by decide) (fun u H locs hw hP hD hS => ?_)
  obtain ⟨u_2, u_3, u_4, u_5, u_6, u_7, u_8, u_9, u_10⟩ := u
  have hP : va_P (gg_D G) classes [(t, .inr (10, [.null, .null, .null, .int 0])), (q_1, .inr (7, [.ref u_2, .ref u_3, .ref u_4, .ref u_5, .ref u_6, .ref u_7, .ref u_8, .ref u_9, .ref u_10, .int 0])), (u_2, .inl (G.2.2 0, 5, .inl (fun _ => 0))), (u_3, .inl (G.2.2 0, 5, .inl (fun _ => 0))), (u_4, .inl (G.2.2 0, 5, .inl (fun _ => 0))), (u_5, .inl (G.2.2 0, 5, .inl (fun _ => 0))), (u_6, .inl (G.2.2 0, 3, .inl (fun _ => 0))), (u_7, .inl (G.2.2 0, 3, .inl (fun _ => 0))), (u_8, .inl (G.2.2 0, 3, .inl (fun _ => 0))), (u_9, .inl (G.2.2 0, 3, .inl (fun _ => 0))), (u_10, .inl (G.2.2 0, 3, .inl (fun _ => 0)))] H := hP
  have hD : va_D A [(t, .inr (10, [.null, .null, .null, .int 0])), (q_1, .inr (7, [.ref u_2, .ref u_3, .ref u_4, .ref u_5, .ref u_6, .ref u_7, .ref u_8, .ref u_9, .ref u_10, .int 0])), (u_2, .inl (G.2.2 0, 5, .inl (fun _ => 0))), (u_3, .inl (G.2.2 0, 5, .inl (fun _ => 0))), (u_4, .inl (G.2.2 0, 5, .inl (fun _ => 0))), (u_5, .inl (G.2.2 0, 5, .inl (fun _ => 0))), (u_6, .inl (G.2.2 0, 3, .inl (fun _ => 0))), (u_7, .inl (G.2.2 0, 3, .inl (fun _ => 0))), (u_8, .inl (G.2.2 0, 3, .inl (fun _ => 0))), (u_9, .inl (G.2.2 0, 3, .inl (fun _ => 0))), (u_10, .inl (G.2.2 0, 3, .inl (fun _ => 0)))] := hD
  refine W.widen (k := 10) (n := 45) (Nat.le_of_ble_eq_true rfl) (Nat.le_of_ble_eq_true rfl) ?_
  refine gq_putF (ws' := [(t, .inr (10, [.ref q_1, .null, .null, .int 0])), (q_1, .inr (7, [.ref u_2, .ref u_3, .ref u_4, .ref u_5, .ref u_6, .ref u_7, .ref u_8, .ref u_9, .ref u_10, .int 0])), (u_2, .inl (G.2.2 0, 5, .inl (fun _ => 0))), (u_3, .inl (G.2.2 0, 5, .inl (fun _ => 0))), (u_4, .inl (G.2.2 0, 5, .inl (fun _ => 0))), (u_5, .inl (G.2.2 0, 5, .inl (fun _ => 0))), (u_6, .inl (G.2.2 0, 3, .inl (fun _ => 0))), (u_7, .inl (G.2.2 0, 3, .inl (fun _ => 0))), (u_8, .inl (G.2.2 0, 3, .inl (fun _ => 0))), (u_9, .inl (G.2.2 0, 3, .inl (fun _ => 0))), (u_10, .inl (G.2.2 0, 3, .inl (fun _ => 0)))]) hx hb ht hown hin hK hP hD hS i_X10 tyX10 tyX10_ok nmX10 0 rfl rfl 0 (by decide) wd_456 rfl rfl rfl rfl (Nat.le_of_ble_eq_true rfl) rfl dX10_init_12 (fun H locs hP hD hS => ?_)
  refine lv_aload_n hx hb dX10_init_15 rfl (lv_at hl 0 rfl) ?_
  refine lv_iconst (v := 5) hx hb dX10_init_16 (by decide) ?_
  refine gq_newa (atype := .int) (ty := .int) hx hb rfl (ht _ wd_172) hK hP hD hS hA 0 rfl 5 (5, .inl (fun _ => 0)) (fun _ => rfl) (by decide +kernel) (by decide +kernel) (Nat.le_of_ble_eq_true rfl) 11 50 (Nat.le_of_ble_eq_true rfl) (Nat.le_of_ble_eq_true rfl) (Nat.le_of_ble_eq_true rfl) (Nat.le_of_ble_eq_true rfl) dX10_init_17 (fun q_11 H hP hD hS => ?_)
  have hP : va_P (gg_D G) classes [(t, .inr (10, [.ref q_1, .null, .null, .int 0])), (q_1, .inr (7, [.ref u_2, .ref u_3, .ref u_4, .ref u_5, .ref u_6, .ref u_7, .ref u_8, .ref u_9, .ref u_10, .int 0])), (u_2, .inl (G.2.2 0, 5, .inl (fun _ => 0))), (u_3, .inl (G.2.2 0, 5, .inl (fun _ => 0))), (u_4, .inl (G.2.2 0, 5, .inl (fun _ => 0))), (u_5, .inl (G.2.2 0, 5, .inl (fun _ => 0))), (u_6, .inl (G.2.2 0, 3, .inl (fun _ => 0))), (u_7, .inl (G.2.2 0, 3, .inl (fun _ => 0))), (u_8, .inl (G.2.2 0, 3, .inl (fun _ => 0))), (u_9, .inl (G.2.2 0, 3, .inl (fun _ => 0))), (u_10, .inl (G.2.2 0, 3, .inl (fun _ => 0))), (q_11, .inl (G.2.2 0, 5, .inl (fun _ => 0)))] H := hP
  have hD : va_D A [(t, .inr (10, [.ref q_1, .null, .null, .int 0])), (q_1, .inr (7, [.ref u_2, .ref u_3, .ref u_4, .ref u_5, .ref u_6, .ref u_7, .ref u_8, .ref u_9, .ref u_10, .int 0])), (u_2, .inl (G.2.2 0, 5, .inl (fun _ => 0))), (u_3, .inl (G.2.2 0, 5, .inl (fun _ => 0))), (u_4, .inl (G.2.2 0, 5, .inl (fun _ => 0))), (u_5, .inl (G.2.2 0, 5, .inl (fun _ => 0))), (u_6, .inl (G.2.2 0, 3, .inl (fun _ => 0))), (u_7, .inl (G.2.2 0, 3, .inl (fun _ => 0))), (u_8, .inl (G.2.2 0, 3, .inl (fun _ => 0))), (u_9, .inl (G.2.2 0, 3, .inl (fun _ => 0))), (u_10, .inl (G.2.2 0, 3, .inl (fun _ => 0))), (q_11, .inl (G.2.2 0, 5, .inl (fun _ => 0)))] := hD
  refine gq_putF (ws' := [(t, .inr (10, [.ref q_1, .ref q_11, .null, .int 0])), (q_1, .inr (7, [.ref u_2, .ref u_3, .ref u_4, .ref u_5, .ref u_6, .ref u_7, .ref u_8, .ref u_9, .ref u_10, .int 0])), (u_2, .inl (G.2.2 0, 5, .inl (fun _ => 0))), (u_3, .inl (G.2.2 0, 5, .inl (fun _ => 0))), (u_4, .inl (G.2.2 0, 5, .inl (fun _ => 0))), (u_5, .inl (G.2.2 0, 5, .inl (fun _ => 0))), (u_6, .inl (G.2.2 0, 3, .inl (fun _ => 0))), (u_7, .inl (G.2.2 0, 3, .inl (fun _ => 0))), (u_8, .inl (G.2.2 0, 3, .inl (fun _ => 0))), (u_9, .inl (G.2.2 0, 3, .inl (fun _ => 0))), (u_10, .inl (G.2.2 0, 3, .inl (fun _ => 0))), (q_11, .inl (G.2.2 0, 5, .inl (fun _ => 0)))]) hx hb ht hown hin hK hP hD hS i_X10 tyX10 tyX10_ok nmX10 0 rfl rfl 1 (by decide) wd_457 rfl rfl rfl rfl (Nat.le_of_ble_eq_true rfl) rfl dX10_init_19 (fun H locs hP hD hS => ?_)
  refine lv_aload_n hx hb dX10_init_22 rfl (lv_at hl 0 rfl) ?_
  refine lv_iconst (v := 5) hx hb dX10_init_23 (by decide) ?_
  refine gq_newa (atype := .int) (ty := .int) hx hb rfl (ht _ wd_172) hK hP hD hS hA 0 rfl 5 (5, .inl (fun _ => 0)) (fun _ => rfl) (by decide +kernel) (by decide +kernel) (Nat.le_of_ble_eq_true rfl) 12 55 (Nat.le_of_ble_eq_true rfl) (Nat.le_of_ble_eq_true rfl) (Nat.le_of_ble_eq_true rfl) (Nat.le_of_ble_eq_true rfl) dX10_init_24 (fun q_12 H hP hD hS => ?_)
  have hP : va_P (gg_D G) classes [(t, .inr (10, [.ref q_1, .ref q_11, .null, .int 0])), (q_1, .inr (7, [.ref u_2, .ref u_3, .ref u_4, .ref u_5, .ref u_6, .ref u_7, .ref u_8, .ref u_9, .ref u_10, .int 0])), (u_2, .inl (G.2.2 0, 5, .inl (fun _ => 0))), (u_3, .inl (G.2.2 0, 5, .inl (fun _ => 0))), (u_4, .inl (G.2.2 0, 5, .inl (fun _ => 0))), (u_5, .inl (G.2.2 0, 5, .inl (fun _ => 0))), (u_6, .inl (G.2.2 0, 3, .inl (fun _ => 0))), (u_7, .inl (G.2.2 0, 3, .inl (fun _ => 0))), (u_8, .inl (G.2.2 0, 3, .inl (fun _ => 0))), (u_9, .inl (G.2.2 0, 3, .inl (fun _ => 0))), (u_10, .inl (G.2.2 0, 3, .inl (fun _ => 0))), (q_11, .inl (G.2.2 0, 5, .inl (fun _ => 0))), (q_12, .inl (G.2.2 0, 5, .inl (fun _ => 0)))] H := hP
  have hD : va_D A [(t, .inr (10, [.ref q_1, .ref q_11, .null, .int 0])), (q_1, .inr (7, [.ref u_2, .ref u_3, .ref u_4, .ref u_5, .ref u_6, .ref u_7, .ref u_8, .ref u_9, .ref u_10, .int 0])), (u_2, .inl (G.2.2 0, 5, .inl (fun _ => 0))), (u_3, .inl (G.2.2 0, 5, .inl (fun _ => 0))), (u_4, .inl (G.2.2 0, 5, .inl (fun _ => 0))), (u_5, .inl (G.2.2 0, 5, .inl (fun _ => 0))), (u_6, .inl (G.2.2 0, 3, .inl (fun _ => 0))), (u_7, .inl (G.2.2 0, 3, .inl (fun _ => 0))), (u_8, .inl (G.2.2 0, 3, .inl (fun _ => 0))), (u_9, .inl (G.2.2 0, 3, .inl (fun _ => 0))), (u_10, .inl (G.2.2 0, 3, .inl (fun _ => 0))), (q_11, .inl (G.2.2 0, 5, .inl (fun _ => 0))), (q_12, .inl (G.2.2 0, 5, .inl (fun _ => 0)))] := hD
  refine gq_putF (ws' := [(t, .inr (10, [.ref q_1, .ref q_11, .ref q_12, .int 0])), (q_1, .inr (7, [.ref u_2, .ref u_3, .ref u_4, .ref u_5, .ref u_6, .ref u_7, .ref u_8, .ref u_9, .ref u_10, .int 0])), (u_2, .inl (G.2.2 0, 5, .inl (fun _ => 0))), (u_3, .inl (G.2.2 0, 5, .inl (fun _ => 0))), (u_4, .inl (G.2.2 0, 5, .inl (fun _ => 0))), (u_5, .inl (G.2.2 0, 5, .inl (fun _ => 0))), (u_6, .inl (G.2.2 0, 3, .inl (fun _ => 0))), (u_7, .inl (G.2.2 0, 3, .inl (fun _ => 0))), (u_8, .inl (G.2.2 0, 3, .inl (fun _ => 0))), (u_9, .inl (G.2.2 0, 3, .inl (fun _ => 0))), (u_10, .inl (G.2.2 0, 3, .inl (fun _ => 0))), (q_11, .inl (G.2.2 0, 5, .inl (fun _ => 0))), (q_12, .inl (G.2.2 0, 5, .inl (fun _ => 0)))]) hx hb ht hown hin hK hP hD hS i_X10 tyX10 tyX10_ok nmX10 0 rfl rfl 2 (by decide) wd_458 rfl rfl rfl rfl (Nat.le_of_ble_eq_true rfl) rfl dX10_init_26 (fun H locs hP hD hS => ?_)
  refine lv_aload_n hx hb dX10_init_29 rfl (lv_at hl 0 rfl) ?_
  refine lv_iconst (v := (-1)) hx hb dX10_init_30 (by decide) ?_
  refine gq_put (ws' := [(t, .inr (10, [.ref q_1, .ref q_11, .ref q_12, .int (-1)])), (q_1, .inr (7, [.ref u_2, .ref u_3, .ref u_4, .ref u_5, .ref u_6, .ref u_7, .ref u_8, .ref u_9, .ref u_10, .int 0])), (u_2, .inl (G.2.2 0, 5, .inl (fun _ => 0))), (u_3, .inl (G.2.2 0, 5, .inl (fun _ => 0))), (u_4, .inl (G.2.2 0, 5, .inl (fun _ => 0))), (u_5, .inl (G.2.2 0, 5, .inl (fun _ => 0))), (u_6, .inl (G.2.2 0, 3, .inl (fun _ => 0))), (u_7, .inl (G.2.2 0, 3, .inl (fun _ => 0))), (u_8, .inl (G.2.2 0, 3, .inl (fun _ => 0))), (u_9, .inl (G.2.2 0, 3, .inl (fun _ => 0))), (u_10, .inl (G.2.2 0, 3, .inl (fun _ => 0))), (q_11, .inl (G.2.2 0, 5, .inl (fun _ => 0))), (q_12, .inl (G.2.2 0, 5, .inl (fun _ => 0)))]) hx hb ht hown hK hP hD hS i_X10 tyX10 tyX10_ok nmX10 0 rfl rfl 3 (by decide) wd_460 rfl rfl rfl rfl (Nat.le_of_ble_eq_true rfl) rfl dX10_init_31 (fun H locs hP hD hS => ?_)
  have hP9 := hP.sub (ws' := []) [] rfl
  have hD9 := hD.sub (ws' := []) [] (by decide) rfl
  refine W.widen (k := 12) (n := 55) (Nat.le_of_ble_eq_true rfl) (Nat.le_of_ble_eq_true rfl) ?_
  exact W.vret hx hb hr (gq_endV () trivial hP9 hD9 hS) hS.2.2 dX10_init_34
set_option maxHeartbeats 4000000 in
set_option maxRecDepth 100000 in
theorem c_Sleuth_init (l : Launch) (G : gg_T) (sz : Nat) (t : Nat) : Met l yX6_init (ts_L yX6_init cX6_init 1 none) ({ frames := 2, cells := 12, slots := 87, locals := 32 }) (gc_P G [(t, .inr (6, [.null, .null, .null, .int 0]))] sz [.ref t]) (gc_V G (va_A [(t, .inr (6, [.null, .null, .null, .int 0]))] sz) (fun (_ : Unit) => True) (fun _ => [])) 12 87 (va_A [(t, .inr (6, [.null, .null, .null, .int 0]))] sz) := by
  refine Met.ofW (cc := cX6_init) (maxL := 1) (ret := none) (by decide) rfl ?_
  intro p e s m args below meth c s₁ B hml hv
  obtain ⟨rfl, hsz, hP, hK, hD0⟩ := hv
  have hx := B.exec
  have hb := B.bytes
  have hr := B.returns
  have ht := ts_ht (atoms_spec (ws := ts_L yX6_init cX6_init 1 none) B.pre)
  have hown : s.vm.findClass RX6 = some m.cls := findClass_of_methodNamed B.named
  have hlocks := B.notSynchronized
  have hin : meth.name = "<init>" := (name_of_methodNamed B.named B.method).1
  subst hsz
  have hD := hD0.self (sz := s.heap.size)
  generalize hAe : va_A [(t, .inr (6, [.null, .null, .null, .int 0]))] s.heap.size = A at hD ⊢
  have hA : ∀ q : Nat, s.heap.size ≤ q → A q := fun q h => by rw [← hAe]; exact Or.inr h
  have hS : va_S A s.heap s.heap [] := va_S.rf
  have hl := lv_entry ([.ref t]) (n := 1) (Nat.le_of_ble_eq_true rfl)
  rw [lg_entry_eq]
  generalize (lg_sl ([.ref t]) ++ List.replicate (1 - (lg_sl ([.ref t])).length) Slot.unset).toArray = ls at hl ⊢
  have hl : lv_has ls 1 [(0, .ref t)] := hl
  refine lv_aload_n hx hb dX6_init_0 rfl (lv_at hl 0 rfl) ?_
  refine W.objInit hx hb hown (ht _ wd_476) (ht _ wd_148) (ht _ wd_149) rfl (by rw [hml]; exact hl.1) rfl dX6_init_1 (Nat.le_of_ble_eq_true rfl) (Nat.le_of_ble_eq_true rfl) ?_
  refine W.eq (g2 := F0 m 4 ls []) rfl ?_
  refine lv_aload_n hx hb dX6_init_4 rfl (lv_at hl 0 rfl) ?_
  refine gq_new (ci := 7) hx hb ht hown i_X7 tyX7 tyX7_ok wd_477 wd_226 wd_125 hK hP hD hS hA rfl [.null, .null, .null, .null, .null, .null, .null, .null, .null, .int 0] df_X7 1 10 (Nat.le_of_ble_eq_true rfl) (Nat.le_of_ble_eq_true rfl) (Nat.le_of_ble_eq_true rfl) (Nat.le_of_ble_eq_true rfl) dX6_init_5 (fun q_1 H hP hD hS => ?_)
  have hP : va_P (gg_D G) classes [(t, .inr (6, [.null, .null, .null, .int 0])), (q_1, .inr (7, [.null, .null, .null, .null, .null, .null, .null, .null, .null, .int 0]))] H := hP
  have hD : va_D A [(t, .inr (6, [.null, .null, .null, .int 0])), (q_1, .inr (7, [.null, .null, .null, .null, .null, .null, .null, .null, .null, .int 0]))] := hD
  refine lv_dup hx hb dX6_init_8 rfl ?_
  have hPc := hP.sub (ws' := [(q_1, .inr (7, [.null, .null, .null, .null, .null, .null, .null, .null, .null, .int 0]))]) [1] rfl
  have hDc := hD.sub (ws' := [(q_1, .inr (7, [.null, .null, .null, .null, .null, .null, .null, .null, .null, .int 0]))]) [1] (by decide) rfl
  refine gq_callV (wr := [(t, .inr (6, [.null, .null, .null, .int 0]))]) (va_runIN (As := []) (rest := [.ref q_1, .ref t]) ⟨hx, hb, hml, hown, ht⟩ (c_State_init l G H.size q_1) ⟨va_cnB 0 ht (tb_good (ts_good wd_229)) rfl rfl rfl (hK.2.1 _ wn_478 rfl) (ht _ wd_125) (by decide +kernel) ⟨Nat.le_of_ble_eq_true rfl, Nat.le_of_ble_eq_true rfl⟩, rfl, ht _ wd_228⟩ (gc_preS hK hPc hDc) rfl rfl hl.1 rfl (lv_room (Nat.le_of_ble_eq_true rfl)) dX6_init_9 ⟨Nat.le_of_ble_eq_true rfl, Nat.le_of_ble_eq_true rfl⟩) hP hD hS hA [1] [0] rfl rfl (by decide) (by decide) (fun u H locs hw hP hD hS => ?_)
  obtain ⟨u_2, u_3, u_4, u_5, u_6, u_7, u_8, u_9, u_10⟩ := u
  have hP : va_P (gg_D G) classes [(t, .inr (6, [.null, .null, .null, .int 0])), (q_1, .inr (7, [.ref u_2, .ref u_3, .ref u_4, .ref u_5, .ref u_6, .ref u_7, .ref u_8, .ref u_9, .ref u_10, .int 0])), (u_2, .inl (G.2.2 0, 5, .inl (fun _ => 0))), (u_3, .inl (G.2.2 0, 5, .inl (fun _ => 0))), (u_4, .inl (G.2.2 0, 5, .inl (fun _ => 0))), (u_5, .inl (G.2.2 0, 5, .inl (fun _ => 0))), (u_6, .inl (G.2.2 0, 3, .inl (fun _ => 0))), (u_7, .inl (G.2.2 0, 3, .inl (fun _ => 0))), (u_8, .inl (G.2.2 0, 3, .inl (fun _ => 0))), (u_9, .inl (G.2.2 0, 3, .inl (fun _ => 0))), (u_10, .inl (G.2.2 0, 3, .inl (fun _ => 0)))] H := hP
  have hD : va_D A [(t, .inr (6, [.null, .null, .null, .int 0])), (q_1, .inr (7, [.ref u_2, .ref u_3, .ref u_4, .ref u_5, .ref u_6, .ref u_7, .ref u_8, .ref u_9, .ref u_10, .int 0])), (u_2, .inl (G.2.2 0, 5, .inl (fun _ => 0))), (u_3, .inl (G.2.2 0, 5, .inl (fun _ => 0))), (u_4, .inl (G.2.2 0, 5, .inl (fun _ => 0))), (u_5, .inl (G.2.2 0, 5, .inl (fun _ => 0))), (u_6, .inl (G.2.2 0, 3, .inl (fun _ => 0))), (u_7, .inl (G.2.2 0, 3, .inl (fun _ => 0))), (u_8, .inl (G.2.2 0, 3, .inl (fun _ => 0))), (u_9, .inl (G.2.2 0, 3, .inl (fun _ => 0))), (u_10, .inl (G.2.2 0, 3, .inl (fun _ => 0)))] := hD
  refine W.widen (k := 10) (n := 45) (Nat.le_of_ble_eq_true rfl) (Nat.le_of_ble_eq_true rfl) ?_
  refine gq_putF (ws' := [(t, .inr (6, [.ref q_1, .null, .null, .int 0])), (q_1, .inr (7, [.ref u_2, .ref u_3, .ref u_4, .ref u_5, .ref u_6, .ref u_7, .ref u_8, .ref u_9, .ref u_10, .int 0])), (u_2, .inl (G.2.2 0, 5, .inl (fun _ => 0))), (u_3, .inl (G.2.2 0, 5, .inl (fun _ => 0))), (u_4, .inl (G.2.2 0, 5, .inl (fun _ => 0))), (u_5, .inl (G.2.2 0, 5, .inl (fun _ => 0))), (u_6, .inl (G.2.2 0, 3, .inl (fun _ => 0))), (u_7, .inl (G.2.2 0, 3, .inl (fun _ => 0))), (u_8, .inl (G.2.2 0, 3, .inl (fun _ => 0))), (u_9, .inl (G.2.2 0, 3, .inl (fun _ => 0))), (u_10, .inl (G.2.2 0, 3, .inl (fun _ => 0)))]) hx hb ht hown hin hK hP hD hS i_X6 tyX6 tyX6_ok nmX6 0 rfl rfl 0 (by decide) wd_479 rfl rfl rfl rfl (Nat.le_of_ble_eq_true rfl) rfl dX6_init_12 (fun H locs hP hD hS => ?_)
  refine lv_aload_n hx hb dX6_init_15 rfl (lv_at hl 0 rfl) ?_
  refine lv_bipush (v := 21) hx hb dX6_init_16 (by decide +kernel) ?_
  refine gq_newa (atype := .int) (ty := .int) hx hb rfl (ht _ wd_172) hK hP hD hS hA 0 rfl 21 (21, .inl (fun _ => 0)) (fun _ => rfl) (by decide +kernel) (by decide +kernel) (Nat.le_of_ble_eq_true rfl) 11 66 (Nat.le_of_ble_eq_true rfl) (Nat.le_of_ble_eq_true rfl) (Nat.le_of_ble_eq_true rfl) (Nat.le_of_ble_eq_true rfl) dX6_init_18 (fun q_11 H hP hD hS => ?_)
  have hP : va_P (gg_D G) classes [(t, .inr (6, [.ref q_1, .null, .null, .int 0])), (q_1, .inr (7, [.ref u_2, .ref u_3, .ref u_4, .ref u_5, .ref u_6, .ref u_7, .ref u_8, .ref u_9, .ref u_10, .int 0])), (u_2, .inl (G.2.2 0, 5, .inl (fun _ => 0))), (u_3, .inl (G.2.2 0, 5, .inl (fun _ => 0))), (u_4, .inl (G.2.2 0, 5, .inl (fun _ => 0))), (u_5, .inl (G.2.2 0, 5, .inl (fun _ => 0))), (u_6, .inl (G.2.2 0, 3, .inl (fun _ => 0))), (u_7, .inl (G.2.2 0, 3, .inl (fun _ => 0))), (u_8, .inl (G.2.2 0, 3, .inl (fun _ => 0))), (u_9, .inl (G.2.2 0, 3, .inl (fun _ => 0))), (u_10, .inl (G.2.2 0, 3, .inl (fun _ => 0))), (q_11, .inl (G.2.2 0, 21, .inl (fun _ => 0)))] H := hP
  have hD : va_D A [(t, .inr (6, [.ref q_1, .null, .null, .int 0])), (q_1, .inr (7, [.ref u_2, .ref u_3, .ref u_4, .ref u_5, .ref u_6, .ref u_7, .ref u_8, .ref u_9, .ref u_10, .int 0])), (u_2, .inl (G.2.2 0, 5, .inl (fun _ => 0))), (u_3, .inl (G.2.2 0, 5, .inl (fun _ => 0))), (u_4, .inl (G.2.2 0, 5, .inl (fun _ => 0))), (u_5, .inl (G.2.2 0, 5, .inl (fun _ => 0))), (u_6, .inl (G.2.2 0, 3, .inl (fun _ => 0))), (u_7, .inl (G.2.2 0, 3, .inl (fun _ => 0))), (u_8, .inl (G.2.2 0, 3, .inl (fun _ => 0))), (u_9, .inl (G.2.2 0, 3, .inl (fun _ => 0))), (u_10, .inl (G.2.2 0, 3, .inl (fun _ => 0))), (q_11, .inl (G.2.2 0, 21, .inl (fun _ => 0)))] := hD
  refine gq_putF (ws' := [(t, .inr (6, [.ref q_1, .ref q_11, .null, .int 0])), (q_1, .inr (7, [.ref u_2, .ref u_3, .ref u_4, .ref u_5, .ref u_6, .ref u_7, .ref u_8, .ref u_9, .ref u_10, .int 0])), (u_2, .inl (G.2.2 0, 5, .inl (fun _ => 0))), (u_3, .inl (G.2.2 0, 5, .inl (fun _ => 0))), (u_4, .inl (G.2.2 0, 5, .inl (fun _ => 0))), (u_5, .inl (G.2.2 0, 5, .inl (fun _ => 0))), (u_6, .inl (G.2.2 0, 3, .inl (fun _ => 0))), (u_7, .inl (G.2.2 0, 3, .inl (fun _ => 0))), (u_8, .inl (G.2.2 0, 3, .inl (fun _ => 0))), (u_9, .inl (G.2.2 0, 3, .inl (fun _ => 0))), (u_10, .inl (G.2.2 0, 3, .inl (fun _ => 0))), (q_11, .inl (G.2.2 0, 21, .inl (fun _ => 0)))]) hx hb ht hown hin hK hP hD hS i_X6 tyX6 tyX6_ok nmX6 0 rfl rfl 1 (by decide) wd_480 rfl rfl rfl rfl (Nat.le_of_ble_eq_true rfl) rfl dX6_init_20 (fun H locs hP hD hS => ?_)
  refine lv_aload_n hx hb dX6_init_23 rfl (lv_at hl 0 rfl) ?_
  refine lv_bipush (v := 21) hx hb dX6_init_24 (by decide +kernel) ?_
  refine gq_newa (atype := .int) (ty := .int) hx hb rfl (ht _ wd_172) hK hP hD hS hA 0 rfl 21 (21, .inl (fun _ => 0)) (fun _ => rfl) (by decide +kernel) (by decide +kernel) (Nat.le_of_ble_eq_true rfl) 12 87 (Nat.le_of_ble_eq_true rfl) (Nat.le_of_ble_eq_true rfl) (Nat.le_of_ble_eq_true rfl) (Nat.le_of_ble_eq_true rfl) dX6_init_26 (fun q_12 H hP hD hS => ?_)
  have hP : va_P (gg_D G) classes [(t, .inr (6, [.ref q_1, .ref q_11, .null, .int 0])), (q_1, .inr (7, [.ref u_2, .ref u_3, .ref u_4, .ref u_5, .ref u_6, .ref u_7, .ref u_8, .ref u_9, .ref u_10, .int 0])), (u_2, .inl (G.2.2 0, 5, .inl (fun _ => 0))), (u_3, .inl (G.2.2 0, 5, .inl (fun _ => 0))), (u_4, .inl (G.2.2 0, 5, .inl (fun _ => 0))), (u_5, .inl (G.2.2 0, 5, .inl (fun _ => 0))), (u_6, .inl (G.2.2 0, 3, .inl (fun _ => 0))), (u_7, .inl (G.2.2 0, 3, .inl (fun _ => 0))), (u_8, .inl (G.2.2 0, 3, .inl (fun _ => 0))), (u_9, .inl (G.2.2 0, 3, .inl (fun _ => 0))), (u_10, .inl (G.2.2 0, 3, .inl (fun _ => 0))), (q_11, .inl (G.2.2 0, 21, .inl (fun _ => 0))), (q_12, .inl (G.2.2 0, 21, .inl (fun _ => 0)))] H := hP
  have hD : va_D A [(t, .inr (6, [.ref q_1, .ref q_11, .null, .int 0])), (q_1, .inr (7, [.ref u_2, .ref u_3, .ref u_4, .ref u_5, .ref u_6, .ref u_7, .ref u_8, .ref u_9, .ref u_10, .int 0])), (u_2, .inl (G.2.2 0, 5, .inl (fun _ => 0))), (u_3, .inl (G.2.2 0, 5, .inl (fun _ => 0))), (u_4, .inl (G.2.2 0, 5, .inl (fun _ => 0))), (u_5, .inl (G.2.2 0, 5, .inl (fun _ => 0))), (u_6, .inl (G.2.2 0, 3, .inl (fun _ => 0))), (u_7, .inl (G.2.2 0, 3, .inl (fun _ => 0))), (u_8, .inl (G.2.2 0, 3, .inl (fun _ => 0))), (u_9, .inl (G.2.2 0, 3, .inl (fun _ => 0))), (u_10, .inl (G.2.2 0, 3, .inl (fun _ => 0))), (q_11, .inl (G.2.2 0, 21, .inl (fun _ => 0))), (q_12, .inl (G.2.2 0, 21, .inl (fun _ => 0)))] := hD
  refine gq_putF (ws' := [(t, .inr (6, [.ref q_1, .ref q_11, .ref q_12, .int 0])), (q_1, .inr (7, [.ref u_2, .ref u_3, .ref u_4, .ref u_5, .ref u_6, .ref u_7, .ref u_8, .ref u_9, .ref u_10, .int 0])), (u_2, .inl (G.2.2 0, 5, .inl (fun _ => 0))), (u_3, .inl (G.2.2 0, 5, .inl (fun _ => 0))), (u_4, .inl (G.2.2 0, 5, .inl (fun _ => 0))), (u_5, .inl (G.2.2 0, 5, .inl (fun _ => 0))), (u_6, .inl (G.2.2 0, 3, .inl (fun _ => 0))), (u_7, .inl (G.2.2 0, 3, .inl (fun _ => 0))), (u_8, .inl (G.2.2 0, 3, .inl (fun _ => 0))), (u_9, .inl (G.2.2 0, 3, .inl (fun _ => 0))), (u_10, .inl (G.2.2 0, 3, .inl (fun _ => 0))), (q_11, .inl (G.2.2 0, 21, .inl (fun _ => 0))), (q_12, .inl (G.2.2 0, 21, .inl (fun _ => 0)))]) hx hb ht hown hin hK hP hD hS i_X6 tyX6 tyX6_ok nmX6 0 rfl rfl 2 (by decide) wd_481 rfl rfl rfl rfl (Nat.le_of_ble_eq_true rfl) rfl dX6_init_28 (fun H locs hP hD hS => ?_)
  refine lv_aload_n hx hb dX6_init_31 rfl (lv_at hl 0 rfl) ?_
  refine lv_iconst (v := 0) hx hb dX6_init_32 (by decide) ?_
  refine gq_put (ws' := [(t, .inr (6, [.ref q_1, .ref q_11, .ref q_12, .int 0])), (q_1, .inr (7, [.ref u_2, .ref u_3, .ref u_4, .ref u_5, .ref u_6, .ref u_7, .ref u_8, .ref u_9, .ref u_10, .int 0])), (u_2, .inl (G.2.2 0, 5, .inl (fun _ => 0))), (u_3, .inl (G.2.2 0, 5, .inl (fun _ => 0))), (u_4, .inl (G.2.2 0, 5, .inl (fun _ => 0))), (u_5, .inl (G.2.2 0, 5, .inl (fun _ => 0))), (u_6, .inl (G.2.2 0, 3, .inl (fun _ => 0))), (u_7, .inl (G.2.2 0, 3, .inl (fun _ => 0))), (u_8, .inl (G.2.2 0, 3, .inl (fun _ => 0))), (u_9, .inl (G.2.2 0, 3, .inl (fun _ => 0))), (u_10, .inl (G.2.2 0, 3, .inl (fun _ => 0))), (q_11, .inl (G.2.2 0, 21, .inl (fun _ => 0))), (q_12, .inl (G.2.2 0, 21, .inl (fun _ => 0)))]) hx hb ht hown hK hP hD hS i_X6 tyX6 tyX6_ok nmX6 0 rfl rfl 3 (by decide) wd_482 rfl rfl rfl rfl (Nat.le_of_ble_eq_true rfl) rfl dX6_init_33 (fun H locs hP hD hS => ?_)
  have hP9 := hP.sub (ws' := []) [] rfl
  have hD9 := hD.sub (ws' := []) [] (by decide) rfl
  refine W.widen (k := 12) (n := 87) (Nat.le_of_ble_eq_true rfl) (Nat.le_of_ble_eq_true rfl) ?_
  exact W.vret hx hb hr (gq_endV () trivial hP9 hD9 hS) hS.2.2 dX6_init_36

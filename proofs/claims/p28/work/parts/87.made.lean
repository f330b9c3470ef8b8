theorem wd_148 : (Jvm.Cond.instanceMethod ({ cls := "java/lang/Object", name := "<init>", desc := "()V" } : Jvm.MethodName)) ∈ tb_L := tb_in (i := 148) (by decide +kernel) (by decide +kernel)
theorem wd_149 : (Jvm.Cond.code ({ cls := "java/lang/Object", name := "<init>", desc := "()V" } : Jvm.MethodName) object_method_1_code (1 : Nat) (Option.none : Option Jvm.ClassFile.FieldType)) ∈ tb_L := tb_in (i := 149) (by decide +kernel) (by decide +kernel)
theorem wd_172 : (Jvm.Cond.arrayClass Jvm.ClassFile.FieldType.int) ∈ tb_L := tb_in (i := 172) (by decide +kernel) (by decide +kernel)
theorem wd_177 : (Jvm.Cond.code ({ cls := "SilentSale$Terms", name := "<init>", desc := "()V" } : Jvm.MethodName) prog_11_method_1_code (1 : Nat) (Option.none : Option Jvm.ClassFile.FieldType)) ∈ tb_L := tb_in (i := 177) (by decide +kernel) (by decide +kernel)
theorem wd_178 : (Jvm.Cond.methodLink "SilentSale$Terms" (3 : Nat) ({ cls := "java/lang/Object", name := "<init>", desc := "()V" } : Jvm.MethodName)) ∈ tb_L := tb_in (i := 178) (by decide +kernel) (by decide +kernel)
theorem dX9_init_0 : decode cX9_init 0 = .ok (.aload_n 0, 1) := by decide +kernel
theorem dX9_init_1 : decode cX9_init 1 = .ok (.invokespecial 3, 3) := by decide +kernel
theorem dX9_init_4 : decode cX9_init 4 = .ok (.aload_n 0, 1) := by decide +kernel
theorem dX9_init_5 : decode cX9_init 5 = .ok (.iconst 0, 1) := by decide +kernel
theorem dX9_init_6 : decode cX9_init 6 = .ok (.putfield 9, 3) := by decide +kernel
theorem dX9_init_9 : decode cX9_init 9 = .ok (.aload_n 0, 1) := by decide +kernel
theorem dX9_init_10 : decode cX9_init 10 = .ok (.iconst 0, 1) := by decide +kernel
theorem dX9_init_11 : decode cX9_init 11 = .ok (.putfield 15, 3) := by decide +kernel
theorem dX9_init_14 : decode cX9_init 14 = .ok (.aload_n 0, 1) := by decide +kernel
theorem dX9_init_15 : decode cX9_init 15 = .ok (.iconst 0, 1) := by decide +kernel
theorem dX9_init_16 : decode cX9_init 16 = .ok (.putfield 18, 3) := by decide +kernel
theorem dX9_init_19 : decode cX9_init 19 = .ok (.aload_n 0, 1) := by decide +kernel
theorem dX9_init_20 : decode cX9_init 20 = .ok (.iconst 0, 1) := by decide +kernel
theorem dX9_init_21 : decode cX9_init 21 = .ok (.putfield 21, 3) := by decide +kernel
theorem dX9_init_24 : decode cX9_init 24 = .ok (.aload_n 0, 1) := by decide +kernel
theorem dX9_init_25 : decode cX9_init 25 = .ok (.iconst 5, 1) := by decide +kernel
theorem dX9_init_26 : decode cX9_init 26 = .ok (.newarray .int, 2) := by decide +kernel
theorem dX9_init_28 : decode cX9_init 28 = .ok (.putfield 24, 3) := by decide +kernel
theorem dX9_init_31 : decode cX9_init 31 = .ok (.aload_n 0, 1) := by decide +kernel
theorem dX9_init_32 : decode cX9_init 32 = .ok (.iconst 5, 1) := by decide +kernel
theorem dX9_init_33 : decode cX9_init 33 = .ok (.newarray .int, 2) := by decide +kernel
theorem dX9_init_35 : decode cX9_init 35 = .ok (.putfield 28, 3) := by decide +kernel
theorem dX9_init_38 : decode cX9_init 38 = .ok (.aload_n 0, 1) := by decide +kernel
theorem dX9_init_39 : decode cX9_init 39 = .ok (.bipush 15, 2) := by decide +kernel
theorem dX9_init_41 : decode cX9_init 41 = .ok (.newarray .int, 2) := by decide +kernel
theorem dX9_init_43 : decode cX9_init 43 = .ok (.putfield 31, 3) := by decide +kernel
theorem dX9_init_46 : decode cX9_init 46 = .ok (.aload_n 0, 1) := by decide +kernel
theorem dX9_init_47 : decode cX9_init 47 = .ok (.iconst 3, 1) := by decide +kernel
theorem dX9_init_48 : decode cX9_init 48 = .ok (.newarray .int, 2) := by decide +kernel
theorem dX9_init_50 : decode cX9_init 50 = .ok (.putfield 34, 3) := by decide +kernel
theorem dX9_init_53 : decode cX9_init 53 = .ok (.aload_n 0, 1) := by decide +kernel
theorem dX9_init_54 : decode cX9_init 54 = .ok (.iconst 3, 1) := by decide +kernel
theorem dX9_init_55 : decode cX9_init 55 = .ok (.newarray .int, 2) := by decide +kernel
theorem dX9_init_57 : decode cX9_init 57 = .ok (.putfield 37, 3) := by decide +kernel
theorem dX9_init_60 : decode cX9_init 60 = .ok (.return_, 1) := by decide +kernel
theorem wd_229 : (Jvm.Cond.code ({ cls := "SilentSale$State", name := "<init>", desc := "()V" } : Jvm.MethodName) prog_9_method_1_code (1 : Nat) (Option.none : Option Jvm.ClassFile.FieldType)) ∈ tb_L := tb_in (i := 229) (by decide +kernel) (by decide +kernel)
theorem wd_230 : (Jvm.Cond.methodLink "SilentSale$State" (3 : Nat) ({ cls := "java/lang/Object", name := "<init>", desc := "()V" } : Jvm.MethodName)) ∈ tb_L := tb_in (i := 230) (by decide +kernel) (by decide +kernel)
theorem dX7_init_0 : decode cX7_init 0 = .ok (.aload_n 0, 1) := by decide +kernel
theorem dX7_init_1 : decode cX7_init 1 = .ok (.invokespecial 3, 3) := by decide +kernel
theorem dX7_init_4 : decode cX7_init 4 = .ok (.aload_n 0, 1) := by decide +kernel
theorem dX7_init_5 : decode cX7_init 5 = .ok (.iconst 5, 1) := by decide +kernel
theorem dX7_init_6 : decode cX7_init 6 = .ok (.newarray .int, 2) := by decide +kernel
theorem dX7_init_8 : decode cX7_init 8 = .ok (.putfield 9, 3) := by decide +kernel
theorem dX7_init_11 : decode cX7_init 11 = .ok (.aload_n 0, 1) := by decide +kernel
theorem dX7_init_12 : decode cX7_init 12 = .ok (.iconst 5, 1) := by decide +kernel
theorem dX7_init_13 : decode cX7_init 13 = .ok (.newarray .int, 2) := by decide +kernel
theorem dX7_init_15 : decode cX7_init 15 = .ok (.putfield 15, 3) := by decide +kernel
theorem dX7_init_18 : decode cX7_init 18 = .ok (.aload_n 0, 1) := by decide +kernel
theorem dX7_init_19 : decode cX7_init 19 = .ok (.iconst 5, 1) := by decide +kernel
theorem dX7_init_20 : decode cX7_init 20 = .ok (.newarray .int, 2) := by decide +kernel
theorem dX7_init_22 : decode cX7_init 22 = .ok (.putfield 18, 3) := by decide +kernel
theorem dX7_init_25 : decode cX7_init 25 = .ok (.aload_n 0, 1) := by decide +kernel
theorem dX7_init_26 : decode cX7_init 26 = .ok (.iconst 5, 1) := by decide +kernel
theorem dX7_init_27 : decode cX7_init 27 = .ok (.newarray .int, 2) := by decide +kernel
theorem dX7_init_29 : decode cX7_init 29 = .ok (.putfield 21, 3) := by decide +kernel
theorem dX7_init_32 : decode cX7_init 32 = .ok (.aload_n 0, 1) := by decide +kernel
theorem dX7_init_33 : decode cX7_init 33 = .ok (.iconst 3, 1) := by decide +kernel
theorem dX7_init_34 : decode cX7_init 34 = .ok (.newarray .int, 2) := by decide +kernel
theorem dX7_init_36 : decode cX7_init 36 = .ok (.putfield 24, 3) := by decide +kernel
theorem dX7_init_39 : decode cX7_init 39 = .ok (.aload_n 0, 1) := by decide +kernel
theorem dX7_init_40 : decode cX7_init 40 = .ok (.iconst 3, 1) := by decide +kernel
theorem dX7_init_41 : decode cX7_init 41 = .ok (.newarray .int, 2) := by decide +kernel
theorem dX7_init_43 : decode cX7_init 43 = .ok (.putfield 27, 3) := by decide +kernel
theorem dX7_init_46 : decode cX7_init 46 = .ok (.aload_n 0, 1) := by decide +kernel
theorem dX7_init_47 : decode cX7_init 47 = .ok (.iconst 3, 1) := by decide +kernel
theorem dX7_init_48 : decode cX7_init 48 = .ok (.newarray .int, 2) := by decide +kernel
theorem dX7_init_50 : decode cX7_init 50 = .ok (.putfield 30, 3) := by decide +kernel
theorem dX7_init_53 : decode cX7_init 53 = .ok (.aload_n 0, 1) := by decide +kernel
theorem dX7_init_54 : decode cX7_init 54 = .ok (.iconst 3, 1) := by decide +kernel
theorem dX7_init_55 : decode cX7_init 55 = .ok (.newarray .int, 2) := by decide +kernel
theorem dX7_init_57 : decode cX7_init 57 = .ok (.putfield 33, 3) := by decide +kernel
theorem dX7_init_60 : decode cX7_init 60 = .ok (.aload_n 0, 1) := by decide +kernel
theorem dX7_init_61 : decode cX7_init 61 = .ok (.iconst 3, 1) := by decide +kernel
theorem dX7_init_62 : decode cX7_init 62 = .ok (.newarray .int, 2) := by decide +kernel
theorem dX7_init_64 : decode cX7_init 64 = .ok (.putfield 36, 3) := by decide +kernel
theorem dX7_init_67 : decode cX7_init 67 = .ok (.aload_n 0, 1) := by decide +kernel
theorem dX7_init_68 : decode cX7_init 68 = .ok (.iconst 0, 1) := by decide +kernel
theorem dX7_init_69 : decode cX7_init 69 = .ok (.putfield 39, 3) := by decide +kernel
theorem dX7_init_72 : decode cX7_init 72 = .ok (.return_, 1) := by decide +kernel
theorem wd_314 : (Jvm.Cond.code ({ cls := "SilentSale$Logs", name := "<init>", desc := "()V" } : Jvm.MethodName) prog_4_method_1_code (1 : Nat) (Option.none : Option Jvm.ClassFile.FieldType)) ∈ tb_L := tb_in (i := 314) (by decide +kernel) (by decide +kernel)
theorem wd_315 : (Jvm.Cond.methodLink "SilentSale$Logs" (3 : Nat) ({ cls := "java/lang/Object", name := "<init>", desc := "()V" } : Jvm.MethodName)) ∈ tb_L := tb_in (i := 315) (by decide +kernel) (by decide +kernel)
theorem dX2_init_0 : decode cX2_init 0 = .ok (.aload_n 0, 1) := by decide +kernel
theorem dX2_init_1 : decode cX2_init 1 = .ok (.invokespecial 3, 3) := by decide +kernel
theorem dX2_init_4 : decode cX2_init 4 = .ok (.aload_n 0, 1) := by decide +kernel
theorem dX2_init_5 : decode cX2_init 5 = .ok (.bipush 10, 2) := by decide +kernel
theorem dX2_init_7 : decode cX2_init 7 = .ok (.newarray .int, 2) := by decide +kernel
theorem dX2_init_9 : decode cX2_init 9 = .ok (.putfield 9, 3) := by decide +kernel
theorem dX2_init_12 : decode cX2_init 12 = .ok (.aload_n 0, 1) := by decide +kernel
theorem dX2_init_13 : decode cX2_init 13 = .ok (.bipush 10, 2) := by decide +kernel
theorem dX2_init_15 : decode cX2_init 15 = .ok (.newarray .int, 2) := by decide +kernel
theorem dX2_init_17 : decode cX2_init 17 = .ok (.putfield 15, 3) := by decide +kernel
theorem dX2_init_20 : decode cX2_init 20 = .ok (.aload_n 0, 1) := by decide +kernel
theorem dX2_init_21 : decode cX2_init 21 = .ok (.bipush 10, 2) := by decide +kernel
theorem dX2_init_23 : decode cX2_init 23 = .ok (.newarray .int, 2) := by decide +kernel
theorem dX2_init_25 : decode cX2_init 25 = .ok (.putfield 18, 3) := by decide +kernel
theorem dX2_init_28 : decode cX2_init 28 = .ok (.aload_n 0, 1) := by decide +kernel
theorem dX2_init_29 : decode cX2_init 29 = .ok (.iconst 0, 1) := by decide +kernel
theorem dX2_init_30 : decode cX2_init 30 = .ok (.putfield 21, 3) := by decide +kernel
theorem dX2_init_33 : decode cX2_init 33 = .ok (.return_, 1) := by decide +kernel
theorem wd_335 : (Jvm.Cond.code ({ cls := "SilentSale$Rule", name := "<init>", desc := "()V" } : Jvm.MethodName) prog_6_method_1_code (1 : Nat) (Option.none : Option Jvm.ClassFile.FieldType)) ∈ tb_L := tb_in (i := 335) (by decide +kernel) (by decide +kernel)
theorem wd_336 : (Jvm.Cond.methodLink "SilentSale$Rule" (3 : Nat) ({ cls := "java/lang/Object", name := "<init>", desc := "()V" } : Jvm.MethodName)) ∈ tb_L := tb_in (i := 336) (by decide +kernel) (by decide +kernel)
theorem wd_365 : (Jvm.Cond.arrayClass Jvm.ClassFile.FieldType.long) ∈ tb_L := tb_in (i := 365) (by decide +kernel) (by decide +kernel)
theorem dX4_init_0 : decode cX4_init 0 = .ok (.aload_n 0, 1) := by decide +kernel
theorem dX4_init_1 : decode cX4_init 1 = .ok (.invokespecial 3, 3) := by decide +kernel
theorem dX4_init_4 : decode cX4_init 4 = .ok (.aload_n 0, 1) := by decide +kernel
theorem dX4_init_5 : decode cX4_init 5 = .ok (.sipush 400, 3) := by decide +kernel
theorem dX4_init_8 : decode cX4_init 8 = .ok (.newarray .int, 2) := by decide +kernel
theorem dX4_init_10 : decode cX4_init 10 = .ok (.putfield 9, 3) := by decide +kernel
theorem dX4_init_13 : decode cX4_init 13 = .ok (.aload_n 0, 1) := by decide +kernel
theorem dX4_init_14 : decode cX4_init 14 = .ok (.bipush 10, 2) := by decide +kernel
theorem dX4_init_16 : decode cX4_init 16 = .ok (.newarray .long, 2) := by decide +kernel
theorem dX4_init_18 : decode cX4_init 18 = .ok (.putfield 15, 3) := by decide +kernel
theorem dX4_init_21 : decode cX4_init 21 = .ok (.aload_n 0, 1) := by decide +kernel
theorem dX4_init_22 : decode cX4_init 22 = .ok (.bipush 60, 2) := by decide +kernel
theorem dX4_init_24 : decode cX4_init 24 = .ok (.newarray .long, 2) := by decide +kernel
theorem dX4_init_26 : decode cX4_init 26 = .ok (.putfield 19, 3) := by decide +kernel
theorem dX4_init_29 : decode cX4_init 29 = .ok (.aload_n 0, 1) := by decide +kernel
theorem dX4_init_30 : decode cX4_init 30 = .ok (.bipush 11, 2) := by decide +kernel
theorem dX4_init_32 : decode cX4_init 32 = .ok (.newarray .int, 2) := by decide +kernel
theorem dX4_init_34 : decode cX4_init 34 = .ok (.putfield 22, 3) := by decide +kernel
theorem dX4_init_37 : decode cX4_init 37 = .ok (.aload_n 0, 1) := by decide +kernel
theorem dX4_init_38 : decode cX4_init 38 = .ok (.bipush 11, 2) := by decide +kernel
theorem dX4_init_40 : decode cX4_init 40 = .ok (.newarray .int, 2) := by decide +kernel
theorem dX4_init_42 : decode cX4_init 42 = .ok (.putfield 25, 3) := by decide +kernel
theorem dX4_init_45 : decode cX4_init 45 = .ok (.aload_n 0, 1) := by decide +kernel
theorem dX4_init_46 : decode cX4_init 46 = .ok (.iconst 0, 1) := by decide +kernel
theorem dX4_init_47 : decode cX4_init 47 = .ok (.putfield 28, 3) := by decide +kernel
theorem dX4_init_50 : decode cX4_init 50 = .ok (.aload_n 0, 1) := by decide +kernel
theorem dX4_init_51 : decode cX4_init 51 = .ok (.iconst 0, 1) := by decide +kernel
theorem dX4_init_52 : decode cX4_init 52 = .ok (.putfield 32, 3) := by decide +kernel
theorem dX4_init_55 : decode cX4_init 55 = .ok (.aload_n 0, 1) := by decide +kernel
theorem dX4_init_56 : decode cX4_init 56 = .ok (.iconst 0, 1) := by decide +kernel
theorem dX4_init_57 : decode cX4_init 57 = .ok (.putfield 35, 3) := by decide +kernel
theorem dX4_init_60 : decode cX4_init 60 = .ok (.aload_n 0, 1) := by decide +kernel
theorem dX4_init_61 : decode cX4_init 61 = .ok (.iconst 0, 1) := by decide +kernel
theorem dX4_init_62 : decode cX4_init 62 = .ok (.putfield 38, 3) := by decide +kernel
theorem dX4_init_65 : decode cX4_init 65 = .ok (.return_, 1) := by decide +kernel
theorem wd_226 : (Jvm.Cond.instantiable "SilentSale$State" (10 : Nat)) ∈ tb_L := tb_in (i := 226) (by decide +kernel) (by decide +kernel)
theorem wd_228 : (Jvm.Cond.instanceMethod ({ cls := "SilentSale$State", name := "<init>", desc := "()V" } : Jvm.MethodName)) ∈ tb_L := tb_in (i := 228) (by decide +kernel) (by decide +kernel)
theorem wd_294 : (Jvm.Cond.code ({ cls := "SilentSale$Past", name := "<init>", desc := "()V" } : Jvm.MethodName) prog_5_method_1_code (2 : Nat) (Option.none : Option Jvm.ClassFile.FieldType)) ∈ tb_L := tb_in (i := 294) (by decide +kernel) (by decide +kernel)
theorem wd_295 : (Jvm.Cond.methodLink "SilentSale$Past" (3 : Nat) ({ cls := "java/lang/Object", name := "<init>", desc := "()V" } : Jvm.MethodName)) ∈ tb_L := tb_in (i := 295) (by decide +kernel) (by decide +kernel)
theorem wd_296 : (Jvm.Cond.classLink "SilentSale$Past" (9 : Nat) "SilentSale$State") ∈ tb_L := tb_in (i := 296) (by decide +kernel) (by decide +kernel)
theorem dX3_init_0 : decode cX3_init 0 = .ok (.aload_n 0, 1) := by decide +kernel
theorem dX3_init_1 : decode cX3_init 1 = .ok (.invokespecial 3, 3) := by decide +kernel
theorem dX3_init_4 : decode cX3_init 4 = .ok (.aload_n 0, 1) := by decide +kernel
theorem dX3_init_5 : decode cX3_init 5 = .ok (.bipush 20, 2) := by decide +kernel
theorem dX3_init_7 : decode cX3_init 7 = .ok (.anewarray 9, 3) := by decide +kernel
theorem dX3_init_10 : decode cX3_init 10 = .ok (.putfield 11, 3) := by decide +kernel
theorem dX3_init_13 : decode cX3_init 13 = .ok (.aload_n 0, 1) := by decide +kernel
theorem dX3_init_14 : decode cX3_init 14 = .ok (.iconst 0, 1) := by decide +kernel
theorem dX3_init_15 : decode cX3_init 15 = .ok (.putfield 17, 3) := by decide +kernel
theorem dX3_init_18 : decode cX3_init 18 = .ok (.aload_n 0, 1) := by decide +kernel
theorem dX3_init_19 : decode cX3_init 19 = .ok (.iconst 0, 1) := by decide +kernel
theorem dX3_init_20 : decode cX3_init 20 = .ok (.putfield 21, 3) := by decide +kernel
theorem dX3_init_23 : decode cX3_init 23 = .ok (.iconst 0, 1) := by decide +kernel
theorem dX3_init_24 : decode cX3_init 24 = .ok (.istore_n 1, 1) := by decide +kernel
theorem dX3_init_25 : decode cX3_init 25 = .ok (.iload_n 1, 1) := by decide +kernel
theorem dX3_init_26 : decode cX3_init 26 = .ok (.bipush 20, 2) := by decide +kernel
theorem dX3_init_28 : decode cX3_init 28 = .ok (.if_icmp .ge 22, 3) := by decide +kernel
theorem dX3_init_31 : decode cX3_init 31 = .ok (.aload_n 0, 1) := by decide +kernel
theorem dX3_init_32 : decode cX3_init 32 = .ok (.getfield 11, 3) := by decide +kernel
theorem dX3_init_35 : decode cX3_init 35 = .ok (.iload_n 1, 1) := by decide +kernel
theorem dX3_init_36 : decode cX3_init 36 = .ok (.new 9, 3) := by decide +kernel
theorem dX3_init_39 : decode cX3_init 39 = .ok (.dup, 1) := by decide +kernel
theorem dX3_init_40 : decode cX3_init 40 = .ok (.invokespecial 24, 3) := by decide +kernel
theorem dX3_init_43 : decode cX3_init 43 = .ok (.aastore, 1) := by decide +kernel
theorem dX3_init_44 : decode cX3_init 44 = .ok (.iinc 1 1, 3) := by decide +kernel
theorem dX3_init_47 : decode cX3_init 47 = .ok (.goto (-22), 3) := by decide +kernel
theorem dX3_init_50 : decode cX3_init 50 = .ok (.return_, 1) := by decide +kernel
theorem wd_174 : (Jvm.Cond.instantiable "SilentSale$Terms" (9 : Nat)) ∈ tb_L := tb_in (i := 174) (by decide +kernel) (by decide +kernel)
theorem wd_176 : (Jvm.Cond.instanceMethod ({ cls := "SilentSale$Terms", name := "<init>", desc := "()V" } : Jvm.MethodName)) ∈ tb_L := tb_in (i := 176) (by decide +kernel) (by decide +kernel)
theorem wd_311 : (Jvm.Cond.instantiable "SilentSale$Logs" (4 : Nat)) ∈ tb_L := tb_in (i := 311) (by decide +kernel) (by decide +kernel)
theorem wd_313 : (Jvm.Cond.instanceMethod ({ cls := "SilentSale$Logs", name := "<init>", desc := "()V" } : Jvm.MethodName)) ∈ tb_L := tb_in (i := 313) (by decide +kernel) (by decide +kernel)
theorem wd_371 : (Jvm.Cond.code ({ cls := "SilentSale$Image", name := "<init>", desc := "()V" } : Jvm.MethodName) prog_3_method_1_code (1 : Nat) (Option.none : Option Jvm.ClassFile.FieldType)) ∈ tb_L := tb_in (i := 371) (by decide +kernel) (by decide +kernel)
theorem wd_372 : (Jvm.Cond.methodLink "SilentSale$Image" (3 : Nat) ({ cls := "java/lang/Object", name := "<init>", desc := "()V" } : Jvm.MethodName)) ∈ tb_L := tb_in (i := 372) (by decide +kernel) (by decide +kernel)
theorem wd_373 : (Jvm.Cond.classLink "SilentSale$Image" (9 : Nat) "SilentSale$Terms") ∈ tb_L := tb_in (i := 373) (by decide +kernel) (by decide +kernel)
theorem wd_375 : (Jvm.Cond.classLink "SilentSale$Image" (18 : Nat) "SilentSale$State") ∈ tb_L := tb_in (i := 375) (by decide +kernel) (by decide +kernel)
theorem wd_377 : (Jvm.Cond.classLink "SilentSale$Image" (25 : Nat) "SilentSale$Logs") ∈ tb_L := tb_in (i := 377) (by decide +kernel) (by decide +kernel)
theorem wd_384 : (Jvm.Cond.fieldLink "SilentSale$Image" (36 : Nat) "SilentSale$Image" "inForce" "I") ∈ tb_L := tb_in (i := 384) (by decide +kernel) (by decide +kernel)
theorem wd_386 : (Jvm.Cond.fieldLink "SilentSale$Image" (40 : Nat) "SilentSale$Image" "x" "I") ∈ tb_L := tb_in (i := 386) (by decide +kernel) (by decide +kernel)
theorem dX1_init_0 : decode cX1_init 0 = .ok (.aload_n 0, 1) := by decide +kernel
theorem dX1_init_1 : decode cX1_init 1 = .ok (.invokespecial 3, 3) := by decide +kernel
theorem dX1_init_4 : decode cX1_init 4 = .ok (.aload_n 0, 1) := by decide +kernel
theorem dX1_init_5 : decode cX1_init 5 = .ok (.new 9, 3) := by decide +kernel
theorem dX1_init_8 : decode cX1_init 8 = .ok (.dup, 1) := by decide +kernel
theorem dX1_init_9 : decode cX1_init 9 = .ok (.invokespecial 11, 3) := by decide +kernel
theorem dX1_init_12 : decode cX1_init 12 = .ok (.putfield 12, 3) := by decide +kernel
theorem dX1_init_15 : decode cX1_init 15 = .ok (.aload_n 0, 1) := by decide +kernel
theorem dX1_init_16 : decode cX1_init 16 = .ok (.new 18, 3) := by decide +kernel
theorem dX1_init_19 : decode cX1_init 19 = .ok (.dup, 1) := by decide +kernel
theorem dX1_init_20 : decode cX1_init 20 = .ok (.invokespecial 20, 3) := by decide +kernel
theorem dX1_init_23 : decode cX1_init 23 = .ok (.putfield 21, 3) := by decide +kernel
theorem dX1_init_26 : decode cX1_init 26 = .ok (.aload_n 0, 1) := by decide +kernel
theorem dX1_init_27 : decode cX1_init 27 = .ok (.new 25, 3) := by decide +kernel
theorem dX1_init_30 : decode cX1_init 30 = .ok (.dup, 1) := by decide +kernel
theorem dX1_init_31 : decode cX1_init 31 = .ok (.invokespecial 27, 3) := by decide +kernel
theorem dX1_init_34 : decode cX1_init 34 = .ok (.putfield 28, 3) := by decide +kernel
theorem dX1_init_37 : decode cX1_init 37 = .ok (.aload_n 0, 1) := by decide +kernel
theorem dX1_init_38 : decode cX1_init 38 = .ok (.iconst 0, 1) := by decide +kernel
theorem dX1_init_39 : decode cX1_init 39 = .ok (.putfield 32, 3) := by decide +kernel
theorem dX1_init_42 : decode cX1_init 42 = .ok (.aload_n 0, 1) := by decide +kernel
theorem dX1_init_43 : decode cX1_init 43 = .ok (.iconst (-1), 1) := by decide +kernel
theorem dX1_init_44 : decode cX1_init 44 = .ok (.putfield 36, 3) := by decide +kernel
theorem dX1_init_47 : decode cX1_init 47 = .ok (.aload_n 0, 1) := by decide +kernel
theorem dX1_init_48 : decode cX1_init 48 = .ok (.iconst 0, 1) := by decide +kernel
theorem dX1_init_49 : decode cX1_init 49 = .ok (.putfield 40, 3) := by decide +kernel
theorem dX1_init_52 : decode cX1_init 52 = .ok (.return_, 1) := by decide +kernel
theorem wd_405 : (Jvm.Cond.code ({ cls := "SilentSale$Clerk", name := "<init>", desc := "()V" } : Jvm.MethodName) prog_2_method_1_code (1 : Nat) (Option.none : Option Jvm.ClassFile.FieldType)) ∈ tb_L := tb_in (i := 405) (by decide +kernel) (by decide +kernel)
theorem wd_406 : (Jvm.Cond.methodLink "SilentSale$Clerk" (3 : Nat) ({ cls := "java/lang/Object", name := "<init>", desc := "()V" } : Jvm.MethodName)) ∈ tb_L := tb_in (i := 406) (by decide +kernel) (by decide +kernel)
theorem wd_407 : (Jvm.Cond.classLink "SilentSale$Clerk" (9 : Nat) "SilentSale$Terms") ∈ tb_L := tb_in (i := 407) (by decide +kernel) (by decide +kernel)
theorem dX0_init_0 : decode cX0_init 0 = .ok (.aload_n 0, 1) := by decide +kernel
theorem dX0_init_1 : decode cX0_init 1 = .ok (.invokespecial 3, 3) := by decide +kernel
theorem dX0_init_4 : decode cX0_init 4 = .ok (.aload_n 0, 1) := by decide +kernel
theorem dX0_init_5 : decode cX0_init 5 = .ok (.new 9, 3) := by decide +kernel
theorem dX0_init_8 : decode cX0_init 8 = .ok (.dup, 1) := by decide +kernel
theorem dX0_init_9 : decode cX0_init 9 = .ok (.invokespecial 11, 3) := by decide +kernel
theorem dX0_init_12 : decode cX0_init 12 = .ok (.putfield 12, 3) := by decide +kernel
theorem dX0_init_15 : decode cX0_init 15 = .ok (.aload_n 0, 1) := by decide +kernel
theorem dX0_init_16 : decode cX0_init 16 = .ok (.aconst_null, 1) := by decide +kernel
theorem dX0_init_17 : decode cX0_init 17 = .ok (.putfield 18, 3) := by decide +kernel
theorem dX0_init_20 : decode cX0_init 20 = .ok (.aload_n 0, 1) := by decide +kernel
theorem dX0_init_21 : decode cX0_init 21 = .ok (.iconst 0, 1) := by decide +kernel
theorem dX0_init_22 : decode cX0_init 22 = .ok (.putfield 22, 3) := by decide +kernel
theorem dX0_init_25 : decode cX0_init 25 = .ok (.aload_n 0, 1) := by decide +kernel
theorem dX0_init_26 : decode cX0_init 26 = .ok (.lconst 0, 1) := by decide +kernel
theorem dX0_init_27 : decode cX0_init 27 = .ok (.putfield 26, 3) := by decide +kernel
theorem dX0_init_30 : decode cX0_init 30 = .ok (.return_, 1) := by decide +kernel
theorem wd_426 : (Jvm.Cond.code ({ cls := "SilentSale$Seating", name := "<init>", desc := "()V" } : Jvm.MethodName) prog_7_method_1_code (1 : Nat) (Option.none : Option Jvm.ClassFile.FieldType)) ∈ tb_L := tb_in (i := 426) (by decide +kernel) (by decide +kernel)
theorem wd_427 : (Jvm.Cond.methodLink "SilentSale$Seating" (3 : Nat) ({ cls := "java/lang/Object", name := "<init>", desc := "()V" } : Jvm.MethodName)) ∈ tb_L := tb_in (i := 427) (by decide +kernel) (by decide +kernel)
theorem wd_428 : (Jvm.Cond.classLink "SilentSale$Seating" (9 : Nat) "SilentSale$State") ∈ tb_L := tb_in (i := 428) (by decide +kernel) (by decide +kernel)
theorem dX5_init_0 : decode cX5_init 0 = .ok (.aload_n 0, 1) := by decide +kernel
theorem dX5_init_1 : decode cX5_init 1 = .ok (.invokespecial 3, 3) := by decide +kernel
theorem dX5_init_4 : decode cX5_init 4 = .ok (.aload_n 0, 1) := by decide +kernel
theorem dX5_init_5 : decode cX5_init 5 = .ok (.new 9, 3) := by decide +kernel
theorem dX5_init_8 : decode cX5_init 8 = .ok (.dup, 1) := by decide +kernel
theorem dX5_init_9 : decode cX5_init 9 = .ok (.invokespecial 11, 3) := by decide +kernel
theorem dX5_init_12 : decode cX5_init 12 = .ok (.putfield 12, 3) := by decide +kernel
theorem dX5_init_15 : decode cX5_init 15 = .ok (.aload_n 0, 1) := by decide +kernel
theorem dX5_init_16 : decode cX5_init 16 = .ok (.iconst 5, 1) := by decide +kernel
theorem dX5_init_17 : decode cX5_init 17 = .ok (.newarray .int, 2) := by decide +kernel
theorem dX5_init_19 : decode cX5_init 19 = .ok (.putfield 18, 3) := by decide +kernel
theorem dX5_init_22 : decode cX5_init 22 = .ok (.aload_n 0, 1) := by decide +kernel
theorem dX5_init_23 : decode cX5_init 23 = .ok (.bipush 96, 2) := by decide +kernel
theorem dX5_init_25 : decode cX5_init 25 = .ok (.newarray .int, 2) := by decide +kernel
theorem dX5_init_27 : decode cX5_init 27 = .ok (.putfield 22, 3) := by decide +kernel
theorem dX5_init_30 : decode cX5_init 30 = .ok (.aload_n 0, 1) := by decide +kernel
theorem dX5_init_31 : decode cX5_init 31 = .ok (.iconst 5, 1) := by decide +kernel
theorem dX5_init_32 : decode cX5_init 32 = .ok (.newarray .int, 2) := by decide +kernel
theorem dX5_init_34 : decode cX5_init 34 = .ok (.putfield 25, 3) := by decide +kernel
theorem dX5_init_37 : decode cX5_init 37 = .ok (.aload_n 0, 1) := by decide +kernel
theorem dX5_init_38 : decode cX5_init 38 = .ok (.iconst 0, 1) := by decide +kernel
theorem dX5_init_39 : decode cX5_init 39 = .ok (.putfield 28, 3) := by decide +kernel
theorem dX5_init_42 : decode cX5_init 42 = .ok (.return_, 1) := by decide +kernel
theorem wd_452 : (Jvm.Cond.code ({ cls := "SilentSale$Trickery", name := "<init>", desc := "()V" } : Jvm.MethodName) prog_12_method_1_code (1 : Nat) (Option.none : Option Jvm.ClassFile.FieldType)) ∈ tb_L := tb_in (i := 452) (by decide +kernel) (by decide +kernel)
theorem wd_453 : (Jvm.Cond.methodLink "SilentSale$Trickery" (3 : Nat) ({ cls := "java/lang/Object", name := "<init>", desc := "()V" } : Jvm.MethodName)) ∈ tb_L := tb_in (i := 453) (by decide +kernel) (by decide +kernel)
theorem wd_454 : (Jvm.Cond.classLink "SilentSale$Trickery" (9 : Nat) "SilentSale$State") ∈ tb_L := tb_in (i := 454) (by decide +kernel) (by decide +kernel)
theorem dX10_init_0 : decode cX10_init 0 = .ok (.aload_n 0, 1) := by decide +kernel
theorem dX10_init_1 : decode cX10_init 1 = .ok (.invokespecial 3, 3) := by decide +kernel
theorem dX10_init_4 : decode cX10_init 4 = .ok (.aload_n 0, 1) := by decide +kernel
theorem dX10_init_5 : decode cX10_init 5 = .ok (.new 9, 3) := by decide +kernel
theorem dX10_init_8 : decode cX10_init 8 = .ok (.dup, 1) := by decide +kernel
theorem dX10_init_9 : decode cX10_init 9 = .ok (.invokespecial 11, 3) := by decide +kernel
theorem dX10_init_12 : decode cX10_init 12 = .ok (.putfield 12, 3) := by decide +kernel
theorem dX10_init_15 : decode cX10_init 15 = .ok (.aload_n 0, 1) := by decide +kernel
theorem dX10_init_16 : decode cX10_init 16 = .ok (.iconst 5, 1) := by decide +kernel
theorem dX10_init_17 : decode cX10_init 17 = .ok (.newarray .int, 2) := by decide +kernel
theorem dX10_init_19 : decode cX10_init 19 = .ok (.putfield 18, 3) := by decide +kernel
theorem dX10_init_22 : decode cX10_init 22 = .ok (.aload_n 0, 1) := by decide +kernel
theorem dX10_init_23 : decode cX10_init 23 = .ok (.iconst 5, 1) := by decide +kernel
theorem dX10_init_24 : decode cX10_init 24 = .ok (.newarray .int, 2) := by decide +kernel
theorem dX10_init_26 : decode cX10_init 26 = .ok (.putfield 22, 3) := by decide +kernel
theorem dX10_init_29 : decode cX10_init 29 = .ok (.aload_n 0, 1) := by decide +kernel
theorem dX10_init_30 : decode cX10_init 30 = .ok (.iconst (-1), 1) := by decide +kernel
theorem dX10_init_31 : decode cX10_init 31 = .ok (.putfield 25, 3) := by decide +kernel
theorem dX10_init_34 : decode cX10_init 34 = .ok (.return_, 1) := by decide +kernel
theorem wd_475 : (Jvm.Cond.code ({ cls := "SilentSale$Sleuth", name := "<init>", desc := "()V" } : Jvm.MethodName) prog_8_method_1_code (1 : Nat) (Option.none : Option Jvm.ClassFile.FieldType)) ∈ tb_L := tb_in (i := 475) (by decide +kernel) (by decide +kernel)
theorem wd_476 : (Jvm.Cond.methodLink "SilentSale$Sleuth" (3 : Nat) ({ cls := "java/lang/Object", name := "<init>", desc := "()V" } : Jvm.MethodName)) ∈ tb_L := tb_in (i := 476) (by decide +kernel) (by decide +kernel)
theorem wd_477 : (Jvm.Cond.classLink "SilentSale$Sleuth" (9 : Nat) "SilentSale$State") ∈ tb_L := tb_in (i := 477) (by decide +kernel) (by decide +kernel)
theorem dX6_init_0 : decode cX6_init 0 = .ok (.aload_n 0, 1) := by decide +kernel
theorem dX6_init_1 : decode cX6_init 1 = .ok (.invokespecial 3, 3) := by decide +kernel
theorem dX6_init_4 : decode cX6_init 4 = .ok (.aload_n 0, 1) := by decide +kernel
theorem dX6_init_5 : decode cX6_init 5 = .ok (.new 9, 3) := by decide +kernel
theorem dX6_init_8 : decode cX6_init 8 = .ok (.dup, 1) := by decide +kernel
theorem dX6_init_9 : decode cX6_init 9 = .ok (.invokespecial 11, 3) := by decide +kernel
theorem dX6_init_12 : decode cX6_init 12 = .ok (.putfield 12, 3) := by decide +kernel
theorem dX6_init_15 : decode cX6_init 15 = .ok (.aload_n 0, 1) := by decide +kernel
theorem dX6_init_16 : decode cX6_init 16 = .ok (.bipush 21, 2) := by decide +kernel
theorem dX6_init_18 : decode cX6_init 18 = .ok (.newarray .int, 2) := by decide +kernel
theorem dX6_init_20 : decode cX6_init 20 = .ok (.putfield 18, 3) := by decide +kernel
theorem dX6_init_23 : decode cX6_init 23 = .ok (.aload_n 0, 1) := by decide +kernel
theorem dX6_init_24 : decode cX6_init 24 = .ok (.bipush 21, 2) := by decide +kernel
theorem dX6_init_26 : decode cX6_init 26 = .ok (.newarray .int, 2) := by decide +kernel
theorem dX6_init_28 : decode cX6_init 28 = .ok (.putfield 22, 3) := by decide +kernel
theorem dX6_init_31 : decode cX6_init 31 = .ok (.aload_n 0, 1) := by decide +kernel
theorem dX6_init_32 : decode cX6_init 32 = .ok (.iconst 0, 1) := by decide +kernel
theorem dX6_init_33 : decode cX6_init 33 = .ok (.putfield 25, 3) := by decide +kernel
theorem dX6_init_36 : decode cX6_init 36 = .ok (.return_, 1) := by decide +kernel
theorem wd_154 : (Jvm.Cond.code ({ cls := "SilentSale$Tape", name := "<init>", desc := "()V" } : Jvm.MethodName) prog_10_method_1_code (1 : Nat) (Option.none : Option Jvm.ClassFile.FieldType)) ∈ tb_L := tb_in (i := 154) (by decide +kernel) (by decide +kernel)
theorem wd_155 : (Jvm.Cond.methodLink "SilentSale$Tape" (3 : Nat) ({ cls := "java/lang/Object", name := "<init>", desc := "()V" } : Jvm.MethodName)) ∈ tb_L := tb_in (i := 155) (by decide +kernel) (by decide +kernel)
theorem dX8_init_0 : decode cX8_init 0 = .ok (.aload_n 0, 1) := by decide +kernel
theorem dX8_init_1 : decode cX8_init 1 = .ok (.invokespecial 3, 3) := by decide +kernel
theorem dX8_init_4 : decode cX8_init 4 = .ok (.aload_n 0, 1) := by decide +kernel
theorem dX8_init_5 : decode cX8_init 5 = .ok (.sipush 400, 3) := by decide +kernel
theorem dX8_init_8 : decode cX8_init 8 = .ok (.newarray .int, 2) := by decide +kernel
theorem dX8_init_10 : decode cX8_init 10 = .ok (.putfield 9, 3) := by decide +kernel
theorem dX8_init_13 : decode cX8_init 13 = .ok (.aload_n 0, 1) := by decide +kernel
theorem dX8_init_14 : decode cX8_init 14 = .ok (.iconst 0, 1) := by decide +kernel
theorem dX8_init_15 : decode cX8_init 15 = .ok (.putfield 15, 3) := by decide +kernel
theorem dX8_init_18 : decode cX8_init 18 = .ok (.aload_n 0, 1) := by decide +kernel
theorem dX8_init_19 : decode cX8_init 19 = .ok (.iconst 0, 1) := by decide +kernel
theorem dX8_init_20 : decode cX8_init 20 = .ok (.putfield 19, 3) := by decide +kernel
theorem dX8_init_23 : decode cX8_init 23 = .ok (.aload_n 0, 1) := by decide +kernel
theorem dX8_init_24 : decode cX8_init 24 = .ok (.iconst 0, 1) := by decide +kernel
theorem dX8_init_25 : decode cX8_init 25 = .ok (.putfield 22, 3) := by decide +kernel
theorem dX8_init_28 : decode cX8_init 28 = .ok (.aload_n 0, 1) := by decide +kernel
theorem dX8_init_29 : decode cX8_init 29 = .ok (.iconst 0, 1) := by decide +kernel
theorem dX8_init_30 : decode cX8_init 30 = .ok (.putfield 25, 3) := by decide +kernel
theorem dX8_init_33 : decode cX8_init 33 = .ok (.return_, 1) := by decide +kernel
theorem wd_146 : (Jvm.Cond.code ({ cls := "SilentSale", name := "<init>", desc := "()V" } : Jvm.MethodName) prog_1_method_1_code (2 : Nat) (Option.none : Option Jvm.ClassFile.FieldType)) ∈ tb_L := tb_in (i := 146) (by decide +kernel) (by decide +kernel)
theorem wd_147 : (Jvm.Cond.methodLink "SilentSale" (1 : Nat) ({ cls := "java/lang/Object", name := "<init>", desc := "()V" } : Jvm.MethodName)) ∈ tb_L := tb_in (i := 147) (by decide +kernel) (by decide +kernel)
theorem wd_150 : (Jvm.Cond.classLink "SilentSale" (7 : Nat) "SilentSale$Tape") ∈ tb_L := tb_in (i := 150) (by decide +kernel) (by decide +kernel)
theorem wd_151 : (Jvm.Cond.instantiable "SilentSale$Tape" (5 : Nat)) ∈ tb_L := tb_in (i := 151) (by decide +kernel) (by decide +kernel)
theorem wd_153 : (Jvm.Cond.instanceMethod ({ cls := "SilentSale$Tape", name := "<init>", desc := "()V" } : Jvm.MethodName)) ∈ tb_L := tb_in (i := 153) (by decide +kernel) (by decide +kernel)
theorem wd_173 : (Jvm.Cond.classLink "SilentSale" (16 : Nat) "SilentSale$Terms") ∈ tb_L := tb_in (i := 173) (by decide +kernel) (by decide +kernel)
theorem wd_225 : (Jvm.Cond.classLink "SilentSale" (26 : Nat) "SilentSale$State") ∈ tb_L := tb_in (i := 225) (by decide +kernel) (by decide +kernel)
theorem wd_290 : (Jvm.Cond.classLink "SilentSale" (36 : Nat) "SilentSale$Past") ∈ tb_L := tb_in (i := 290) (by decide +kernel) (by decide +kernel)
theorem wd_291 : (Jvm.Cond.instantiable "SilentSale$Past" (3 : Nat)) ∈ tb_L := tb_in (i := 291) (by decide +kernel) (by decide +kernel)
theorem wd_292 : (Jvm.Cond.methodLink "SilentSale" (38 : Nat) ({ cls := "SilentSale$Past", name := "<init>", desc := "()V" } : Jvm.MethodName)) ∈ tb_L := tb_in (i := 292) (by decide +kernel) (by decide +kernel)
theorem wd_293 : (Jvm.Cond.instanceMethod ({ cls := "SilentSale$Past", name := "<init>", desc := "()V" } : Jvm.MethodName)) ∈ tb_L := tb_in (i := 293) (by decide +kernel) (by decide +kernel)
theorem wd_310 : (Jvm.Cond.classLink "SilentSale" (43 : Nat) "SilentSale$Logs") ∈ tb_L := tb_in (i := 310) (by decide +kernel) (by decide +kernel)
theorem wd_330 : (Jvm.Cond.classLink "SilentSale" (50 : Nat) "SilentSale$Rule") ∈ tb_L := tb_in (i := 330) (by decide +kernel) (by decide +kernel)
theorem wd_332 : (Jvm.Cond.instantiable "SilentSale$Rule" (9 : Nat)) ∈ tb_L := tb_in (i := 332) (by decide +kernel) (by decide +kernel)
theorem wd_334 : (Jvm.Cond.instanceMethod ({ cls := "SilentSale$Rule", name := "<init>", desc := "()V" } : Jvm.MethodName)) ∈ tb_L := tb_in (i := 334) (by decide +kernel) (by decide +kernel)
theorem wd_366 : (Jvm.Cond.classLink "SilentSale" (57 : Nat) "SilentSale$Image") ∈ tb_L := tb_in (i := 366) (by decide +kernel) (by decide +kernel)
theorem wd_368 : (Jvm.Cond.instantiable "SilentSale$Image" (6 : Nat)) ∈ tb_L := tb_in (i := 368) (by decide +kernel) (by decide +kernel)
theorem wd_370 : (Jvm.Cond.instanceMethod ({ cls := "SilentSale$Image", name := "<init>", desc := "()V" } : Jvm.MethodName)) ∈ tb_L := tb_in (i := 370) (by decide +kernel) (by decide +kernel)
theorem wd_401 : (Jvm.Cond.classLink "SilentSale" (64 : Nat) "SilentSale$Clerk") ∈ tb_L := tb_in (i := 401) (by decide +kernel) (by decide +kernel)
theorem wd_402 : (Jvm.Cond.instantiable "SilentSale$Clerk" (4 : Nat)) ∈ tb_L := tb_in (i := 402) (by decide +kernel) (by decide +kernel)
theorem wd_404 : (Jvm.Cond.instanceMethod ({ cls := "SilentSale$Clerk", name := "<init>", desc := "()V" } : Jvm.MethodName)) ∈ tb_L := tb_in (i := 404) (by decide +kernel) (by decide +kernel)
theorem wd_422 : (Jvm.Cond.classLink "SilentSale" (71 : Nat) "SilentSale$Seating") ∈ tb_L := tb_in (i := 422) (by decide +kernel) (by decide +kernel)
theorem wd_423 : (Jvm.Cond.instantiable "SilentSale$Seating" (5 : Nat)) ∈ tb_L := tb_in (i := 423) (by decide +kernel) (by decide +kernel)
theorem wd_425 : (Jvm.Cond.instanceMethod ({ cls := "SilentSale$Seating", name := "<init>", desc := "()V" } : Jvm.MethodName)) ∈ tb_L := tb_in (i := 425) (by decide +kernel) (by decide +kernel)
theorem wd_448 : (Jvm.Cond.classLink "SilentSale" (78 : Nat) "SilentSale$Trickery") ∈ tb_L := tb_in (i := 448) (by decide +kernel) (by decide +kernel)
theorem wd_449 : (Jvm.Cond.instantiable "SilentSale$Trickery" (4 : Nat)) ∈ tb_L := tb_in (i := 449) (by decide +kernel) (by decide +kernel)
theorem wd_451 : (Jvm.Cond.instanceMethod ({ cls := "SilentSale$Trickery", name := "<init>", desc := "()V" } : Jvm.MethodName)) ∈ tb_L := tb_in (i := 451) (by decide +kernel) (by decide +kernel)
theorem wd_471 : (Jvm.Cond.classLink "SilentSale" (85 : Nat) "SilentSale$Sleuth") ∈ tb_L := tb_in (i := 471) (by decide +kernel) (by decide +kernel)
theorem wd_472 : (Jvm.Cond.instantiable "SilentSale$Sleuth" (4 : Nat)) ∈ tb_L := tb_in (i := 472) (by decide +kernel) (by decide +kernel)
theorem wd_474 : (Jvm.Cond.instanceMethod ({ cls := "SilentSale$Sleuth", name := "<init>", desc := "()V" } : Jvm.MethodName)) ∈ tb_L := tb_in (i := 474) (by decide +kernel) (by decide +kernel)
theorem dX11_init_0 : decode cX11_init 0 = .ok (.aload_n 0, 1) := by decide +kernel
theorem dX11_init_1 : decode cX11_init 1 = .ok (.invokespecial 1, 3) := by decide +kernel
theorem dX11_init_4 : decode cX11_init 4 = .ok (.aload_n 0, 1) := by decide +kernel
theorem dX11_init_5 : decode cX11_init 5 = .ok (.new 7, 3) := by decide +kernel
theorem dX11_init_8 : decode cX11_init 8 = .ok (.dup, 1) := by decide +kernel
theorem dX11_init_9 : decode cX11_init 9 = .ok (.invokespecial 9, 3) := by decide +kernel
theorem dX11_init_12 : decode cX11_init 12 = .ok (.putfield 10, 3) := by decide +kernel
theorem dX11_init_15 : decode cX11_init 15 = .ok (.aload_n 0, 1) := by decide +kernel
theorem dX11_init_16 : decode cX11_init 16 = .ok (.new 16, 3) := by decide +kernel
theorem dX11_init_19 : decode cX11_init 19 = .ok (.dup, 1) := by decide +kernel
theorem dX11_init_20 : decode cX11_init 20 = .ok (.invokespecial 18, 3) := by decide +kernel
theorem dX11_init_23 : decode cX11_init 23 = .ok (.putfield 19, 3) := by decide +kernel
theorem dX11_init_26 : decode cX11_init 26 = .ok (.aload_n 0, 1) := by decide +kernel
theorem dX11_init_27 : decode cX11_init 27 = .ok (.new 16, 3) := by decide +kernel
theorem dX11_init_30 : decode cX11_init 30 = .ok (.dup, 1) := by decide +kernel
theorem dX11_init_31 : decode cX11_init 31 = .ok (.invokespecial 18, 3) := by decide +kernel
theorem dX11_init_34 : decode cX11_init 34 = .ok (.putfield 23, 3) := by decide +kernel
theorem dX11_init_37 : decode cX11_init 37 = .ok (.aload_n 0, 1) := by decide +kernel
theorem dX11_init_38 : decode cX11_init 38 = .ok (.new 26, 3) := by decide +kernel
theorem dX11_init_41 : decode cX11_init 41 = .ok (.dup, 1) := by decide +kernel
theorem dX11_init_42 : decode cX11_init 42 = .ok (.invokespecial 28, 3) := by decide +kernel
theorem dX11_init_45 : decode cX11_init 45 = .ok (.putfield 29, 3) := by decide +kernel
theorem dX11_init_48 : decode cX11_init 48 = .ok (.aload_n 0, 1) := by decide +kernel
theorem dX11_init_49 : decode cX11_init 49 = .ok (.new 26, 3) := by decide +kernel
theorem dX11_init_52 : decode cX11_init 52 = .ok (.dup, 1) := by decide +kernel
theorem dX11_init_53 : decode cX11_init 53 = .ok (.invokespecial 28, 3) := by decide +kernel
theorem dX11_init_56 : decode cX11_init 56 = .ok (.putfield 33, 3) := by decide +kernel
theorem dX11_init_59 : decode cX11_init 59 = .ok (.aload_n 0, 1) := by decide +kernel
theorem dX11_init_60 : decode cX11_init 60 = .ok (.new 36, 3) := by decide +kernel
theorem dX11_init_63 : decode cX11_init 63 = .ok (.dup, 1) := by decide +kernel
theorem dX11_init_64 : decode cX11_init 64 = .ok (.invokespecial 38, 3) := by decide +kernel
theorem dX11_init_67 : decode cX11_init 67 = .ok (.putfield 39, 3) := by decide +kernel
theorem dX11_init_70 : decode cX11_init 70 = .ok (.aload_n 0, 1) := by decide +kernel
theorem dX11_init_71 : decode cX11_init 71 = .ok (.new 43, 3) := by decide +kernel
theorem dX11_init_74 : decode cX11_init 74 = .ok (.dup, 1) := by decide +kernel
theorem dX11_init_75 : decode cX11_init 75 = .ok (.invokespecial 45, 3) := by decide +kernel
theorem dX11_init_78 : decode cX11_init 78 = .ok (.putfield 46, 3) := by decide +kernel
theorem dX11_init_81 : decode cX11_init 81 = .ok (.aload_n 0, 1) := by decide +kernel
theorem dX11_init_82 : decode cX11_init 82 = .ok (.bipush 6, 2) := by decide +kernel
theorem dX11_init_84 : decode cX11_init 84 = .ok (.anewarray 50, 3) := by decide +kernel
theorem dX11_init_87 : decode cX11_init 87 = .ok (.putfield 52, 3) := by decide +kernel
theorem dX11_init_90 : decode cX11_init 90 = .ok (.iconst 0, 1) := by decide +kernel
theorem dX11_init_91 : decode cX11_init 91 = .ok (.istore_n 1, 1) := by decide +kernel
theorem dX11_init_92 : decode cX11_init 92 = .ok (.iload_n 1, 1) := by decide +kernel
theorem dX11_init_93 : decode cX11_init 93 = .ok (.bipush 6, 2) := by decide +kernel
theorem dX11_init_95 : decode cX11_init 95 = .ok (.if_icmp .ge 22, 3) := by decide +kernel
theorem dX11_init_98 : decode cX11_init 98 = .ok (.aload_n 0, 1) := by decide +kernel
theorem dX11_init_99 : decode cX11_init 99 = .ok (.getfield 52, 3) := by decide +kernel
theorem dX11_init_102 : decode cX11_init 102 = .ok (.iload_n 1, 1) := by decide +kernel
theorem dX11_init_103 : decode cX11_init 103 = .ok (.new 50, 3) := by decide +kernel
theorem dX11_init_106 : decode cX11_init 106 = .ok (.dup, 1) := by decide +kernel
theorem dX11_init_107 : decode cX11_init 107 = .ok (.invokespecial 56, 3) := by decide +kernel
theorem dX11_init_110 : decode cX11_init 110 = .ok (.aastore, 1) := by decide +kernel
theorem dX11_init_111 : decode cX11_init 111 = .ok (.iinc 1 1, 3) := by decide +kernel
theorem dX11_init_114 : decode cX11_init 114 = .ok (.goto (-22), 3) := by decide +kernel
theorem dX11_init_117 : decode cX11_init 117 = .ok (.aload_n 0, 1) := by decide +kernel
theorem dX11_init_118 : decode cX11_init 118 = .ok (.iconst 4, 1) := by decide +kernel
theorem dX11_init_119 : decode cX11_init 119 = .ok (.anewarray 57, 3) := by decide +kernel
theorem dX11_init_122 : decode cX11_init 122 = .ok (.putfield 59, 3) := by decide +kernel
theorem dX11_init_125 : decode cX11_init 125 = .ok (.iconst 0, 1) := by decide +kernel
theorem dX11_init_126 : decode cX11_init 126 = .ok (.istore_n 1, 1) := by decide +kernel
theorem dX11_init_127 : decode cX11_init 127 = .ok (.iload_n 1, 1) := by decide +kernel
theorem dX11_init_128 : decode cX11_init 128 = .ok (.iconst 4, 1) := by decide +kernel
theorem dX11_init_129 : decode cX11_init 129 = .ok (.if_icmp .ge 22, 3) := by decide +kernel
theorem dX11_init_132 : decode cX11_init 132 = .ok (.aload_n 0, 1) := by decide +kernel
theorem dX11_init_133 : decode cX11_init 133 = .ok (.getfield 59, 3) := by decide +kernel
theorem dX11_init_136 : decode cX11_init 136 = .ok (.iload_n 1, 1) := by decide +kernel
theorem dX11_init_137 : decode cX11_init 137 = .ok (.new 57, 3) := by decide +kernel
theorem dX11_init_140 : decode cX11_init 140 = .ok (.dup, 1) := by decide +kernel
theorem dX11_init_141 : decode cX11_init 141 = .ok (.invokespecial 63, 3) := by decide +kernel
theorem dX11_init_144 : decode cX11_init 144 = .ok (.aastore, 1) := by decide +kernel
theorem dX11_init_145 : decode cX11_init 145 = .ok (.iinc 1 1, 3) := by decide +kernel
theorem dX11_init_148 : decode cX11_init 148 = .ok (.goto (-21), 3) := by decide +kernel
theorem dX11_init_151 : decode cX11_init 151 = .ok (.aload_n 0, 1) := by decide +kernel
theorem dX11_init_152 : decode cX11_init 152 = .ok (.new 64, 3) := by decide +kernel
theorem dX11_init_155 : decode cX11_init 155 = .ok (.dup, 1) := by decide +kernel
theorem dX11_init_156 : decode cX11_init 156 = .ok (.invokespecial 66, 3) := by decide +kernel
theorem dX11_init_159 : decode cX11_init 159 = .ok (.putfield 67, 3) := by decide +kernel
theorem dX11_init_162 : decode cX11_init 162 = .ok (.aload_n 0, 1) := by decide +kernel
theorem dX11_init_163 : decode cX11_init 163 = .ok (.new 71, 3) := by decide +kernel
theorem dX11_init_166 : decode cX11_init 166 = .ok (.dup, 1) := by decide +kernel
theorem dX11_init_167 : decode cX11_init 167 = .ok (.invokespecial 73, 3) := by decide +kernel
theorem dX11_init_170 : decode cX11_init 170 = .ok (.putfield 74, 3) := by decide +kernel
theorem dX11_init_173 : decode cX11_init 173 = .ok (.aload_n 0, 1) := by decide +kernel
theorem dX11_init_174 : decode cX11_init 174 = .ok (.new 78, 3) := by decide +kernel
theorem dX11_init_177 : decode cX11_init 177 = .ok (.dup, 1) := by decide +kernel
theorem dX11_init_178 : decode cX11_init 178 = .ok (.invokespecial 80, 3) := by decide +kernel
theorem dX11_init_181 : decode cX11_init 181 = .ok (.putfield 81, 3) := by decide +kernel
theorem dX11_init_184 : decode cX11_init 184 = .ok (.aload_n 0, 1) := by decide +kernel
theorem dX11_init_185 : decode cX11_init 185 = .ok (.new 85, 3) := by decide +kernel
theorem dX11_init_188 : decode cX11_init 188 = .ok (.dup, 1) := by decide +kernel
theorem dX11_init_189 : decode cX11_init 189 = .ok (.invokespecial 87, 3) := by decide +kernel
theorem dX11_init_192 : decode cX11_init 192 = .ok (.putfield 88, 3) := by decide +kernel
theorem dX11_init_195 : decode cX11_init 195 = .ok (.aload_n 0, 1) := by decide +kernel
theorem dX11_init_196 : decode cX11_init 196 = .ok (.iconst 0, 1) := by decide +kernel
theorem dX11_init_197 : decode cX11_init 197 = .ok (.putfield 92, 3) := by decide +kernel
theorem dX11_init_200 : decode cX11_init 200 = .ok (.aload_n 0, 1) := by decide +kernel
theorem dX11_init_201 : decode cX11_init 201 = .ok (.iconst (-1), 1) := by decide +kernel
theorem dX11_init_202 : decode cX11_init 202 = .ok (.putfield 96, 3) := by decide +kernel
theorem dX11_init_205 : decode cX11_init 205 = .ok (.aload_n 0, 1) := by decide +kernel
theorem dX11_init_206 : decode cX11_init 206 = .ok (.iconst 0, 1) := by decide +kernel
theorem dX11_init_207 : decode cX11_init 207 = .ok (.putfield 99, 3) := by decide +kernel
theorem dX11_init_210 : decode cX11_init 210 = .ok (.aload_n 0, 1) := by decide +kernel
theorem dX11_init_211 : decode cX11_init 211 = .ok (.getfield 29, 3) := by decide +kernel
theorem dX11_init_214 : decode cX11_init 214 = .ok (.aload_n 0, 1) := by decide +kernel
theorem dX11_init_215 : decode cX11_init 215 = .ok (.getfield 19, 3) := by decide +kernel
theorem dX11_init_218 : decode cX11_init 218 = .ok (.invokevirtual 102, 3) := by decide +kernel
theorem dX11_init_221 : decode cX11_init 221 = .ok (.return_, 1) := by decide +kernel
set_option maxHeartbeats 4000000 in
set_option maxRecDepth 100000 in
theorem d_i_Terms (l : Launch) (G : gg_T) (Γ : Nat → Nat) (sz : Nat) (wt : va_W) (hT : tk_ty G Γ wt) (t : Nat) : Met l yX9_init (ts_L yX9_init cX9_init 1 none) ({ frames := 1, cells := 5, slots := 31, locals := 12 }) (gc_P G ([(t, .inr (9, [.int 0, .int 0, .int 0, .int 0, .null, .null, .null, .null, .null]))] ++ wt) sz [.ref t]) (gc_V G (va_A ([(t, .inr (9, [.int 0, .int 0, .int 0, .int 0, .null, .null, .null, .null, .null]))] ++ wt) sz) (fun (u : (Nat → Nat) × va_W) => match u with | (Γ1, wt1) => tk_ty G Γ1 wt1 ∧ tk_kp [] wt wt1 ∧ tk_ext Γ Γ1 ∧ Γ1 t = 10) (fun (u : (Nat → Nat) × va_W) => match u with | (Γ1, wt1) => wt1)) 5 31 (va_A ([(t, .inr (9, [.int 0, .int 0, .int 0, .int 0, .null, .null, .null, .null, .null]))] ++ wt) sz) := by
  refine Met.ofW (cc := cX9_init) (maxL := 1) (ret := none) (by decide) rfl ?_
  intro p e s m args below meth c s₁ B hml hv
  obtain ⟨rfl, hsz, hP, hK, hD0⟩ := hv
  have hx := B.exec
  have hb := B.bytes
  have hr := B.returns
  have ht := ts_ht (atoms_spec (ws := ts_L yX9_init cX9_init 1 none) B.pre)
  have hown : s.vm.findClass RX9 = some m.cls := findClass_of_methodNamed B.named
  have hlocks := B.notSynchronized
  subst hsz
  have hD := hD0.self (sz := s.heap.size)
  generalize hAe : va_A ([(t, .inr (9, [.int 0, .int 0, .int 0, .int 0, .null, .null, .null, .null, .null]))] ++ wt) s.heap.size = A at hD ⊢
  have hA : ∀ q : Nat, s.heap.size ≤ q → A q := fun q h => by rw [← hAe]; exact Or.inr h
  clear hAe hD0
  have hS : va_S A s.heap s.heap [] := va_S.rf
  obtain ⟨w0, hw0⟩ : ∃ z, z = wt := ⟨_, rfl⟩
  have hW : tk_kp [] w0 wt := by rw [hw0]; exact tk_kp.rf
  rw [← hw0]
  clear hw0
  have hin : meth.name = "<init>" := (name_of_methodNamed B.named B.method).1
  obtain ⟨Γ0, hΓ0⟩ : ∃ z, z = Γ := ⟨_, rfl⟩
  have hE : tk_ext Γ0 Γ := by rw [hΓ0]; exact tk_ext.rf
  rw [← hΓ0]
  clear hΓ0
  have hP : va_P (gg_D G) classes ([(t, .inr (9, [.int 0, .int 0, .int 0, .int 0, .null, .null, .null, .null, .null]))] ++ wt) s.heap := hP
  have hD : va_D A ([(t, .inr (9, [.int 0, .int 0, .int 0, .int 0, .null, .null, .null, .null, .null]))] ++ wt) := hD
  have hl := lv_entry ([.ref t]) (n := 1) (Nat.le_of_ble_eq_true rfl)
  rw [lg_entry_eq]
  generalize (lg_sl ([.ref t]) ++ List.replicate (1 - (lg_sl ([.ref t])).length) Slot.unset).toArray = ls at hl ⊢
  have hl : lv_has ls 1 [(0, .ref t)] := hl
  have l0 : (0 : Int32).toInt = 0 := by decide +kernel
  refine lv_aload_n hx hb dX9_init_0 rfl (lv_at hl 0 rfl) ?_
  refine W.objInit hx hb hown (ht _ wd_178) (ht _ wd_148) (ht _ wd_149) rfl (by rw [hml]; exact hl.1) rfl dX9_init_1 (Nat.le_of_ble_eq_true rfl) (Nat.le_of_ble_eq_true rfl) ?_
  refine W.eq (g2 := F0 m 4 ls []) rfl ?_
  refine lv_aload_n hx hb dX9_init_4 rfl (lv_at hl 0 rfl) ?_
  refine lv_iconst (v := 0) hx hb dX9_init_5 (by decide +kernel) ?_
  refine gq_put (ws' := [(t, .inr (9, [.int 0, .int 0, .int 0, .int 0, .null, .null, .null, .null, .null]))] ++ wt) hx hb ht hown hK hP hD hS i_X9 tyX9 tyX9_ok nmX9 0 rfl rfl 0 (by decide) wd_179 rfl rfl rfl rfl (Nat.le_of_ble_eq_true rfl) rfl dX9_init_6 (fun H locs hP hD hS => ?_)
  refine lv_aload_n hx hb dX9_init_9 rfl (lv_at hl 0 rfl) ?_
  refine lv_iconst (v := 0) hx hb dX9_init_10 (by decide +kernel) ?_
  refine gq_put (ws' := [(t, .inr (9, [.int 0, .int 0, .int 0, .int 0, .null, .null, .null, .null, .null]))] ++ wt) hx hb ht hown hK hP hD hS i_X9 tyX9 tyX9_ok nmX9 0 rfl rfl 1 (by decide) wd_182 rfl rfl rfl rfl (Nat.le_of_ble_eq_true rfl) rfl dX9_init_11 (fun H locs hP hD hS => ?_)
  refine lv_aload_n hx hb dX9_init_14 rfl (lv_at hl 0 rfl) ?_
  refine lv_iconst (v := 0) hx hb dX9_init_15 (by decide +kernel) ?_
  refine gq_put (ws' := [(t, .inr (9, [.int 0, .int 0, .int 0, .int 0, .null, .null, .null, .null, .null]))] ++ wt) hx hb ht hown hK hP hD hS i_X9 tyX9 tyX9_ok nmX9 0 rfl rfl 2 (by decide) wd_187 rfl rfl rfl rfl (Nat.le_of_ble_eq_true rfl) rfl dX9_init_16 (fun H locs hP hD hS => ?_)
  refine lv_aload_n hx hb dX9_init_19 rfl (lv_at hl 0 rfl) ?_
  refine lv_iconst (v := 0) hx hb dX9_init_20 (by decide +kernel) ?_
  refine gq_put (ws' := [(t, .inr (9, [.int 0, .int 0, .int 0, .int 0, .null, .null, .null, .null, .null]))] ++ wt) hx hb ht hown hK hP hD hS i_X9 tyX9 tyX9_ok nmX9 0 rfl rfl 3 (by decide) wd_191 rfl rfl rfl rfl (Nat.le_of_ble_eq_true rfl) rfl dX9_init_21 (fun H locs hP hD hS => ?_)
  refine lv_aload_n hx hb dX9_init_24 rfl (lv_at hl 0 rfl) ?_
  refine lv_iconst (v := 5) hx hb dX9_init_25 (by decide +kernel) ?_
  refine gq_newa (atype := .int) (ty := .int) hx hb rfl (ht _ wd_172) hK hP hD hS hA 0 rfl 5 (5, .inl (fun _ => 0)) (fun _ => rfl) (by decide +kernel) (by decide +kernel) (Nat.le_of_ble_eq_true rfl) 1 5 (Nat.le_of_ble_eq_true rfl) (Nat.le_of_ble_eq_true rfl) (Nat.le_of_ble_eq_true rfl) (Nat.le_of_ble_eq_true rfl) dX9_init_26 (fun q_1 H hP hD hS => ?_)
  have hP : va_P (gg_D G) classes ([(t, .inr (9, [.int 0, .int 0, .int 0, .int 0, .null, .null, .null, .null, .null])), (q_1, .inl (G.2.2 0, 5, .inl (fun _ => 0)))] ++ wt) H := tw_newP hP
  have hD : va_D A ([(t, .inr (9, [.int 0, .int 0, .int 0, .int 0, .null, .null, .null, .null, .null])), (q_1, .inl (G.2.2 0, 5, .inl (fun _ => 0)))] ++ wt) := tw_newD hD
  refine gq_putF (ws' := [(t, .inr (9, [.int 0, .int 0, .int 0, .int 0, .ref q_1, .null, .null, .null, .null])), (q_1, .inl (G.2.2 0, 5, .inl (fun _ => 0)))] ++ wt) hx hb ht hown hin hK hP hD hS i_X9 tyX9 tyX9_ok nmX9 0 rfl rfl 4 (by decide) wd_194 rfl rfl rfl rfl (Nat.le_of_ble_eq_true rfl) rfl dX9_init_28 (fun H locs hP hD hS => ?_)
  refine lv_aload_n hx hb dX9_init_31 rfl (lv_at hl 0 rfl) ?_
  refine lv_iconst (v := 5) hx hb dX9_init_32 (by decide +kernel) ?_
  refine gq_newa (atype := .int) (ty := .int) hx hb rfl (ht _ wd_172) hK hP hD hS hA 0 rfl 5 (5, .inl (fun _ => 0)) (fun _ => rfl) (by decide +kernel) (by decide +kernel) (Nat.le_of_ble_eq_true rfl) 2 10 (Nat.le_of_ble_eq_true rfl) (Nat.le_of_ble_eq_true rfl) (Nat.le_of_ble_eq_true rfl) (Nat.le_of_ble_eq_true rfl) dX9_init_33 (fun q_2 H hP hD hS => ?_)
  have hP : va_P (gg_D G) classes ([(t, .inr (9, [.int 0, .int 0, .int 0, .int 0, .ref q_1, .null, .null, .null, .null])), (q_1, .inl (G.2.2 0, 5, .inl (fun _ => 0))), (q_2, .inl (G.2.2 0, 5, .inl (fun _ => 0)))] ++ wt) H := tw_newP hP
  have hD : va_D A ([(t, .inr (9, [.int 0, .int 0, .int 0, .int 0, .ref q_1, .null, .null, .null, .null])), (q_1, .inl (G.2.2 0, 5, .inl (fun _ => 0))), (q_2, .inl (G.2.2 0, 5, .inl (fun _ => 0)))] ++ wt) := tw_newD hD
  refine gq_putF (ws' := [(t, .inr (9, [.int 0, .int 0, .int 0, .int 0, .ref q_1, .ref q_2, .null, .null, .null])), (q_1, .inl (G.2.2 0, 5, .inl (fun _ => 0))), (q_2, .inl (G.2.2 0, 5, .inl (fun _ => 0)))] ++ wt) hx hb ht hown hin hK hP hD hS i_X9 tyX9 tyX9_ok nmX9 0 rfl rfl 5 (by decide) wd_196 rfl rfl rfl rfl (Nat.le_of_ble_eq_true rfl) rfl dX9_init_35 (fun H locs hP hD hS => ?_)
  refine lv_aload_n hx hb dX9_init_38 rfl (lv_at hl 0 rfl) ?_
  refine lv_bipush (v := 15) hx hb dX9_init_39 (by decide +kernel) ?_
  refine gq_newa (atype := .int) (ty := .int) hx hb rfl (ht _ wd_172) hK hP hD hS hA 0 rfl 15 (15, .inl (fun _ => 0)) (fun _ => rfl) (by decide +kernel) (by decide +kernel) (Nat.le_of_ble_eq_true rfl) 3 25 (Nat.le_of_ble_eq_true rfl) (Nat.le_of_ble_eq_true rfl) (Nat.le_of_ble_eq_true rfl) (Nat.le_of_ble_eq_true rfl) dX9_init_41 (fun q_3 H hP hD hS => ?_)
  have hP : va_P (gg_D G) classes ([(t, .inr (9, [.int 0, .int 0, .int 0, .int 0, .ref q_1, .ref q_2, .null, .null, .null])), (q_1, .inl (G.2.2 0, 5, .inl (fun _ => 0))), (q_2, .inl (G.2.2 0, 5, .inl (fun _ => 0))), (q_3, .inl (G.2.2 0, 15, .inl (fun _ => 0)))] ++ wt) H := tw_newP hP
  have hD : va_D A ([(t, .inr (9, [.int 0, .int 0, .int 0, .int 0, .ref q_1, .ref q_2, .null, .null, .null])), (q_1, .inl (G.2.2 0, 5, .inl (fun _ => 0))), (q_2, .inl (G.2.2 0, 5, .inl (fun _ => 0))), (q_3, .inl (G.2.2 0, 15, .inl (fun _ => 0)))] ++ wt) := tw_newD hD
  refine gq_putF (ws' := [(t, .inr (9, [.int 0, .int 0, .int 0, .int 0, .ref q_1, .ref q_2, .ref q_3, .null, .null])), (q_1, .inl (G.2.2 0, 5, .inl (fun _ => 0))), (q_2, .inl (G.2.2 0, 5, .inl (fun _ => 0))), (q_3, .inl (G.2.2 0, 15, .inl (fun _ => 0)))] ++ wt) hx hb ht hown hin hK hP hD hS i_X9 tyX9 tyX9_ok nmX9 0 rfl rfl 6 (by decide) wd_198 rfl rfl rfl rfl (Nat.le_of_ble_eq_true rfl) rfl dX9_init_43 (fun H locs hP hD hS => ?_)
  refine lv_aload_n hx hb dX9_init_46 rfl (lv_at hl 0 rfl) ?_
  refine lv_iconst (v := 3) hx hb dX9_init_47 (by decide +kernel) ?_
  refine gq_newa (atype := .int) (ty := .int) hx hb rfl (ht _ wd_172) hK hP hD hS hA 0 rfl 3 (3, .inl (fun _ => 0)) (fun _ => rfl) (by decide +kernel) (by decide +kernel) (Nat.le_of_ble_eq_true rfl) 4 28 (Nat.le_of_ble_eq_true rfl) (Nat.le_of_ble_eq_true rfl) (Nat.le_of_ble_eq_true rfl) (Nat.le_of_ble_eq_true rfl) dX9_init_48 (fun q_4 H hP hD hS => ?_)
  have hP : va_P (gg_D G) classes ([(t, .inr (9, [.int 0, .int 0, .int 0, .int 0, .ref q_1, .ref q_2, .ref q_3, .null, .null])), (q_1, .inl (G.2.2 0, 5, .inl (fun _ => 0))), (q_2, .inl (G.2.2 0, 5, .inl (fun _ => 0))), (q_3, .inl (G.2.2 0, 15, .inl (fun _ => 0))), (q_4, .inl (G.2.2 0, 3, .inl (fun _ => 0)))] ++ wt) H := tw_newP hP
  have hD : va_D A ([(t, .inr (9, [.int 0, .int 0, .int 0, .int 0, .ref q_1, .ref q_2, .ref q_3, .null, .null])), (q_1, .inl (G.2.2 0, 5, .inl (fun _ => 0))), (q_2, .inl (G.2.2 0, 5, .inl (fun _ => 0))), (q_3, .inl (G.2.2 0, 15, .inl (fun _ => 0))), (q_4, .inl (G.2.2 0, 3, .inl (fun _ => 0)))] ++ wt) := tw_newD hD
  refine gq_putF (ws' := [(t, .inr (9, [.int 0, .int 0, .int 0, .int 0, .ref q_1, .ref q_2, .ref q_3, .ref q_4, .null])), (q_1, .inl (G.2.2 0, 5, .inl (fun _ => 0))), (q_2, .inl (G.2.2 0, 5, .inl (fun _ => 0))), (q_3, .inl (G.2.2 0, 15, .inl (fun _ => 0))), (q_4, .inl (G.2.2 0, 3, .inl (fun _ => 0)))] ++ wt) hx hb ht hown hin hK hP hD hS i_X9 tyX9 tyX9_ok nmX9 0 rfl rfl 7 (by decide) wd_199 rfl rfl rfl rfl (Nat.le_of_ble_eq_true rfl) rfl dX9_init_50 (fun H locs hP hD hS => ?_)
  refine lv_aload_n hx hb dX9_init_53 rfl (lv_at hl 0 rfl) ?_
  refine lv_iconst (v := 3) hx hb dX9_init_54 (by decide +kernel) ?_
  refine gq_newa (atype := .int) (ty := .int) hx hb rfl (ht _ wd_172) hK hP hD hS hA 0 rfl 3 (3, .inl (fun _ => 0)) (fun _ => rfl) (by decide +kernel) (by decide +kernel) (Nat.le_of_ble_eq_true rfl) 5 31 (Nat.le_of_ble_eq_true rfl) (Nat.le_of_ble_eq_true rfl) (Nat.le_of_ble_eq_true rfl) (Nat.le_of_ble_eq_true rfl) dX9_init_55 (fun q_5 H hP hD hS => ?_)
  have hP : va_P (gg_D G) classes ([(t, .inr (9, [.int 0, .int 0, .int 0, .int 0, .ref q_1, .ref q_2, .ref q_3, .ref q_4, .null])), (q_1, .inl (G.2.2 0, 5, .inl (fun _ => 0))), (q_2, .inl (G.2.2 0, 5, .inl (fun _ => 0))), (q_3, .inl (G.2.2 0, 15, .inl (fun _ => 0))), (q_4, .inl (G.2.2 0, 3, .inl (fun _ => 0))), (q_5, .inl (G.2.2 0, 3, .inl (fun _ => 0)))] ++ wt) H := tw_newP hP
  have hD : va_D A ([(t, .inr (9, [.int 0, .int 0, .int 0, .int 0, .ref q_1, .ref q_2, .ref q_3, .ref q_4, .null])), (q_1, .inl (G.2.2 0, 5, .inl (fun _ => 0))), (q_2, .inl (G.2.2 0, 5, .inl (fun _ => 0))), (q_3, .inl (G.2.2 0, 15, .inl (fun _ => 0))), (q_4, .inl (G.2.2 0, 3, .inl (fun _ => 0))), (q_5, .inl (G.2.2 0, 3, .inl (fun _ => 0)))] ++ wt) := tw_newD hD
  refine gq_putF (ws' := [(t, .inr (9, [.int 0, .int 0, .int 0, .int 0, .ref q_1, .ref q_2, .ref q_3, .ref q_4, .ref q_5])), (q_1, .inl (G.2.2 0, 5, .inl (fun _ => 0))), (q_2, .inl (G.2.2 0, 5, .inl (fun _ => 0))), (q_3, .inl (G.2.2 0, 15, .inl (fun _ => 0))), (q_4, .inl (G.2.2 0, 3, .inl (fun _ => 0))), (q_5, .inl (G.2.2 0, 3, .inl (fun _ => 0)))] ++ wt) hx hb ht hown hin hK hP hD hS i_X9 tyX9 tyX9_ok nmX9 0 rfl rfl 8 (by decide) wd_203 rfl rfl rfl rfl (Nat.le_of_ble_eq_true rfl) rfl dX9_init_57 (fun H locs hP hD hS => ?_)
  have hP := tw_permP (we' := [(t, .inr (9, [.int 0, .int 0, .int 0, .int 0, .ref q_1, .ref q_2, .ref q_3, .ref q_4, .ref q_5])), (q_2, .inl (G.2.2 0, 5, .inl (fun _ => 0))), (q_3, .inl (G.2.2 0, 15, .inl (fun _ => 0))), (q_4, .inl (G.2.2 0, 3, .inl (fun _ => 0))), (q_5, .inl (G.2.2 0, 3, .inl (fun _ => 0))), (q_1, .inl (G.2.2 0, 5, .inl (fun _ => 0)))]) [0, 2, 3, 4, 5, 1] rfl hP
  have hD := tw_permD (we' := [(t, .inr (9, [.int 0, .int 0, .int 0, .int 0, .ref q_1, .ref q_2, .ref q_3, .ref q_4, .ref q_5])), (q_2, .inl (G.2.2 0, 5, .inl (fun _ => 0))), (q_3, .inl (G.2.2 0, 15, .inl (fun _ => 0))), (q_4, .inl (G.2.2 0, 3, .inl (fun _ => 0))), (q_5, .inl (G.2.2 0, 3, .inl (fun _ => 0))), (q_1, .inl (G.2.2 0, 5, .inl (fun _ => 0)))]) [0, 2, 3, 4, 5, 1] (by decide) rfl hD
  have hP : va_P (gg_D G) classes ([(t, .inr (9, [.int 0, .int 0, .int 0, .int 0, .ref q_1, .ref q_2, .ref q_3, .ref q_4, .ref q_5])), (q_2, .inl (G.2.2 0, 5, .inl (fun _ => 0))), (q_3, .inl (G.2.2 0, 15, .inl (fun _ => 0))), (q_4, .inl (G.2.2 0, 3, .inl (fun _ => 0))), (q_5, .inl (G.2.2 0, 3, .inl (fun _ => 0)))] ++ ((q_1, .inl (G.2.2 0, 5, .inl (fun _ => 0))) :: wt)) H := hP
  have hD : va_D A ([(t, .inr (9, [.int 0, .int 0, .int 0, .int 0, .ref q_1, .ref q_2, .ref q_3, .ref q_4, .ref q_5])), (q_2, .inl (G.2.2 0, 5, .inl (fun _ => 0))), (q_3, .inl (G.2.2 0, 15, .inl (fun _ => 0))), (q_4, .inl (G.2.2 0, 3, .inl (fun _ => 0))), (q_5, .inl (G.2.2 0, 3, .inl (fun _ => 0)))] ++ ((q_1, .inl (G.2.2 0, 5, .inl (fun _ => 0))) :: wt)) := hD
  obtain ⟨Γ9, w9, hwe, hxe, hk_6, hT, hkp⟩ := tk_take (k := 20) hT hD (by decide) (show tk_en G Γ 20 _ from ⟨⟨by decide, by decide⟩, rfl, rfl, fun _ => (show tk_e 20 0 from trivial)⟩)
  rw [hwe] at hP hD
  clear hwe
  have hW := hW.call (show ∀ x ∈ ([] : List Nat), x ∈ [] by decide) hkp
  have hE := hE.tr hxe
  clear hxe
  obtain ⟨Γ, hΓ9⟩ : ∃ z, z = Γ9 := ⟨_, rfl⟩
  subst hΓ9
  obtain ⟨wt, hw9⟩ : ∃ z, z = w9 := ⟨_, rfl⟩
  subst hw9
  have hP := tw_permP (we' := [(t, .inr (9, [.int 0, .int 0, .int 0, .int 0, .ref q_1, .ref q_2, .ref q_3, .ref q_4, .ref q_5])), (q_3, .inl (G.2.2 0, 15, .inl (fun _ => 0))), (q_4, .inl (G.2.2 0, 3, .inl (fun _ => 0))), (q_5, .inl (G.2.2 0, 3, .inl (fun _ => 0))), (q_2, .inl (G.2.2 0, 5, .inl (fun _ => 0)))]) [0, 2, 3, 4, 1] rfl hP
  have hD := tw_permD (we' := [(t, .inr (9, [.int 0, .int 0, .int 0, .int 0, .ref q_1, .ref q_2, .ref q_3, .ref q_4, .ref q_5])), (q_3, .inl (G.2.2 0, 15, .inl (fun _ => 0))), (q_4, .inl (G.2.2 0, 3, .inl (fun _ => 0))), (q_5, .inl (G.2.2 0, 3, .inl (fun _ => 0))), (q_2, .inl (G.2.2 0, 5, .inl (fun _ => 0)))]) [0, 2, 3, 4, 1] (by decide) rfl hD
  have hP : va_P (gg_D G) classes ([(t, .inr (9, [.int 0, .int 0, .int 0, .int 0, .ref q_1, .ref q_2, .ref q_3, .ref q_4, .ref q_5])), (q_3, .inl (G.2.2 0, 15, .inl (fun _ => 0))), (q_4, .inl (G.2.2 0, 3, .inl (fun _ => 0))), (q_5, .inl (G.2.2 0, 3, .inl (fun _ => 0)))] ++ ((q_2, .inl (G.2.2 0, 5, .inl (fun _ => 0))) :: wt)) H := hP
  have hD : va_D A ([(t, .inr (9, [.int 0, .int 0, .int 0, .int 0, .ref q_1, .ref q_2, .ref q_3, .ref q_4, .ref q_5])), (q_3, .inl (G.2.2 0, 15, .inl (fun _ => 0))), (q_4, .inl (G.2.2 0, 3, .inl (fun _ => 0))), (q_5, .inl (G.2.2 0, 3, .inl (fun _ => 0)))] ++ ((q_2, .inl (G.2.2 0, 5, .inl (fun _ => 0))) :: wt)) := hD
  obtain ⟨Γ9, w9, hwe, hxe, hk_7, hT, hkp⟩ := tk_take (k := 20) hT hD (by decide) (show tk_en G Γ 20 _ from ⟨⟨by decide, by decide⟩, rfl, rfl, fun _ => (show tk_e 20 0 from trivial)⟩)
  rw [hwe] at hP hD
  clear hwe
  have hW := hW.call (show ∀ x ∈ ([] : List Nat), x ∈ [] by decide) hkp
  have hk_6 := hxe.of (by decide) hk_6
  have hE := hE.tr hxe
  clear hxe
  obtain ⟨Γ, hΓ9⟩ : ∃ z, z = Γ9 := ⟨_, rfl⟩
  subst hΓ9
  obtain ⟨wt, hw9⟩ : ∃ z, z = w9 := ⟨_, rfl⟩
  subst hw9
  have hP := tw_permP (we' := [(t, .inr (9, [.int 0, .int 0, .int 0, .int 0, .ref q_1, .ref q_2, .ref q_3, .ref q_4, .ref q_5])), (q_4, .inl (G.2.2 0, 3, .inl (fun _ => 0))), (q_5, .inl (G.2.2 0, 3, .inl (fun _ => 0))), (q_3, .inl (G.2.2 0, 15, .inl (fun _ => 0)))]) [0, 2, 3, 1] rfl hP
  have hD := tw_permD (we' := [(t, .inr (9, [.int 0, .int 0, .int 0, .int 0, .ref q_1, .ref q_2, .ref q_3, .ref q_4, .ref q_5])), (q_4, .inl (G.2.2 0, 3, .inl (fun _ => 0))), (q_5, .inl (G.2.2 0, 3, .inl (fun _ => 0))), (q_3, .inl (G.2.2 0, 15, .inl (fun _ => 0)))]) [0, 2, 3, 1] (by decide) rfl hD
  have hP : va_P (gg_D G) classes ([(t, .inr (9, [.int 0, .int 0, .int 0, .int 0, .ref q_1, .ref q_2, .ref q_3, .ref q_4, .ref q_5])), (q_4, .inl (G.2.2 0, 3, .inl (fun _ => 0))), (q_5, .inl (G.2.2 0, 3, .inl (fun _ => 0)))] ++ ((q_3, .inl (G.2.2 0, 15, .inl (fun _ => 0))) :: wt)) H := hP
  have hD : va_D A ([(t, .inr (9, [.int 0, .int 0, .int 0, .int 0, .ref q_1, .ref q_2, .ref q_3, .ref q_4, .ref q_5])), (q_4, .inl (G.2.2 0, 3, .inl (fun _ => 0))), (q_5, .inl (G.2.2 0, 3, .inl (fun _ => 0)))] ++ ((q_3, .inl (G.2.2 0, 15, .inl (fun _ => 0))) :: wt)) := hD
  obtain ⟨Γ9, w9, hwe, hxe, hk_8, hT, hkp⟩ := tk_take (k := 24) hT hD (by decide) (show tk_en G Γ 24 _ from ⟨⟨by decide, by decide⟩, rfl, rfl, fun _ => (show tk_e 24 0 from trivial)⟩)
  rw [hwe] at hP hD
  clear hwe
  have hW := hW.call (show ∀ x ∈ ([] : List Nat), x ∈ [] by decide) hkp
  have hk_6 := hxe.of (by decide) hk_6
  have hk_7 := hxe.of (by decide) hk_7
  have hE := hE.tr hxe
  clear hxe
  obtain ⟨Γ, hΓ9⟩ : ∃ z, z = Γ9 := ⟨_, rfl⟩
  subst hΓ9
  obtain ⟨wt, hw9⟩ : ∃ z, z = w9 := ⟨_, rfl⟩
  subst hw9
  have hP := tw_permP (we' := [(t, .inr (9, [.int 0, .int 0, .int 0, .int 0, .ref q_1, .ref q_2, .ref q_3, .ref q_4, .ref q_5])), (q_5, .inl (G.2.2 0, 3, .inl (fun _ => 0))), (q_4, .inl (G.2.2 0, 3, .inl (fun _ => 0)))]) [0, 2, 1] rfl hP
  have hD := tw_permD (we' := [(t, .inr (9, [.int 0, .int 0, .int 0, .int 0, .ref q_1, .ref q_2, .ref q_3, .ref q_4, .ref q_5])), (q_5, .inl (G.2.2 0, 3, .inl (fun _ => 0))), (q_4, .inl (G.2.2 0, 3, .inl (fun _ => 0)))]) [0, 2, 1] (by decide) rfl hD
  have hP : va_P (gg_D G) classes ([(t, .inr (9, [.int 0, .int 0, .int 0, .int 0, .ref q_1, .ref q_2, .ref q_3, .ref q_4, .ref q_5])), (q_5, .inl (G.2.2 0, 3, .inl (fun _ => 0)))] ++ ((q_4, .inl (G.2.2 0, 3, .inl (fun _ => 0))) :: wt)) H := hP
  have hD : va_D A ([(t, .inr (9, [.int 0, .int 0, .int 0, .int 0, .ref q_1, .ref q_2, .ref q_3, .ref q_4, .ref q_5])), (q_5, .inl (G.2.2 0, 3, .inl (fun _ => 0)))] ++ ((q_4, .inl (G.2.2 0, 3, .inl (fun _ => 0))) :: wt)) := hD
  obtain ⟨Γ9, w9, hwe, hxe, hk_9, hT, hkp⟩ := tk_take (k := 21) hT hD (by decide) (show tk_en G Γ 21 _ from ⟨⟨by decide, by decide⟩, rfl, rfl, fun _ => (show tk_e 21 0 from trivial)⟩)
  rw [hwe] at hP hD
  clear hwe
  have hW := hW.call (show ∀ x ∈ ([] : List Nat), x ∈ [] by decide) hkp
  have hk_6 := hxe.of (by decide) hk_6
  have hk_7 := hxe.of (by decide) hk_7
  have hk_8 := hxe.of (by decide) hk_8
  have hE := hE.tr hxe
  clear hxe
  obtain ⟨Γ, hΓ9⟩ : ∃ z, z = Γ9 := ⟨_, rfl⟩
  subst hΓ9
  obtain ⟨wt, hw9⟩ : ∃ z, z = w9 := ⟨_, rfl⟩
  subst hw9
  have hP : va_P (gg_D G) classes ([(t, .inr (9, [.int 0, .int 0, .int 0, .int 0, .ref q_1, .ref q_2, .ref q_3, .ref q_4, .ref q_5]))] ++ ((q_5, .inl (G.2.2 0, 3, .inl (fun _ => 0))) :: wt)) H := hP
  have hD : va_D A ([(t, .inr (9, [.int 0, .int 0, .int 0, .int 0, .ref q_1, .ref q_2, .ref q_3, .ref q_4, .ref q_5]))] ++ ((q_5, .inl (G.2.2 0, 3, .inl (fun _ => 0))) :: wt)) := hD
  obtain ⟨Γ9, w9, hwe, hxe, hk_10, hT, hkp⟩ := tk_take (k := 21) hT hD (by decide) (show tk_en G Γ 21 _ from ⟨⟨by decide, by decide⟩, rfl, rfl, fun _ => (show tk_e 21 0 from trivial)⟩)
  rw [hwe] at hP hD
  clear hwe
  have hW := hW.call (show ∀ x ∈ ([] : List Nat), x ∈ [] by decide) hkp
  have hk_6 := hxe.of (by decide) hk_6
  have hk_7 := hxe.of (by decide) hk_7
  have hk_8 := hxe.of (by decide) hk_8
  have hk_9 := hxe.of (by decide) hk_9
  have hE := hE.tr hxe
  clear hxe
  obtain ⟨Γ, hΓ9⟩ : ∃ z, z = Γ9 := ⟨_, rfl⟩
  subst hΓ9
  obtain ⟨wt, hw9⟩ : ∃ z, z = w9 := ⟨_, rfl⟩
  subst hw9
  have hP : va_P (gg_D G) classes ([] ++ ((t, .inr (9, [.int 0, .int 0, .int 0, .int 0, .ref q_1, .ref q_2, .ref q_3, .ref q_4, .ref q_5])) :: wt)) H := hP
  have hD : va_D A ([] ++ ((t, .inr (9, [.int 0, .int 0, .int 0, .int 0, .ref q_1, .ref q_2, .ref q_3, .ref q_4, .ref q_5])) :: wt)) := hD
  obtain ⟨Γ9, w9, hwe, hxe, hk_11, hT, hkp⟩ := tk_take (k := 10) hT hD (by decide) (show tk_en G Γ 10 _ from (tk_mko rfl rfl ⟨⟨_, rfl⟩, ⟨_, rfl, by omega, by omega⟩, ⟨_, rfl, by omega, by omega⟩, ⟨_, rfl, by omega, by omega⟩, ⟨_, rfl, hk_6⟩, ⟨_, rfl, hk_7⟩, ⟨_, rfl, hk_8⟩, ⟨_, rfl, hk_9⟩, ⟨_, rfl, hk_10⟩, trivial⟩))
  rw [hwe] at hP hD
  clear hwe
  have hW := hW.call (show ∀ x ∈ ([] : List Nat), x ∈ [] by decide) hkp
  have hE := hE.tr hxe
  clear hxe
  obtain ⟨Γ, hΓ9⟩ : ∃ z, z = Γ9 := ⟨_, rfl⟩
  subst hΓ9
  obtain ⟨wt, hw9⟩ : ∃ z, z = w9 := ⟨_, rfl⟩
  subst hw9
  have hP9 : va_P (gg_D G) classes wt _ := hP
  have hD9 : va_D A wt := hD
  exact W.vret hx hb hr (gq_endV (Γ, wt) ⟨hT, hW, hE, hk_11⟩ hP9 hD9 hS) hS.2.2 dX9_init_60
set_option maxHeartbeats 4000000 in
set_option maxRecDepth 100000 in
theorem d_i_State (l : Launch) (G : gg_T) (Γ : Nat → Nat) (sz : Nat) (wt : va_W) (hT : tk_ty G Γ wt) (t : Nat) : Met l yX7_init (ts_L yX7_init cX7_init 1 none) ({ frames := 1, cells := 9, slots := 35, locals := 12 }) (gc_P G ([(t, .inr (7, [.null, .null, .null, .null, .null, .null, .null, .null, .null, .int 0]))] ++ wt) sz [.ref t]) (gc_V G (va_A ([(t, .inr (7, [.null, .null, .null, .null, .null, .null, .null, .null, .null, .int 0]))] ++ wt) sz) (fun (u : (Nat → Nat) × va_W) => match u with | (Γ1, wt1) => tk_ty G Γ1 wt1 ∧ tk_kp [] wt wt1 ∧ tk_ext Γ Γ1 ∧ Γ1 t = 8) (fun (u : (Nat → Nat) × va_W) => match u with | (Γ1, wt1) => wt1)) 9 35 (va_A ([(t, .inr (7, [.null, .null, .null, .null, .null, .null, .null, .null, .null, .int 0]))] ++ wt) sz) := by
  refine Met.ofW (cc := cX7_init) (maxL := 1) (ret := none) (by decide) rfl ?_
  intro p e s m args below meth c s₁ B hml hv
  obtain ⟨rfl, hsz, hP, hK, hD0⟩ := hv
  have hx := B.exec
  have hb := B.bytes
  have hr := B.returns
  have ht := ts_ht (atoms_spec (ws := ts_L yX7_init cX7_init 1 none) B.pre)
  have hown : s.vm.findClass RX7 = some m.cls := findClass_of_methodNamed B.named
  have hlocks := B.notSynchronized
  subst hsz
  have hD := hD0.self (sz := s.heap.size)
  generalize hAe : va_A ([(t, .inr (7, [.null, .null, .null, .null, .null, .null, .null, .null, .null, .int 0]))] ++ wt) s.heap.size = A at hD ⊢
  have hA : ∀ q : Nat, s.heap.size ≤ q → A q := fun q h => by rw [← hAe]; exact Or.inr h
  clear hAe hD0
  have hS : va_S A s.heap s.heap [] := va_S.rf
  obtain ⟨w0, hw0⟩ : ∃ z, z = wt := ⟨_, rfl⟩
  have hW : tk_kp [] w0 wt := by rw [hw0]; exact tk_kp.rf
  rw [← hw0]
  clear hw0
  have hin : meth.name = "<init>" := (name_of_methodNamed B.named B.method).1
  obtain ⟨Γ0, hΓ0⟩ : ∃ z, z = Γ := ⟨_, rfl⟩
  have hE : tk_ext Γ0 Γ := by rw [hΓ0]; exact tk_ext.rf
  rw [← hΓ0]
  clear hΓ0
  have hP : va_P (gg_D G) classes ([(t, .inr (7, [.null, .null, .null, .null, .null, .null, .null, .null, .null, .int 0]))] ++ wt) s.heap := hP
  have hD : va_D A ([(t, .inr (7, [.null, .null, .null, .null, .null, .null, .null, .null, .null, .int 0]))] ++ wt) := hD
  have hl := lv_entry ([.ref t]) (n := 1) (Nat.le_of_ble_eq_true rfl)
  rw [lg_entry_eq]
  generalize (lg_sl ([.ref t]) ++ List.replicate (1 - (lg_sl ([.ref t])).length) Slot.unset).toArray = ls at hl ⊢
  have hl : lv_has ls 1 [(0, .ref t)] := hl
  have l0 : (0 : Int32).toInt = 0 := by decide +kernel
  refine lv_aload_n hx hb dX7_init_0 rfl (lv_at hl 0 rfl) ?_
  refine W.objInit hx hb hown (ht _ wd_230) (ht _ wd_148) (ht _ wd_149) rfl (by rw [hml]; exact hl.1) rfl dX7_init_1 (Nat.le_of_ble_eq_true rfl) (Nat.le_of_ble_eq_true rfl) ?_
  refine W.eq (g2 := F0 m 4 ls []) rfl ?_
  refine lv_aload_n hx hb dX7_init_4 rfl (lv_at hl 0 rfl) ?_
  refine lv_iconst (v := 5) hx hb dX7_init_5 (by decide +kernel) ?_
  refine gq_newa (atype := .int) (ty := .int) hx hb rfl (ht _ wd_172) hK hP hD hS hA 0 rfl 5 (5, .inl (fun _ => 0)) (fun _ => rfl) (by decide +kernel) (by decide +kernel) (Nat.le_of_ble_eq_true rfl) 1 5 (Nat.le_of_ble_eq_true rfl) (Nat.le_of_ble_eq_true rfl) (Nat.le_of_ble_eq_true rfl) (Nat.le_of_ble_eq_true rfl) dX7_init_6 (fun q_1 H hP hD hS => ?_)
  have hP : va_P (gg_D G) classes ([(t, .inr (7, [.null, .null, .null, .null, .null, .null, .null, .null, .null, .int 0])), (q_1, .inl (G.2.2 0, 5, .inl (fun _ => 0)))] ++ wt) H := tw_newP hP
  have hD : va_D A ([(t, .inr (7, [.null, .null, .null, .null, .null, .null, .null, .null, .null, .int 0])), (q_1, .inl (G.2.2 0, 5, .inl (fun _ => 0)))] ++ wt) := tw_newD hD
  refine gq_putF (ws' := [(t, .inr (7, [.ref q_1, .null, .null, .null, .null, .null, .null, .null, .null, .int 0])), (q_1, .inl (G.2.2 0, 5, .inl (fun _ => 0)))] ++ wt) hx hb ht hown hin hK hP hD hS i_X7 tyX7 tyX7_ok nmX7 0 rfl rfl 0 (by decide) wd_231 rfl rfl rfl rfl (Nat.le_of_ble_eq_true rfl) rfl dX7_init_8 (fun H locs hP hD hS => ?_)
  refine lv_aload_n hx hb dX7_init_11 rfl (lv_at hl 0 rfl) ?_
  refine lv_iconst (v := 5) hx hb dX7_init_12 (by decide +kernel) ?_
  refine gq_newa (atype := .int) (ty := .int) hx hb rfl (ht _ wd_172) hK hP hD hS hA 0 rfl 5 (5, .inl (fun _ => 0)) (fun _ => rfl) (by decide +kernel) (by decide +kernel) (Nat.le_of_ble_eq_true rfl) 2 10 (Nat.le_of_ble_eq_true rfl) (Nat.le_of_ble_eq_true rfl) (Nat.le_of_ble_eq_true rfl) (Nat.le_of_ble_eq_true rfl) dX7_init_13 (fun q_2 H hP hD hS => ?_)
  have hP : va_P (gg_D G) classes ([(t, .inr (7, [.ref q_1, .null, .null, .null, .null, .null, .null, .null, .null, .int 0])), (q_1, .inl (G.2.2 0, 5, .inl (fun _ => 0))), (q_2, .inl (G.2.2 0, 5, .inl (fun _ => 0)))] ++ wt) H := tw_newP hP
  have hD : va_D A ([(t, .inr (7, [.ref q_1, .null, .null, .null, .null, .null, .null, .null, .null, .int 0])), (q_1, .inl (G.2.2 0, 5, .inl (fun _ => 0))), (q_2, .inl (G.2.2 0, 5, .inl (fun _ => 0)))] ++ wt) := tw_newD hD
  refine gq_putF (ws' := [(t, .inr (7, [.ref q_1, .ref q_2, .null, .null, .null, .null, .null, .null, .null, .int 0])), (q_1, .inl (G.2.2 0, 5, .inl (fun _ => 0))), (q_2, .inl (G.2.2 0, 5, .inl (fun _ => 0)))] ++ wt) hx hb ht hown hin hK hP hD hS i_X7 tyX7 tyX7_ok nmX7 0 rfl rfl 1 (by decide) wd_235 rfl rfl rfl rfl (Nat.le_of_ble_eq_true rfl) rfl dX7_init_15 (fun H locs hP hD hS => ?_)
  refine lv_aload_n hx hb dX7_init_18 rfl (lv_at hl 0 rfl) ?_
  refine lv_iconst (v := 5) hx hb dX7_init_19 (by decide +kernel) ?_
  refine gq_newa (atype := .int) (ty := .int) hx hb rfl (ht _ wd_172) hK hP hD hS hA 0 rfl 5 (5, .inl (fun _ => 0)) (fun _ => rfl) (by decide +kernel) (by decide +kernel) (Nat.le_of_ble_eq_true rfl) 3 15 (Nat.le_of_ble_eq_true rfl) (Nat.le_of_ble_eq_true rfl) (Nat.le_of_ble_eq_true rfl) (Nat.le_of_ble_eq_true rfl) dX7_init_20 (fun q_3 H hP hD hS => ?_)
  have hP : va_P (gg_D G) classes ([(t, .inr (7, [.ref q_1, .ref q_2, .null, .null, .null, .null, .null, .null, .null, .int 0])), (q_1, .inl (G.2.2 0, 5, .inl (fun _ => 0))), (q_2, .inl (G.2.2 0, 5, .inl (fun _ => 0))), (q_3, .inl (G.2.2 0, 5, .inl (fun _ => 0)))] ++ wt) H := tw_newP hP
  have hD : va_D A ([(t, .inr (7, [.ref q_1, .ref q_2, .null, .null, .null, .null, .null, .null, .null, .int 0])), (q_1, .inl (G.2.2 0, 5, .inl (fun _ => 0))), (q_2, .inl (G.2.2 0, 5, .inl (fun _ => 0))), (q_3, .inl (G.2.2 0, 5, .inl (fun _ => 0)))] ++ wt) := tw_newD hD
  refine gq_putF (ws' := [(t, .inr (7, [.ref q_1, .ref q_2, .ref q_3, .null, .null, .null, .null, .null, .null, .int 0])), (q_1, .inl (G.2.2 0, 5, .inl (fun _ => 0))), (q_2, .inl (G.2.2 0, 5, .inl (fun _ => 0))), (q_3, .inl (G.2.2 0, 5, .inl (fun _ => 0)))] ++ wt) hx hb ht hown hin hK hP hD hS i_X7 tyX7 tyX7_ok nmX7 0 rfl rfl 2 (by decide) wd_239 rfl rfl rfl rfl (Nat.le_of_ble_eq_true rfl) rfl dX7_init_22 (fun H locs hP hD hS => ?_)
  refine lv_aload_n hx hb dX7_init_25 rfl (lv_at hl 0 rfl) ?_
  refine lv_iconst (v := 5) hx hb dX7_init_26 (by decide +kernel) ?_
  refine gq_newa (atype := .int) (ty := .int) hx hb rfl (ht _ wd_172) hK hP hD hS hA 0 rfl 5 (5, .inl (fun _ => 0)) (fun _ => rfl) (by decide +kernel) (by decide +kernel) (Nat.le_of_ble_eq_true rfl) 4 20 (Nat.le_of_ble_eq_true rfl) (Nat.le_of_ble_eq_true rfl) (Nat.le_of_ble_eq_true rfl) (Nat.le_of_ble_eq_true rfl) dX7_init_27 (fun q_4 H hP hD hS => ?_)
  have hP : va_P (gg_D G) classes ([(t, .inr (7, [.ref q_1, .ref q_2, .ref q_3, .null, .null, .null, .null, .null, .null, .int 0])), (q_1, .inl (G.2.2 0, 5, .inl (fun _ => 0))), (q_2, .inl (G.2.2 0, 5, .inl (fun _ => 0))), (q_3, .inl (G.2.2 0, 5, .inl (fun _ => 0))), (q_4, .inl (G.2.2 0, 5, .inl (fun _ => 0)))] ++ wt) H := tw_newP hP
  have hD : va_D A ([(t, .inr (7, [.ref q_1, .ref q_2, .ref q_3, .null, .null, .null, .null, .null, .null, .int 0])), (q_1, .inl (G.2.2 0, 5, .inl (fun _ => 0))), (q_2, .inl (G.2.2 0, 5, .inl (fun _ => 0))), (q_3, .inl (G.2.2 0, 5, .inl (fun _ => 0))), (q_4, .inl (G.2.2 0, 5, .inl (fun _ => 0)))] ++ wt) := tw_newD hD
  refine gq_putF (ws' := [(t, .inr (7, [.ref q_1, .ref q_2, .ref q_3, .ref q_4, .null, .null, .null, .null, .null, .int 0])), (q_1, .inl (G.2.2 0, 5, .inl (fun _ => 0))), (q_2, .inl (G.2.2 0, 5, .inl (fun _ => 0))), (q_3, .inl (G.2.2 0, 5, .inl (fun _ => 0))), (q_4, .inl (G.2.2 0, 5, .inl (fun _ => 0)))] ++ wt) hx hb ht hown hin hK hP hD hS i_X7 tyX7 tyX7_ok nmX7 0 rfl rfl 3 (by decide) wd_243 rfl rfl rfl rfl (Nat.le_of_ble_eq_true rfl) rfl dX7_init_29 (fun H locs hP hD hS => ?_)
  refine lv_aload_n hx hb dX7_init_32 rfl (lv_at hl 0 rfl) ?_
  refine lv_iconst (v := 3) hx hb dX7_init_33 (by decide +kernel) ?_
  refine gq_newa (atype := .int) (ty := .int) hx hb rfl (ht _ wd_172) hK hP hD hS hA 0 rfl 3 (3, .inl (fun _ => 0)) (fun _ => rfl) (by decide +kernel) (by decide +kernel) (Nat.le_of_ble_eq_true rfl) 5 23 (Nat.le_of_ble_eq_true rfl) (Nat.le_of_ble_eq_true rfl) (Nat.le_of_ble_eq_true rfl) (Nat.le_of_ble_eq_true rfl) dX7_init_34 (fun q_5 H hP hD hS => ?_)
  have hP : va_P (gg_D G) classes ([(t, .inr (7, [.ref q_1, .ref q_2, .ref q_3, .ref q_4, .null, .null, .null, .null, .null, .int 0])), (q_1, .inl (G.2.2 0, 5, .inl (fun _ => 0))), (q_2, .inl (G.2.2 0, 5, .inl (fun _ => 0))), (q_3, .inl (G.2.2 0, 5, .inl (fun _ => 0))), (q_4, .inl (G.2.2 0, 5, .inl (fun _ => 0))), (q_5, .inl (G.2.2 0, 3, .inl (fun _ => 0)))] ++ wt) H := tw_newP hP
  have hD : va_D A ([(t, .inr (7, [.ref q_1, .ref q_2, .ref q_3, .ref q_4, .null, .null, .null, .null, .null, .int 0])), (q_1, .inl (G.2.2 0, 5, .inl (fun _ => 0))), (q_2, .inl (G.2.2 0, 5, .inl (fun _ => 0))), (q_3, .inl (G.2.2 0, 5, .inl (fun _ => 0))), (q_4, .inl (G.2.2 0, 5, .inl (fun _ => 0))), (q_5, .inl (G.2.2 0, 3, .inl (fun _ => 0)))] ++ wt) := tw_newD hD
  refine gq_putF (ws' := [(t, .inr (7, [.ref q_1, .ref q_2, .ref q_3, .ref q_4, .ref q_5, .null, .null, .null, .null, .int 0])), (q_1, .inl (G.2.2 0, 5, .inl (fun _ => 0))), (q_2, .inl (G.2.2 0, 5, .inl (fun _ => 0))), (q_3, .inl (G.2.2 0, 5, .inl (fun _ => 0))), (q_4, .inl (G.2.2 0, 5, .inl (fun _ => 0))), (q_5, .inl (G.2.2 0, 3, .inl (fun _ => 0)))] ++ wt) hx hb ht hown hin hK hP hD hS i_X7 tyX7 tyX7_ok nmX7 0 rfl rfl 4 (by decide) wd_246 rfl rfl rfl rfl (Nat.le_of_ble_eq_true rfl) rfl dX7_init_36 (fun H locs hP hD hS => ?_)
  refine lv_aload_n hx hb dX7_init_39 rfl (lv_at hl 0 rfl) ?_
  refine lv_iconst (v := 3) hx hb dX7_init_40 (by decide +kernel) ?_
  refine gq_newa (atype := .int) (ty := .int) hx hb rfl (ht _ wd_172) hK hP hD hS hA 0 rfl 3 (3, .inl (fun _ => 0)) (fun _ => rfl) (by decide +kernel) (by decide +kernel) (Nat.le_of_ble_eq_true rfl) 6 26 (Nat.le_of_ble_eq_true rfl) (Nat.le_of_ble_eq_true rfl) (Nat.le_of_ble_eq_true rfl) (Nat.le_of_ble_eq_true rfl) dX7_init_41 (fun q_6 H hP hD hS => ?_)
  have hP : va_P (gg_D G) classes ([(t, .inr (7, [.ref q_1, .ref q_2, .ref q_3, .ref q_4, .ref q_5, .null, .null, .null, .null, .int 0])), (q_1, .inl (G.2.2 0, 5, .inl (fun _ => 0))), (q_2, .inl (G.2.2 0, 5, .inl (fun _ => 0))), (q_3, .inl (G.2.2 0, 5, .inl (fun _ => 0))), (q_4, .inl (G.2.2 0, 5, .inl (fun _ => 0))), (q_5, .inl (G.2.2 0, 3, .inl (fun _ => 0))), (q_6, .inl (G.2.2 0, 3, .inl (fun _ => 0)))] ++ wt) H := tw_newP hP
  have hD : va_D A ([(t, .inr (7, [.ref q_1, .ref q_2, .ref q_3, .ref q_4, .ref q_5, .null, .null, .null, .null, .int 0])), (q_1, .inl (G.2.2 0, 5, .inl (fun _ => 0))), (q_2, .inl (G.2.2 0, 5, .inl (fun _ => 0))), (q_3, .inl (G.2.2 0, 5, .inl (fun _ => 0))), (q_4, .inl (G.2.2 0, 5, .inl (fun _ => 0))), (q_5, .inl (G.2.2 0, 3, .inl (fun _ => 0))), (q_6, .inl (G.2.2 0, 3, .inl (fun _ => 0)))] ++ wt) := tw_newD hD
  refine gq_putF (ws' := [(t, .inr (7, [.ref q_1, .ref q_2, .ref q_3, .ref q_4, .ref q_5, .ref q_6, .null, .null, .null, .int 0])), (q_1, .inl (G.2.2 0, 5, .inl (fun _ => 0))), (q_2, .inl (G.2.2 0, 5, .inl (fun _ => 0))), (q_3, .inl (G.2.2 0, 5, .inl (fun _ => 0))), (q_4, .inl (G.2.2 0, 5, .inl (fun _ => 0))), (q_5, .inl (G.2.2 0, 3, .inl (fun _ => 0))), (q_6, .inl (G.2.2 0, 3, .inl (fun _ => 0)))] ++ wt) hx hb ht hown hin hK hP hD hS i_X7 tyX7 tyX7_ok nmX7 0 rfl rfl 5 (by decide) wd_250 rfl rfl rfl rfl (Nat.le_of_ble_eq_true rfl) rfl dX7_init_43 (fun H locs hP hD hS => ?_)
  refine lv_aload_n hx hb dX7_init_46 rfl (lv_at hl 0 rfl) ?_
  refine lv_iconst (v := 3) hx hb dX7_init_47 (by decide +kernel) ?_
  refine gq_newa (atype := .int) (ty := .int) hx hb rfl (ht _ wd_172) hK hP hD hS hA 0 rfl 3 (3, .inl (fun _ => 0)) (fun _ => rfl) (by decide +kernel) (by decide +kernel) (Nat.le_of_ble_eq_true rfl) 7 29 (Nat.le_of_ble_eq_true rfl) (Nat.le_of_ble_eq_true rfl) (Nat.le_of_ble_eq_true rfl) (Nat.le_of_ble_eq_true rfl) dX7_init_48 (fun q_7 H hP hD hS => ?_)
  have hP : va_P (gg_D G) classes ([(t, .inr (7, [.ref q_1, .ref q_2, .ref q_3, .ref q_4, .ref q_5, .ref q_6, .null, .null, .null, .int 0])), (q_1, .inl (G.2.2 0, 5, .inl (fun _ => 0))), (q_2, .inl (G.2.2 0, 5, .inl (fun _ => 0))), (q_3, .inl (G.2.2 0, 5, .inl (fun _ => 0))), (q_4, .inl (G.2.2 0, 5, .inl (fun _ => 0))), (q_5, .inl (G.2.2 0, 3, .inl (fun _ => 0))), (q_6, .inl (G.2.2 0, 3, .inl (fun _ => 0))), (q_7, .inl (G.2.2 0, 3, .inl (fun _ => 0)))] ++ wt) H := tw_newP hP
  have hD : va_D A ([(t, .inr (7, [.ref q_1, .ref q_2, .ref q_3, .ref q_4, .ref q_5, .ref q_6, .null, .null, .null, .int 0])), (q_1, .inl (G.2.2 0, 5, .inl (fun _ => 0))), (q_2, .inl (G.2.2 0, 5, .inl (fun _ => 0))), (q_3, .inl (G.2.2 0, 5, .inl (fun _ => 0))), (q_4, .inl (G.2.2 0, 5, .inl (fun _ => 0))), (q_5, .inl (G.2.2 0, 3, .inl (fun _ => 0))), (q_6, .inl (G.2.2 0, 3, .inl (fun _ => 0))), (q_7, .inl (G.2.2 0, 3, .inl (fun _ => 0)))] ++ wt) := tw_newD hD
  refine gq_putF (ws' := [(t, .inr (7, [.ref q_1, .ref q_2, .ref q_3, .ref q_4, .ref q_5, .ref q_6, .ref q_7, .null, .null, .int 0])), (q_1, .inl (G.2.2 0, 5, .inl (fun _ => 0))), (q_2, .inl (G.2.2 0, 5, .inl (fun _ => 0))), (q_3, .inl (G.2.2 0, 5, .inl (fun _ => 0))), (q_4, .inl (G.2.2 0, 5, .inl (fun _ => 0))), (q_5, .inl (G.2.2 0, 3, .inl (fun _ => 0))), (q_6, .inl (G.2.2 0, 3, .inl (fun _ => 0))), (q_7, .inl (G.2.2 0, 3, .inl (fun _ => 0)))] ++ wt) hx hb ht hown hin hK hP hD hS i_X7 tyX7 tyX7_ok nmX7 0 rfl rfl 6 (by decide) wd_254 rfl rfl rfl rfl (Nat.le_of_ble_eq_true rfl) rfl dX7_init_50 (fun H locs hP hD hS => ?_)
  refine lv_aload_n hx hb dX7_init_53 rfl (lv_at hl 0 rfl) ?_
  refine lv_iconst (v := 3) hx hb dX7_init_54 (by decide +kernel) ?_
  refine gq_newa (atype := .int) (ty := .int) hx hb rfl (ht _ wd_172) hK hP hD hS hA 0 rfl 3 (3, .inl (fun _ => 0)) (fun _ => rfl) (by decide +kernel) (by decide +kernel) (Nat.le_of_ble_eq_true rfl) 8 32 (Nat.le_of_ble_eq_true rfl) (Nat.le_of_ble_eq_true rfl) (Nat.le_of_ble_eq_true rfl) (Nat.le_of_ble_eq_true rfl) dX7_init_55 (fun q_8 H hP hD hS => ?_)
  have hP : va_P (gg_D G) classes ([(t, .inr (7, [.ref q_1, .ref q_2, .ref q_3, .ref q_4, .ref q_5, .ref q_6, .ref q_7, .null, .null, .int 0])), (q_1, .inl (G.2.2 0, 5, .inl (fun _ => 0))), (q_2, .inl (G.2.2 0, 5, .inl (fun _ => 0))), (q_3, .inl (G.2.2 0, 5, .inl (fun _ => 0))), (q_4, .inl (G.2.2 0, 5, .inl (fun _ => 0))), (q_5, .inl (G.2.2 0, 3, .inl (fun _ => 0))), (q_6, .inl (G.2.2 0, 3, .inl (fun _ => 0))), (q_7, .inl (G.2.2 0, 3, .inl (fun _ => 0))), (q_8, .inl (G.2.2 0, 3, .inl (fun _ => 0)))] ++ wt) H := tw_newP hP
  have hD : va_D A ([(t, .inr (7, [.ref q_1, .ref q_2, .ref q_3, .ref q_4, .ref q_5, .ref q_6, .ref q_7, .null, .null, .int 0])), (q_1, .inl (G.2.2 0, 5, .inl (fun _ => 0))), (q_2, .inl (G.2.2 0, 5, .inl (fun _ => 0))), (q_3, .inl (G.2.2 0, 5, .inl (fun _ => 0))), (q_4, .inl (G.2.2 0, 5, .inl (fun _ => 0))), (q_5, .inl (G.2.2 0, 3, .inl (fun _ => 0))), (q_6, .inl (G.2.2 0, 3, .inl (fun _ => 0))), (q_7, .inl (G.2.2 0, 3, .inl (fun _ => 0))), (q_8, .inl (G.2.2 0, 3, .inl (fun _ => 0)))] ++ wt) := tw_newD hD
  refine gq_putF (ws' := [(t, .inr (7, [.ref q_1, .ref q_2, .ref q_3, .ref q_4, .ref q_5, .ref q_6, .ref q_7, .ref q_8, .null, .int 0])), (q_1, .inl (G.2.2 0, 5, .inl (fun _ => 0))), (q_2, .inl (G.2.2 0, 5, .inl (fun _ => 0))), (q_3, .inl (G.2.2 0, 5, .inl (fun _ => 0))), (q_4, .inl (G.2.2 0, 5, .inl (fun _ => 0))), (q_5, .inl (G.2.2 0, 3, .inl (fun _ => 0))), (q_6, .inl (G.2.2 0, 3, .inl (fun _ => 0))), (q_7, .inl (G.2.2 0, 3, .inl (fun _ => 0))), (q_8, .inl (G.2.2 0, 3, .inl (fun _ => 0)))] ++ wt) hx hb ht hown hin hK hP hD hS i_X7 tyX7 tyX7_ok nmX7 0 rfl rfl 7 (by decide) wd_258 rfl rfl rfl rfl (Nat.le_of_ble_eq_true rfl) rfl dX7_init_57 (fun H locs hP hD hS => ?_)
  refine lv_aload_n hx hb dX7_init_60 rfl (lv_at hl 0 rfl) ?_
  refine lv_iconst (v := 3) hx hb dX7_init_61 (by decide +kernel) ?_
  refine gq_newa (atype := .int) (ty := .int) hx hb rfl (ht _ wd_172) hK hP hD hS hA 0 rfl 3 (3, .inl (fun _ => 0)) (fun _ => rfl) (by decide +kernel) (by decide +kernel) (Nat.le_of_ble_eq_true rfl) 9 35 (Nat.le_of_ble_eq_true rfl) (Nat.le_of_ble_eq_true rfl) (Nat.le_of_ble_eq_true rfl) (Nat.le_of_ble_eq_true rfl) dX7_init_62 (fun q_9 H hP hD hS => ?_)
  have hP : va_P (gg_D G) classes ([(t, .inr (7, [.ref q_1, .ref q_2, .ref q_3, .ref q_4, .ref q_5, .ref q_6, .ref q_7, .ref q_8, .null, .int 0])), (q_1, .inl (G.2.2 0, 5, .inl (fun _ => 0))), (q_2, .inl (G.2.2 0, 5, .inl (fun _ => 0))), (q_3, .inl (G.2.2 0, 5, .inl (fun _ => 0))), (q_4, .inl (G.2.2 0, 5, .inl (fun _ => 0))), (q_5, .inl (G.2.2 0, 3, .inl (fun _ => 0))), (q_6, .inl (G.2.2 0, 3, .inl (fun _ => 0))), (q_7, .inl (G.2.2 0, 3, .inl (fun _ => 0))), (q_8, .inl (G.2.2 0, 3, .inl (fun _ => 0))), (q_9, .inl (G.2.2 0, 3, .inl (fun _ => 0)))] ++ wt) H := tw_newP hP
  have hD : va_D A ([(t, .inr (7, [.ref q_1, .ref q_2, .ref q_3, .ref q_4, .ref q_5, .ref q_6, .ref q_7, .ref q_8, .null, .int 0])), (q_1, .inl (G.2.2 0, 5, .inl (fun _ => 0))), (q_2, .inl (G.2.2 0, 5, .inl (fun _ => 0))), (q_3, .inl (G.2.2 0, 5, .inl (fun _ => 0))), (q_4, .inl (G.2.2 0, 5, .inl (fun _ => 0))), (q_5, .inl (G.2.2 0, 3, .inl (fun _ => 0))), (q_6, .inl (G.2.2 0, 3, .inl (fun _ => 0))), (q_7, .inl (G.2.2 0, 3, .inl (fun _ => 0))), (q_8, .inl (G.2.2 0, 3, .inl (fun _ => 0))), (q_9, .inl (G.2.2 0, 3, .inl (fun _ => 0)))] ++ wt) := tw_newD hD
  refine gq_putF (ws' := [(t, .inr (7, [.ref q_1, .ref q_2, .ref q_3, .ref q_4, .ref q_5, .ref q_6, .ref q_7, .ref q_8, .ref q_9, .int 0])), (q_1, .inl (G.2.2 0, 5, .inl (fun _ => 0))), (q_2, .inl (G.2.2 0, 5, .inl (fun _ => 0))), (q_3, .inl (G.2.2 0, 5, .inl (fun _ => 0))), (q_4, .inl (G.2.2 0, 5, .inl (fun _ => 0))), (q_5, .inl (G.2.2 0, 3, .inl (fun _ => 0))), (q_6, .inl (G.2.2 0, 3, .inl (fun _ => 0))), (q_7, .inl (G.2.2 0, 3, .inl (fun _ => 0))), (q_8, .inl (G.2.2 0, 3, .inl (fun _ => 0))), (q_9, .inl (G.2.2 0, 3, .inl (fun _ => 0)))] ++ wt) hx hb ht hown hin hK hP hD hS i_X7 tyX7 tyX7_ok nmX7 0 rfl rfl 8 (by decide) wd_261 rfl rfl rfl rfl (Nat.le_of_ble_eq_true rfl) rfl dX7_init_64 (fun H locs hP hD hS => ?_)
  refine lv_aload_n hx hb dX7_init_67 rfl (lv_at hl 0 rfl) ?_
  refine lv_iconst (v := 0) hx hb dX7_init_68 (by decide +kernel) ?_
  refine gq_put (ws' := [(t, .inr (7, [.ref q_1, .ref q_2, .ref q_3, .ref q_4, .ref q_5, .ref q_6, .ref q_7, .ref q_8, .ref q_9, .int 0])), (q_1, .inl (G.2.2 0, 5, .inl (fun _ => 0))), (q_2, .inl (G.2.2 0, 5, .inl (fun _ => 0))), (q_3, .inl (G.2.2 0, 5, .inl (fun _ => 0))), (q_4, .inl (G.2.2 0, 5, .inl (fun _ => 0))), (q_5, .inl (G.2.2 0, 3, .inl (fun _ => 0))), (q_6, .inl (G.2.2 0, 3, .inl (fun _ => 0))), (q_7, .inl (G.2.2 0, 3, .inl (fun _ => 0))), (q_8, .inl (G.2.2 0, 3, .inl (fun _ => 0))), (q_9, .inl (G.2.2 0, 3, .inl (fun _ => 0)))] ++ wt) hx hb ht hown hK hP hD hS i_X7 tyX7 tyX7_ok nmX7 0 rfl rfl 9 (by decide) wd_266 rfl rfl rfl rfl (Nat.le_of_ble_eq_true rfl) rfl dX7_init_69 (fun H locs hP hD hS => ?_)
  have hP := tw_permP (we' := [(t, .inr (7, [.ref q_1, .ref q_2, .ref q_3, .ref q_4, .ref q_5, .ref q_6, .ref q_7, .ref q_8, .ref q_9, .int 0])), (q_2, .inl (G.2.2 0, 5, .inl (fun _ => 0))), (q_3, .inl (G.2.2 0, 5, .inl (fun _ => 0))), (q_4, .inl (G.2.2 0, 5, .inl (fun _ => 0))), (q_5, .inl (G.2.2 0, 3, .inl (fun _ => 0))), (q_6, .inl (G.2.2 0, 3, .inl (fun _ => 0))), (q_7, .inl (G.2.2 0, 3, .inl (fun _ => 0))), (q_8, .inl (G.2.2 0, 3, .inl (fun _ => 0))), (q_9, .inl (G.2.2 0, 3, .inl (fun _ => 0))), (q_1, .inl (G.2.2 0, 5, .inl (fun _ => 0)))]) [0, 2, 3, 4, 5, 6, 7, 8, 9, 1] rfl hP
  have hD := tw_permD (we' := [(t, .inr (7, [.ref q_1, .ref q_2, .ref q_3, .ref q_4, .ref q_5, .ref q_6, .ref q_7, .ref q_8, .ref q_9, .int 0])), (q_2, .inl (G.2.2 0, 5, .inl (fun _ => 0))), (q_3, .inl (G.2.2 0, 5, .inl (fun _ => 0))), (q_4, .inl (G.2.2 0, 5, .inl (fun _ => 0))), (q_5, .inl (G.2.2 0, 3, .inl (fun _ => 0))), (q_6, .inl (G.2.2 0, 3, .inl (fun _ => 0))), (q_7, .inl (G.2.2 0, 3, .inl (fun _ => 0))), (q_8, .inl (G.2.2 0, 3, .inl (fun _ => 0))), (q_9, .inl (G.2.2 0, 3, .inl (fun _ => 0))), (q_1, .inl (G.2.2 0, 5, .inl (fun _ => 0)))]) [0, 2, 3, 4, 5, 6, 7, 8, 9, 1] (by decide) rfl hD
  have hP : va_P (gg_D G) classes ([(t, .inr (7, [.ref q_1, .ref q_2, .ref q_3, .ref q_4, .ref q_5, .ref q_6, .ref q_7, .ref q_8, .ref q_9, .int 0])), (q_2, .inl (G.2.2 0, 5, .inl (fun _ => 0))), (q_3, .inl (G.2.2 0, 5, .inl (fun _ => 0))), (q_4, .inl (G.2.2 0, 5, .inl (fun _ => 0))), (q_5, .inl (G.2.2 0, 3, .inl (fun _ => 0))), (q_6, .inl (G.2.2 0, 3, .inl (fun _ => 0))), (q_7, .inl (G.2.2 0, 3, .inl (fun _ => 0))), (q_8, .inl (G.2.2 0, 3, .inl (fun _ => 0))), (q_9, .inl (G.2.2 0, 3, .inl (fun _ => 0)))] ++ ((q_1, .inl (G.2.2 0, 5, .inl (fun _ => 0))) :: wt)) H := hP
  have hD : va_D A ([(t, .inr (7, [.ref q_1, .ref q_2, .ref q_3, .ref q_4, .ref q_5, .ref q_6, .ref q_7, .ref q_8, .ref q_9, .int 0])), (q_2, .inl (G.2.2 0, 5, .inl (fun _ => 0))), (q_3, .inl (G.2.2 0, 5, .inl (fun _ => 0))), (q_4, .inl (G.2.2 0, 5, .inl (fun _ => 0))), (q_5, .inl (G.2.2 0, 3, .inl (fun _ => 0))), (q_6, .inl (G.2.2 0, 3, .inl (fun _ => 0))), (q_7, .inl (G.2.2 0, 3, .inl (fun _ => 0))), (q_8, .inl (G.2.2 0, 3, .inl (fun _ => 0))), (q_9, .inl (G.2.2 0, 3, .inl (fun _ => 0)))] ++ ((q_1, .inl (G.2.2 0, 5, .inl (fun _ => 0))) :: wt)) := hD
  obtain ⟨Γ9, w9, hwe, hxe, hk_10, hT, hkp⟩ := tk_take (k := 20) hT hD (by decide) (show tk_en G Γ 20 _ from ⟨⟨by decide, by decide⟩, rfl, rfl, fun _ => (show tk_e 20 0 from trivial)⟩)
  rw [hwe] at hP hD
  clear hwe
  have hW := hW.call (show ∀ x ∈ ([] : List Nat), x ∈ [] by decide) hkp
  have hE := hE.tr hxe
  clear hxe
  obtain ⟨Γ, hΓ9⟩ : ∃ z, z = Γ9 := ⟨_, rfl⟩
  subst hΓ9
  obtain ⟨wt, hw9⟩ : ∃ z, z = w9 := ⟨_, rfl⟩
  subst hw9
  have hP := tw_permP (we' := [(t, .inr (7, [.ref q_1, .ref q_2, .ref q_3, .ref q_4, .ref q_5, .ref q_6, .ref q_7, .ref q_8, .ref q_9, .int 0])), (q_3, .inl (G.2.2 0, 5, .inl (fun _ => 0))), (q_4, .inl (G.2.2 0, 5, .inl (fun _ => 0))), (q_5, .inl (G.2.2 0, 3, .inl (fun _ => 0))), (q_6, .inl (G.2.2 0, 3, .inl (fun _ => 0))), (q_7, .inl (G.2.2 0, 3, .inl (fun _ => 0))), (q_8, .inl (G.2.2 0, 3, .inl (fun _ => 0))), (q_9, .inl (G.2.2 0, 3, .inl (fun _ => 0))), (q_2, .inl (G.2.2 0, 5, .inl (fun _ => 0)))]) [0, 2, 3, 4, 5, 6, 7, 8, 1] rfl hP
  have hD := tw_permD (we' := [(t, .inr (7, [.ref q_1, .ref q_2, .ref q_3, .ref q_4, .ref q_5, .ref q_6, .ref q_7, .ref q_8, .ref q_9, .int 0])), (q_3, .inl (G.2.2 0, 5, .inl (fun _ => 0))), (q_4, .inl (G.2.2 0, 5, .inl (fun _ => 0))), (q_5, .inl (G.2.2 0, 3, .inl (fun _ => 0))), (q_6, .inl (G.2.2 0, 3, .inl (fun _ => 0))), (q_7, .inl (G.2.2 0, 3, .inl (fun _ => 0))), (q_8, .inl (G.2.2 0, 3, .inl (fun _ => 0))), (q_9, .inl (G.2.2 0, 3, .inl (fun _ => 0))), (q_2, .inl (G.2.2 0, 5, .inl (fun _ => 0)))]) [0, 2, 3, 4, 5, 6, 7, 8, 1] (by decide) rfl hD
  have hP : va_P (gg_D G) classes ([(t, .inr (7, [.ref q_1, .ref q_2, .ref q_3, .ref q_4, .ref q_5, .ref q_6, .ref q_7, .ref q_8, .ref q_9, .int 0])), (q_3, .inl (G.2.2 0, 5, .inl (fun _ => 0))), (q_4, .inl (G.2.2 0, 5, .inl (fun _ => 0))), (q_5, .inl (G.2.2 0, 3, .inl (fun _ => 0))), (q_6, .inl (G.2.2 0, 3, .inl (fun _ => 0))), (q_7, .inl (G.2.2 0, 3, .inl (fun _ => 0))), (q_8, .inl (G.2.2 0, 3, .inl (fun _ => 0))), (q_9, .inl (G.2.2 0, 3, .inl (fun _ => 0)))] ++ ((q_2, .inl (G.2.2 0, 5, .inl (fun _ => 0))) :: wt)) H := hP
  have hD : va_D A ([(t, .inr (7, [.ref q_1, .ref q_2, .ref q_3, .ref q_4, .ref q_5, .ref q_6, .ref q_7, .ref q_8, .ref q_9, .int 0])), (q_3, .inl (G.2.2 0, 5, .inl (fun _ => 0))), (q_4, .inl (G.2.2 0, 5, .inl (fun _ => 0))), (q_5, .inl (G.2.2 0, 3, .inl (fun _ => 0))), (q_6, .inl (G.2.2 0, 3, .inl (fun _ => 0))), (q_7, .inl (G.2.2 0, 3, .inl (fun _ => 0))), (q_8, .inl (G.2.2 0, 3, .inl (fun _ => 0))), (q_9, .inl (G.2.2 0, 3, .inl (fun _ => 0)))] ++ ((q_2, .inl (G.2.2 0, 5, .inl (fun _ => 0))) :: wt)) := hD
  obtain ⟨Γ9, w9, hwe, hxe, hk_11, hT, hkp⟩ := tk_take (k := 20) hT hD (by decide) (show tk_en G Γ 20 _ from ⟨⟨by decide, by decide⟩, rfl, rfl, fun _ => (show tk_e 20 0 from trivial)⟩)
  rw [hwe] at hP hD
  clear hwe
  have hW := hW.call (show ∀ x ∈ ([] : List Nat), x ∈ [] by decide) hkp
  have hk_10 := hxe.of (by decide) hk_10
  have hE := hE.tr hxe
  clear hxe
  obtain ⟨Γ, hΓ9⟩ : ∃ z, z = Γ9 := ⟨_, rfl⟩
  subst hΓ9
  obtain ⟨wt, hw9⟩ : ∃ z, z = w9 := ⟨_, rfl⟩
  subst hw9
  have hP := tw_permP (we' := [(t, .inr (7, [.ref q_1, .ref q_2, .ref q_3, .ref q_4, .ref q_5, .ref q_6, .ref q_7, .ref q_8, .ref q_9, .int 0])), (q_4, .inl (G.2.2 0, 5, .inl (fun _ => 0))), (q_5, .inl (G.2.2 0, 3, .inl (fun _ => 0))), (q_6, .inl (G.2.2 0, 3, .inl (fun _ => 0))), (q_7, .inl (G.2.2 0, 3, .inl (fun _ => 0))), (q_8, .inl (G.2.2 0, 3, .inl (fun _ => 0))), (q_9, .inl (G.2.2 0, 3, .inl (fun _ => 0))), (q_3, .inl (G.2.2 0, 5, .inl (fun _ => 0)))]) [0, 2, 3, 4, 5, 6, 7, 1] rfl hP
  have hD := tw_permD (we' := [(t, .inr (7, [.ref q_1, .ref q_2, .ref q_3, .ref q_4, .ref q_5, .ref q_6, .ref q_7, .ref q_8, .ref q_9, .int 0])), (q_4, .inl (G.2.2 0, 5, .inl (fun _ => 0))), (q_5, .inl (G.2.2 0, 3, .inl (fun _ => 0))), (q_6, .inl (G.2.2 0, 3, .inl (fun _ => 0))), (q_7, .inl (G.2.2 0, 3, .inl (fun _ => 0))), (q_8, .inl (G.2.2 0, 3, .inl (fun _ => 0))), (q_9, .inl (G.2.2 0, 3, .inl (fun _ => 0))), (q_3, .inl (G.2.2 0, 5, .inl (fun _ => 0)))]) [0, 2, 3, 4, 5, 6, 7, 1] (by decide) rfl hD
  have hP : va_P (gg_D G) classes ([(t, .inr (7, [.ref q_1, .ref q_2, .ref q_3, .ref q_4, .ref q_5, .ref q_6, .ref q_7, .ref q_8, .ref q_9, .int 0])), (q_4, .inl (G.2.2 0, 5, .inl (fun _ => 0))), (q_5, .inl (G.2.2 0, 3, .inl (fun _ => 0))), (q_6, .inl (G.2.2 0, 3, .inl (fun _ => 0))), (q_7, .inl (G.2.2 0, 3, .inl (fun _ => 0))), (q_8, .inl (G.2.2 0, 3, .inl (fun _ => 0))), (q_9, .inl (G.2.2 0, 3, .inl (fun _ => 0)))] ++ ((q_3, .inl (G.2.2 0, 5, .inl (fun _ => 0))) :: wt)) H := hP
  have hD : va_D A ([(t, .inr (7, [.ref q_1, .ref q_2, .ref q_3, .ref q_4, .ref q_5, .ref q_6, .ref q_7, .ref q_8, .ref q_9, .int 0])), (q_4, .inl (G.2.2 0, 5, .inl (fun _ => 0))), (q_5, .inl (G.2.2 0, 3, .inl (fun _ => 0))), (q_6, .inl (G.2.2 0, 3, .inl (fun _ => 0))), (q_7, .inl (G.2.2 0, 3, .inl (fun _ => 0))), (q_8, .inl (G.2.2 0, 3, .inl (fun _ => 0))), (q_9, .inl (G.2.2 0, 3, .inl (fun _ => 0)))] ++ ((q_3, .inl (G.2.2 0, 5, .inl (fun _ => 0))) :: wt)) := hD
  obtain ⟨Γ9, w9, hwe, hxe, hk_12, hT, hkp⟩ := tk_take (k := 20) hT hD (by decide) (show tk_en G Γ 20 _ from ⟨⟨by decide, by decide⟩, rfl, rfl, fun _ => (show tk_e 20 0 from trivial)⟩)
  rw [hwe] at hP hD
  clear hwe
  have hW := hW.call (show ∀ x ∈ ([] : List Nat), x ∈ [] by decide) hkp
  have hk_10 := hxe.of (by decide) hk_10
  have hk_11 := hxe.of (by decide) hk_11
  have hE := hE.tr hxe
  clear hxe
  obtain ⟨Γ, hΓ9⟩ : ∃ z, z = Γ9 := ⟨_, rfl⟩
  subst hΓ9
  obtain ⟨wt, hw9⟩ : ∃ z, z = w9 := ⟨_, rfl⟩
  subst hw9
  have hP := tw_permP (we' := [(t, .inr (7, [.ref q_1, .ref q_2, .ref q_3, .ref q_4, .ref q_5, .ref q_6, .ref q_7, .ref q_8, .ref q_9, .int 0])), (q_5, .inl (G.2.2 0, 3, .inl (fun _ => 0))), (q_6, .inl (G.2.2 0, 3, .inl (fun _ => 0))), (q_7, .inl (G.2.2 0, 3, .inl (fun _ => 0))), (q_8, .inl (G.2.2 0, 3, .inl (fun _ => 0))), (q_9, .inl (G.2.2 0, 3, .inl (fun _ => 0))), (q_4, .inl (G.2.2 0, 5, .inl (fun _ => 0)))]) [0, 2, 3, 4, 5, 6, 1] rfl hP
  have hD := tw_permD (we' := [(t, .inr (7, [.ref q_1, .ref q_2, .ref q_3, .ref q_4, .ref q_5, .ref q_6, .ref q_7, .ref q_8, .ref q_9, .int 0])), (q_5, .inl (G.2.2 0, 3, .inl (fun _ => 0))), (q_6, .inl (G.2.2 0, 3, .inl (fun _ => 0))), (q_7, .inl (G.2.2 0, 3, .inl (fun _ => 0))), (q_8, .inl (G.2.2 0, 3, .inl (fun _ => 0))), (q_9, .inl (G.2.2 0, 3, .inl (fun _ => 0))), (q_4, .inl (G.2.2 0, 5, .inl (fun _ => 0)))]) [0, 2, 3, 4, 5, 6, 1] (by decide) rfl hD
  have hP : va_P (gg_D G) classes ([(t, .inr (7, [.ref q_1, .ref q_2, .ref q_3, .ref q_4, .ref q_5, .ref q_6, .ref q_7, .ref q_8, .ref q_9, .int 0])), (q_5, .inl (G.2.2 0, 3, .inl (fun _ => 0))), (q_6, .inl (G.2.2 0, 3, .inl (fun _ => 0))), (q_7, .inl (G.2.2 0, 3, .inl (fun _ => 0))), (q_8, .inl (G.2.2 0, 3, .inl (fun _ => 0))), (q_9, .inl (G.2.2 0, 3, .inl (fun _ => 0)))] ++ ((q_4, .inl (G.2.2 0, 5, .inl (fun _ => 0))) :: wt)) H := hP
  have hD : va_D A ([(t, .inr (7, [.ref q_1, .ref q_2, .ref q_3, .ref q_4, .ref q_5, .ref q_6, .ref q_7, .ref q_8, .ref q_9, .int 0])), (q_5, .inl (G.2.2 0, 3, .inl (fun _ => 0))), (q_6, .inl (G.2.2 0, 3, .inl (fun _ => 0))), (q_7, .inl (G.2.2 0, 3, .inl (fun _ => 0))), (q_8, .inl (G.2.2 0, 3, .inl (fun _ => 0))), (q_9, .inl (G.2.2 0, 3, .inl (fun _ => 0)))] ++ ((q_4, .inl (G.2.2 0, 5, .inl (fun _ => 0))) :: wt)) := hD
  obtain ⟨Γ9, w9, hwe, hxe, hk_13, hT, hkp⟩ := tk_take (k := 20) hT hD (by decide) (show tk_en G Γ 20 _ from ⟨⟨by decide, by decide⟩, rfl, rfl, fun _ => (show tk_e 20 0 from trivial)⟩)
  rw [hwe] at hP hD
  clear hwe
  have hW := hW.call (show ∀ x ∈ ([] : List Nat), x ∈ [] by decide) hkp
  have hk_10 := hxe.of (by decide) hk_10
  have hk_11 := hxe.of (by decide) hk_11
  have hk_12 := hxe.of (by decide) hk_12
  have hE := hE.tr hxe
  clear hxe
  obtain ⟨Γ, hΓ9⟩ : ∃ z, z = Γ9 := ⟨_, rfl⟩
  subst hΓ9
  obtain ⟨wt, hw9⟩ : ∃ z, z = w9 := ⟨_, rfl⟩
  subst hw9
  have hP := tw_permP (we' := [(t, .inr (7, [.ref q_1, .ref q_2, .ref q_3, .ref q_4, .ref q_5, .ref q_6, .ref q_7, .ref q_8, .ref q_9, .int 0])), (q_6, .inl (G.2.2 0, 3, .inl (fun _ => 0))), (q_7, .inl (G.2.2 0, 3, .inl (fun _ => 0))), (q_8, .inl (G.2.2 0, 3, .inl (fun _ => 0))), (q_9, .inl (G.2.2 0, 3, .inl (fun _ => 0))), (q_5, .inl (G.2.2 0, 3, .inl (fun _ => 0)))]) [0, 2, 3, 4, 5, 1] rfl hP
  have hD := tw_permD (we' := [(t, .inr (7, [.ref q_1, .ref q_2, .ref q_3, .ref q_4, .ref q_5, .ref q_6, .ref q_7, .ref q_8, .ref q_9, .int 0])), (q_6, .inl (G.2.2 0, 3, .inl (fun _ => 0))), (q_7, .inl (G.2.2 0, 3, .inl (fun _ => 0))), (q_8, .inl (G.2.2 0, 3, .inl (fun _ => 0))), (q_9, .inl (G.2.2 0, 3, .inl (fun _ => 0))), (q_5, .inl (G.2.2 0, 3, .inl (fun _ => 0)))]) [0, 2, 3, 4, 5, 1] (by decide) rfl hD
  have hP : va_P (gg_D G) classes ([(t, .inr (7, [.ref q_1, .ref q_2, .ref q_3, .ref q_4, .ref q_5, .ref q_6, .ref q_7, .ref q_8, .ref q_9, .int 0])), (q_6, .inl (G.2.2 0, 3, .inl (fun _ => 0))), (q_7, .inl (G.2.2 0, 3, .inl (fun _ => 0))), (q_8, .inl (G.2.2 0, 3, .inl (fun _ => 0))), (q_9, .inl (G.2.2 0, 3, .inl (fun _ => 0)))] ++ ((q_5, .inl (G.2.2 0, 3, .inl (fun _ => 0))) :: wt)) H := hP
  have hD : va_D A ([(t, .inr (7, [.ref q_1, .ref q_2, .ref q_3, .ref q_4, .ref q_5, .ref q_6, .ref q_7, .ref q_8, .ref q_9, .int 0])), (q_6, .inl (G.2.2 0, 3, .inl (fun _ => 0))), (q_7, .inl (G.2.2 0, 3, .inl (fun _ => 0))), (q_8, .inl (G.2.2 0, 3, .inl (fun _ => 0))), (q_9, .inl (G.2.2 0, 3, .inl (fun _ => 0)))] ++ ((q_5, .inl (G.2.2 0, 3, .inl (fun _ => 0))) :: wt)) := hD
  obtain ⟨Γ9, w9, hwe, hxe, hk_14, hT, hkp⟩ := tk_take (k := 21) hT hD (by decide) (show tk_en G Γ 21 _ from ⟨⟨by decide, by decide⟩, rfl, rfl, fun _ => (show tk_e 21 0 from trivial)⟩)
  rw [hwe] at hP hD
  clear hwe
  have hW := hW.call (show ∀ x ∈ ([] : List Nat), x ∈ [] by decide) hkp
  have hk_10 := hxe.of (by decide) hk_10
  have hk_11 := hxe.of (by decide) hk_11
  have hk_12 := hxe.of (by decide) hk_12
  have hk_13 := hxe.of (by decide) hk_13
  have hE := hE.tr hxe
  clear hxe
  obtain ⟨Γ, hΓ9⟩ : ∃ z, z = Γ9 := ⟨_, rfl⟩
  subst hΓ9
  obtain ⟨wt, hw9⟩ : ∃ z, z = w9 := ⟨_, rfl⟩
  subst hw9
  have hP := tw_permP (we' := [(t, .inr (7, [.ref q_1, .ref q_2, .ref q_3, .ref q_4, .ref q_5, .ref q_6, .ref q_7, .ref q_8, .ref q_9, .int 0])), (q_7, .inl (G.2.2 0, 3, .inl (fun _ => 0))), (q_8, .inl (G.2.2 0, 3, .inl (fun _ => 0))), (q_9, .inl (G.2.2 0, 3, .inl (fun _ => 0))), (q_6, .inl (G.2.2 0, 3, .inl (fun _ => 0)))]) [0, 2, 3, 4, 1] rfl hP
  have hD := tw_permD (we' := [(t, .inr (7, [.ref q_1, .ref q_2, .ref q_3, .ref q_4, .ref q_5, .ref q_6, .ref q_7, .ref q_8, .ref q_9, .int 0])), (q_7, .inl (G.2.2 0, 3, .inl (fun _ => 0))), (q_8, .inl (G.2.2 0, 3, .inl (fun _ => 0))), (q_9, .inl (G.2.2 0, 3, .inl (fun _ => 0))), (q_6, .inl (G.2.2 0, 3, .inl (fun _ => 0)))]) [0, 2, 3, 4, 1] (by decide) rfl hD
  have hP : va_P (gg_D G) classes ([(t, .inr (7, [.ref q_1, .ref q_2, .ref q_3, .ref q_4, .ref q_5, .ref q_6, .ref q_7, .ref q_8, .ref q_9, .int 0])), (q_7, .inl (G.2.2 0, 3, .inl (fun _ => 0))), (q_8, .inl (G.2.2 0, 3, .inl (fun _ => 0))), (q_9, .inl (G.2.2 0, 3, .inl (fun _ => 0)))] ++ ((q_6, .inl (G.2.2 0, 3, .inl (fun _ => 0))) :: wt)) H := hP
  have hD : va_D A ([(t, .inr (7, [.ref q_1, .ref q_2, .ref q_3, .ref q_4, .ref q_5, .ref q_6, .ref q_7, .ref q_8, .ref q_9, .int 0])), (q_7, .inl (G.2.2 0, 3, .inl (fun _ => 0))), (q_8, .inl (G.2.2 0, 3, .inl (fun _ => 0))), (q_9, .inl (G.2.2 0, 3, .inl (fun _ => 0)))] ++ ((q_6, .inl (G.2.2 0, 3, .inl (fun _ => 0))) :: wt)) := hD
  obtain ⟨Γ9, w9, hwe, hxe, hk_15, hT, hkp⟩ := tk_take (k := 21) hT hD (by decide) (show tk_en G Γ 21 _ from ⟨⟨by decide, by decide⟩, rfl, rfl, fun _ => (show tk_e 21 0 from trivial)⟩)
  rw [hwe] at hP hD
  clear hwe
  have hW := hW.call (show ∀ x ∈ ([] : List Nat), x ∈ [] by decide) hkp
  have hk_10 := hxe.of (by decide) hk_10
  have hk_11 := hxe.of (by decide) hk_11
  have hk_12 := hxe.of (by decide) hk_12
  have hk_13 := hxe.of (by decide) hk_13
  have hk_14 := hxe.of (by decide) hk_14
  have hE := hE.tr hxe
  clear hxe
  obtain ⟨Γ, hΓ9⟩ : ∃ z, z = Γ9 := ⟨_, rfl⟩
  subst hΓ9
  obtain ⟨wt, hw9⟩ : ∃ z, z = w9 := ⟨_, rfl⟩
  subst hw9
  have hP := tw_permP (we' := [(t, .inr (7, [.ref q_1, .ref q_2, .ref q_3, .ref q_4, .ref q_5, .ref q_6, .ref q_7, .ref q_8, .ref q_9, .int 0])), (q_8, .inl (G.2.2 0, 3, .inl (fun _ => 0))), (q_9, .inl (G.2.2 0, 3, .inl (fun _ => 0))), (q_7, .inl (G.2.2 0, 3, .inl (fun _ => 0)))]) [0, 2, 3, 1] rfl hP
  have hD := tw_permD (we' := [(t, .inr (7, [.ref q_1, .ref q_2, .ref q_3, .ref q_4, .ref q_5, .ref q_6, .ref q_7, .ref q_8, .ref q_9, .int 0])), (q_8, .inl (G.2.2 0, 3, .inl (fun _ => 0))), (q_9, .inl (G.2.2 0, 3, .inl (fun _ => 0))), (q_7, .inl (G.2.2 0, 3, .inl (fun _ => 0)))]) [0, 2, 3, 1] (by decide) rfl hD
  have hP : va_P (gg_D G) classes ([(t, .inr (7, [.ref q_1, .ref q_2, .ref q_3, .ref q_4, .ref q_5, .ref q_6, .ref q_7, .ref q_8, .ref q_9, .int 0])), (q_8, .inl (G.2.2 0, 3, .inl (fun _ => 0))), (q_9, .inl (G.2.2 0, 3, .inl (fun _ => 0)))] ++ ((q_7, .inl (G.2.2 0, 3, .inl (fun _ => 0))) :: wt)) H := hP
  have hD : va_D A ([(t, .inr (7, [.ref q_1, .ref q_2, .ref q_3, .ref q_4, .ref q_5, .ref q_6, .ref q_7, .ref q_8, .ref q_9, .int 0])), (q_8, .inl (G.2.2 0, 3, .inl (fun _ => 0))), (q_9, .inl (G.2.2 0, 3, .inl (fun _ => 0)))] ++ ((q_7, .inl (G.2.2 0, 3, .inl (fun _ => 0))) :: wt)) := hD
  obtain ⟨Γ9, w9, hwe, hxe, hk_16, hT, hkp⟩ := tk_take (k := 21) hT hD (by decide) (show tk_en G Γ 21 _ from ⟨⟨by decide, by decide⟩, rfl, rfl, fun _ => (show tk_e 21 0 from trivial)⟩)
  rw [hwe] at hP hD
  clear hwe
  have hW := hW.call (show ∀ x ∈ ([] : List Nat), x ∈ [] by decide) hkp
  have hk_10 := hxe.of (by decide) hk_10
  have hk_11 := hxe.of (by decide) hk_11
  have hk_12 := hxe.of (by decide) hk_12
  have hk_13 := hxe.of (by decide) hk_13
  have hk_14 := hxe.of (by decide) hk_14
  have hk_15 := hxe.of (by decide) hk_15
  have hE := hE.tr hxe
  clear hxe
  obtain ⟨Γ, hΓ9⟩ : ∃ z, z = Γ9 := ⟨_, rfl⟩
  subst hΓ9
  obtain ⟨wt, hw9⟩ : ∃ z, z = w9 := ⟨_, rfl⟩
  subst hw9
  have hP := tw_permP (we' := [(t, .inr (7, [.ref q_1, .ref q_2, .ref q_3, .ref q_4, .ref q_5, .ref q_6, .ref q_7, .ref q_8, .ref q_9, .int 0])), (q_9, .inl (G.2.2 0, 3, .inl (fun _ => 0))), (q_8, .inl (G.2.2 0, 3, .inl (fun _ => 0)))]) [0, 2, 1] rfl hP
  have hD := tw_permD (we' := [(t, .inr (7, [.ref q_1, .ref q_2, .ref q_3, .ref q_4, .ref q_5, .ref q_6, .ref q_7, .ref q_8, .ref q_9, .int 0])), (q_9, .inl (G.2.2 0, 3, .inl (fun _ => 0))), (q_8, .inl (G.2.2 0, 3, .inl (fun _ => 0)))]) [0, 2, 1] (by decide) rfl hD
  have hP : va_P (gg_D G) classes ([(t, .inr (7, [.ref q_1, .ref q_2, .ref q_3, .ref q_4, .ref q_5, .ref q_6, .ref q_7, .ref q_8, .ref q_9, .int 0])), (q_9, .inl (G.2.2 0, 3, .inl (fun _ => 0)))] ++ ((q_8, .inl (G.2.2 0, 3, .inl (fun _ => 0))) :: wt)) H := hP
  have hD : va_D A ([(t, .inr (7, [.ref q_1, .ref q_2, .ref q_3, .ref q_4, .ref q_5, .ref q_6, .ref q_7, .ref q_8, .ref q_9, .int 0])), (q_9, .inl (G.2.2 0, 3, .inl (fun _ => 0)))] ++ ((q_8, .inl (G.2.2 0, 3, .inl (fun _ => 0))) :: wt)) := hD
  obtain ⟨Γ9, w9, hwe, hxe, hk_17, hT, hkp⟩ := tk_take (k := 21) hT hD (by decide) (show tk_en G Γ 21 _ from ⟨⟨by decide, by decide⟩, rfl, rfl, fun _ => (show tk_e 21 0 from trivial)⟩)
  rw [hwe] at hP hD
  clear hwe
  have hW := hW.call (show ∀ x ∈ ([] : List Nat), x ∈ [] by decide) hkp
  have hk_10 := hxe.of (by decide) hk_10
  have hk_11 := hxe.of (by decide) hk_11
  have hk_12 := hxe.of (by decide) hk_12
  have hk_13 := hxe.of (by decide) hk_13
  have hk_14 := hxe.of (by decide) hk_14
  have hk_15 := hxe.of (by decide) hk_15
  have hk_16 := hxe.of (by decide) hk_16
  have hE := hE.tr hxe
  clear hxe
  obtain ⟨Γ, hΓ9⟩ : ∃ z, z = Γ9 := ⟨_, rfl⟩
  subst hΓ9
  obtain ⟨wt, hw9⟩ : ∃ z, z = w9 := ⟨_, rfl⟩
  subst hw9
  have hP : va_P (gg_D G) classes ([(t, .inr (7, [.ref q_1, .ref q_2, .ref q_3, .ref q_4, .ref q_5, .ref q_6, .ref q_7, .ref q_8, .ref q_9, .int 0]))] ++ ((q_9, .inl (G.2.2 0, 3, .inl (fun _ => 0))) :: wt)) H := hP
  have hD : va_D A ([(t, .inr (7, [.ref q_1, .ref q_2, .ref q_3, .ref q_4, .ref q_5, .ref q_6, .ref q_7, .ref q_8, .ref q_9, .int 0]))] ++ ((q_9, .inl (G.2.2 0, 3, .inl (fun _ => 0))) :: wt)) := hD
  obtain ⟨Γ9, w9, hwe, hxe, hk_18, hT, hkp⟩ := tk_take (k := 22) hT hD (by decide) (show tk_en G Γ 22 _ from ⟨⟨by decide, by decide⟩, rfl, rfl, fun _ => (show tk_e 22 0 from ⟨by decide, by decide⟩)⟩)
  rw [hwe] at hP hD
  clear hwe
  have hW := hW.call (show ∀ x ∈ ([] : List Nat), x ∈ [] by decide) hkp
  have hk_10 := hxe.of (by decide) hk_10
  have hk_11 := hxe.of (by decide) hk_11
  have hk_12 := hxe.of (by decide) hk_12
  have hk_13 := hxe.of (by decide) hk_13
  have hk_14 := hxe.of (by decide) hk_14
  have hk_15 := hxe.of (by decide) hk_15
  have hk_16 := hxe.of (by decide) hk_16
  have hk_17 := hxe.of (by decide) hk_17
  have hE := hE.tr hxe
  clear hxe
  obtain ⟨Γ, hΓ9⟩ : ∃ z, z = Γ9 := ⟨_, rfl⟩
  subst hΓ9
  obtain ⟨wt, hw9⟩ : ∃ z, z = w9 := ⟨_, rfl⟩
  subst hw9
  have hP : va_P (gg_D G) classes ([] ++ ((t, .inr (7, [.ref q_1, .ref q_2, .ref q_3, .ref q_4, .ref q_5, .ref q_6, .ref q_7, .ref q_8, .ref q_9, .int 0])) :: wt)) H := hP
  have hD : va_D A ([] ++ ((t, .inr (7, [.ref q_1, .ref q_2, .ref q_3, .ref q_4, .ref q_5, .ref q_6, .ref q_7, .ref q_8, .ref q_9, .int 0])) :: wt)) := hD
  obtain ⟨Γ9, w9, hwe, hxe, hk_19, hT, hkp⟩ := tk_take (k := 8) hT hD (by decide) (show tk_en G Γ 8 _ from (tk_mko rfl rfl ⟨⟨_, rfl, hk_10⟩, ⟨_, rfl, hk_11⟩, ⟨_, rfl, hk_12⟩, ⟨_, rfl, hk_13⟩, ⟨_, rfl, hk_14⟩, ⟨_, rfl, hk_15⟩, ⟨_, rfl, hk_16⟩, ⟨_, rfl, hk_17⟩, ⟨_, rfl, hk_18⟩, ⟨_, rfl⟩, trivial⟩))
  rw [hwe] at hP hD
  clear hwe
  have hW := hW.call (show ∀ x ∈ ([] : List Nat), x ∈ [] by decide) hkp
  have hE := hE.tr hxe
  clear hxe
  obtain ⟨Γ, hΓ9⟩ : ∃ z, z = Γ9 := ⟨_, rfl⟩
  subst hΓ9
  obtain ⟨wt, hw9⟩ : ∃ z, z = w9 := ⟨_, rfl⟩
  subst hw9
  have hP9 : va_P (gg_D G) classes wt _ := hP
  have hD9 : va_D A wt := hD
  exact W.vret hx hb hr (gq_endV (Γ, wt) ⟨hT, hW, hE, hk_19⟩ hP9 hD9 hS) hS.2.2 dX7_init_72
set_option maxHeartbeats 4000000 in
set_option maxRecDepth 100000 in
theorem d_i_Logs (l : Launch) (G : gg_T) (Γ : Nat → Nat) (sz : Nat) (wt : va_W) (hT : tk_ty G Γ wt) (t : Nat) : Met l yX2_init (ts_L yX2_init cX2_init 1 none) ({ frames := 1, cells := 3, slots := 30, locals := 12 }) (gc_P G ([(t, .inr (2, [.null, .null, .null, .int 0]))] ++ wt) sz [.ref t]) (gc_V G (va_A ([(t, .inr (2, [.null, .null, .null, .int 0]))] ++ wt) sz) (fun (u : (Nat → Nat) × va_W) => match u with | (Γ1, wt1) => tk_ty G Γ1 wt1 ∧ tk_kp [] wt wt1 ∧ tk_ext Γ Γ1 ∧ Γ1 t = 3) (fun (u : (Nat → Nat) × va_W) => match u with | (Γ1, wt1) => wt1)) 3 30 (va_A ([(t, .inr (2, [.null, .null, .null, .int 0]))] ++ wt) sz) := by
  refine Met.ofW (cc := cX2_init) (maxL := 1) (ret := none) (by decide) rfl ?_
  intro p e s m args below meth c s₁ B hml hv
  obtain ⟨rfl, hsz, hP, hK, hD0⟩ := hv
  have hx := B.exec
  have hb := B.bytes
  have hr := B.returns
  have ht := ts_ht (atoms_spec (ws := ts_L yX2_init cX2_init 1 none) B.pre)
  have hown : s.vm.findClass RX2 = some m.cls := findClass_of_methodNamed B.named
  have hlocks := B.notSynchronized
  subst hsz
  have hD := hD0.self (sz := s.heap.size)
  generalize hAe : va_A ([(t, .inr (2, [.null, .null, .null, .int 0]))] ++ wt) s.heap.size = A at hD ⊢
  have hA : ∀ q : Nat, s.heap.size ≤ q → A q := fun q h => by rw [← hAe]; exact Or.inr h
  clear hAe hD0
  have hS : va_S A s.heap s.heap [] := va_S.rf
  obtain ⟨w0, hw0⟩ : ∃ z, z = wt := ⟨_, rfl⟩
  have hW : tk_kp [] w0 wt := by rw [hw0]; exact tk_kp.rf
  rw [← hw0]
  clear hw0
  have hin : meth.name = "<init>" := (name_of_methodNamed B.named B.method).1
  obtain ⟨Γ0, hΓ0⟩ : ∃ z, z = Γ := ⟨_, rfl⟩
  have hE : tk_ext Γ0 Γ := by rw [hΓ0]; exact tk_ext.rf
  rw [← hΓ0]
  clear hΓ0
  have hP : va_P (gg_D G) classes ([(t, .inr (2, [.null, .null, .null, .int 0]))] ++ wt) s.heap := hP
  have hD : va_D A ([(t, .inr (2, [.null, .null, .null, .int 0]))] ++ wt) := hD
  have hl := lv_entry ([.ref t]) (n := 1) (Nat.le_of_ble_eq_true rfl)
  rw [lg_entry_eq]
  generalize (lg_sl ([.ref t]) ++ List.replicate (1 - (lg_sl ([.ref t])).length) Slot.unset).toArray = ls at hl ⊢
  have hl : lv_has ls 1 [(0, .ref t)] := hl
  have l0 : (0 : Int32).toInt = 0 := by decide +kernel
  refine lv_aload_n hx hb dX2_init_0 rfl (lv_at hl 0 rfl) ?_
  refine W.objInit hx hb hown (ht _ wd_315) (ht _ wd_148) (ht _ wd_149) rfl (by rw [hml]; exact hl.1) rfl dX2_init_1 (Nat.le_of_ble_eq_true rfl) (Nat.le_of_ble_eq_true rfl) ?_
  refine W.eq (g2 := F0 m 4 ls []) rfl ?_
  refine lv_aload_n hx hb dX2_init_4 rfl (lv_at hl 0 rfl) ?_
  refine lv_bipush (v := 10) hx hb dX2_init_5 (by decide +kernel) ?_
  refine gq_newa (atype := .int) (ty := .int) hx hb rfl (ht _ wd_172) hK hP hD hS hA 0 rfl 10 (10, .inl (fun _ => 0)) (fun _ => rfl) (by decide +kernel) (by decide +kernel) (Nat.le_of_ble_eq_true rfl) 1 10 (Nat.le_of_ble_eq_true rfl) (Nat.le_of_ble_eq_true rfl) (Nat.le_of_ble_eq_true rfl) (Nat.le_of_ble_eq_true rfl) dX2_init_7 (fun q_1 H hP hD hS => ?_)
  have hP : va_P (gg_D G) classes ([(t, .inr (2, [.null, .null, .null, .int 0])), (q_1, .inl (G.2.2 0, 10, .inl (fun _ => 0)))] ++ wt) H := tw_newP hP
  have hD : va_D A ([(t, .inr (2, [.null, .null, .null, .int 0])), (q_1, .inl (G.2.2 0, 10, .inl (fun _ => 0)))] ++ wt) := tw_newD hD
  refine gq_putF (ws' := [(t, .inr (2, [.ref q_1, .null, .null, .int 0])), (q_1, .inl (G.2.2 0, 10, .inl (fun _ => 0)))] ++ wt) hx hb ht hown hin hK hP hD hS i_X2 tyX2 tyX2_ok nmX2 0 rfl rfl 0 (by decide) wd_316 rfl rfl rfl rfl (Nat.le_of_ble_eq_true rfl) rfl dX2_init_9 (fun H locs hP hD hS => ?_)
  refine lv_aload_n hx hb dX2_init_12 rfl (lv_at hl 0 rfl) ?_
  refine lv_bipush (v := 10) hx hb dX2_init_13 (by decide +kernel) ?_
  refine gq_newa (atype := .int) (ty := .int) hx hb rfl (ht _ wd_172) hK hP hD hS hA 0 rfl 10 (10, .inl (fun _ => 0)) (fun _ => rfl) (by decide +kernel) (by decide +kernel) (Nat.le_of_ble_eq_true rfl) 2 20 (Nat.le_of_ble_eq_true rfl) (Nat.le_of_ble_eq_true rfl) (Nat.le_of_ble_eq_true rfl) (Nat.le_of_ble_eq_true rfl) dX2_init_15 (fun q_2 H hP hD hS => ?_)
  have hP : va_P (gg_D G) classes ([(t, .inr (2, [.ref q_1, .null, .null, .int 0])), (q_1, .inl (G.2.2 0, 10, .inl (fun _ => 0))), (q_2, .inl (G.2.2 0, 10, .inl (fun _ => 0)))] ++ wt) H := tw_newP hP
  have hD : va_D A ([(t, .inr (2, [.ref q_1, .null, .null, .int 0])), (q_1, .inl (G.2.2 0, 10, .inl (fun _ => 0))), (q_2, .inl (G.2.2 0, 10, .inl (fun _ => 0)))] ++ wt) := tw_newD hD
  refine gq_putF (ws' := [(t, .inr (2, [.ref q_1, .ref q_2, .null, .int 0])), (q_1, .inl (G.2.2 0, 10, .inl (fun _ => 0))), (q_2, .inl (G.2.2 0, 10, .inl (fun _ => 0)))] ++ wt) hx hb ht hown hin hK hP hD hS i_X2 tyX2 tyX2_ok nmX2 0 rfl rfl 1 (by decide) wd_317 rfl rfl rfl rfl (Nat.le_of_ble_eq_true rfl) rfl dX2_init_17 (fun H locs hP hD hS => ?_)
  refine lv_aload_n hx hb dX2_init_20 rfl (lv_at hl 0 rfl) ?_
  refine lv_bipush (v := 10) hx hb dX2_init_21 (by decide +kernel) ?_
  refine gq_newa (atype := .int) (ty := .int) hx hb rfl (ht _ wd_172) hK hP hD hS hA 0 rfl 10 (10, .inl (fun _ => 0)) (fun _ => rfl) (by decide +kernel) (by decide +kernel) (Nat.le_of_ble_eq_true rfl) 3 30 (Nat.le_of_ble_eq_true rfl) (Nat.le_of_ble_eq_true rfl) (Nat.le_of_ble_eq_true rfl) (Nat.le_of_ble_eq_true rfl) dX2_init_23 (fun q_3 H hP hD hS => ?_)
  have hP : va_P (gg_D G) classes ([(t, .inr (2, [.ref q_1, .ref q_2, .null, .int 0])), (q_1, .inl (G.2.2 0, 10, .inl (fun _ => 0))), (q_2, .inl (G.2.2 0, 10, .inl (fun _ => 0))), (q_3, .inl (G.2.2 0, 10, .inl (fun _ => 0)))] ++ wt) H := tw_newP hP
  have hD : va_D A ([(t, .inr (2, [.ref q_1, .ref q_2, .null, .int 0])), (q_1, .inl (G.2.2 0, 10, .inl (fun _ => 0))), (q_2, .inl (G.2.2 0, 10, .inl (fun _ => 0))), (q_3, .inl (G.2.2 0, 10, .inl (fun _ => 0)))] ++ wt) := tw_newD hD
  refine gq_putF (ws' := [(t, .inr (2, [.ref q_1, .ref q_2, .ref q_3, .int 0])), (q_1, .inl (G.2.2 0, 10, .inl (fun _ => 0))), (q_2, .inl (G.2.2 0, 10, .inl (fun _ => 0))), (q_3, .inl (G.2.2 0, 10, .inl (fun _ => 0)))] ++ wt) hx hb ht hown hin hK hP hD hS i_X2 tyX2 tyX2_ok nmX2 0 rfl rfl 2 (by decide) wd_318 rfl rfl rfl rfl (Nat.le_of_ble_eq_true rfl) rfl dX2_init_25 (fun H locs hP hD hS => ?_)
  refine lv_aload_n hx hb dX2_init_28 rfl (lv_at hl 0 rfl) ?_
  refine lv_iconst (v := 0) hx hb dX2_init_29 (by decide +kernel) ?_
  refine gq_put (ws' := [(t, .inr (2, [.ref q_1, .ref q_2, .ref q_3, .int 0])), (q_1, .inl (G.2.2 0, 10, .inl (fun _ => 0))), (q_2, .inl (G.2.2 0, 10, .inl (fun _ => 0))), (q_3, .inl (G.2.2 0, 10, .inl (fun _ => 0)))] ++ wt) hx hb ht hown hK hP hD hS i_X2 tyX2 tyX2_ok nmX2 0 rfl rfl 3 (by decide) wd_319 rfl rfl rfl rfl (Nat.le_of_ble_eq_true rfl) rfl dX2_init_30 (fun H locs hP hD hS => ?_)
  have hP := tw_permP (we' := [(t, .inr (2, [.ref q_1, .ref q_2, .ref q_3, .int 0])), (q_2, .inl (G.2.2 0, 10, .inl (fun _ => 0))), (q_3, .inl (G.2.2 0, 10, .inl (fun _ => 0))), (q_1, .inl (G.2.2 0, 10, .inl (fun _ => 0)))]) [0, 2, 3, 1] rfl hP
  have hD := tw_permD (we' := [(t, .inr (2, [.ref q_1, .ref q_2, .ref q_3, .int 0])), (q_2, .inl (G.2.2 0, 10, .inl (fun _ => 0))), (q_3, .inl (G.2.2 0, 10, .inl (fun _ => 0))), (q_1, .inl (G.2.2 0, 10, .inl (fun _ => 0)))]) [0, 2, 3, 1] (by decide) rfl hD
  have hP : va_P (gg_D G) classes ([(t, .inr (2, [.ref q_1, .ref q_2, .ref q_3, .int 0])), (q_2, .inl (G.2.2 0, 10, .inl (fun _ => 0))), (q_3, .inl (G.2.2 0, 10, .inl (fun _ => 0)))] ++ ((q_1, .inl (G.2.2 0, 10, .inl (fun _ => 0))) :: wt)) H := hP
  have hD : va_D A ([(t, .inr (2, [.ref q_1, .ref q_2, .ref q_3, .int 0])), (q_2, .inl (G.2.2 0, 10, .inl (fun _ => 0))), (q_3, .inl (G.2.2 0, 10, .inl (fun _ => 0)))] ++ ((q_1, .inl (G.2.2 0, 10, .inl (fun _ => 0))) :: wt)) := hD
  obtain ⟨Γ9, w9, hwe, hxe, hk_4, hT, hkp⟩ := tk_take (k := 23) hT hD (by decide) (show tk_en G Γ 23 _ from ⟨⟨by decide, by decide⟩, rfl, rfl, fun _ => (show tk_e 23 0 from trivial)⟩)
  rw [hwe] at hP hD
  clear hwe
  have hW := hW.call (show ∀ x ∈ ([] : List Nat), x ∈ [] by decide) hkp
  have hE := hE.tr hxe
  clear hxe
  obtain ⟨Γ, hΓ9⟩ : ∃ z, z = Γ9 := ⟨_, rfl⟩
  subst hΓ9
  obtain ⟨wt, hw9⟩ : ∃ z, z = w9 := ⟨_, rfl⟩
  subst hw9
  have hP := tw_permP (we' := [(t, .inr (2, [.ref q_1, .ref q_2, .ref q_3, .int 0])), (q_3, .inl (G.2.2 0, 10, .inl (fun _ => 0))), (q_2, .inl (G.2.2 0, 10, .inl (fun _ => 0)))]) [0, 2, 1] rfl hP
  have hD := tw_permD (we' := [(t, .inr (2, [.ref q_1, .ref q_2, .ref q_3, .int 0])), (q_3, .inl (G.2.2 0, 10, .inl (fun _ => 0))), (q_2, .inl (G.2.2 0, 10, .inl (fun _ => 0)))]) [0, 2, 1] (by decide) rfl hD
  have hP : va_P (gg_D G) classes ([(t, .inr (2, [.ref q_1, .ref q_2, .ref q_3, .int 0])), (q_3, .inl (G.2.2 0, 10, .inl (fun _ => 0)))] ++ ((q_2, .inl (G.2.2 0, 10, .inl (fun _ => 0))) :: wt)) H := hP
  have hD : va_D A ([(t, .inr (2, [.ref q_1, .ref q_2, .ref q_3, .int 0])), (q_3, .inl (G.2.2 0, 10, .inl (fun _ => 0)))] ++ ((q_2, .inl (G.2.2 0, 10, .inl (fun _ => 0))) :: wt)) := hD
  obtain ⟨Γ9, w9, hwe, hxe, hk_5, hT, hkp⟩ := tk_take (k := 23) hT hD (by decide) (show tk_en G Γ 23 _ from ⟨⟨by decide, by decide⟩, rfl, rfl, fun _ => (show tk_e 23 0 from trivial)⟩)
  rw [hwe] at hP hD
  clear hwe
  have hW := hW.call (show ∀ x ∈ ([] : List Nat), x ∈ [] by decide) hkp
  have hk_4 := hxe.of (by decide) hk_4
  have hE := hE.tr hxe
  clear hxe
  obtain ⟨Γ, hΓ9⟩ : ∃ z, z = Γ9 := ⟨_, rfl⟩
  subst hΓ9
  obtain ⟨wt, hw9⟩ : ∃ z, z = w9 := ⟨_, rfl⟩
  subst hw9
  have hP : va_P (gg_D G) classes ([(t, .inr (2, [.ref q_1, .ref q_2, .ref q_3, .int 0]))] ++ ((q_3, .inl (G.2.2 0, 10, .inl (fun _ => 0))) :: wt)) H := hP
  have hD : va_D A ([(t, .inr (2, [.ref q_1, .ref q_2, .ref q_3, .int 0]))] ++ ((q_3, .inl (G.2.2 0, 10, .inl (fun _ => 0))) :: wt)) := hD
  obtain ⟨Γ9, w9, hwe, hxe, hk_6, hT, hkp⟩ := tk_take (k := 23) hT hD (by decide) (show tk_en G Γ 23 _ from ⟨⟨by decide, by decide⟩, rfl, rfl, fun _ => (show tk_e 23 0 from trivial)⟩)
  rw [hwe] at hP hD
  clear hwe
  have hW := hW.call (show ∀ x ∈ ([] : List Nat), x ∈ [] by decide) hkp
  have hk_4 := hxe.of (by decide) hk_4
  have hk_5 := hxe.of (by decide) hk_5
  have hE := hE.tr hxe
  clear hxe
  obtain ⟨Γ, hΓ9⟩ : ∃ z, z = Γ9 := ⟨_, rfl⟩
  subst hΓ9
  obtain ⟨wt, hw9⟩ : ∃ z, z = w9 := ⟨_, rfl⟩
  subst hw9
  have hP : va_P (gg_D G) classes ([] ++ ((t, .inr (2, [.ref q_1, .ref q_2, .ref q_3, .int 0])) :: wt)) H := hP
  have hD : va_D A ([] ++ ((t, .inr (2, [.ref q_1, .ref q_2, .ref q_3, .int 0])) :: wt)) := hD
  obtain ⟨Γ9, w9, hwe, hxe, hk_7, hT, hkp⟩ := tk_take (k := 3) hT hD (by decide) (show tk_en G Γ 3 _ from (tk_mko rfl rfl ⟨⟨_, rfl, hk_4⟩, ⟨_, rfl, hk_5⟩, ⟨_, rfl, hk_6⟩, ⟨_, rfl, by omega, by omega⟩, trivial⟩))
  rw [hwe] at hP hD
  clear hwe
  have hW := hW.call (show ∀ x ∈ ([] : List Nat), x ∈ [] by decide) hkp
  have hE := hE.tr hxe
  clear hxe
  obtain ⟨Γ, hΓ9⟩ : ∃ z, z = Γ9 := ⟨_, rfl⟩
  subst hΓ9
  obtain ⟨wt, hw9⟩ : ∃ z, z = w9 := ⟨_, rfl⟩
  subst hw9
  have hP9 : va_P (gg_D G) classes wt _ := hP
  have hD9 : va_D A wt := hD
  exact W.vret hx hb hr (gq_endV (Γ, wt) ⟨hT, hW, hE, hk_7⟩ hP9 hD9 hS) hS.2.2 dX2_init_33
set_option maxHeartbeats 4000000 in
set_option maxRecDepth 100000 in
theorem d_i_Rule (l : Launch) (G : gg_T) (Γ : Nat → Nat) (sz : Nat) (wt : va_W) (hT : tk_ty G Γ wt) (t : Nat) : Met l yX4_init (ts_L yX4_init cX4_init 1 none) ({ frames := 1, cells := 5, slots := 492, locals := 12 }) (gc_P G ([(t, .inr (4, [.null, .null, .null, .null, .null, .int 0, .int 0, .int 0, .int 0]))] ++ wt) sz [.ref t]) (gc_V G (va_A ([(t, .inr (4, [.null, .null, .null, .null, .null, .int 0, .int 0, .int 0, .int 0]))] ++ wt) sz) (fun (u : (Nat → Nat) × va_W) => match u with | (Γ1, wt1) => tk_ty G Γ1 wt1 ∧ tk_kp [] wt wt1 ∧ tk_ext Γ Γ1 ∧ Γ1 t = 5) (fun (u : (Nat → Nat) × va_W) => match u with | (Γ1, wt1) => wt1)) 5 492 (va_A ([(t, .inr (4, [.null, .null, .null, .null, .null, .int 0, .int 0, .int 0, .int 0]))] ++ wt) sz) := by
  refine Met.ofW (cc := cX4_init) (maxL := 1) (ret := none) (by decide) rfl ?_
  intro p e s m args below meth c s₁ B hml hv
  obtain ⟨rfl, hsz, hP, hK, hD0⟩ := hv
  have hx := B.exec
  have hb := B.bytes
  have hr := B.returns
  have ht := ts_ht (atoms_spec (ws := ts_L yX4_init cX4_init 1 none) B.pre)
  have hown : s.vm.findClass RX4 = some m.cls := findClass_of_methodNamed B.named
  have hlocks := B.notSynchronized
  subst hsz
  have hD := hD0.self (sz := s.heap.size)
  generalize hAe : va_A ([(t, .inr (4, [.null, .null, .null, .null, .null, .int 0, .int 0, .int 0, .int 0]))] ++ wt) s.heap.size = A at hD ⊢
  have hA : ∀ q : Nat, s.heap.size ≤ q → A q := fun q h => by rw [← hAe]; exact Or.inr h
  clear hAe hD0
  have hS : va_S A s.heap s.heap [] := va_S.rf
  obtain ⟨w0, hw0⟩ : ∃ z, z = wt := ⟨_, rfl⟩
  have hW : tk_kp [] w0 wt := by rw [hw0]; exact tk_kp.rf
  rw [← hw0]
  clear hw0
  have hin : meth.name = "<init>" := (name_of_methodNamed B.named B.method).1
  obtain ⟨Γ0, hΓ0⟩ : ∃ z, z = Γ := ⟨_, rfl⟩
  have hE : tk_ext Γ0 Γ := by rw [hΓ0]; exact tk_ext.rf
  rw [← hΓ0]
  clear hΓ0
  have hP : va_P (gg_D G) classes ([(t, .inr (4, [.null, .null, .null, .null, .null, .int 0, .int 0, .int 0, .int 0]))] ++ wt) s.heap := hP
  have hD : va_D A ([(t, .inr (4, [.null, .null, .null, .null, .null, .int 0, .int 0, .int 0, .int 0]))] ++ wt) := hD
  have hl := lv_entry ([.ref t]) (n := 1) (Nat.le_of_ble_eq_true rfl)
  rw [lg_entry_eq]
  generalize (lg_sl ([.ref t]) ++ List.replicate (1 - (lg_sl ([.ref t])).length) Slot.unset).toArray = ls at hl ⊢
  have hl : lv_has ls 1 [(0, .ref t)] := hl
  have l0 : (0 : Int32).toInt = 0 := by decide +kernel
  refine lv_aload_n hx hb dX4_init_0 rfl (lv_at hl 0 rfl) ?_
  refine W.objInit hx hb hown (ht _ wd_336) (ht _ wd_148) (ht _ wd_149) rfl (by rw [hml]; exact hl.1) rfl dX4_init_1 (Nat.le_of_ble_eq_true rfl) (Nat.le_of_ble_eq_true rfl) ?_
  refine W.eq (g2 := F0 m 4 ls []) rfl ?_
  refine lv_aload_n hx hb dX4_init_4 rfl (lv_at hl 0 rfl) ?_
  refine lv_sipush (v := 400) hx hb dX4_init_5 (by decide +kernel) ?_
  refine gq_newa (atype := .int) (ty := .int) hx hb rfl (ht _ wd_172) hK hP hD hS hA 0 rfl 400 (400, .inl (fun _ => 0)) (fun _ => rfl) (by decide +kernel) (by decide +kernel) (Nat.le_of_ble_eq_true rfl) 1 400 (Nat.le_of_ble_eq_true rfl) (Nat.le_of_ble_eq_true rfl) (Nat.le_of_ble_eq_true rfl) (Nat.le_of_ble_eq_true rfl) dX4_init_8 (fun q_1 H hP hD hS => ?_)
  have hP : va_P (gg_D G) classes ([(t, .inr (4, [.null, .null, .null, .null, .null, .int 0, .int 0, .int 0, .int 0])), (q_1, .inl (G.2.2 0, 400, .inl (fun _ => 0)))] ++ wt) H := tw_newP hP
  have hD : va_D A ([(t, .inr (4, [.null, .null, .null, .null, .null, .int 0, .int 0, .int 0, .int 0])), (q_1, .inl (G.2.2 0, 400, .inl (fun _ => 0)))] ++ wt) := tw_newD hD
  refine gq_putF (ws' := [(t, .inr (4, [.ref q_1, .null, .null, .null, .null, .int 0, .int 0, .int 0, .int 0])), (q_1, .inl (G.2.2 0, 400, .inl (fun _ => 0)))] ++ wt) hx hb ht hown hin hK hP hD hS i_X4 tyX4 tyX4_ok nmX4 0 rfl rfl 0 (by decide) wd_337 rfl rfl rfl rfl (Nat.le_of_ble_eq_true rfl) rfl dX4_init_10 (fun H locs hP hD hS => ?_)
  refine lv_aload_n hx hb dX4_init_13 rfl (lv_at hl 0 rfl) ?_
  refine lv_bipush (v := 10) hx hb dX4_init_14 (by decide +kernel) ?_
  refine gq_newa (atype := .long) (ty := .long) hx hb rfl (ht _ wd_365) hK hP hD hS hA 1 rfl 10 (10, .inr (.inl (fun _ => 0))) (fun _ => rfl) (by decide +kernel) (by decide +kernel) (Nat.le_of_ble_eq_true rfl) 2 410 (Nat.le_of_ble_eq_true rfl) (Nat.le_of_ble_eq_true rfl) (Nat.le_of_ble_eq_true rfl) (Nat.le_of_ble_eq_true rfl) dX4_init_16 (fun q_2 H hP hD hS => ?_)
  have hP : va_P (gg_D G) classes ([(t, .inr (4, [.ref q_1, .null, .null, .null, .null, .int 0, .int 0, .int 0, .int 0])), (q_1, .inl (G.2.2 0, 400, .inl (fun _ => 0))), (q_2, .inl (G.2.2 1, 10, .inr (.inl (fun _ => 0))))] ++ wt) H := tw_newP hP
  have hD : va_D A ([(t, .inr (4, [.ref q_1, .null, .null, .null, .null, .int 0, .int 0, .int 0, .int 0])), (q_1, .inl (G.2.2 0, 400, .inl (fun _ => 0))), (q_2, .inl (G.2.2 1, 10, .inr (.inl (fun _ => 0))))] ++ wt) := tw_newD hD
  refine gq_putF (ws' := [(t, .inr (4, [.ref q_1, .ref q_2, .null, .null, .null, .int 0, .int 0, .int 0, .int 0])), (q_1, .inl (G.2.2 0, 400, .inl (fun _ => 0))), (q_2, .inl (G.2.2 1, 10, .inr (.inl (fun _ => 0))))] ++ wt) hx hb ht hown hin hK hP hD hS i_X4 tyX4 tyX4_ok nmX4 0 rfl rfl 1 (by decide) wd_338 rfl rfl rfl rfl (Nat.le_of_ble_eq_true rfl) rfl dX4_init_18 (fun H locs hP hD hS => ?_)
  refine lv_aload_n hx hb dX4_init_21 rfl (lv_at hl 0 rfl) ?_
  refine lv_bipush (v := 60) hx hb dX4_init_22 (by decide +kernel) ?_
  refine gq_newa (atype := .long) (ty := .long) hx hb rfl (ht _ wd_365) hK hP hD hS hA 1 rfl 60 (60, .inr (.inl (fun _ => 0))) (fun _ => rfl) (by decide +kernel) (by decide +kernel) (Nat.le_of_ble_eq_true rfl) 3 470 (Nat.le_of_ble_eq_true rfl) (Nat.le_of_ble_eq_true rfl) (Nat.le_of_ble_eq_true rfl) (Nat.le_of_ble_eq_true rfl) dX4_init_24 (fun q_3 H hP hD hS => ?_)
  have hP : va_P (gg_D G) classes ([(t, .inr (4, [.ref q_1, .ref q_2, .null, .null, .null, .int 0, .int 0, .int 0, .int 0])), (q_1, .inl (G.2.2 0, 400, .inl (fun _ => 0))), (q_2, .inl (G.2.2 1, 10, .inr (.inl (fun _ => 0)))), (q_3, .inl (G.2.2 1, 60, .inr (.inl (fun _ => 0))))] ++ wt) H := tw_newP hP
  have hD : va_D A ([(t, .inr (4, [.ref q_1, .ref q_2, .null, .null, .null, .int 0, .int 0, .int 0, .int 0])), (q_1, .inl (G.2.2 0, 400, .inl (fun _ => 0))), (q_2, .inl (G.2.2 1, 10, .inr (.inl (fun _ => 0)))), (q_3, .inl (G.2.2 1, 60, .inr (.inl (fun _ => 0))))] ++ wt) := tw_newD hD
  refine gq_putF (ws' := [(t, .inr (4, [.ref q_1, .ref q_2, .ref q_3, .null, .null, .int 0, .int 0, .int 0, .int 0])), (q_1, .inl (G.2.2 0, 400, .inl (fun _ => 0))), (q_2, .inl (G.2.2 1, 10, .inr (.inl (fun _ => 0)))), (q_3, .inl (G.2.2 1, 60, .inr (.inl (fun _ => 0))))] ++ wt) hx hb ht hown hin hK hP hD hS i_X4 tyX4 tyX4_ok nmX4 0 rfl rfl 2 (by decide) wd_339 rfl rfl rfl rfl (Nat.le_of_ble_eq_true rfl) rfl dX4_init_26 (fun H locs hP hD hS => ?_)
  refine lv_aload_n hx hb dX4_init_29 rfl (lv_at hl 0 rfl) ?_
  refine lv_bipush (v := 11) hx hb dX4_init_30 (by decide +kernel) ?_
  refine gq_newa (atype := .int) (ty := .int) hx hb rfl (ht _ wd_172) hK hP hD hS hA 0 rfl 11 (11, .inl (fun _ => 0)) (fun _ => rfl) (by decide +kernel) (by decide +kernel) (Nat.le_of_ble_eq_true rfl) 4 481 (Nat.le_of_ble_eq_true rfl) (Nat.le_of_ble_eq_true rfl) (Nat.le_of_ble_eq_true rfl) (Nat.le_of_ble_eq_true rfl) dX4_init_32 (fun q_4 H hP hD hS => ?_)
  have hP : va_P (gg_D G) classes ([(t, .inr (4, [.ref q_1, .ref q_2, .ref q_3, .null, .null, .int 0, .int 0, .int 0, .int 0])), (q_1, .inl (G.2.2 0, 400, .inl (fun _ => 0))), (q_2, .inl (G.2.2 1, 10, .inr (.inl (fun _ => 0)))), (q_3, .inl (G.2.2 1, 60, .inr (.inl (fun _ => 0)))), (q_4, .inl (G.2.2 0, 11, .inl (fun _ => 0)))] ++ wt) H := tw_newP hP
  have hD : va_D A ([(t, .inr (4, [.ref q_1, .ref q_2, .ref q_3, .null, .null, .int 0, .int 0, .int 0, .int 0])), (q_1, .inl (G.2.2 0, 400, .inl (fun _ => 0))), (q_2, .inl (G.2.2 1, 10, .inr (.inl (fun _ => 0)))), (q_3, .inl (G.2.2 1, 60, .inr (.inl (fun _ => 0)))), (q_4, .inl (G.2.2 0, 11, .inl (fun _ => 0)))] ++ wt) := tw_newD hD
  refine gq_putF (ws' := [(t, .inr (4, [.ref q_1, .ref q_2, .ref q_3, .ref q_4, .null, .int 0, .int 0, .int 0, .int 0])), (q_1, .inl (G.2.2 0, 400, .inl (fun _ => 0))), (q_2, .inl (G.2.2 1, 10, .inr (.inl (fun _ => 0)))), (q_3, .inl (G.2.2 1, 60, .inr (.inl (fun _ => 0)))), (q_4, .inl (G.2.2 0, 11, .inl (fun _ => 0)))] ++ wt) hx hb ht hown hin hK hP hD hS i_X4 tyX4 tyX4_ok nmX4 0 rfl rfl 3 (by decide) wd_340 rfl rfl rfl rfl (Nat.le_of_ble_eq_true rfl) rfl dX4_init_34 (fun H locs hP hD hS => ?_)
  refine lv_aload_n hx hb dX4_init_37 rfl (lv_at hl 0 rfl) ?_
  refine lv_bipush (v := 11) hx hb dX4_init_38 (by decide +kernel) ?_
  refine gq_newa (atype := .int) (ty := .int) hx hb rfl (ht _ wd_172) hK hP hD hS hA 0 rfl 11 (11, .inl (fun _ => 0)) (fun _ => rfl) (by decide +kernel) (by decide +kernel) (Nat.le_of_ble_eq_true rfl) 5 492 (Nat.le_of_ble_eq_true rfl) (Nat.le_of_ble_eq_true rfl) (Nat.le_of_ble_eq_true rfl) (Nat.le_of_ble_eq_true rfl) dX4_init_40 (fun q_5 H hP hD hS => ?_)
  have hP : va_P (gg_D G) classes ([(t, .inr (4, [.ref q_1, .ref q_2, .ref q_3, .ref q_4, .null, .int 0, .int 0, .int 0, .int 0])), (q_1, .inl (G.2.2 0, 400, .inl (fun _ => 0))), (q_2, .inl (G.2.2 1, 10, .inr (.inl (fun _ => 0)))), (q_3, .inl (G.2.2 1, 60, .inr (.inl (fun _ => 0)))), (q_4, .inl (G.2.2 0, 11, .inl (fun _ => 0))), (q_5, .inl (G.2.2 0, 11, .inl (fun _ => 0)))] ++ wt) H := tw_newP hP
  have hD : va_D A ([(t, .inr (4, [.ref q_1, .ref q_2, .ref q_3, .ref q_4, .null, .int 0, .int 0, .int 0, .int 0])), (q_1, .inl (G.2.2 0, 400, .inl (fun _ => 0))), (q_2, .inl (G.2.2 1, 10, .inr (.inl (fun _ => 0)))), (q_3, .inl (G.2.2 1, 60, .inr (.inl (fun _ => 0)))), (q_4, .inl (G.2.2 0, 11, .inl (fun _ => 0))), (q_5, .inl (G.2.2 0, 11, .inl (fun _ => 0)))] ++ wt) := tw_newD hD
  refine gq_putF (ws' := [(t, .inr (4, [.ref q_1, .ref q_2, .ref q_3, .ref q_4, .ref q_5, .int 0, .int 0, .int 0, .int 0])), (q_1, .inl (G.2.2 0, 400, .inl (fun _ => 0))), (q_2, .inl (G.2.2 1, 10, .inr (.inl (fun _ => 0)))), (q_3, .inl (G.2.2 1, 60, .inr (.inl (fun _ => 0)))), (q_4, .inl (G.2.2 0, 11, .inl (fun _ => 0))), (q_5, .inl (G.2.2 0, 11, .inl (fun _ => 0)))] ++ wt) hx hb ht hown hin hK hP hD hS i_X4 tyX4 tyX4_ok nmX4 0 rfl rfl 4 (by decide) wd_341 rfl rfl rfl rfl (Nat.le_of_ble_eq_true rfl) rfl dX4_init_42 (fun H locs hP hD hS => ?_)
  refine lv_aload_n hx hb dX4_init_45 rfl (lv_at hl 0 rfl) ?_
  refine lv_iconst (v := 0) hx hb dX4_init_46 (by decide +kernel) ?_
  refine gq_put (ws' := [(t, .inr (4, [.ref q_1, .ref q_2, .ref q_3, .ref q_4, .ref q_5, .int 0, .int 0, .int 0, .int 0])), (q_1, .inl (G.2.2 0, 400, .inl (fun _ => 0))), (q_2, .inl (G.2.2 1, 10, .inr (.inl (fun _ => 0)))), (q_3, .inl (G.2.2 1, 60, .inr (.inl (fun _ => 0)))), (q_4, .inl (G.2.2 0, 11, .inl (fun _ => 0))), (q_5, .inl (G.2.2 0, 11, .inl (fun _ => 0)))] ++ wt) hx hb ht hown hK hP hD hS i_X4 tyX4 tyX4_ok nmX4 0 rfl rfl 5 (by decide) wd_342 rfl rfl rfl rfl (Nat.le_of_ble_eq_true rfl) rfl dX4_init_47 (fun H locs hP hD hS => ?_)
  refine lv_aload_n hx hb dX4_init_50 rfl (lv_at hl 0 rfl) ?_
  refine lv_iconst (v := 0) hx hb dX4_init_51 (by decide +kernel) ?_
  refine gq_put (ws' := [(t, .inr (4, [.ref q_1, .ref q_2, .ref q_3, .ref q_4, .ref q_5, .int 0, .int 0, .int 0, .int 0])), (q_1, .inl (G.2.2 0, 400, .inl (fun _ => 0))), (q_2, .inl (G.2.2 1, 10, .inr (.inl (fun _ => 0)))), (q_3, .inl (G.2.2 1, 60, .inr (.inl (fun _ => 0)))), (q_4, .inl (G.2.2 0, 11, .inl (fun _ => 0))), (q_5, .inl (G.2.2 0, 11, .inl (fun _ => 0)))] ++ wt) hx hb ht hown hK hP hD hS i_X4 tyX4 tyX4_ok nmX4 0 rfl rfl 6 (by decide) wd_343 rfl rfl rfl rfl (Nat.le_of_ble_eq_true rfl) rfl dX4_init_52 (fun H locs hP hD hS => ?_)
  refine lv_aload_n hx hb dX4_init_55 rfl (lv_at hl 0 rfl) ?_
  refine lv_iconst (v := 0) hx hb dX4_init_56 (by decide +kernel) ?_
  refine gq_put (ws' := [(t, .inr (4, [.ref q_1, .ref q_2, .ref q_3, .ref q_4, .ref q_5, .int 0, .int 0, .int 0, .int 0])), (q_1, .inl (G.2.2 0, 400, .inl (fun _ => 0))), (q_2, .inl (G.2.2 1, 10, .inr (.inl (fun _ => 0)))), (q_3, .inl (G.2.2 1, 60, .inr (.inl (fun _ => 0)))), (q_4, .inl (G.2.2 0, 11, .inl (fun _ => 0))), (q_5, .inl (G.2.2 0, 11, .inl (fun _ => 0)))] ++ wt) hx hb ht hown hK hP hD hS i_X4 tyX4 tyX4_ok nmX4 0 rfl rfl 7 (by decide) wd_344 rfl rfl rfl rfl (Nat.le_of_ble_eq_true rfl) rfl dX4_init_57 (fun H locs hP hD hS => ?_)
  refine lv_aload_n hx hb dX4_init_60 rfl (lv_at hl 0 rfl) ?_
  refine lv_iconst (v := 0) hx hb dX4_init_61 (by decide +kernel) ?_
  refine gq_put (ws' := [(t, .inr (4, [.ref q_1, .ref q_2, .ref q_3, .ref q_4, .ref q_5, .int 0, .int 0, .int 0, .int 0])), (q_1, .inl (G.2.2 0, 400, .inl (fun _ => 0))), (q_2, .inl (G.2.2 1, 10, .inr (.inl (fun _ => 0)))), (q_3, .inl (G.2.2 1, 60, .inr (.inl (fun _ => 0)))), (q_4, .inl (G.2.2 0, 11, .inl (fun _ => 0))), (q_5, .inl (G.2.2 0, 11, .inl (fun _ => 0)))] ++ wt) hx hb ht hown hK hP hD hS i_X4 tyX4 tyX4_ok nmX4 0 rfl rfl 8 (by decide) wd_345 rfl rfl rfl rfl (Nat.le_of_ble_eq_true rfl) rfl dX4_init_62 (fun H locs hP hD hS => ?_)
  have hP := tw_permP (we' := [(t, .inr (4, [.ref q_1, .ref q_2, .ref q_3, .ref q_4, .ref q_5, .int 0, .int 0, .int 0, .int 0])), (q_2, .inl (G.2.2 1, 10, .inr (.inl (fun _ => 0)))), (q_3, .inl (G.2.2 1, 60, .inr (.inl (fun _ => 0)))), (q_4, .inl (G.2.2 0, 11, .inl (fun _ => 0))), (q_5, .inl (G.2.2 0, 11, .inl (fun _ => 0))), (q_1, .inl (G.2.2 0, 400, .inl (fun _ => 0)))]) [0, 2, 3, 4, 5, 1] rfl hP
  have hD := tw_permD (we' := [(t, .inr (4, [.ref q_1, .ref q_2, .ref q_3, .ref q_4, .ref q_5, .int 0, .int 0, .int 0, .int 0])), (q_2, .inl (G.2.2 1, 10, .inr (.inl (fun _ => 0)))), (q_3, .inl (G.2.2 1, 60, .inr (.inl (fun _ => 0)))), (q_4, .inl (G.2.2 0, 11, .inl (fun _ => 0))), (q_5, .inl (G.2.2 0, 11, .inl (fun _ => 0))), (q_1, .inl (G.2.2 0, 400, .inl (fun _ => 0)))]) [0, 2, 3, 4, 5, 1] (by decide) rfl hD
  have hP : va_P (gg_D G) classes ([(t, .inr (4, [.ref q_1, .ref q_2, .ref q_3, .ref q_4, .ref q_5, .int 0, .int 0, .int 0, .int 0])), (q_2, .inl (G.2.2 1, 10, .inr (.inl (fun _ => 0)))), (q_3, .inl (G.2.2 1, 60, .inr (.inl (fun _ => 0)))), (q_4, .inl (G.2.2 0, 11, .inl (fun _ => 0))), (q_5, .inl (G.2.2 0, 11, .inl (fun _ => 0)))] ++ ((q_1, .inl (G.2.2 0, 400, .inl (fun _ => 0))) :: wt)) H := hP
  have hD : va_D A ([(t, .inr (4, [.ref q_1, .ref q_2, .ref q_3, .ref q_4, .ref q_5, .int 0, .int 0, .int 0, .int 0])), (q_2, .inl (G.2.2 1, 10, .inr (.inl (fun _ => 0)))), (q_3, .inl (G.2.2 1, 60, .inr (.inl (fun _ => 0)))), (q_4, .inl (G.2.2 0, 11, .inl (fun _ => 0))), (q_5, .inl (G.2.2 0, 11, .inl (fun _ => 0)))] ++ ((q_1, .inl (G.2.2 0, 400, .inl (fun _ => 0))) :: wt)) := hD
  obtain ⟨Γ9, w9, hwe, hxe, hk_6, hT, hkp⟩ := tk_take (k := 25) hT hD (by decide) (show tk_en G Γ 25 _ from ⟨⟨by decide, by decide⟩, rfl, rfl, fun _ => (show tk_e 25 0 from (show 0 ≤ (0 : Int32).toInt by decide))⟩)
  rw [hwe] at hP hD
  clear hwe
  have hW := hW.call (show ∀ x ∈ ([] : List Nat), x ∈ [] by decide) hkp
  have hE := hE.tr hxe
  clear hxe
  obtain ⟨Γ, hΓ9⟩ : ∃ z, z = Γ9 := ⟨_, rfl⟩
  subst hΓ9
  obtain ⟨wt, hw9⟩ : ∃ z, z = w9 := ⟨_, rfl⟩
  subst hw9
  have hP := tw_permP (we' := [(t, .inr (4, [.ref q_1, .ref q_2, .ref q_3, .ref q_4, .ref q_5, .int 0, .int 0, .int 0, .int 0])), (q_3, .inl (G.2.2 1, 60, .inr (.inl (fun _ => 0)))), (q_4, .inl (G.2.2 0, 11, .inl (fun _ => 0))), (q_5, .inl (G.2.2 0, 11, .inl (fun _ => 0))), (q_2, .inl (G.2.2 1, 10, .inr (.inl (fun _ => 0))))]) [0, 2, 3, 4, 1] rfl hP
  have hD := tw_permD (we' := [(t, .inr (4, [.ref q_1, .ref q_2, .ref q_3, .ref q_4, .ref q_5, .int 0, .int 0, .int 0, .int 0])), (q_3, .inl (G.2.2 1, 60, .inr (.inl (fun _ => 0)))), (q_4, .inl (G.2.2 0, 11, .inl (fun _ => 0))), (q_5, .inl (G.2.2 0, 11, .inl (fun _ => 0))), (q_2, .inl (G.2.2 1, 10, .inr (.inl (fun _ => 0))))]) [0, 2, 3, 4, 1] (by decide) rfl hD
  have hP : va_P (gg_D G) classes ([(t, .inr (4, [.ref q_1, .ref q_2, .ref q_3, .ref q_4, .ref q_5, .int 0, .int 0, .int 0, .int 0])), (q_3, .inl (G.2.2 1, 60, .inr (.inl (fun _ => 0)))), (q_4, .inl (G.2.2 0, 11, .inl (fun _ => 0))), (q_5, .inl (G.2.2 0, 11, .inl (fun _ => 0)))] ++ ((q_2, .inl (G.2.2 1, 10, .inr (.inl (fun _ => 0)))) :: wt)) H := hP
  have hD : va_D A ([(t, .inr (4, [.ref q_1, .ref q_2, .ref q_3, .ref q_4, .ref q_5, .int 0, .int 0, .int 0, .int 0])), (q_3, .inl (G.2.2 1, 60, .inr (.inl (fun _ => 0)))), (q_4, .inl (G.2.2 0, 11, .inl (fun _ => 0))), (q_5, .inl (G.2.2 0, 11, .inl (fun _ => 0)))] ++ ((q_2, .inl (G.2.2 1, 10, .inr (.inl (fun _ => 0)))) :: wt)) := hD
  obtain ⟨Γ9, w9, hwe, hxe, hk_7, hT, hkp⟩ := tk_take (k := 30) hT hD (by decide) (show tk_en G Γ 30 _ from ⟨⟨by decide, by decide⟩, rfl, rfl⟩)
  rw [hwe] at hP hD
  clear hwe
  have hW := hW.call (show ∀ x ∈ ([] : List Nat), x ∈ [] by decide) hkp
  have hk_6 := hxe.of (by decide) hk_6
  have hE := hE.tr hxe
  clear hxe
  obtain ⟨Γ, hΓ9⟩ : ∃ z, z = Γ9 := ⟨_, rfl⟩
  subst hΓ9
  obtain ⟨wt, hw9⟩ : ∃ z, z = w9 := ⟨_, rfl⟩
  subst hw9
  have hP := tw_permP (we' := [(t, .inr (4, [.ref q_1, .ref q_2, .ref q_3, .ref q_4, .ref q_5, .int 0, .int 0, .int 0, .int 0])), (q_4, .inl (G.2.2 0, 11, .inl (fun _ => 0))), (q_5, .inl (G.2.2 0, 11, .inl (fun _ => 0))), (q_3, .inl (G.2.2 1, 60, .inr (.inl (fun _ => 0))))]) [0, 2, 3, 1] rfl hP
  have hD := tw_permD (we' := [(t, .inr (4, [.ref q_1, .ref q_2, .ref q_3, .ref q_4, .ref q_5, .int 0, .int 0, .int 0, .int 0])), (q_4, .inl (G.2.2 0, 11, .inl (fun _ => 0))), (q_5, .inl (G.2.2 0, 11, .inl (fun _ => 0))), (q_3, .inl (G.2.2 1, 60, .inr (.inl (fun _ => 0))))]) [0, 2, 3, 1] (by decide) rfl hD
  have hP : va_P (gg_D G) classes ([(t, .inr (4, [.ref q_1, .ref q_2, .ref q_3, .ref q_4, .ref q_5, .int 0, .int 0, .int 0, .int 0])), (q_4, .inl (G.2.2 0, 11, .inl (fun _ => 0))), (q_5, .inl (G.2.2 0, 11, .inl (fun _ => 0)))] ++ ((q_3, .inl (G.2.2 1, 60, .inr (.inl (fun _ => 0)))) :: wt)) H := hP
  have hD : va_D A ([(t, .inr (4, [.ref q_1, .ref q_2, .ref q_3, .ref q_4, .ref q_5, .int 0, .int 0, .int 0, .int 0])), (q_4, .inl (G.2.2 0, 11, .inl (fun _ => 0))), (q_5, .inl (G.2.2 0, 11, .inl (fun _ => 0)))] ++ ((q_3, .inl (G.2.2 1, 60, .inr (.inl (fun _ => 0)))) :: wt)) := hD
  obtain ⟨Γ9, w9, hwe, hxe, hk_8, hT, hkp⟩ := tk_take (k := 31) hT hD (by decide) (show tk_en G Γ 31 _ from ⟨⟨by decide, by decide⟩, rfl, rfl⟩)
  rw [hwe] at hP hD
  clear hwe
  have hW := hW.call (show ∀ x ∈ ([] : List Nat), x ∈ [] by decide) hkp
  have hk_6 := hxe.of (by decide) hk_6
  have hk_7 := hxe.of (by decide) hk_7
  have hE := hE.tr hxe
  clear hxe
  obtain ⟨Γ, hΓ9⟩ : ∃ z, z = Γ9 := ⟨_, rfl⟩
  subst hΓ9
  obtain ⟨wt, hw9⟩ : ∃ z, z = w9 := ⟨_, rfl⟩
  subst hw9
  have hP := tw_permP (we' := [(t, .inr (4, [.ref q_1, .ref q_2, .ref q_3, .ref q_4, .ref q_5, .int 0, .int 0, .int 0, .int 0])), (q_5, .inl (G.2.2 0, 11, .inl (fun _ => 0))), (q_4, .inl (G.2.2 0, 11, .inl (fun _ => 0)))]) [0, 2, 1] rfl hP
  have hD := tw_permD (we' := [(t, .inr (4, [.ref q_1, .ref q_2, .ref q_3, .ref q_4, .ref q_5, .int 0, .int 0, .int 0, .int 0])), (q_5, .inl (G.2.2 0, 11, .inl (fun _ => 0))), (q_4, .inl (G.2.2 0, 11, .inl (fun _ => 0)))]) [0, 2, 1] (by decide) rfl hD
  have hP : va_P (gg_D G) classes ([(t, .inr (4, [.ref q_1, .ref q_2, .ref q_3, .ref q_4, .ref q_5, .int 0, .int 0, .int 0, .int 0])), (q_5, .inl (G.2.2 0, 11, .inl (fun _ => 0)))] ++ ((q_4, .inl (G.2.2 0, 11, .inl (fun _ => 0))) :: wt)) H := hP
  have hD : va_D A ([(t, .inr (4, [.ref q_1, .ref q_2, .ref q_3, .ref q_4, .ref q_5, .int 0, .int 0, .int 0, .int 0])), (q_5, .inl (G.2.2 0, 11, .inl (fun _ => 0)))] ++ ((q_4, .inl (G.2.2 0, 11, .inl (fun _ => 0))) :: wt)) := hD
  obtain ⟨Γ9, w9, hwe, hxe, hk_9, hT, hkp⟩ := tk_take (k := 26) hT hD (by decide) (show tk_en G Γ 26 _ from ⟨⟨by decide, by decide⟩, rfl, rfl, fun _ => (show tk_e 26 0 from trivial)⟩)
  rw [hwe] at hP hD
  clear hwe
  have hW := hW.call (show ∀ x ∈ ([] : List Nat), x ∈ [] by decide) hkp
  have hk_6 := hxe.of (by decide) hk_6
  have hk_7 := hxe.of (by decide) hk_7
  have hk_8 := hxe.of (by decide) hk_8
  have hE := hE.tr hxe
  clear hxe
  obtain ⟨Γ, hΓ9⟩ : ∃ z, z = Γ9 := ⟨_, rfl⟩
  subst hΓ9
  obtain ⟨wt, hw9⟩ : ∃ z, z = w9 := ⟨_, rfl⟩
  subst hw9
  have hP : va_P (gg_D G) classes ([(t, .inr (4, [.ref q_1, .ref q_2, .ref q_3, .ref q_4, .ref q_5, .int 0, .int 0, .int 0, .int 0]))] ++ ((q_5, .inl (G.2.2 0, 11, .inl (fun _ => 0))) :: wt)) H := hP
  have hD : va_D A ([(t, .inr (4, [.ref q_1, .ref q_2, .ref q_3, .ref q_4, .ref q_5, .int 0, .int 0, .int 0, .int 0]))] ++ ((q_5, .inl (G.2.2 0, 11, .inl (fun _ => 0))) :: wt)) := hD
  obtain ⟨Γ9, w9, hwe, hxe, hk_10, hT, hkp⟩ := tk_take (k := 26) hT hD (by decide) (show tk_en G Γ 26 _ from ⟨⟨by decide, by decide⟩, rfl, rfl, fun _ => (show tk_e 26 0 from trivial)⟩)
  rw [hwe] at hP hD
  clear hwe
  have hW := hW.call (show ∀ x ∈ ([] : List Nat), x ∈ [] by decide) hkp
  have hk_6 := hxe.of (by decide) hk_6
  have hk_7 := hxe.of (by decide) hk_7
  have hk_8 := hxe.of (by decide) hk_8
  have hk_9 := hxe.of (by decide) hk_9
  have hE := hE.tr hxe
  clear hxe
  obtain ⟨Γ, hΓ9⟩ : ∃ z, z = Γ9 := ⟨_, rfl⟩
  subst hΓ9
  obtain ⟨wt, hw9⟩ : ∃ z, z = w9 := ⟨_, rfl⟩
  subst hw9
  have hP : va_P (gg_D G) classes ([] ++ ((t, .inr (4, [.ref q_1, .ref q_2, .ref q_3, .ref q_4, .ref q_5, .int 0, .int 0, .int 0, .int 0])) :: wt)) H := hP
  have hD : va_D A ([] ++ ((t, .inr (4, [.ref q_1, .ref q_2, .ref q_3, .ref q_4, .ref q_5, .int 0, .int 0, .int 0, .int 0])) :: wt)) := hD
  obtain ⟨Γ9, w9, hwe, hxe, hk_11, hT, hkp⟩ := tk_take (k := 5) hT hD (by decide) (show tk_en G Γ 5 _ from (tk_mko rfl rfl ⟨⟨_, rfl, hk_6⟩, ⟨_, rfl, hk_7⟩, ⟨_, rfl, hk_8⟩, ⟨_, rfl, hk_9⟩, ⟨_, rfl, hk_10⟩, ⟨_, rfl, by omega, by omega⟩, ⟨_, rfl, by omega, by omega⟩, ⟨_, rfl, by omega, by omega⟩, ⟨_, rfl⟩, trivial⟩))
  rw [hwe] at hP hD
  clear hwe
  have hW := hW.call (show ∀ x ∈ ([] : List Nat), x ∈ [] by decide) hkp
  have hE := hE.tr hxe
  clear hxe
  obtain ⟨Γ, hΓ9⟩ : ∃ z, z = Γ9 := ⟨_, rfl⟩
  subst hΓ9
  obtain ⟨wt, hw9⟩ : ∃ z, z = w9 := ⟨_, rfl⟩
  subst hw9
  have hP9 : va_P (gg_D G) classes wt _ := hP
  have hD9 : va_D A wt := hD
  exact W.vret hx hb hr (gq_endV (Γ, wt) ⟨hT, hW, hE, hk_11⟩ hP9 hD9 hS) hS.2.2 dX4_init_65
set_option maxHeartbeats 4000000 in
set_option maxRecDepth 100000 in
theorem d_i_Past (l : Launch) (G : gg_T) (Γ : Nat → Nat) (sz : Nat) (wt : va_W) (hT : tk_ty G Γ wt) (t : Nat) : Met l yX3_init (ts_L yX3_init cX3_init 2 none) ({ frames := 2, cells := 201, slots := 920, locals := 32 }) (gc_P G ([(t, .inr (3, [.null, .int 0, .int 0]))] ++ wt) sz [.ref t]) (gc_V G (va_A ([(t, .inr (3, [.null, .int 0, .int 0]))] ++ wt) sz) (fun (u : (Nat → Nat) × va_W) => match u with | (Γ1, wt1) => tk_ty G Γ1 wt1 ∧ tk_kp [] wt wt1 ∧ tk_ext Γ Γ1 ∧ Γ1 t = 4) (fun (u : (Nat → Nat) × va_W) => match u with | (Γ1, wt1) => wt1)) 201 920 (va_A ([(t, .inr (3, [.null, .int 0, .int 0]))] ++ wt) sz) := by
  refine Met.ofW (cc := cX3_init) (maxL := 2) (ret := none) (by decide) rfl ?_
  intro p e s m args below meth c s₁ B hml hv
  obtain ⟨rfl, hsz, hP, hK, hD0⟩ := hv
  have hx := B.exec
  have hb := B.bytes
  have hr := B.returns
  have ht := ts_ht (atoms_spec (ws := ts_L yX3_init cX3_init 2 none) B.pre)
  have hown : s.vm.findClass RX3 = some m.cls := findClass_of_methodNamed B.named
  have hlocks := B.notSynchronized
  subst hsz
  have hD := hD0.self (sz := s.heap.size)
  generalize hAe : va_A ([(t, .inr (3, [.null, .int 0, .int 0]))] ++ wt) s.heap.size = A at hD ⊢
  have hA : ∀ q : Nat, s.heap.size ≤ q → A q := fun q h => by rw [← hAe]; exact Or.inr h
  clear hAe hD0
  have hS : va_S A s.heap s.heap [] := va_S.rf
  obtain ⟨w0, hw0⟩ : ∃ z, z = wt := ⟨_, rfl⟩
  have hW : tk_kp [] w0 wt := by rw [hw0]; exact tk_kp.rf
  rw [← hw0]
  clear hw0
  have hin : meth.name = "<init>" := (name_of_methodNamed B.named B.method).1
  obtain ⟨Γ0, hΓ0⟩ : ∃ z, z = Γ := ⟨_, rfl⟩
  have hE : tk_ext Γ0 Γ := by rw [hΓ0]; exact tk_ext.rf
  rw [← hΓ0]
  clear hΓ0
  have hP : va_P (gg_D G) classes ([(t, .inr (3, [.null, .int 0, .int 0]))] ++ wt) s.heap := hP
  have hD : va_D A ([(t, .inr (3, [.null, .int 0, .int 0]))] ++ wt) := hD
  have hl := lv_entry ([.ref t]) (n := 2) (Nat.le_of_ble_eq_true rfl)
  rw [lg_entry_eq]
  generalize (lg_sl ([.ref t]) ++ List.replicate (2 - (lg_sl ([.ref t])).length) Slot.unset).toArray = ls at hl ⊢
  have hl : lv_has ls 2 [(0, .ref t)] := hl
  have l0 : (0 : Int32).toInt = 0 := by decide +kernel
  have l1 : (1 : Int32).toInt = 1 := by decide +kernel
  have l2 : (2 : Int32).toInt = 2 := by decide +kernel
  have l3 : (3 : Int32).toInt = 3 := by decide +kernel
  have l4 : (4 : Int32).toInt = 4 := by decide +kernel
  have l5 : (5 : Int32).toInt = 5 := by decide +kernel
  have l6 : (6 : Int32).toInt = 6 := by decide +kernel
  have l7 : (7 : Int32).toInt = 7 := by decide +kernel
  have l8 : (8 : Int32).toInt = 8 := by decide +kernel
  have l9 : (9 : Int32).toInt = 9 := by decide +kernel
  have l10 : (10 : Int32).toInt = 10 := by decide +kernel
  have l11 : (11 : Int32).toInt = 11 := by decide +kernel
  have l12 : (12 : Int32).toInt = 12 := by decide +kernel
  have l13 : (13 : Int32).toInt = 13 := by decide +kernel
  have l14 : (14 : Int32).toInt = 14 := by decide +kernel
  have l15 : (15 : Int32).toInt = 15 := by decide +kernel
  have l16 : (16 : Int32).toInt = 16 := by decide +kernel
  have l17 : (17 : Int32).toInt = 17 := by decide +kernel
  have l18 : (18 : Int32).toInt = 18 := by decide +kernel
  have l19 : (19 : Int32).toInt = 19 := by decide +kernel
  have l20 : (20 : Int32).toInt = 20 := by decide +kernel
  refine lv_aload_n hx hb dX3_init_0 rfl (lv_at hl 0 rfl) ?_
  refine W.objInit hx hb hown (ht _ wd_295) (ht _ wd_148) (ht _ wd_149) rfl (by rw [hml]; exact hl.1) rfl dX3_init_1 (Nat.le_of_ble_eq_true rfl) (Nat.le_of_ble_eq_true rfl) ?_
  refine W.eq (g2 := F0 m 4 ls []) rfl ?_
  refine lv_aload_n hx hb dX3_init_4 rfl (lv_at hl 0 rfl) ?_
  refine lv_bipush (v := 20) hx hb dX3_init_5 (by decide +kernel) ?_
  refine gq_newq hx hb hown (ht _ wd_296) hK.2.2.1 hK hP hD hS hA 4 rfl 20 (by decide +kernel) (by decide +kernel) (Nat.le_of_ble_eq_true rfl) 1 20 (Nat.le_of_ble_eq_true rfl) (Nat.le_of_ble_eq_true rfl) (Nat.le_of_ble_eq_true rfl) (Nat.le_of_ble_eq_true rfl) dX3_init_7 (fun q_1 H hP hD hS => ?_)
  have hP : va_P (gg_D G) classes ([(t, .inr (3, [.null, .int 0, .int 0])), (q_1, .inl (G.2.2 4, 20, .inr (.inr (.inr (.inr (fun _ => none))))))] ++ wt) H := tw_newP hP
  have hD : va_D A ([(t, .inr (3, [.null, .int 0, .int 0])), (q_1, .inl (G.2.2 4, 20, .inr (.inr (.inr (.inr (fun _ => none))))))] ++ wt) := tw_newD hD
  have hr_2 : tk_row Γ (fun _ => none) 0 8 := tk_row.z
  refine gq_putF (ws' := [(t, .inr (3, [.ref q_1, .int 0, .int 0])), (q_1, .inl (G.2.2 4, 20, .inr (.inr (.inr (.inr (fun _ => none))))))] ++ wt) hx hb ht hown hin hK hP hD hS i_X3 tyX3 tyX3_ok nmX3 0 rfl rfl 0 (by decide) wd_299 rfl rfl rfl rfl (Nat.le_of_ble_eq_true rfl) rfl dX3_init_10 (fun H locs hP hD hS => ?_)
  refine lv_aload_n hx hb dX3_init_13 rfl (lv_at hl 0 rfl) ?_
  refine lv_iconst (v := 0) hx hb dX3_init_14 (by decide +kernel) ?_
  refine gq_put (ws' := [(t, .inr (3, [.ref q_1, .int 0, .int 0])), (q_1, .inl (G.2.2 4, 20, .inr (.inr (.inr (.inr (fun _ => none))))))] ++ wt) hx hb ht hown hK hP hD hS i_X3 tyX3 tyX3_ok nmX3 0 rfl rfl 1 (by decide) wd_300 rfl rfl rfl rfl (Nat.le_of_ble_eq_true rfl) rfl dX3_init_15 (fun H locs hP hD hS => ?_)
  refine lv_aload_n hx hb dX3_init_18 rfl (lv_at hl 0 rfl) ?_
  refine lv_iconst (v := 0) hx hb dX3_init_19 (by decide +kernel) ?_
  refine gq_put (ws' := [(t, .inr (3, [.ref q_1, .int 0, .int 0])), (q_1, .inl (G.2.2 4, 20, .inr (.inr (.inr (.inr (fun _ => none))))))] ++ wt) hx hb ht hown hK hP hD hS i_X3 tyX3 tyX3_ok nmX3 0 rfl rfl 2 (by decide) wd_301 rfl rfl rfl rfl (Nat.le_of_ble_eq_true rfl) rfl dX3_init_20 (fun H locs hP hD hS => ?_)
  refine lv_iconst (v := 0) hx hb dX3_init_23 (by decide +kernel) ?_
  refine lv_istore_n (lv' := [(1, .int 0), (0, .ref t)]) hx hb dX3_init_24 rfl hl (by decide) rfl (fun ls hl => ?_)
  refine lv_iload_n hx hb dX3_init_25 rfl (lv_at hl 0 rfl) ?_
  refine lv_bipush (v := 20) hx hb dX3_init_26 (by decide +kernel) ?_
  refine lv_icmp_ge (tgt := 50) hx hb dX3_init_28 (by decide) (fun c0 => False.elim (by rw [Int32.le_iff_toInt_le] at c0; omega)) (fun _ => ?_)
  refine lv_aload_n hx hb dX3_init_31 rfl (lv_at hl 1 rfl) ?_
  refine gq_get hx hb ht hown hK hP i_X3 0 rfl rfl 0 (by decide) wd_299 rfl rfl dX3_init_32 ?_
  refine lv_iload_n hx hb dX3_init_35 rfl (lv_at hl 0 rfl) ?_
  refine gq_new (ci := 7) hx hb ht hown i_X7 tyX7 tyX7_ok wd_296 wd_226 wd_125 hK hP hD hS hA rfl [.null, .null, .null, .null, .null, .null, .null, .null, .null, .int 0] df_X7 2 30 (Nat.le_of_ble_eq_true rfl) (Nat.le_of_ble_eq_true rfl) (Nat.le_of_ble_eq_true rfl) (Nat.le_of_ble_eq_true rfl) dX3_init_36 (fun q_3 H hP hD hS => ?_)
  have hP : va_P (gg_D G) classes ([(t, .inr (3, [.ref q_1, .int 0, .int 0])), (q_1, .inl (G.2.2 4, 20, .inr (.inr (.inr (.inr (fun _ => none)))))), (q_3, .inr (7, [.null, .null, .null, .null, .null, .null, .null, .null, .null, .int 0]))] ++ wt) H := tw_newP hP
  have hD : va_D A ([(t, .inr (3, [.ref q_1, .int 0, .int 0])), (q_1, .inl (G.2.2 4, 20, .inr (.inr (.inr (.inr (fun _ => none)))))), (q_3, .inr (7, [.null, .null, .null, .null, .null, .null, .null, .null, .null, .int 0]))] ++ wt) := tw_newD hD
  refine lv_dup hx hb dX3_init_39 rfl ?_
  have hP : va_P (gg_D G) classes ([(t, .inr (3, [.ref q_1, .int 0, .int 0])), (q_1, .inl (G.2.2 4, 20, .inr (.inr (.inr (.inr (fun _ => none))))))] ++ ([(q_3, .inr (7, [.null, .null, .null, .null, .null, .null, .null, .null, .null, .int 0]))] ++ wt)) H := hP
  have hD : va_D A ([(t, .inr (3, [.ref q_1, .int 0, .int 0])), (q_1, .inl (G.2.2 4, 20, .inr (.inr (.inr (.inr (fun _ => none))))))] ++ ([(q_3, .inr (7, [.null, .null, .null, .null, .null, .null, .null, .null, .null, .int 0]))] ++ wt)) := hD
  refine gt_callV (wr := [(t, .inr (3, [.ref q_1, .int 0, .int 0])), (q_1, .inl (G.2.2 4, 20, .inr (.inr (.inr (.inr (fun _ => none))))))]) (va_runIN (As := []) (rest := [.ref q_3, .int 0, .ref q_1]) ⟨hx, hb, hml, hown, ht⟩ (d_i_State l G Γ H.size wt hT q_3) ⟨va_cnB 0 ht (tb_good (ts_good wd_229)) rfl rfl rfl (hK.2.1 _ wn_298 rfl) (ht _ wd_125) (by decide +kernel) ⟨Nat.le_of_ble_eq_true rfl, Nat.le_of_ble_eq_true rfl⟩, rfl, ht _ wd_228⟩ (gc_preS hK (tw_right hP) (tw_rightD hD)) rfl rfl hl.1 rfl (lv_room (Nat.le_of_ble_eq_true rfl)) dX3_init_40 ⟨Nat.le_of_ble_eq_true rfl, Nat.le_of_ble_eq_true rfl⟩) hP hD hS hA (fun u H locs hw hP hD hS => ?_)
  obtain ⟨Γ9, wt⟩ := u
  obtain ⟨hT, hkp, hxe, hk_5⟩ := hw
  have hW := hW.call (show ∀ x ∈ [], x ∈ [] by decide) hkp
  have hr_2 := hr_2.ext hxe (by decide)
  have hE := hE.tr hxe
  clear hxe
  obtain ⟨Γ, hΓ9⟩ : ∃ z, z = Γ9 := ⟨_, rfl⟩
  subst hΓ9
  have hP : va_P (gg_D G) classes ([(t, .inr (3, [.ref q_1, .int 0, .int 0])), (q_1, .inl (G.2.2 4, 20, .inr (.inr (.inr (.inr (fun _ => none))))))] ++ wt) H := hP
  have hD : va_D A ([(t, .inr (3, [.ref q_1, .int 0, .int 0])), (q_1, .inl (G.2.2 4, 20, .inr (.inr (.inr (.inr (fun _ => none))))))] ++ wt) := hD
  refine W.widen (k := 11) (n := 65) (Nat.le_of_ble_eq_true rfl) (Nat.le_of_ble_eq_true rfl) ?_
  obtain ⟨f_6, ef_6⟩ : ∃ z : Nat → Option Nat, va_up (fun _ => none) (Int32.toNatClampNeg 0) (some q_3) = z := ⟨_, rfl⟩
  refine tr_aast (we' := [(t, .inr (3, [.ref q_1, .int 0, .int 0])), (q_1, .inl (G.2.2 4, 20, .inr (.inr (.inr (.inr f_6)))))]) hx hb hK hT hP hD hS 1 4 7 rfl rfl hk_5 (by decide) rfl f_6 (by unfold vp_in; decide +kernel) ef_6 rfl dX3_init_43 (fun H locs hP hD hS => ?_)
  have hr_2 := hr_2.step hk_5 (show Int32.toNatClampNeg 0 = 0 by decide +kernel) ef_6
  refine lv_iinc (v := 1) (lv' := [(1, .int 1), (0, .ref t)]) hx hb dX3_init_44 hl (k := 0) rfl (by decide +kernel) (by decide) rfl (fun ls hl => ?_)
  refine lv_goto (tgt := 25) hx hb dX3_init_47 (by decide) ?_
  refine lv_iload_n hx hb dX3_init_25 rfl (lv_at hl 0 rfl) ?_
  refine lv_bipush (v := 20) hx hb dX3_init_26 (by decide +kernel) ?_
  refine lv_icmp_ge (tgt := 50) hx hb dX3_init_28 (by decide) (fun c0 => False.elim (by rw [Int32.le_iff_toInt_le] at c0; omega)) (fun _ => ?_)
  refine lv_aload_n hx hb dX3_init_31 rfl (lv_at hl 1 rfl) ?_
  refine gq_get hx hb ht hown hK hP i_X3 0 rfl rfl 0 (by decide) wd_299 rfl rfl dX3_init_32 ?_
  refine lv_iload_n hx hb dX3_init_35 rfl (lv_at hl 0 rfl) ?_
  refine gq_new (ci := 7) hx hb ht hown i_X7 tyX7 tyX7_ok wd_296 wd_226 wd_125 hK hP hD hS hA rfl [.null, .null, .null, .null, .null, .null, .null, .null, .null, .int 0] df_X7 12 75 (Nat.le_of_ble_eq_true rfl) (Nat.le_of_ble_eq_true rfl) (Nat.le_of_ble_eq_true rfl) (Nat.le_of_ble_eq_true rfl) dX3_init_36 (fun q_7 H hP hD hS => ?_)
  have hP : va_P (gg_D G) classes ([(t, .inr (3, [.ref q_1, .int 0, .int 0])), (q_1, .inl (G.2.2 4, 20, .inr (.inr (.inr (.inr f_6))))), (q_7, .inr (7, [.null, .null, .null, .null, .null, .null, .null, .null, .null, .int 0]))] ++ wt) H := tw_newP hP
  have hD : va_D A ([(t, .inr (3, [.ref q_1, .int 0, .int 0])), (q_1, .inl (G.2.2 4, 20, .inr (.inr (.inr (.inr f_6))))), (q_7, .inr (7, [.null, .null, .null, .null, .null, .null, .null, .null, .null, .int 0]))] ++ wt) := tw_newD hD
  refine lv_dup hx hb dX3_init_39 rfl ?_
  have hP : va_P (gg_D G) classes ([(t, .inr (3, [.ref q_1, .int 0, .int 0])), (q_1, .inl (G.2.2 4, 20, .inr (.inr (.inr (.inr f_6)))))] ++ ([(q_7, .inr (7, [.null, .null, .null, .null, .null, .null, .null, .null, .null, .int 0]))] ++ wt)) H := hP
  have hD : va_D A ([(t, .inr (3, [.ref q_1, .int 0, .int 0])), (q_1, .inl (G.2.2 4, 20, .inr (.inr (.inr (.inr f_6)))))] ++ ([(q_7, .inr (7, [.null, .null, .null, .null, .null, .null, .null, .null, .null, .int 0]))] ++ wt)) := hD
  refine gt_callV (wr := [(t, .inr (3, [.ref q_1, .int 0, .int 0])), (q_1, .inl (G.2.2 4, 20, .inr (.inr (.inr (.inr f_6)))))]) (va_runIN (As := []) (rest := [.ref q_7, .int 1, .ref q_1]) ⟨hx, hb, hml, hown, ht⟩ (d_i_State l G Γ H.size wt hT q_7) ⟨va_cnB 0 ht (tb_good (ts_good wd_229)) rfl rfl rfl (hK.2.1 _ wn_298 rfl) (ht _ wd_125) (by decide +kernel) ⟨Nat.le_of_ble_eq_true rfl, Nat.le_of_ble_eq_true rfl⟩, rfl, ht _ wd_228⟩ (gc_preS hK (tw_right hP) (tw_rightD hD)) rfl rfl hl.1 rfl (lv_room (Nat.le_of_ble_eq_true rfl)) dX3_init_40 ⟨Nat.le_of_ble_eq_true rfl, Nat.le_of_ble_eq_true rfl⟩) hP hD hS hA (fun u H locs hw hP hD hS => ?_)
  obtain ⟨Γ9, wt⟩ := u
  obtain ⟨hT, hkp, hxe, hk_9⟩ := hw
  have hW := hW.call (show ∀ x ∈ [], x ∈ [] by decide) hkp
  have hr_2 := hr_2.ext hxe (by decide)
  have hE := hE.tr hxe
  clear hxe
  obtain ⟨Γ, hΓ9⟩ : ∃ z, z = Γ9 := ⟨_, rfl⟩
  subst hΓ9
  have hP : va_P (gg_D G) classes ([(t, .inr (3, [.ref q_1, .int 0, .int 0])), (q_1, .inl (G.2.2 4, 20, .inr (.inr (.inr (.inr f_6)))))] ++ wt) H := hP
  have hD : va_D A ([(t, .inr (3, [.ref q_1, .int 0, .int 0])), (q_1, .inl (G.2.2 4, 20, .inr (.inr (.inr (.inr f_6)))))] ++ wt) := hD
  refine W.widen (k := 21) (n := 110) (Nat.le_of_ble_eq_true rfl) (Nat.le_of_ble_eq_true rfl) ?_
  obtain ⟨f_10, ef_10⟩ : ∃ z : Nat → Option Nat, va_up f_6 (Int32.toNatClampNeg 1) (some q_7) = z := ⟨_, rfl⟩
  refine tr_aast (we' := [(t, .inr (3, [.ref q_1, .int 0, .int 0])), (q_1, .inl (G.2.2 4, 20, .inr (.inr (.inr (.inr f_10)))))]) hx hb hK hT hP hD hS 1 4 7 rfl rfl hk_9 (by decide) rfl f_10 (by unfold vp_in; decide +kernel) ef_10 rfl dX3_init_43 (fun H locs hP hD hS => ?_)
  have hr_2 := hr_2.step hk_9 (show Int32.toNatClampNeg 1 = 1 by decide +kernel) ef_10
  refine lv_iinc (v := 2) (lv' := [(1, .int 2), (0, .ref t)]) hx hb dX3_init_44 hl (k := 0) rfl (by decide +kernel) (by decide) rfl (fun ls hl => ?_)
  refine lv_goto (tgt := 25) hx hb dX3_init_47 (by decide) ?_
  refine lv_iload_n hx hb dX3_init_25 rfl (lv_at hl 0 rfl) ?_
  refine lv_bipush (v := 20) hx hb dX3_init_26 (by decide +kernel) ?_
  refine lv_icmp_ge (tgt := 50) hx hb dX3_init_28 (by decide) (fun c0 => False.elim (by rw [Int32.le_iff_toInt_le] at c0; omega)) (fun _ => ?_)
  refine lv_aload_n hx hb dX3_init_31 rfl (lv_at hl 1 rfl) ?_
  refine gq_get hx hb ht hown hK hP i_X3 0 rfl rfl 0 (by decide) wd_299 rfl rfl dX3_init_32 ?_
  refine lv_iload_n hx hb dX3_init_35 rfl (lv_at hl 0 rfl) ?_
  refine gq_new (ci := 7) hx hb ht hown i_X7 tyX7 tyX7_ok wd_296 wd_226 wd_125 hK hP hD hS hA rfl [.null, .null, .null, .null, .null, .null, .null, .null, .null, .int 0] df_X7 22 120 (Nat.le_of_ble_eq_true rfl) (Nat.le_of_ble_eq_true rfl) (Nat.le_of_ble_eq_true rfl) (Nat.le_of_ble_eq_true rfl) dX3_init_36 (fun q_11 H hP hD hS => ?_)
  have hP : va_P (gg_D G) classes ([(t, .inr (3, [.ref q_1, .int 0, .int 0])), (q_1, .inl (G.2.2 4, 20, .inr (.inr (.inr (.inr f_10))))), (q_11, .inr (7, [.null, .null, .null, .null, .null, .null, .null, .null, .null, .int 0]))] ++ wt) H := tw_newP hP
  have hD : va_D A ([(t, .inr (3, [.ref q_1, .int 0, .int 0])), (q_1, .inl (G.2.2 4, 20, .inr (.inr (.inr (.inr f_10))))), (q_11, .inr (7, [.null, .null, .null, .null, .null, .null, .null, .null, .null, .int 0]))] ++ wt) := tw_newD hD
  refine lv_dup hx hb dX3_init_39 rfl ?_
  have hP : va_P (gg_D G) classes ([(t, .inr (3, [.ref q_1, .int 0, .int 0])), (q_1, .inl (G.2.2 4, 20, .inr (.inr (.inr (.inr f_10)))))] ++ ([(q_11, .inr (7, [.null, .null, .null, .null, .null, .null, .null, .null, .null, .int 0]))] ++ wt)) H := hP
  have hD : va_D A ([(t, .inr (3, [.ref q_1, .int 0, .int 0])), (q_1, .inl (G.2.2 4, 20, .inr (.inr (.inr (.inr f_10)))))] ++ ([(q_11, .inr (7, [.null, .null, .null, .null, .null, .null, .null, .null, .null, .int 0]))] ++ wt)) := hD
  refine gt_callV (wr := [(t, .inr (3, [.ref q_1, .int 0, .int 0])), (q_1, .inl (G.2.2 4, 20, .inr (.inr (.inr (.inr f_10)))))]) (va_runIN (As := []) (rest := [.ref q_11, .int 2, .ref q_1]) ⟨hx, hb, hml, hown, ht⟩ (d_i_State l G Γ H.size wt hT q_11) ⟨va_cnB 0 ht (tb_good (ts_good wd_229)) rfl rfl rfl (hK.2.1 _ wn_298 rfl) (ht _ wd_125) (by decide +kernel) ⟨Nat.le_of_ble_eq_true rfl, Nat.le_of_ble_eq_true rfl⟩, rfl, ht _ wd_228⟩ (gc_preS hK (tw_right hP) (tw_rightD hD)) rfl rfl hl.1 rfl (lv_room (Nat.le_of_ble_eq_true rfl)) dX3_init_40 ⟨Nat.le_of_ble_eq_true rfl, Nat.le_of_ble_eq_true rfl⟩) hP hD hS hA (fun u H locs hw hP hD hS => ?_)
  obtain ⟨Γ9, wt⟩ := u
  obtain ⟨hT, hkp, hxe, hk_13⟩ := hw
  have hW := hW.call (show ∀ x ∈ [], x ∈ [] by decide) hkp
  have hr_2 := hr_2.ext hxe (by decide)
  have hE := hE.tr hxe
  clear hxe
  obtain ⟨Γ, hΓ9⟩ : ∃ z, z = Γ9 := ⟨_, rfl⟩
  subst hΓ9
  have hP : va_P (gg_D G) classes ([(t, .inr (3, [.ref q_1, .int 0, .int 0])), (q_1, .inl (G.2.2 4, 20, .inr (.inr (.inr (.inr f_10)))))] ++ wt) H := hP
  have hD : va_D A ([(t, .inr (3, [.ref q_1, .int 0, .int 0])), (q_1, .inl (G.2.2 4, 20, .inr (.inr (.inr (.inr f_10)))))] ++ wt) := hD
  refine W.widen (k := 31) (n := 155) (Nat.le_of_ble_eq_true rfl) (Nat.le_of_ble_eq_true rfl) ?_
  obtain ⟨f_14, ef_14⟩ : ∃ z : Nat → Option Nat, va_up f_10 (Int32.toNatClampNeg 2) (some q_11) = z := ⟨_, rfl⟩
  refine tr_aast (we' := [(t, .inr (3, [.ref q_1, .int 0, .int 0])), (q_1, .inl (G.2.2 4, 20, .inr (.inr (.inr (.inr f_14)))))]) hx hb hK hT hP hD hS 1 4 7 rfl rfl hk_13 (by decide) rfl f_14 (by unfold vp_in; decide +kernel) ef_14 rfl dX3_init_43 (fun H locs hP hD hS => ?_)
  have hr_2 := hr_2.step hk_13 (show Int32.toNatClampNeg 2 = 2 by decide +kernel) ef_14
  refine lv_iinc (v := 3) (lv' := [(1, .int 3), (0, .ref t)]) hx hb dX3_init_44 hl (k := 0) rfl (by decide +kernel) (by decide) rfl (fun ls hl => ?_)
  refine lv_goto (tgt := 25) hx hb dX3_init_47 (by decide) ?_
  refine lv_iload_n hx hb dX3_init_25 rfl (lv_at hl 0 rfl) ?_
  refine lv_bipush (v := 20) hx hb dX3_init_26 (by decide +kernel) ?_
  refine lv_icmp_ge (tgt := 50) hx hb dX3_init_28 (by decide) (fun c0 => False.elim (by rw [Int32.le_iff_toInt_le] at c0; omega)) (fun _ => ?_)
  refine lv_aload_n hx hb dX3_init_31 rfl (lv_at hl 1 rfl) ?_
  refine gq_get hx hb ht hown hK hP i_X3 0 rfl rfl 0 (by decide) wd_299 rfl rfl dX3_init_32 ?_
  refine lv_iload_n hx hb dX3_init_35 rfl (lv_at hl 0 rfl) ?_
  refine gq_new (ci := 7) hx hb ht hown i_X7 tyX7 tyX7_ok wd_296 wd_226 wd_125 hK hP hD hS hA rfl [.null, .null, .null, .null, .null, .null, .null, .null, .null, .int 0] df_X7 32 165 (Nat.le_of_ble_eq_true rfl) (Nat.le_of_ble_eq_true rfl) (Nat.le_of_ble_eq_true rfl) (Nat.le_of_ble_eq_true rfl) dX3_init_36 (fun q_15 H hP hD hS => ?_)
  have hP : va_P (gg_D G) classes ([(t, .inr (3, [.ref q_1, .int 0, .int 0])), (q_1, .inl (G.2.2 4, 20, .inr (.inr (.inr (.inr f_14))))), (q_15, .inr (7, [.null, .null, .null, .null, .null, .null, .null, .null, .null, .int 0]))] ++ wt) H := tw_newP hP
  have hD : va_D A ([(t, .inr (3, [.ref q_1, .int 0, .int 0])), (q_1, .inl (G.2.2 4, 20, .inr (.inr (.inr (.inr f_14))))), (q_15, .inr (7, [.null, .null, .null, .null, .null, .null, .null, .null, .null, .int 0]))] ++ wt) := tw_newD hD
  refine lv_dup hx hb dX3_init_39 rfl ?_
  have hP : va_P (gg_D G) classes ([(t, .inr (3, [.ref q_1, .int 0, .int 0])), (q_1, .inl (G.2.2 4, 20, .inr (.inr (.inr (.inr f_14)))))] ++ ([(q_15, .inr (7, [.null, .null, .null, .null, .null, .null, .null, .null, .null, .int 0]))] ++ wt)) H := hP
  have hD : va_D A ([(t, .inr (3, [.ref q_1, .int 0, .int 0])), (q_1, .inl (G.2.2 4, 20, .inr (.inr (.inr (.inr f_14)))))] ++ ([(q_15, .inr (7, [.null, .null, .null, .null, .null, .null, .null, .null, .null, .int 0]))] ++ wt)) := hD
  refine gt_callV (wr := [(t, .inr (3, [.ref q_1, .int 0, .int 0])), (q_1, .inl (G.2.2 4, 20, .inr (.inr (.inr (.inr f_14)))))]) (va_runIN (As := []) (rest := [.ref q_15, .int 3, .ref q_1]) ⟨hx, hb, hml, hown, ht⟩ (d_i_State l G Γ H.size wt hT q_15) ⟨va_cnB 0 ht (tb_good (ts_good wd_229)) rfl rfl rfl (hK.2.1 _ wn_298 rfl) (ht _ wd_125) (by decide +kernel) ⟨Nat.le_of_ble_eq_true rfl, Nat.le_of_ble_eq_true rfl⟩, rfl, ht _ wd_228⟩ (gc_preS hK (tw_right hP) (tw_rightD hD)) rfl rfl hl.1 rfl (lv_room (Nat.le_of_ble_eq_true rfl)) dX3_init_40 ⟨Nat.le_of_ble_eq_true rfl, Nat.le_of_ble_eq_true rfl⟩) hP hD hS hA (fun u H locs hw hP hD hS => ?_)
  obtain ⟨Γ9, wt⟩ := u
  obtain ⟨hT, hkp, hxe, hk_17⟩ := hw
  have hW := hW.call (show ∀ x ∈ [], x ∈ [] by decide) hkp
  have hr_2 := hr_2.ext hxe (by decide)
  have hE := hE.tr hxe
  clear hxe
  obtain ⟨Γ, hΓ9⟩ : ∃ z, z = Γ9 := ⟨_, rfl⟩
  subst hΓ9
  have hP : va_P (gg_D G) classes ([(t, .inr (3, [.ref q_1, .int 0, .int 0])), (q_1, .inl (G.2.2 4, 20, .inr (.inr (.inr (.inr f_14)))))] ++ wt) H := hP
  have hD : va_D A ([(t, .inr (3, [.ref q_1, .int 0, .int 0])), (q_1, .inl (G.2.2 4, 20, .inr (.inr (.inr (.inr f_14)))))] ++ wt) := hD
  refine W.widen (k := 41) (n := 200) (Nat.le_of_ble_eq_true rfl) (Nat.le_of_ble_eq_true rfl) ?_
  obtain ⟨f_18, ef_18⟩ : ∃ z : Nat → Option Nat, va_up f_14 (Int32.toNatClampNeg 3) (some q_15) = z := ⟨_, rfl⟩
  refine tr_aast (we' := [(t, .inr (3, [.ref q_1, .int 0, .int 0])), (q_1, .inl (G.2.2 4, 20, .inr (.inr (.inr (.inr f_18)))))]) hx hb hK hT hP hD hS 1 4 7 rfl rfl hk_17 (by decide) rfl f_18 (by unfold vp_in; decide +kernel) ef_18 rfl dX3_init_43 (fun H locs hP hD hS => ?_)
  have hr_2 := hr_2.step hk_17 (show Int32.toNatClampNeg 3 = 3 by decide +kernel) ef_18
  refine lv_iinc (v := 4) (lv' := [(1, .int 4), (0, .ref t)]) hx hb dX3_init_44 hl (k := 0) rfl (by decide +kernel) (by decide) rfl (fun ls hl => ?_)
  refine lv_goto (tgt := 25) hx hb dX3_init_47 (by decide) ?_
  refine lv_iload_n hx hb dX3_init_25 rfl (lv_at hl 0 rfl) ?_
  refine lv_bipush (v := 20) hx hb dX3_init_26 (by decide +kernel) ?_
  refine lv_icmp_ge (tgt := 50) hx hb dX3_init_28 (by decide) (fun c0 => False.elim (by rw [Int32.le_iff_toInt_le] at c0; omega)) (fun _ => ?_)
  refine lv_aload_n hx hb dX3_init_31 rfl (lv_at hl 1 rfl) ?_
  refine gq_get hx hb ht hown hK hP i_X3 0 rfl rfl 0 (by decide) wd_299 rfl rfl dX3_init_32 ?_
  refine lv_iload_n hx hb dX3_init_35 rfl (lv_at hl 0 rfl) ?_
  refine gq_new (ci := 7) hx hb ht hown i_X7 tyX7 tyX7_ok wd_296 wd_226 wd_125 hK hP hD hS hA rfl [.null, .null, .null, .null, .null, .null, .null, .null, .null, .int 0] df_X7 42 210 (Nat.le_of_ble_eq_true rfl) (Nat.le_of_ble_eq_true rfl) (Nat.le_of_ble_eq_true rfl) (Nat.le_of_ble_eq_true rfl) dX3_init_36 (fun q_19 H hP hD hS => ?_)
  have hP : va_P (gg_D G) classes ([(t, .inr (3, [.ref q_1, .int 0, .int 0])), (q_1, .inl (G.2.2 4, 20, .inr (.inr (.inr (.inr f_18))))), (q_19, .inr (7, [.null, .null, .null, .null, .null, .null, .null, .null, .null, .int 0]))] ++ wt) H := tw_newP hP
  have hD : va_D A ([(t, .inr (3, [.ref q_1, .int 0, .int 0])), (q_1, .inl (G.2.2 4, 20, .inr (.inr (.inr (.inr f_18))))), (q_19, .inr (7, [.null, .null, .null, .null, .null, .null, .null, .null, .null, .int 0]))] ++ wt) := tw_newD hD
  refine lv_dup hx hb dX3_init_39 rfl ?_
  have hP : va_P (gg_D G) classes ([(t, .inr (3, [.ref q_1, .int 0, .int 0])), (q_1, .inl (G.2.2 4, 20, .inr (.inr (.inr (.inr f_18)))))] ++ ([(q_19, .inr (7, [.null, .null, .null, .null, .null, .null, .null, .null, .null, .int 0]))] ++ wt)) H := hP
  have hD : va_D A ([(t, .inr (3, [.ref q_1, .int 0, .int 0])), (q_1, .inl (G.2.2 4, 20, .inr (.inr (.inr (.inr f_18)))))] ++ ([(q_19, .inr (7, [.null, .null, .null, .null, .null, .null, .null, .null, .null, .int 0]))] ++ wt)) := hD
  refine gt_callV (wr := [(t, .inr (3, [.ref q_1, .int 0, .int 0])), (q_1, .inl (G.2.2 4, 20, .inr (.inr (.inr (.inr f_18)))))]) (va_runIN (As := []) (rest := [.ref q_19, .int 4, .ref q_1]) ⟨hx, hb, hml, hown, ht⟩ (d_i_State l G Γ H.size wt hT q_19) ⟨va_cnB 0 ht (tb_good (ts_good wd_229)) rfl rfl rfl (hK.2.1 _ wn_298 rfl) (ht _ wd_125) (by decide +kernel) ⟨Nat.le_of_ble_eq_true rfl, Nat.le_of_ble_eq_true rfl⟩, rfl, ht _ wd_228⟩ (gc_preS hK (tw_right hP) (tw_rightD hD)) rfl rfl hl.1 rfl (lv_room (Nat.le_of_ble_eq_true rfl)) dX3_init_40 ⟨Nat.le_of_ble_eq_true rfl, Nat.le_of_ble_eq_true rfl⟩) hP hD hS hA (fun u H locs hw hP hD hS => ?_)
  obtain ⟨Γ9, wt⟩ := u
  obtain ⟨hT, hkp, hxe, hk_21⟩ := hw
  have hW := hW.call (show ∀ x ∈ [], x ∈ [] by decide) hkp
  have hr_2 := hr_2.ext hxe (by decide)
  have hE := hE.tr hxe
  clear hxe
  obtain ⟨Γ, hΓ9⟩ : ∃ z, z = Γ9 := ⟨_, rfl⟩
  subst hΓ9
  have hP : va_P (gg_D G) classes ([(t, .inr (3, [.ref q_1, .int 0, .int 0])), (q_1, .inl (G.2.2 4, 20, .inr (.inr (.inr (.inr f_18)))))] ++ wt) H := hP
  have hD : va_D A ([(t, .inr (3, [.ref q_1, .int 0, .int 0])), (q_1, .inl (G.2.2 4, 20, .inr (.inr (.inr (.inr f_18)))))] ++ wt) := hD
  refine W.widen (k := 51) (n := 245) (Nat.le_of_ble_eq_true rfl) (Nat.le_of_ble_eq_true rfl) ?_
  obtain ⟨f_22, ef_22⟩ : ∃ z : Nat → Option Nat, va_up f_18 (Int32.toNatClampNeg 4) (some q_19) = z := ⟨_, rfl⟩
  refine tr_aast (we' := [(t, .inr (3, [.ref q_1, .int 0, .int 0])), (q_1, .inl (G.2.2 4, 20, .inr (.inr (.inr (.inr f_22)))))]) hx hb hK hT hP hD hS 1 4 7 rfl rfl hk_21 (by decide) rfl f_22 (by unfold vp_in; decide +kernel) ef_22 rfl dX3_init_43 (fun H locs hP hD hS => ?_)
  have hr_2 := hr_2.step hk_21 (show Int32.toNatClampNeg 4 = 4 by decide +kernel) ef_22
  refine lv_iinc (v := 5) (lv' := [(1, .int 5), (0, .ref t)]) hx hb dX3_init_44 hl (k := 0) rfl (by decide +kernel) (by decide) rfl (fun ls hl => ?_)
  refine lv_goto (tgt := 25) hx hb dX3_init_47 (by decide) ?_
  refine lv_iload_n hx hb dX3_init_25 rfl (lv_at hl 0 rfl) ?_
  refine lv_bipush (v := 20) hx hb dX3_init_26 (by decide +kernel) ?_
  refine lv_icmp_ge (tgt := 50) hx hb dX3_init_28 (by decide) (fun c0 => False.elim (by rw [Int32.le_iff_toInt_le] at c0; omega)) (fun _ => ?_)
  refine lv_aload_n hx hb dX3_init_31 rfl (lv_at hl 1 rfl) ?_
  refine gq_get hx hb ht hown hK hP i_X3 0 rfl rfl 0 (by decide) wd_299 rfl rfl dX3_init_32 ?_
  refine lv_iload_n hx hb dX3_init_35 rfl (lv_at hl 0 rfl) ?_
  refine gq_new (ci := 7) hx hb ht hown i_X7 tyX7 tyX7_ok wd_296 wd_226 wd_125 hK hP hD hS hA rfl [.null, .null, .null, .null, .null, .null, .null, .null, .null, .int 0] df_X7 52 255 (Nat.le_of_ble_eq_true rfl) (Nat.le_of_ble_eq_true rfl) (Nat.le_of_ble_eq_true rfl) (Nat.le_of_ble_eq_true rfl) dX3_init_36 (fun q_23 H hP hD hS => ?_)
  have hP : va_P (gg_D G) classes ([(t, .inr (3, [.ref q_1, .int 0, .int 0])), (q_1, .inl (G.2.2 4, 20, .inr (.inr (.inr (.inr f_22))))), (q_23, .inr (7, [.null, .null, .null, .null, .null, .null, .null, .null, .null, .int 0]))] ++ wt) H := tw_newP hP
  have hD : va_D A ([(t, .inr (3, [.ref q_1, .int 0, .int 0])), (q_1, .inl (G.2.2 4, 20, .inr (.inr (.inr (.inr f_22))))), (q_23, .inr (7, [.null, .null, .null, .null, .null, .null, .null, .null, .null, .int 0]))] ++ wt) := tw_newD hD
  refine lv_dup hx hb dX3_init_39 rfl ?_
  have hP : va_P (gg_D G) classes ([(t, .inr (3, [.ref q_1, .int 0, .int 0])), (q_1, .inl (G.2.2 4, 20, .inr (.inr (.inr (.inr f_22)))))] ++ ([(q_23, .inr (7, [.null, .null, .null, .null, .null, .null, .null, .null, .null, .int 0]))] ++ wt)) H := hP
  have hD : va_D A ([(t, .inr (3, [.ref q_1, .int 0, .int 0])), (q_1, .inl (G.2.2 4, 20, .inr (.inr (.inr (.inr f_22)))))] ++ ([(q_23, .inr (7, [.null, .null, .null, .null, .null, .null, .null, .null, .null, .int 0]))] ++ wt)) := hD
  refine gt_callV (wr := [(t, .inr (3, [.ref q_1, .int 0, .int 0])), (q_1, .inl (G.2.2 4, 20, .inr (.inr (.inr (.inr f_22)))))]) (va_runIN (As := []) (rest := [.ref q_23, .int 5, .ref q_1]) ⟨hx, hb, hml, hown, ht⟩ (d_i_State l G Γ H.size wt hT q_23) ⟨va_cnB 0 ht (tb_good (ts_good wd_229)) rfl rfl rfl (hK.2.1 _ wn_298 rfl) (ht _ wd_125) (by decide +kernel) ⟨Nat.le_of_ble_eq_true rfl, Nat.le_of_ble_eq_true rfl⟩, rfl, ht _ wd_228⟩ (gc_preS hK (tw_right hP) (tw_rightD hD)) rfl rfl hl.1 rfl (lv_room (Nat.le_of_ble_eq_true rfl)) dX3_init_40 ⟨Nat.le_of_ble_eq_true rfl, Nat.le_of_ble_eq_true rfl⟩) hP hD hS hA (fun u H locs hw hP hD hS => ?_)
  obtain ⟨Γ9, wt⟩ := u
  obtain ⟨hT, hkp, hxe, hk_25⟩ := hw
  have hW := hW.call (show ∀ x ∈ [], x ∈ [] by decide) hkp
  have hr_2 := hr_2.ext hxe (by decide)
  have hE := hE.tr hxe
  clear hxe
  obtain ⟨Γ, hΓ9⟩ : ∃ z, z = Γ9 := ⟨_, rfl⟩
  subst hΓ9
  have hP : va_P (gg_D G) classes ([(t, .inr (3, [.ref q_1, .int 0, .int 0])), (q_1, .inl (G.2.2 4, 20, .inr (.inr (.inr (.inr f_22)))))] ++ wt) H := hP
  have hD : va_D A ([(t, .inr (3, [.ref q_1, .int 0, .int 0])), (q_1, .inl (G.2.2 4, 20, .inr (.inr (.inr (.inr f_22)))))] ++ wt) := hD
  refine W.widen (k := 61) (n := 290) (Nat.le_of_ble_eq_true rfl) (Nat.le_of_ble_eq_true rfl) ?_
  obtain ⟨f_26, ef_26⟩ : ∃ z : Nat → Option Nat, va_up f_22 (Int32.toNatClampNeg 5) (some q_23) = z := ⟨_, rfl⟩
  refine tr_aast (we' := [(t, .inr (3, [.ref q_1, .int 0, .int 0])), (q_1, .inl (G.2.2 4, 20, .inr (.inr (.inr (.inr f_26)))))]) hx hb hK hT hP hD hS 1 4 7 rfl rfl hk_25 (by decide) rfl f_26 (by unfold vp_in; decide +kernel) ef_26 rfl dX3_init_43 (fun H locs hP hD hS => ?_)
  have hr_2 := hr_2.step hk_25 (show Int32.toNatClampNeg 5 = 5 by decide +kernel) ef_26
  refine lv_iinc (v := 6) (lv' := [(1, .int 6), (0, .ref t)]) hx hb dX3_init_44 hl (k := 0) rfl (by decide +kernel) (by decide) rfl (fun ls hl => ?_)
  refine lv_goto (tgt := 25) hx hb dX3_init_47 (by decide) ?_
  refine lv_iload_n hx hb dX3_init_25 rfl (lv_at hl 0 rfl) ?_
  refine lv_bipush (v := 20) hx hb dX3_init_26 (by decide +kernel) ?_
  refine lv_icmp_ge (tgt := 50) hx hb dX3_init_28 (by decide) (fun c0 => False.elim (by rw [Int32.le_iff_toInt_le] at c0; omega)) (fun _ => ?_)
  refine lv_aload_n hx hb dX3_init_31 rfl (lv_at hl 1 rfl) ?_
  refine gq_get hx hb ht hown hK hP i_X3 0 rfl rfl 0 (by decide) wd_299 rfl rfl dX3_init_32 ?_
  refine lv_iload_n hx hb dX3_init_35 rfl (lv_at hl 0 rfl) ?_
  refine gq_new (ci := 7) hx hb ht hown i_X7 tyX7 tyX7_ok wd_296 wd_226 wd_125 hK hP hD hS hA rfl [.null, .null, .null, .null, .null, .null, .null, .null, .null, .int 0] df_X7 62 300 (Nat.le_of_ble_eq_true rfl) (Nat.le_of_ble_eq_true rfl) (Nat.le_of_ble_eq_true rfl) (Nat.le_of_ble_eq_true rfl) dX3_init_36 (fun q_27 H hP hD hS => ?_)
  have hP : va_P (gg_D G) classes ([(t, .inr (3, [.ref q_1, .int 0, .int 0])), (q_1, .inl (G.2.2 4, 20, .inr (.inr (.inr (.inr f_26))))), (q_27, .inr (7, [.null, .null, .null, .null, .null, .null, .null, .null, .null, .int 0]))] ++ wt) H := tw_newP hP
  have hD : va_D A ([(t, .inr (3, [.ref q_1, .int 0, .int 0])), (q_1, .inl (G.2.2 4, 20, .inr (.inr (.inr (.inr f_26))))), (q_27, .inr (7, [.null, .null, .null, .null, .null, .null, .null, .null, .null, .int 0]))] ++ wt) := tw_newD hD
  refine lv_dup hx hb dX3_init_39 rfl ?_
  have hP : va_P (gg_D G) classes ([(t, .inr (3, [.ref q_1, .int 0, .int 0])), (q_1, .inl (G.2.2 4, 20, .inr (.inr (.inr (.inr f_26)))))] ++ ([(q_27, .inr (7, [.null, .null, .null, .null, .null, .null, .null, .null, .null, .int 0]))] ++ wt)) H := hP
  have hD : va_D A ([(t, .inr (3, [.ref q_1, .int 0, .int 0])), (q_1, .inl (G.2.2 4, 20, .inr (.inr (.inr (.inr f_26)))))] ++ ([(q_27, .inr (7, [.null, .null, .null, .null, .null, .null, .null, .null, .null, .int 0]))] ++ wt)) := hD
  refine gt_callV (wr := [(t, .inr (3, [.ref q_1, .int 0, .int 0])), (q_1, .inl (G.2.2 4, 20, .inr (.inr (.inr (.inr f_26)))))]) (va_runIN (As := []) (rest := [.ref q_27, .int 6, .ref q_1]) ⟨hx, hb, hml, hown, ht⟩ (d_i_State l G Γ H.size wt hT q_27) ⟨va_cnB 0 ht (tb_good (ts_good wd_229)) rfl rfl rfl (hK.2.1 _ wn_298 rfl) (ht _ wd_125) (by decide +kernel) ⟨Nat.le_of_ble_eq_true rfl, Nat.le_of_ble_eq_true rfl⟩, rfl, ht _ wd_228⟩ (gc_preS hK (tw_right hP) (tw_rightD hD)) rfl rfl hl.1 rfl (lv_room (Nat.le_of_ble_eq_true rfl)) dX3_init_40 ⟨Nat.le_of_ble_eq_true rfl, Nat.le_of_ble_eq_true rfl⟩) hP hD hS hA (fun u H locs hw hP hD hS => ?_)
  obtain ⟨Γ9, wt⟩ := u
  obtain ⟨hT, hkp, hxe, hk_29⟩ := hw
  have hW := hW.call (show ∀ x ∈ [], x ∈ [] by decide) hkp
  have hr_2 := hr_2.ext hxe (by decide)
  have hE := hE.tr hxe
  clear hxe
  obtain ⟨Γ, hΓ9⟩ : ∃ z, z = Γ9 := ⟨_, rfl⟩
  subst hΓ9
  have hP : va_P (gg_D G) classes ([(t, .inr (3, [.ref q_1, .int 0, .int 0])), (q_1, .inl (G.2.2 4, 20, .inr (.inr (.inr (.inr f_26)))))] ++ wt) H := hP
  have hD : va_D A ([(t, .inr (3, [.ref q_1, .int 0, .int 0])), (q_1, .inl (G.2.2 4, 20, .inr (.inr (.inr (.inr f_26)))))] ++ wt) := hD
  refine W.widen (k := 71) (n := 335) (Nat.le_of_ble_eq_true rfl) (Nat.le_of_ble_eq_true rfl) ?_
  obtain ⟨f_30, ef_30⟩ : ∃ z : Nat → Option Nat, va_up f_26 (Int32.toNatClampNeg 6) (some q_27) = z := ⟨_, rfl⟩
  refine tr_aast (we' := [(t, .inr (3, [.ref q_1, .int 0, .int 0])), (q_1, .inl (G.2.2 4, 20, .inr (.inr (.inr (.inr f_30)))))]) hx hb hK hT hP hD hS 1 4 7 rfl rfl hk_29 (by decide) rfl f_30 (by unfold vp_in; decide +kernel) ef_30 rfl dX3_init_43 (fun H locs hP hD hS => ?_)
  have hr_2 := hr_2.step hk_29 (show Int32.toNatClampNeg 6 = 6 by decide +kernel) ef_30
  refine lv_iinc (v := 7) (lv' := [(1, .int 7), (0, .ref t)]) hx hb dX3_init_44 hl (k := 0) rfl (by decide +kernel) (by decide) rfl (fun ls hl => ?_)
  refine lv_goto (tgt := 25) hx hb dX3_init_47 (by decide) ?_
  refine lv_iload_n hx hb dX3_init_25 rfl (lv_at hl 0 rfl) ?_
  refine lv_bipush (v := 20) hx hb dX3_init_26 (by decide +kernel) ?_
  refine lv_icmp_ge (tgt := 50) hx hb dX3_init_28 (by decide) (fun c0 => False.elim (by rw [Int32.le_iff_toInt_le] at c0; omega)) (fun _ => ?_)
  refine lv_aload_n hx hb dX3_init_31 rfl (lv_at hl 1 rfl) ?_
  refine gq_get hx hb ht hown hK hP i_X3 0 rfl rfl 0 (by decide) wd_299 rfl rfl dX3_init_32 ?_
  refine lv_iload_n hx hb dX3_init_35 rfl (lv_at hl 0 rfl) ?_
  refine gq_new (ci := 7) hx hb ht hown i_X7 tyX7 tyX7_ok wd_296 wd_226 wd_125 hK hP hD hS hA rfl [.null, .null, .null, .null, .null, .null, .null, .null, .null, .int 0] df_X7 72 345 (Nat.le_of_ble_eq_true rfl) (Nat.le_of_ble_eq_true rfl) (Nat.le_of_ble_eq_true rfl) (Nat.le_of_ble_eq_true rfl) dX3_init_36 (fun q_31 H hP hD hS => ?_)
  have hP : va_P (gg_D G) classes ([(t, .inr (3, [.ref q_1, .int 0, .int 0])), (q_1, .inl (G.2.2 4, 20, .inr (.inr (.inr (.inr f_30))))), (q_31, .inr (7, [.null, .null, .null, .null, .null, .null, .null, .null, .null, .int 0]))] ++ wt) H := tw_newP hP
  have hD : va_D A ([(t, .inr (3, [.ref q_1, .int 0, .int 0])), (q_1, .inl (G.2.2 4, 20, .inr (.inr (.inr (.inr f_30))))), (q_31, .inr (7, [.null, .null, .null, .null, .null, .null, .null, .null, .null, .int 0]))] ++ wt) := tw_newD hD
  refine lv_dup hx hb dX3_init_39 rfl ?_
  have hP : va_P (gg_D G) classes ([(t, .inr (3, [.ref q_1, .int 0, .int 0])), (q_1, .inl (G.2.2 4, 20, .inr (.inr (.inr (.inr f_30)))))] ++ ([(q_31, .inr (7, [.null, .null, .null, .null, .null, .null, .null, .null, .null, .int 0]))] ++ wt)) H := hP
  have hD : va_D A ([(t, .inr (3, [.ref q_1, .int 0, .int 0])), (q_1, .inl (G.2.2 4, 20, .inr (.inr (.inr (.inr f_30)))))] ++ ([(q_31, .inr (7, [.null, .null, .null, .null, .null, .null, .null, .null, .null, .int 0]))] ++ wt)) := hD
  refine gt_callV (wr := [(t, .inr (3, [.ref q_1, .int 0, .int 0])), (q_1, .inl (G.2.2 4, 20, .inr (.inr (.inr (.inr f_30)))))]) (va_runIN (As := []) (rest := [.ref q_31, .int 7, .ref q_1]) ⟨hx, hb, hml, hown, ht⟩ (d_i_State l G Γ H.size wt hT q_31) ⟨va_cnB 0 ht (tb_good (ts_good wd_229)) rfl rfl rfl (hK.2.1 _ wn_298 rfl) (ht _ wd_125) (by decide +kernel) ⟨Nat.le_of_ble_eq_true rfl, Nat.le_of_ble_eq_true rfl⟩, rfl, ht _ wd_228⟩ (gc_preS hK (tw_right hP) (tw_rightD hD)) rfl rfl hl.1 rfl (lv_room (Nat.le_of_ble_eq_true rfl)) dX3_init_40 ⟨Nat.le_of_ble_eq_true rfl, Nat.le_of_ble_eq_true rfl⟩) hP hD hS hA (fun u H locs hw hP hD hS => ?_)
  obtain ⟨Γ9, wt⟩ := u
  obtain ⟨hT, hkp, hxe, hk_33⟩ := hw
  have hW := hW.call (show ∀ x ∈ [], x ∈ [] by decide) hkp
  have hr_2 := hr_2.ext hxe (by decide)
  have hE := hE.tr hxe
  clear hxe
  obtain ⟨Γ, hΓ9⟩ : ∃ z, z = Γ9 := ⟨_, rfl⟩
  subst hΓ9
  have hP : va_P (gg_D G) classes ([(t, .inr (3, [.ref q_1, .int 0, .int 0])), (q_1, .inl (G.2.2 4, 20, .inr (.inr (.inr (.inr f_30)))))] ++ wt) H := hP
  have hD : va_D A ([(t, .inr (3, [.ref q_1, .int 0, .int 0])), (q_1, .inl (G.2.2 4, 20, .inr (.inr (.inr (.inr f_30)))))] ++ wt) := hD
  refine W.widen (k := 81) (n := 380) (Nat.le_of_ble_eq_true rfl) (Nat.le_of_ble_eq_true rfl) ?_
  obtain ⟨f_34, ef_34⟩ : ∃ z : Nat → Option Nat, va_up f_30 (Int32.toNatClampNeg 7) (some q_31) = z := ⟨_, rfl⟩
  refine tr_aast (we' := [(t, .inr (3, [.ref q_1, .int 0, .int 0])), (q_1, .inl (G.2.2 4, 20, .inr (.inr (.inr (.inr f_34)))))]) hx hb hK hT hP hD hS 1 4 7 rfl rfl hk_33 (by decide) rfl f_34 (by unfold vp_in; decide +kernel) ef_34 rfl dX3_init_43 (fun H locs hP hD hS => ?_)
  have hr_2 := hr_2.step hk_33 (show Int32.toNatClampNeg 7 = 7 by decide +kernel) ef_34
  refine lv_iinc (v := 8) (lv' := [(1, .int 8), (0, .ref t)]) hx hb dX3_init_44 hl (k := 0) rfl (by decide +kernel) (by decide) rfl (fun ls hl => ?_)
  refine lv_goto (tgt := 25) hx hb dX3_init_47 (by decide) ?_
  refine lv_iload_n hx hb dX3_init_25 rfl (lv_at hl 0 rfl) ?_
  refine lv_bipush (v := 20) hx hb dX3_init_26 (by decide +kernel) ?_
  refine lv_icmp_ge (tgt := 50) hx hb dX3_init_28 (by decide) (fun c0 => False.elim (by rw [Int32.le_iff_toInt_le] at c0; omega)) (fun _ => ?_)
  refine lv_aload_n hx hb dX3_init_31 rfl (lv_at hl 1 rfl) ?_
  refine gq_get hx hb ht hown hK hP i_X3 0 rfl rfl 0 (by decide) wd_299 rfl rfl dX3_init_32 ?_
  refine lv_iload_n hx hb dX3_init_35 rfl (lv_at hl 0 rfl) ?_
  refine gq_new (ci := 7) hx hb ht hown i_X7 tyX7 tyX7_ok wd_296 wd_226 wd_125 hK hP hD hS hA rfl [.null, .null, .null, .null, .null, .null, .null, .null, .null, .int 0] df_X7 82 390 (Nat.le_of_ble_eq_true rfl) (Nat.le_of_ble_eq_true rfl) (Nat.le_of_ble_eq_true rfl) (Nat.le_of_ble_eq_true rfl) dX3_init_36 (fun q_35 H hP hD hS => ?_)
  have hP : va_P (gg_D G) classes ([(t, .inr (3, [.ref q_1, .int 0, .int 0])), (q_1, .inl (G.2.2 4, 20, .inr (.inr (.inr (.inr f_34))))), (q_35, .inr (7, [.null, .null, .null, .null, .null, .null, .null, .null, .null, .int 0]))] ++ wt) H := tw_newP hP
  have hD : va_D A ([(t, .inr (3, [.ref q_1, .int 0, .int 0])), (q_1, .inl (G.2.2 4, 20, .inr (.inr (.inr (.inr f_34))))), (q_35, .inr (7, [.null, .null, .null, .null, .null, .null, .null, .null, .null, .int 0]))] ++ wt) := tw_newD hD
  refine lv_dup hx hb dX3_init_39 rfl ?_
  have hP : va_P (gg_D G) classes ([(t, .inr (3, [.ref q_1, .int 0, .int 0])), (q_1, .inl (G.2.2 4, 20, .inr (.inr (.inr (.inr f_34)))))] ++ ([(q_35, .inr (7, [.null, .null, .null, .null, .null, .null, .null, .null, .null, .int 0]))] ++ wt)) H := hP
  have hD : va_D A ([(t, .inr (3, [.ref q_1, .int 0, .int 0])), (q_1, .inl (G.2.2 4, 20, .inr (.inr (.inr (.inr f_34)))))] ++ ([(q_35, .inr (7, [.null, .null, .null, .null, .null, .null, .null, .null, .null, .int 0]))] ++ wt)) := hD
  refine gt_callV (wr := [(t, .inr (3, [.ref q_1, .int 0, .int 0])), (q_1, .inl (G.2.2 4, 20, .inr (.inr (.inr (.inr f_34)))))]) (va_runIN (As := []) (rest := [.ref q_35, .int 8, .ref q_1]) ⟨hx, hb, hml, hown, ht⟩ (d_i_State l G Γ H.size wt hT q_35) ⟨va_cnB 0 ht (tb_good (ts_good wd_229)) rfl rfl rfl (hK.2.1 _ wn_298 rfl) (ht _ wd_125) (by decide +kernel) ⟨Nat.le_of_ble_eq_true rfl, Nat.le_of_ble_eq_true rfl⟩, rfl, ht _ wd_228⟩ (gc_preS hK (tw_right hP) (tw_rightD hD)) rfl rfl hl.1 rfl (lv_room (Nat.le_of_ble_eq_true rfl)) dX3_init_40 ⟨Nat.le_of_ble_eq_true rfl, Nat.le_of_ble_eq_true rfl⟩) hP hD hS hA (fun u H locs hw hP hD hS => ?_)
  obtain ⟨Γ9, wt⟩ := u
  obtain ⟨hT, hkp, hxe, hk_37⟩ := hw
  have hW := hW.call (show ∀ x ∈ [], x ∈ [] by decide) hkp
  have hr_2 := hr_2.ext hxe (by decide)
  have hE := hE.tr hxe
  clear hxe
  obtain ⟨Γ, hΓ9⟩ : ∃ z, z = Γ9 := ⟨_, rfl⟩
  subst hΓ9
  have hP : va_P (gg_D G) classes ([(t, .inr (3, [.ref q_1, .int 0, .int 0])), (q_1, .inl (G.2.2 4, 20, .inr (.inr (.inr (.inr f_34)))))] ++ wt) H := hP
  have hD : va_D A ([(t, .inr (3, [.ref q_1, .int 0, .int 0])), (q_1, .inl (G.2.2 4, 20, .inr (.inr (.inr (.inr f_34)))))] ++ wt) := hD
  refine W.widen (k := 91) (n := 425) (Nat.le_of_ble_eq_true rfl) (Nat.le_of_ble_eq_true rfl) ?_
  obtain ⟨f_38, ef_38⟩ : ∃ z : Nat → Option Nat, va_up f_34 (Int32.toNatClampNeg 8) (some q_35) = z := ⟨_, rfl⟩
  refine tr_aast (we' := [(t, .inr (3, [.ref q_1, .int 0, .int 0])), (q_1, .inl (G.2.2 4, 20, .inr (.inr (.inr (.inr f_38)))))]) hx hb hK hT hP hD hS 1 4 7 rfl rfl hk_37 (by decide) rfl f_38 (by unfold vp_in; decide +kernel) ef_38 rfl dX3_init_43 (fun H locs hP hD hS => ?_)
  have hr_2 := hr_2.step hk_37 (show Int32.toNatClampNeg 8 = 8 by decide +kernel) ef_38
  refine lv_iinc (v := 9) (lv' := [(1, .int 9), (0, .ref t)]) hx hb dX3_init_44 hl (k := 0) rfl (by decide +kernel) (by decide) rfl (fun ls hl => ?_)
  refine lv_goto (tgt := 25) hx hb dX3_init_47 (by decide) ?_
  refine lv_iload_n hx hb dX3_init_25 rfl (lv_at hl 0 rfl) ?_
  refine lv_bipush (v := 20) hx hb dX3_init_26 (by decide +kernel) ?_
  refine lv_icmp_ge (tgt := 50) hx hb dX3_init_28 (by decide) (fun c0 => False.elim (by rw [Int32.le_iff_toInt_le] at c0; omega)) (fun _ => ?_)
  refine lv_aload_n hx hb dX3_init_31 rfl (lv_at hl 1 rfl) ?_
  refine gq_get hx hb ht hown hK hP i_X3 0 rfl rfl 0 (by decide) wd_299 rfl rfl dX3_init_32 ?_
  refine lv_iload_n hx hb dX3_init_35 rfl (lv_at hl 0 rfl) ?_
  refine gq_new (ci := 7) hx hb ht hown i_X7 tyX7 tyX7_ok wd_296 wd_226 wd_125 hK hP hD hS hA rfl [.null, .null, .null, .null, .null, .null, .null, .null, .null, .int 0] df_X7 92 435 (Nat.le_of_ble_eq_true rfl) (Nat.le_of_ble_eq_true rfl) (Nat.le_of_ble_eq_true rfl) (Nat.le_of_ble_eq_true rfl) dX3_init_36 (fun q_39 H hP hD hS => ?_)
  have hP : va_P (gg_D G) classes ([(t, .inr (3, [.ref q_1, .int 0, .int 0])), (q_1, .inl (G.2.2 4, 20, .inr (.inr (.inr (.inr f_38))))), (q_39, .inr (7, [.null, .null, .null, .null, .null, .null, .null, .null, .null, .int 0]))] ++ wt) H := tw_newP hP
  have hD : va_D A ([(t, .inr (3, [.ref q_1, .int 0, .int 0])), (q_1, .inl (G.2.2 4, 20, .inr (.inr (.inr (.inr f_38))))), (q_39, .inr (7, [.null, .null, .null, .null, .null, .null, .null, .null, .null, .int 0]))] ++ wt) := tw_newD hD
  refine lv_dup hx hb dX3_init_39 rfl ?_
  have hP : va_P (gg_D G) classes ([(t, .inr (3, [.ref q_1, .int 0, .int 0])), (q_1, .inl (G.2.2 4, 20, .inr (.inr (.inr (.inr f_38)))))] ++ ([(q_39, .inr (7, [.null, .null, .null, .null, .null, .null, .null, .null, .null, .int 0]))] ++ wt)) H := hP
  have hD : va_D A ([(t, .inr (3, [.ref q_1, .int 0, .int 0])), (q_1, .inl (G.2.2 4, 20, .inr (.inr (.inr (.inr f_38)))))] ++ ([(q_39, .inr (7, [.null, .null, .null, .null, .null, .null, .null, .null, .null, .int 0]))] ++ wt)) := hD
  refine gt_callV (wr := [(t, .inr (3, [.ref q_1, .int 0, .int 0])), (q_1, .inl (G.2.2 4, 20, .inr (.inr (.inr (.inr f_38)))))]) (va_runIN (As := []) (rest := [.ref q_39, .int 9, .ref q_1]) ⟨hx, hb, hml, hown, ht⟩ (d_i_State l G Γ H.size wt hT q_39) ⟨va_cnB 0 ht (tb_good (ts_good wd_229)) rfl rfl rfl (hK.2.1 _ wn_298 rfl) (ht _ wd_125) (by decide +kernel) ⟨Nat.le_of_ble_eq_true rfl, Nat.le_of_ble_eq_true rfl⟩, rfl, ht _ wd_228⟩ (gc_preS hK (tw_right hP) (tw_rightD hD)) rfl rfl hl.1 rfl (lv_room (Nat.le_of_ble_eq_true rfl)) dX3_init_40 ⟨Nat.le_of_ble_eq_true rfl, Nat.le_of_ble_eq_true rfl⟩) hP hD hS hA (fun u H locs hw hP hD hS => ?_)
  obtain ⟨Γ9, wt⟩ := u
  obtain ⟨hT, hkp, hxe, hk_41⟩ := hw
  have hW := hW.call (show ∀ x ∈ [], x ∈ [] by decide) hkp
  have hr_2 := hr_2.ext hxe (by decide)
  have hE := hE.tr hxe
  clear hxe
  obtain ⟨Γ, hΓ9⟩ : ∃ z, z = Γ9 := ⟨_, rfl⟩
  subst hΓ9
  have hP : va_P (gg_D G) classes ([(t, .inr (3, [.ref q_1, .int 0, .int 0])), (q_1, .inl (G.2.2 4, 20, .inr (.inr (.inr (.inr f_38)))))] ++ wt) H := hP
  have hD : va_D A ([(t, .inr (3, [.ref q_1, .int 0, .int 0])), (q_1, .inl (G.2.2 4, 20, .inr (.inr (.inr (.inr f_38)))))] ++ wt) := hD
  refine W.widen (k := 101) (n := 470) (Nat.le_of_ble_eq_true rfl) (Nat.le_of_ble_eq_true rfl) ?_
  obtain ⟨f_42, ef_42⟩ : ∃ z : Nat → Option Nat, va_up f_38 (Int32.toNatClampNeg 9) (some q_39) = z := ⟨_, rfl⟩
  refine tr_aast (we' := [(t, .inr (3, [.ref q_1, .int 0, .int 0])), (q_1, .inl (G.2.2 4, 20, .inr (.inr (.inr (.inr f_42)))))]) hx hb hK hT hP hD hS 1 4 7 rfl rfl hk_41 (by decide) rfl f_42 (by unfold vp_in; decide +kernel) ef_42 rfl dX3_init_43 (fun H locs hP hD hS => ?_)
  have hr_2 := hr_2.step hk_41 (show Int32.toNatClampNeg 9 = 9 by decide +kernel) ef_42
  refine lv_iinc (v := 10) (lv' := [(1, .int 10), (0, .ref t)]) hx hb dX3_init_44 hl (k := 0) rfl (by decide +kernel) (by decide) rfl (fun ls hl => ?_)
  refine lv_goto (tgt := 25) hx hb dX3_init_47 (by decide) ?_
  refine lv_iload_n hx hb dX3_init_25 rfl (lv_at hl 0 rfl) ?_
  refine lv_bipush (v := 20) hx hb dX3_init_26 (by decide +kernel) ?_
  refine lv_icmp_ge (tgt := 50) hx hb dX3_init_28 (by decide) (fun c0 => False.elim (by rw [Int32.le_iff_toInt_le] at c0; omega)) (fun _ => ?_)
  refine lv_aload_n hx hb dX3_init_31 rfl (lv_at hl 1 rfl) ?_
  refine gq_get hx hb ht hown hK hP i_X3 0 rfl rfl 0 (by decide) wd_299 rfl rfl dX3_init_32 ?_
  refine lv_iload_n hx hb dX3_init_35 rfl (lv_at hl 0 rfl) ?_
  refine gq_new (ci := 7) hx hb ht hown i_X7 tyX7 tyX7_ok wd_296 wd_226 wd_125 hK hP hD hS hA rfl [.null, .null, .null, .null, .null, .null, .null, .null, .null, .int 0] df_X7 102 480 (Nat.le_of_ble_eq_true rfl) (Nat.le_of_ble_eq_true rfl) (Nat.le_of_ble_eq_true rfl) (Nat.le_of_ble_eq_true rfl) dX3_init_36 (fun q_43 H hP hD hS => ?_)
  have hP : va_P (gg_D G) classes ([(t, .inr (3, [.ref q_1, .int 0, .int 0])), (q_1, .inl (G.2.2 4, 20, .inr (.inr (.inr (.inr f_42))))), (q_43, .inr (7, [.null, .null, .null, .null, .null, .null, .null, .null, .null, .int 0]))] ++ wt) H := tw_newP hP
  have hD : va_D A ([(t, .inr (3, [.ref q_1, .int 0, .int 0])), (q_1, .inl (G.2.2 4, 20, .inr (.inr (.inr (.inr f_42))))), (q_43, .inr (7, [.null, .null, .null, .null, .null, .null, .null, .null, .null, .int 0]))] ++ wt) := tw_newD hD
  refine lv_dup hx hb dX3_init_39 rfl ?_
  have hP : va_P (gg_D G) classes ([(t, .inr (3, [.ref q_1, .int 0, .int 0])), (q_1, .inl (G.2.2 4, 20, .inr (.inr (.inr (.inr f_42)))))] ++ ([(q_43, .inr (7, [.null, .null, .null, .null, .null, .null, .null, .null, .null, .int 0]))] ++ wt)) H := hP
  have hD : va_D A ([(t, .inr (3, [.ref q_1, .int 0, .int 0])), (q_1, .inl (G.2.2 4, 20, .inr (.inr (.inr (.inr f_42)))))] ++ ([(q_43, .inr (7, [.null, .null, .null, .null, .null, .null, .null, .null, .null, .int 0]))] ++ wt)) := hD
  refine gt_callV (wr := [(t, .inr (3, [.ref q_1, .int 0, .int 0])), (q_1, .inl (G.2.2 4, 20, .inr (.inr (.inr (.inr f_42)))))]) (va_runIN (As := []) (rest := [.ref q_43, .int 10, .ref q_1]) ⟨hx, hb, hml, hown, ht⟩ (d_i_State l G Γ H.size wt hT q_43) ⟨va_cnB 0 ht (tb_good (ts_good wd_229)) rfl rfl rfl (hK.2.1 _ wn_298 rfl) (ht _ wd_125) (by decide +kernel) ⟨Nat.le_of_ble_eq_true rfl, Nat.le_of_ble_eq_true rfl⟩, rfl, ht _ wd_228⟩ (gc_preS hK (tw_right hP) (tw_rightD hD)) rfl rfl hl.1 rfl (lv_room (Nat.le_of_ble_eq_true rfl)) dX3_init_40 ⟨Nat.le_of_ble_eq_true rfl, Nat.le_of_ble_eq_true rfl⟩) hP hD hS hA (fun u H locs hw hP hD hS => ?_)
  obtain ⟨Γ9, wt⟩ := u
  obtain ⟨hT, hkp, hxe, hk_45⟩ := hw
  have hW := hW.call (show ∀ x ∈ [], x ∈ [] by decide) hkp
  have hr_2 := hr_2.ext hxe (by decide)
  have hE := hE.tr hxe
  clear hxe
  obtain ⟨Γ, hΓ9⟩ : ∃ z, z = Γ9 := ⟨_, rfl⟩
  subst hΓ9
  have hP : va_P (gg_D G) classes ([(t, .inr (3, [.ref q_1, .int 0, .int 0])), (q_1, .inl (G.2.2 4, 20, .inr (.inr (.inr (.inr f_42)))))] ++ wt) H := hP
  have hD : va_D A ([(t, .inr (3, [.ref q_1, .int 0, .int 0])), (q_1, .inl (G.2.2 4, 20, .inr (.inr (.inr (.inr f_42)))))] ++ wt) := hD
  refine W.widen (k := 111) (n := 515) (Nat.le_of_ble_eq_true rfl) (Nat.le_of_ble_eq_true rfl) ?_
  obtain ⟨f_46, ef_46⟩ : ∃ z : Nat → Option Nat, va_up f_42 (Int32.toNatClampNeg 10) (some q_43) = z := ⟨_, rfl⟩
  refine tr_aast (we' := [(t, .inr (3, [.ref q_1, .int 0, .int 0])), (q_1, .inl (G.2.2 4, 20, .inr (.inr (.inr (.inr f_46)))))]) hx hb hK hT hP hD hS 1 4 7 rfl rfl hk_45 (by decide) rfl f_46 (by unfold vp_in; decide +kernel) ef_46 rfl dX3_init_43 (fun H locs hP hD hS => ?_)
  have hr_2 := hr_2.step hk_45 (show Int32.toNatClampNeg 10 = 10 by decide +kernel) ef_46
  refine lv_iinc (v := 11) (lv' := [(1, .int 11), (0, .ref t)]) hx hb dX3_init_44 hl (k := 0) rfl (by decide +kernel) (by decide) rfl (fun ls hl => ?_)
  refine lv_goto (tgt := 25) hx hb dX3_init_47 (by decide) ?_
  refine lv_iload_n hx hb dX3_init_25 rfl (lv_at hl 0 rfl) ?_
  refine lv_bipush (v := 20) hx hb dX3_init_26 (by decide +kernel) ?_
  refine lv_icmp_ge (tgt := 50) hx hb dX3_init_28 (by decide) (fun c0 => False.elim (by rw [Int32.le_iff_toInt_le] at c0; omega)) (fun _ => ?_)
  refine lv_aload_n hx hb dX3_init_31 rfl (lv_at hl 1 rfl) ?_
  refine gq_get hx hb ht hown hK hP i_X3 0 rfl rfl 0 (by decide) wd_299 rfl rfl dX3_init_32 ?_
  refine lv_iload_n hx hb dX3_init_35 rfl (lv_at hl 0 rfl) ?_
  refine gq_new (ci := 7) hx hb ht hown i_X7 tyX7 tyX7_ok wd_296 wd_226 wd_125 hK hP hD hS hA rfl [.null, .null, .null, .null, .null, .null, .null, .null, .null, .int 0] df_X7 112 525 (Nat.le_of_ble_eq_true rfl) (Nat.le_of_ble_eq_true rfl) (Nat.le_of_ble_eq_true rfl) (Nat.le_of_ble_eq_true rfl) dX3_init_36 (fun q_47 H hP hD hS => ?_)
  have hP : va_P (gg_D G) classes ([(t, .inr (3, [.ref q_1, .int 0, .int 0])), (q_1, .inl (G.2.2 4, 20, .inr (.inr (.inr (.inr f_46))))), (q_47, .inr (7, [.null, .null, .null, .null, .null, .null, .null, .null, .null, .int 0]))] ++ wt) H := tw_newP hP
  have hD : va_D A ([(t, .inr (3, [.ref q_1, .int 0, .int 0])), (q_1, .inl (G.2.2 4, 20, .inr (.inr (.inr (.inr f_46))))), (q_47, .inr (7, [.null, .null, .null, .null, .null, .null, .null, .null, .null, .int 0]))] ++ wt) := tw_newD hD
  refine lv_dup hx hb dX3_init_39 rfl ?_
  have hP : va_P (gg_D G) classes ([(t, .inr (3, [.ref q_1, .int 0, .int 0])), (q_1, .inl (G.2.2 4, 20, .inr (.inr (.inr (.inr f_46)))))] ++ ([(q_47, .inr (7, [.null, .null, .null, .null, .null, .null, .null, .null, .null, .int 0]))] ++ wt)) H := hP
  have hD : va_D A ([(t, .inr (3, [.ref q_1, .int 0, .int 0])), (q_1, .inl (G.2.2 4, 20, .inr (.inr (.inr (.inr f_46)))))] ++ ([(q_47, .inr (7, [.null, .null, .null, .null, .null, .null, .null, .null, .null, .int 0]))] ++ wt)) := hD
  refine gt_callV (wr := [(t, .inr (3, [.ref q_1, .int 0, .int 0])), (q_1, .inl (G.2.2 4, 20, .inr (.inr (.inr (.inr f_46)))))]) (va_runIN (As := []) (rest := [.ref q_47, .int 11, .ref q_1]) ⟨hx, hb, hml, hown, ht⟩ (d_i_State l G Γ H.size wt hT q_47) ⟨va_cnB 0 ht (tb_good (ts_good wd_229)) rfl rfl rfl (hK.2.1 _ wn_298 rfl) (ht _ wd_125) (by decide +kernel) ⟨Nat.le_of_ble_eq_true rfl, Nat.le_of_ble_eq_true rfl⟩, rfl, ht _ wd_228⟩ (gc_preS hK (tw_right hP) (tw_rightD hD)) rfl rfl hl.1 rfl (lv_room (Nat.le_of_ble_eq_true rfl)) dX3_init_40 ⟨Nat.le_of_ble_eq_true rfl, Nat.le_of_ble_eq_true rfl⟩) hP hD hS hA (fun u H locs hw hP hD hS => ?_)
  obtain ⟨Γ9, wt⟩ := u
  obtain ⟨hT, hkp, hxe, hk_49⟩ := hw
  have hW := hW.call (show ∀ x ∈ [], x ∈ [] by decide) hkp
  have hr_2 := hr_2.ext hxe (by decide)
  have hE := hE.tr hxe
  clear hxe
  obtain ⟨Γ, hΓ9⟩ : ∃ z, z = Γ9 := ⟨_, rfl⟩
  subst hΓ9
  have hP : va_P (gg_D G) classes ([(t, .inr (3, [.ref q_1, .int 0, .int 0])), (q_1, .inl (G.2.2 4, 20, .inr (.inr (.inr (.inr f_46)))))] ++ wt) H := hP
  have hD : va_D A ([(t, .inr (3, [.ref q_1, .int 0, .int 0])), (q_1, .inl (G.2.2 4, 20, .inr (.inr (.inr (.inr f_46)))))] ++ wt) := hD
  refine W.widen (k := 121) (n := 560) (Nat.le_of_ble_eq_true rfl) (Nat.le_of_ble_eq_true rfl) ?_
  obtain ⟨f_50, ef_50⟩ : ∃ z : Nat → Option Nat, va_up f_46 (Int32.toNatClampNeg 11) (some q_47) = z := ⟨_, rfl⟩
  refine tr_aast (we' := [(t, .inr (3, [.ref q_1, .int 0, .int 0])), (q_1, .inl (G.2.2 4, 20, .inr (.inr (.inr (.inr f_50)))))]) hx hb hK hT hP hD hS 1 4 7 rfl rfl hk_49 (by decide) rfl f_50 (by unfold vp_in; decide +kernel) ef_50 rfl dX3_init_43 (fun H locs hP hD hS => ?_)
  have hr_2 := hr_2.step hk_49 (show Int32.toNatClampNeg 11 = 11 by decide +kernel) ef_50
  refine lv_iinc (v := 12) (lv' := [(1, .int 12), (0, .ref t)]) hx hb dX3_init_44 hl (k := 0) rfl (by decide +kernel) (by decide) rfl (fun ls hl => ?_)
  refine lv_goto (tgt := 25) hx hb dX3_init_47 (by decide) ?_
  refine lv_iload_n hx hb dX3_init_25 rfl (lv_at hl 0 rfl) ?_
  refine lv_bipush (v := 20) hx hb dX3_init_26 (by decide +kernel) ?_
  refine lv_icmp_ge (tgt := 50) hx hb dX3_init_28 (by decide) (fun c0 => False.elim (by rw [Int32.le_iff_toInt_le] at c0; omega)) (fun _ => ?_)
  refine lv_aload_n hx hb dX3_init_31 rfl (lv_at hl 1 rfl) ?_
  refine gq_get hx hb ht hown hK hP i_X3 0 rfl rfl 0 (by decide) wd_299 rfl rfl dX3_init_32 ?_
  refine lv_iload_n hx hb dX3_init_35 rfl (lv_at hl 0 rfl) ?_
  refine gq_new (ci := 7) hx hb ht hown i_X7 tyX7 tyX7_ok wd_296 wd_226 wd_125 hK hP hD hS hA rfl [.null, .null, .null, .null, .null, .null, .null, .null, .null, .int 0] df_X7 122 570 (Nat.le_of_ble_eq_true rfl) (Nat.le_of_ble_eq_true rfl) (Nat.le_of_ble_eq_true rfl) (Nat.le_of_ble_eq_true rfl) dX3_init_36 (fun q_51 H hP hD hS => ?_)
  have hP : va_P (gg_D G) classes ([(t, .inr (3, [.ref q_1, .int 0, .int 0])), (q_1, .inl (G.2.2 4, 20, .inr (.inr (.inr (.inr f_50))))), (q_51, .inr (7, [.null, .null, .null, .null, .null, .null, .null, .null, .null, .int 0]))] ++ wt) H := tw_newP hP
  have hD : va_D A ([(t, .inr (3, [.ref q_1, .int 0, .int 0])), (q_1, .inl (G.2.2 4, 20, .inr (.inr (.inr (.inr f_50))))), (q_51, .inr (7, [.null, .null, .null, .null, .null, .null, .null, .null, .null, .int 0]))] ++ wt) := tw_newD hD
  refine lv_dup hx hb dX3_init_39 rfl ?_
  have hP : va_P (gg_D G) classes ([(t, .inr (3, [.ref q_1, .int 0, .int 0])), (q_1, .inl (G.2.2 4, 20, .inr (.inr (.inr (.inr f_50)))))] ++ ([(q_51, .inr (7, [.null, .null, .null, .null, .null, .null, .null, .null, .null, .int 0]))] ++ wt)) H := hP
  have hD : va_D A ([(t, .inr (3, [.ref q_1, .int 0, .int 0])), (q_1, .inl (G.2.2 4, 20, .inr (.inr (.inr (.inr f_50)))))] ++ ([(q_51, .inr (7, [.null, .null, .null, .null, .null, .null, .null, .null, .null, .int 0]))] ++ wt)) := hD
  refine gt_callV (wr := [(t, .inr (3, [.ref q_1, .int 0, .int 0])), (q_1, .inl (G.2.2 4, 20, .inr (.inr (.inr (.inr f_50)))))]) (va_runIN (As := []) (rest := [.ref q_51, .int 12, .ref q_1]) ⟨hx, hb, hml, hown, ht⟩ (d_i_State l G Γ H.size wt hT q_51) ⟨va_cnB 0 ht (tb_good (ts_good wd_229)) rfl rfl rfl (hK.2.1 _ wn_298 rfl) (ht _ wd_125) (by decide +kernel) ⟨Nat.le_of_ble_eq_true rfl, Nat.le_of_ble_eq_true rfl⟩, rfl, ht _ wd_228⟩ (gc_preS hK (tw_right hP) (tw_rightD hD)) rfl rfl hl.1 rfl (lv_room (Nat.le_of_ble_eq_true rfl)) dX3_init_40 ⟨Nat.le_of_ble_eq_true rfl, Nat.le_of_ble_eq_true rfl⟩) hP hD hS hA (fun u H locs hw hP hD hS => ?_)
  obtain ⟨Γ9, wt⟩ := u
  obtain ⟨hT, hkp, hxe, hk_53⟩ := hw
  have hW := hW.call (show ∀ x ∈ [], x ∈ [] by decide) hkp
  have hr_2 := hr_2.ext hxe (by decide)
  have hE := hE.tr hxe
  clear hxe
  obtain ⟨Γ, hΓ9⟩ : ∃ z, z = Γ9 := ⟨_, rfl⟩
  subst hΓ9
  have hP : va_P (gg_D G) classes ([(t, .inr (3, [.ref q_1, .int 0, .int 0])), (q_1, .inl (G.2.2 4, 20, .inr (.inr (.inr (.inr f_50)))))] ++ wt) H := hP
  have hD : va_D A ([(t, .inr (3, [.ref q_1, .int 0, .int 0])), (q_1, .inl (G.2.2 4, 20, .inr (.inr (.inr (.inr f_50)))))] ++ wt) := hD
  refine W.widen (k := 131) (n := 605) (Nat.le_of_ble_eq_true rfl) (Nat.le_of_ble_eq_true rfl) ?_
  obtain ⟨f_54, ef_54⟩ : ∃ z : Nat → Option Nat, va_up f_50 (Int32.toNatClampNeg 12) (some q_51) = z := ⟨_, rfl⟩
  refine tr_aast (we' := [(t, .inr (3, [.ref q_1, .int 0, .int 0])), (q_1, .inl (G.2.2 4, 20, .inr (.inr (.inr (.inr f_54)))))]) hx hb hK hT hP hD hS 1 4 7 rfl rfl hk_53 (by decide) rfl f_54 (by unfold vp_in; decide +kernel) ef_54 rfl dX3_init_43 (fun H locs hP hD hS => ?_)
  have hr_2 := hr_2.step hk_53 (show Int32.toNatClampNeg 12 = 12 by decide +kernel) ef_54
  refine lv_iinc (v := 13) (lv' := [(1, .int 13), (0, .ref t)]) hx hb dX3_init_44 hl (k := 0) rfl (by decide +kernel) (by decide) rfl (fun ls hl => ?_)
  refine lv_goto (tgt := 25) hx hb dX3_init_47 (by decide) ?_
  refine lv_iload_n hx hb dX3_init_25 rfl (lv_at hl 0 rfl) ?_
  refine lv_bipush (v := 20) hx hb dX3_init_26 (by decide +kernel) ?_
  refine lv_icmp_ge (tgt := 50) hx hb dX3_init_28 (by decide) (fun c0 => False.elim (by rw [Int32.le_iff_toInt_le] at c0; omega)) (fun _ => ?_)
  refine lv_aload_n hx hb dX3_init_31 rfl (lv_at hl 1 rfl) ?_
  refine gq_get hx hb ht hown hK hP i_X3 0 rfl rfl 0 (by decide) wd_299 rfl rfl dX3_init_32 ?_
  refine lv_iload_n hx hb dX3_init_35 rfl (lv_at hl 0 rfl) ?_
  refine gq_new (ci := 7) hx hb ht hown i_X7 tyX7 tyX7_ok wd_296 wd_226 wd_125 hK hP hD hS hA rfl [.null, .null, .null, .null, .null, .null, .null, .null, .null, .int 0] df_X7 132 615 (Nat.le_of_ble_eq_true rfl) (Nat.le_of_ble_eq_true rfl) (Nat.le_of_ble_eq_true rfl) (Nat.le_of_ble_eq_true rfl) dX3_init_36 (fun q_55 H hP hD hS => ?_)
  have hP : va_P (gg_D G) classes ([(t, .inr (3, [.ref q_1, .int 0, .int 0])), (q_1, .inl (G.2.2 4, 20, .inr (.inr (.inr (.inr f_54))))), (q_55, .inr (7, [.null, .null, .null, .null, .null, .null, .null, .null, .null, .int 0]))] ++ wt) H := tw_newP hP
  have hD : va_D A ([(t, .inr (3, [.ref q_1, .int 0, .int 0])), (q_1, .inl (G.2.2 4, 20, .inr (.inr (.inr (.inr f_54))))), (q_55, .inr (7, [.null, .null, .null, .null, .null, .null, .null, .null, .null, .int 0]))] ++ wt) := tw_newD hD
  refine lv_dup hx hb dX3_init_39 rfl ?_
  have hP : va_P (gg_D G) classes ([(t, .inr (3, [.ref q_1, .int 0, .int 0])), (q_1, .inl (G.2.2 4, 20, .inr (.inr (.inr (.inr f_54)))))] ++ ([(q_55, .inr (7, [.null, .null, .null, .null, .null, .null, .null, .null, .null, .int 0]))] ++ wt)) H := hP
  have hD : va_D A ([(t, .inr (3, [.ref q_1, .int 0, .int 0])), (q_1, .inl (G.2.2 4, 20, .inr (.inr (.inr (.inr f_54)))))] ++ ([(q_55, .inr (7, [.null, .null, .null, .null, .null, .null, .null, .null, .null, .int 0]))] ++ wt)) := hD
  refine gt_callV (wr := [(t, .inr (3, [.ref q_1, .int 0, .int 0])), (q_1, .inl (G.2.2 4, 20, .inr (.inr (.inr (.inr f_54)))))]) (va_runIN (As := []) (rest := [.ref q_55, .int 13, .ref q_1]) ⟨hx, hb, hml, hown, ht⟩ (d_i_State l G Γ H.size wt hT q_55) ⟨va_cnB 0 ht (tb_good (ts_good wd_229)) rfl rfl rfl (hK.2.1 _ wn_298 rfl) (ht _ wd_125) (by decide +kernel) ⟨Nat.le_of_ble_eq_true rfl, Nat.le_of_ble_eq_true rfl⟩, rfl, ht _ wd_228⟩ (gc_preS hK (tw_right hP) (tw_rightD hD)) rfl rfl hl.1 rfl (lv_room (Nat.le_of_ble_eq_true rfl)) dX3_init_40 ⟨Nat.le_of_ble_eq_true rfl, Nat.le_of_ble_eq_true rfl⟩) hP hD hS hA (fun u H locs hw hP hD hS => ?_)
  obtain ⟨Γ9, wt⟩ := u
  obtain ⟨hT, hkp, hxe, hk_57⟩ := hw
  have hW := hW.call (show ∀ x ∈ [], x ∈ [] by decide) hkp
  have hr_2 := hr_2.ext hxe (by decide)
  have hE := hE.tr hxe
  clear hxe
  obtain ⟨Γ, hΓ9⟩ : ∃ z, z = Γ9 := ⟨_, rfl⟩
  subst hΓ9
  have hP : va_P (gg_D G) classes ([(t, .inr (3, [.ref q_1, .int 0, .int 0])), (q_1, .inl (G.2.2 4, 20, .inr (.inr (.inr (.inr f_54)))))] ++ wt) H := hP
  have hD : va_D A ([(t, .inr (3, [.ref q_1, .int 0, .int 0])), (q_1, .inl (G.2.2 4, 20, .inr (.inr (.inr (.inr f_54)))))] ++ wt) := hD
  refine W.widen (k := 141) (n := 650) (Nat.le_of_ble_eq_true rfl) (Nat.le_of_ble_eq_true rfl) ?_
  obtain ⟨f_58, ef_58⟩ : ∃ z : Nat → Option Nat, va_up f_54 (Int32.toNatClampNeg 13) (some q_55) = z := ⟨_, rfl⟩
  refine tr_aast (we' := [(t, .inr (3, [.ref q_1, .int 0, .int 0])), (q_1, .inl (G.2.2 4, 20, .inr (.inr (.inr (.inr f_58)))))]) hx hb hK hT hP hD hS 1 4 7 rfl rfl hk_57 (by decide) rfl f_58 (by unfold vp_in; decide +kernel) ef_58 rfl dX3_init_43 (fun H locs hP hD hS => ?_)
  have hr_2 := hr_2.step hk_57 (show Int32.toNatClampNeg 13 = 13 by decide +kernel) ef_58
  refine lv_iinc (v := 14) (lv' := [(1, .int 14), (0, .ref t)]) hx hb dX3_init_44 hl (k := 0) rfl (by decide +kernel) (by decide) rfl (fun ls hl => ?_)
  refine lv_goto (tgt := 25) hx hb dX3_init_47 (by decide) ?_
  refine lv_iload_n hx hb dX3_init_25 rfl (lv_at hl 0 rfl) ?_
  refine lv_bipush (v := 20) hx hb dX3_init_26 (by decide +kernel) ?_
  refine lv_icmp_ge (tgt := 50) hx hb dX3_init_28 (by decide) (fun c0 => False.elim (by rw [Int32.le_iff_toInt_le] at c0; omega)) (fun _ => ?_)
  refine lv_aload_n hx hb dX3_init_31 rfl (lv_at hl 1 rfl) ?_
  refine gq_get hx hb ht hown hK hP i_X3 0 rfl rfl 0 (by decide) wd_299 rfl rfl dX3_init_32 ?_
  refine lv_iload_n hx hb dX3_init_35 rfl (lv_at hl 0 rfl) ?_
  refine gq_new (ci := 7) hx hb ht hown i_X7 tyX7 tyX7_ok wd_296 wd_226 wd_125 hK hP hD hS hA rfl [.null, .null, .null, .null, .null, .null, .null, .null, .null, .int 0] df_X7 142 660 (Nat.le_of_ble_eq_true rfl) (Nat.le_of_ble_eq_true rfl) (Nat.le_of_ble_eq_true rfl) (Nat.le_of_ble_eq_true rfl) dX3_init_36 (fun q_59 H hP hD hS => ?_)
  have hP : va_P (gg_D G) classes ([(t, .inr (3, [.ref q_1, .int 0, .int 0])), (q_1, .inl (G.2.2 4, 20, .inr (.inr (.inr (.inr f_58))))), (q_59, .inr (7, [.null, .null, .null, .null, .null, .null, .null, .null, .null, .int 0]))] ++ wt) H := tw_newP hP
  have hD : va_D A ([(t, .inr (3, [.ref q_1, .int 0, .int 0])), (q_1, .inl (G.2.2 4, 20, .inr (.inr (.inr (.inr f_58))))), (q_59, .inr (7, [.null, .null, .null, .null, .null, .null, .null, .null, .null, .int 0]))] ++ wt) := tw_newD hD
  refine lv_dup hx hb dX3_init_39 rfl ?_
  have hP : va_P (gg_D G) classes ([(t, .inr (3, [.ref q_1, .int 0, .int 0])), (q_1, .inl (G.2.2 4, 20, .inr (.inr (.inr (.inr f_58)))))] ++ ([(q_59, .inr (7, [.null, .null, .null, .null, .null, .null, .null, .null, .null, .int 0]))] ++ wt)) H := hP
  have hD : va_D A ([(t, .inr (3, [.ref q_1, .int 0, .int 0])), (q_1, .inl (G.2.2 4, 20, .inr (.inr (.inr (.inr f_58)))))] ++ ([(q_59, .inr (7, [.null, .null, .null, .null, .null, .null, .null, .null, .null, .int 0]))] ++ wt)) := hD
  refine gt_callV (wr := [(t, .inr (3, [.ref q_1, .int 0, .int 0])), (q_1, .inl (G.2.2 4, 20, .inr (.inr (.inr (.inr f_58)))))]) (va_runIN (As := []) (rest := [.ref q_59, .int 14, .ref q_1]) ⟨hx, hb, hml, hown, ht⟩ (d_i_State l G Γ H.size wt hT q_59) ⟨va_cnB 0 ht (tb_good (ts_good wd_229)) rfl rfl rfl (hK.2.1 _ wn_298 rfl) (ht _ wd_125) (by decide +kernel) ⟨Nat.le_of_ble_eq_true rfl, Nat.le_of_ble_eq_true rfl⟩, rfl, ht _ wd_228⟩ (gc_preS hK (tw_right hP) (tw_rightD hD)) rfl rfl hl.1 rfl (lv_room (Nat.le_of_ble_eq_true rfl)) dX3_init_40 ⟨Nat.le_of_ble_eq_true rfl, Nat.le_of_ble_eq_true rfl⟩) hP hD hS hA (fun u H locs hw hP hD hS => ?_)
  obtain ⟨Γ9, wt⟩ := u
  obtain ⟨hT, hkp, hxe, hk_61⟩ := hw
  have hW := hW.call (show ∀ x ∈ [], x ∈ [] by decide) hkp
  have hr_2 := hr_2.ext hxe (by decide)
  have hE := hE.tr hxe
  clear hxe
  obtain ⟨Γ, hΓ9⟩ : ∃ z, z = Γ9 := ⟨_, rfl⟩
  subst hΓ9
  have hP : va_P (gg_D G) classes ([(t, .inr (3, [.ref q_1, .int 0, .int 0])), (q_1, .inl (G.2.2 4, 20, .inr (.inr (.inr (.inr f_58)))))] ++ wt) H := hP
  have hD : va_D A ([(t, .inr (3, [.ref q_1, .int 0, .int 0])), (q_1, .inl (G.2.2 4, 20, .inr (.inr (.inr (.inr f_58)))))] ++ wt) := hD
  refine W.widen (k := 151) (n := 695) (Nat.le_of_ble_eq_true rfl) (Nat.le_of_ble_eq_true rfl) ?_
  obtain ⟨f_62, ef_62⟩ : ∃ z : Nat → Option Nat, va_up f_58 (Int32.toNatClampNeg 14) (some q_59) = z := ⟨_, rfl⟩
  refine tr_aast (we' := [(t, .inr (3, [.ref q_1, .int 0, .int 0])), (q_1, .inl (G.2.2 4, 20, .inr (.inr (.inr (.inr f_62)))))]) hx hb hK hT hP hD hS 1 4 7 rfl rfl hk_61 (by decide) rfl f_62 (by unfold vp_in; decide +kernel) ef_62 rfl dX3_init_43 (fun H locs hP hD hS => ?_)
  have hr_2 := hr_2.step hk_61 (show Int32.toNatClampNeg 14 = 14 by decide +kernel) ef_62
  refine lv_iinc (v := 15) (lv' := [(1, .int 15), (0, .ref t)]) hx hb dX3_init_44 hl (k := 0) rfl (by decide +kernel) (by decide) rfl (fun ls hl => ?_)
  refine lv_goto (tgt := 25) hx hb dX3_init_47 (by decide) ?_
  refine lv_iload_n hx hb dX3_init_25 rfl (lv_at hl 0 rfl) ?_
  refine lv_bipush (v := 20) hx hb dX3_init_26 (by decide +kernel) ?_
  refine lv_icmp_ge (tgt := 50) hx hb dX3_init_28 (by decide) (fun c0 => False.elim (by rw [Int32.le_iff_toInt_le] at c0; omega)) (fun _ => ?_)
  refine lv_aload_n hx hb dX3_init_31 rfl (lv_at hl 1 rfl) ?_
  refine gq_get hx hb ht hown hK hP i_X3 0 rfl rfl 0 (by decide) wd_299 rfl rfl dX3_init_32 ?_
  refine lv_iload_n hx hb dX3_init_35 rfl (lv_at hl 0 rfl) ?_
  refine gq_new (ci := 7) hx hb ht hown i_X7 tyX7 tyX7_ok wd_296 wd_226 wd_125 hK hP hD hS hA rfl [.null, .null, .null, .null, .null, .null, .null, .null, .null, .int 0] df_X7 152 705 (Nat.le_of_ble_eq_true rfl) (Nat.le_of_ble_eq_true rfl) (Nat.le_of_ble_eq_true rfl) (Nat.le_of_ble_eq_true rfl) dX3_init_36 (fun q_63 H hP hD hS => ?_)
  have hP : va_P (gg_D G) classes ([(t, .inr (3, [.ref q_1, .int 0, .int 0])), (q_1, .inl (G.2.2 4, 20, .inr (.inr (.inr (.inr f_62))))), (q_63, .inr (7, [.null, .null, .null, .null, .null, .null, .null, .null, .null, .int 0]))] ++ wt) H := tw_newP hP
  have hD : va_D A ([(t, .inr (3, [.ref q_1, .int 0, .int 0])), (q_1, .inl (G.2.2 4, 20, .inr (.inr (.inr (.inr f_62))))), (q_63, .inr (7, [.null, .null, .null, .null, .null, .null, .null, .null, .null, .int 0]))] ++ wt) := tw_newD hD
  refine lv_dup hx hb dX3_init_39 rfl ?_
  have hP : va_P (gg_D G) classes ([(t, .inr (3, [.ref q_1, .int 0, .int 0])), (q_1, .inl (G.2.2 4, 20, .inr (.inr (.inr (.inr f_62)))))] ++ ([(q_63, .inr (7, [.null, .null, .null, .null, .null, .null, .null, .null, .null, .int 0]))] ++ wt)) H := hP
  have hD : va_D A ([(t, .inr (3, [.ref q_1, .int 0, .int 0])), (q_1, .inl (G.2.2 4, 20, .inr (.inr (.inr (.inr f_62)))))] ++ ([(q_63, .inr (7, [.null, .null, .null, .null, .null, .null, .null, .null, .null, .int 0]))] ++ wt)) := hD
  refine gt_callV (wr := [(t, .inr (3, [.ref q_1, .int 0, .int 0])), (q_1, .inl (G.2.2 4, 20, .inr (.inr (.inr (.inr f_62)))))]) (va_runIN (As := []) (rest := [.ref q_63, .int 15, .ref q_1]) ⟨hx, hb, hml, hown, ht⟩ (d_i_State l G Γ H.size wt hT q_63) ⟨va_cnB 0 ht (tb_good (ts_good wd_229)) rfl rfl rfl (hK.2.1 _ wn_298 rfl) (ht _ wd_125) (by decide +kernel) ⟨Nat.le_of_ble_eq_true rfl, Nat.le_of_ble_eq_true rfl⟩, rfl, ht _ wd_228⟩ (gc_preS hK (tw_right hP) (tw_rightD hD)) rfl rfl hl.1 rfl (lv_room (Nat.le_of_ble_eq_true rfl)) dX3_init_40 ⟨Nat.le_of_ble_eq_true rfl, Nat.le_of_ble_eq_true rfl⟩) hP hD hS hA (fun u H locs hw hP hD hS => ?_)
  obtain ⟨Γ9, wt⟩ := u
  obtain ⟨hT, hkp, hxe, hk_65⟩ := hw
  have hW := hW.call (show ∀ x ∈ [], x ∈ [] by decide) hkp
  have hr_2 := hr_2.ext hxe (by decide)
  have hE := hE.tr hxe
  clear hxe
  obtain ⟨Γ, hΓ9⟩ : ∃ z, z = Γ9 := ⟨_, rfl⟩
  subst hΓ9
  have hP : va_P (gg_D G) classes ([(t, .inr (3, [.ref q_1, .int 0, .int 0])), (q_1, .inl (G.2.2 4, 20, .inr (.inr (.inr (.inr f_62)))))] ++ wt) H := hP
  have hD : va_D A ([(t, .inr (3, [.ref q_1, .int 0, .int 0])), (q_1, .inl (G.2.2 4, 20, .inr (.inr (.inr (.inr f_62)))))] ++ wt) := hD
  refine W.widen (k := 161) (n := 740) (Nat.le_of_ble_eq_true rfl) (Nat.le_of_ble_eq_true rfl) ?_
  obtain ⟨f_66, ef_66⟩ : ∃ z : Nat → Option Nat, va_up f_62 (Int32.toNatClampNeg 15) (some q_63) = z := ⟨_, rfl⟩
  refine tr_aast (we' := [(t, .inr (3, [.ref q_1, .int 0, .int 0])), (q_1, .inl (G.2.2 4, 20, .inr (.inr (.inr (.inr f_66)))))]) hx hb hK hT hP hD hS 1 4 7 rfl rfl hk_65 (by decide) rfl f_66 (by unfold vp_in; decide +kernel) ef_66 rfl dX3_init_43 (fun H locs hP hD hS => ?_)
  have hr_2 := hr_2.step hk_65 (show Int32.toNatClampNeg 15 = 15 by decide +kernel) ef_66
  refine lv_iinc (v := 16) (lv' := [(1, .int 16), (0, .ref t)]) hx hb dX3_init_44 hl (k := 0) rfl (by decide +kernel) (by decide) rfl (fun ls hl => ?_)
  refine lv_goto (tgt := 25) hx hb dX3_init_47 (by decide) ?_
  refine lv_iload_n hx hb dX3_init_25 rfl (lv_at hl 0 rfl) ?_
  refine lv_bipush (v := 20) hx hb dX3_init_26 (by decide +kernel) ?_
  refine lv_icmp_ge (tgt := 50) hx hb dX3_init_28 (by decide) (fun c0 => False.elim (by rw [Int32.le_iff_toInt_le] at c0; omega)) (fun _ => ?_)
  refine lv_aload_n hx hb dX3_init_31 rfl (lv_at hl 1 rfl) ?_
  refine gq_get hx hb ht hown hK hP i_X3 0 rfl rfl 0 (by decide) wd_299 rfl rfl dX3_init_32 ?_
  refine lv_iload_n hx hb dX3_init_35 rfl (lv_at hl 0 rfl) ?_
  refine gq_new (ci := 7) hx hb ht hown i_X7 tyX7 tyX7_ok wd_296 wd_226 wd_125 hK hP hD hS hA rfl [.null, .null, .null, .null, .null, .null, .null, .null, .null, .int 0] df_X7 162 750 (Nat.le_of_ble_eq_true rfl) (Nat.le_of_ble_eq_true rfl) (Nat.le_of_ble_eq_true rfl) (Nat.le_of_ble_eq_true rfl) dX3_init_36 (fun q_67 H hP hD hS => ?_)
  have hP : va_P (gg_D G) classes ([(t, .inr (3, [.ref q_1, .int 0, .int 0])), (q_1, .inl (G.2.2 4, 20, .inr (.inr (.inr (.inr f_66))))), (q_67, .inr (7, [.null, .null, .null, .null, .null, .null, .null, .null, .null, .int 0]))] ++ wt) H := tw_newP hP
  have hD : va_D A ([(t, .inr (3, [.ref q_1, .int 0, .int 0])), (q_1, .inl (G.2.2 4, 20, .inr (.inr (.inr (.inr f_66))))), (q_67, .inr (7, [.null, .null, .null, .null, .null, .null, .null, .null, .null, .int 0]))] ++ wt) := tw_newD hD
  refine lv_dup hx hb dX3_init_39 rfl ?_
  have hP : va_P (gg_D G) classes ([(t, .inr (3, [.ref q_1, .int 0, .int 0])), (q_1, .inl (G.2.2 4, 20, .inr (.inr (.inr (.inr f_66)))))] ++ ([(q_67, .inr (7, [.null, .null, .null, .null, .null, .null, .null, .null, .null, .int 0]))] ++ wt)) H := hP
  have hD : va_D A ([(t, .inr (3, [.ref q_1, .int 0, .int 0])), (q_1, .inl (G.2.2 4, 20, .inr (.inr (.inr (.inr f_66)))))] ++ ([(q_67, .inr (7, [.null, .null, .null, .null, .null, .null, .null, .null, .null, .int 0]))] ++ wt)) := hD
  refine gt_callV (wr := [(t, .inr (3, [.ref q_1, .int 0, .int 0])), (q_1, .inl (G.2.2 4, 20, .inr (.inr (.inr (.inr f_66)))))]) (va_runIN (As := []) (rest := [.ref q_67, .int 16, .ref q_1]) ⟨hx, hb, hml, hown, ht⟩ (d_i_State l G Γ H.size wt hT q_67) ⟨va_cnB 0 ht (tb_good (ts_good wd_229)) rfl rfl rfl (hK.2.1 _ wn_298 rfl) (ht _ wd_125) (by decide +kernel) ⟨Nat.le_of_ble_eq_true rfl, Nat.le_of_ble_eq_true rfl⟩, rfl, ht _ wd_228⟩ (gc_preS hK (tw_right hP) (tw_rightD hD)) rfl rfl hl.1 rfl (lv_room (Nat.le_of_ble_eq_true rfl)) dX3_init_40 ⟨Nat.le_of_ble_eq_true rfl, Nat.le_of_ble_eq_true rfl⟩) hP hD hS hA (fun u H locs hw hP hD hS => ?_)
  obtain ⟨Γ9, wt⟩ := u
  obtain ⟨hT, hkp, hxe, hk_69⟩ := hw
  have hW := hW.call (show ∀ x ∈ [], x ∈ [] by decide) hkp
  have hr_2 := hr_2.ext hxe (by decide)
  have hE := hE.tr hxe
  clear hxe
  obtain ⟨Γ, hΓ9⟩ : ∃ z, z = Γ9 := ⟨_, rfl⟩
  subst hΓ9
  have hP : va_P (gg_D G) classes ([(t, .inr (3, [.ref q_1, .int 0, .int 0])), (q_1, .inl (G.2.2 4, 20, .inr (.inr (.inr (.inr f_66)))))] ++ wt) H := hP
  have hD : va_D A ([(t, .inr (3, [.ref q_1, .int 0, .int 0])), (q_1, .inl (G.2.2 4, 20, .inr (.inr (.inr (.inr f_66)))))] ++ wt) := hD
  refine W.widen (k := 171) (n := 785) (Nat.le_of_ble_eq_true rfl) (Nat.le_of_ble_eq_true rfl) ?_
  obtain ⟨f_70, ef_70⟩ : ∃ z : Nat → Option Nat, va_up f_66 (Int32.toNatClampNeg 16) (some q_67) = z := ⟨_, rfl⟩
  refine tr_aast (we' := [(t, .inr (3, [.ref q_1, .int 0, .int 0])), (q_1, .inl (G.2.2 4, 20, .inr (.inr (.inr (.inr f_70)))))]) hx hb hK hT hP hD hS 1 4 7 rfl rfl hk_69 (by decide) rfl f_70 (by unfold vp_in; decide +kernel) ef_70 rfl dX3_init_43 (fun H locs hP hD hS => ?_)
  have hr_2 := hr_2.step hk_69 (show Int32.toNatClampNeg 16 = 16 by decide +kernel) ef_70
  refine lv_iinc (v := 17) (lv' := [(1, .int 17), (0, .ref t)]) hx hb dX3_init_44 hl (k := 0) rfl (by decide +kernel) (by decide) rfl (fun ls hl => ?_)
  refine lv_goto (tgt := 25) hx hb dX3_init_47 (by decide) ?_
  refine lv_iload_n hx hb dX3_init_25 rfl (lv_at hl 0 rfl) ?_
  refine lv_bipush (v := 20) hx hb dX3_init_26 (by decide +kernel) ?_
  refine lv_icmp_ge (tgt := 50) hx hb dX3_init_28 (by decide) (fun c0 => False.elim (by rw [Int32.le_iff_toInt_le] at c0; omega)) (fun _ => ?_)
  refine lv_aload_n hx hb dX3_init_31 rfl (lv_at hl 1 rfl) ?_
  refine gq_get hx hb ht hown hK hP i_X3 0 rfl rfl 0 (by decide) wd_299 rfl rfl dX3_init_32 ?_
  refine lv_iload_n hx hb dX3_init_35 rfl (lv_at hl 0 rfl) ?_
  refine gq_new (ci := 7) hx hb ht hown i_X7 tyX7 tyX7_ok wd_296 wd_226 wd_125 hK hP hD hS hA rfl [.null, .null, .null, .null, .null, .null, .null, .null, .null, .int 0] df_X7 172 795 (Nat.le_of_ble_eq_true rfl) (Nat.le_of_ble_eq_true rfl) (Nat.le_of_ble_eq_true rfl) (Nat.le_of_ble_eq_true rfl) dX3_init_36 (fun q_71 H hP hD hS => ?_)
  have hP : va_P (gg_D G) classes ([(t, .inr (3, [.ref q_1, .int 0, .int 0])), (q_1, .inl (G.2.2 4, 20, .inr (.inr (.inr (.inr f_70))))), (q_71, .inr (7, [.null, .null, .null, .null, .null, .null, .null, .null, .null, .int 0]))] ++ wt) H := tw_newP hP
  have hD : va_D A ([(t, .inr (3, [.ref q_1, .int 0, .int 0])), (q_1, .inl (G.2.2 4, 20, .inr (.inr (.inr (.inr f_70))))), (q_71, .inr (7, [.null, .null, .null, .null, .null, .null, .null, .null, .null, .int 0]))] ++ wt) := tw_newD hD
  refine lv_dup hx hb dX3_init_39 rfl ?_
  have hP : va_P (gg_D G) classes ([(t, .inr (3, [.ref q_1, .int 0, .int 0])), (q_1, .inl (G.2.2 4, 20, .inr (.inr (.inr (.inr f_70)))))] ++ ([(q_71, .inr (7, [.null, .null, .null, .null, .null, .null, .null, .null, .null, .int 0]))] ++ wt)) H := hP
  have hD : va_D A ([(t, .inr (3, [.ref q_1, .int 0, .int 0])), (q_1, .inl (G.2.2 4, 20, .inr (.inr (.inr (.inr f_70)))))] ++ ([(q_71, .inr (7, [.null, .null, .null, .null, .null, .null, .null, .null, .null, .int 0]))] ++ wt)) := hD
  refine gt_callV (wr := [(t, .inr (3, [.ref q_1, .int 0, .int 0])), (q_1, .inl (G.2.2 4, 20, .inr (.inr (.inr (.inr f_70)))))]) (va_runIN (As := []) (rest := [.ref q_71, .int 17, .ref q_1]) ⟨hx, hb, hml, hown, ht⟩ (d_i_State l G Γ H.size wt hT q_71) ⟨va_cnB 0 ht (tb_good (ts_good wd_229)) rfl rfl rfl (hK.2.1 _ wn_298 rfl) (ht _ wd_125) (by decide +kernel) ⟨Nat.le_of_ble_eq_true rfl, Nat.le_of_ble_eq_true rfl⟩, rfl, ht _ wd_228⟩ (gc_preS hK (tw_right hP) (tw_rightD hD)) rfl rfl hl.1 rfl (lv_room (Nat.le_of_ble_eq_true rfl)) dX3_init_40 ⟨Nat.le_of_ble_eq_true rfl, Nat.le_of_ble_eq_true rfl⟩) hP hD hS hA (fun u H locs hw hP hD hS => ?_)
  obtain ⟨Γ9, wt⟩ := u
  obtain ⟨hT, hkp, hxe, hk_73⟩ := hw
  have hW := hW.call (show ∀ x ∈ [], x ∈ [] by decide) hkp
  have hr_2 := hr_2.ext hxe (by decide)
  have hE := hE.tr hxe
  clear hxe
  obtain ⟨Γ, hΓ9⟩ : ∃ z, z = Γ9 := ⟨_, rfl⟩
  subst hΓ9
  have hP : va_P (gg_D G) classes ([(t, .inr (3, [.ref q_1, .int 0, .int 0])), (q_1, .inl (G.2.2 4, 20, .inr (.inr (.inr (.inr f_70)))))] ++ wt) H := hP
  have hD : va_D A ([(t, .inr (3, [.ref q_1, .int 0, .int 0])), (q_1, .inl (G.2.2 4, 20, .inr (.inr (.inr (.inr f_70)))))] ++ wt) := hD
  refine W.widen (k := 181) (n := 830) (Nat.le_of_ble_eq_true rfl) (Nat.le_of_ble_eq_true rfl) ?_
  obtain ⟨f_74, ef_74⟩ : ∃ z : Nat → Option Nat, va_up f_70 (Int32.toNatClampNeg 17) (some q_71) = z := ⟨_, rfl⟩
  refine tr_aast (we' := [(t, .inr (3, [.ref q_1, .int 0, .int 0])), (q_1, .inl (G.2.2 4, 20, .inr (.inr (.inr (.inr f_74)))))]) hx hb hK hT hP hD hS 1 4 7 rfl rfl hk_73 (by decide) rfl f_74 (by unfold vp_in; decide +kernel) ef_74 rfl dX3_init_43 (fun H locs hP hD hS => ?_)
  have hr_2 := hr_2.step hk_73 (show Int32.toNatClampNeg 17 = 17 by decide +kernel) ef_74
  refine lv_iinc (v := 18) (lv' := [(1, .int 18), (0, .ref t)]) hx hb dX3_init_44 hl (k := 0) rfl (by decide +kernel) (by decide) rfl (fun ls hl => ?_)
  refine lv_goto (tgt := 25) hx hb dX3_init_47 (by decide) ?_
  refine lv_iload_n hx hb dX3_init_25 rfl (lv_at hl 0 rfl) ?_
  refine lv_bipush (v := 20) hx hb dX3_init_26 (by decide +kernel) ?_
  refine lv_icmp_ge (tgt := 50) hx hb dX3_init_28 (by decide) (fun c0 => False.elim (by rw [Int32.le_iff_toInt_le] at c0; omega)) (fun _ => ?_)
  refine lv_aload_n hx hb dX3_init_31 rfl (lv_at hl 1 rfl) ?_
  refine gq_get hx hb ht hown hK hP i_X3 0 rfl rfl 0 (by decide) wd_299 rfl rfl dX3_init_32 ?_
  refine lv_iload_n hx hb dX3_init_35 rfl (lv_at hl 0 rfl) ?_
  refine gq_new (ci := 7) hx hb ht hown i_X7 tyX7 tyX7_ok wd_296 wd_226 wd_125 hK hP hD hS hA rfl [.null, .null, .null, .null, .null, .null, .null, .null, .null, .int 0] df_X7 182 840 (Nat.le_of_ble_eq_true rfl) (Nat.le_of_ble_eq_true rfl) (Nat.le_of_ble_eq_true rfl) (Nat.le_of_ble_eq_true rfl) dX3_init_36 (fun q_75 H hP hD hS => ?_)
  have hP : va_P (gg_D G) classes ([(t, .inr (3, [.ref q_1, .int 0, .int 0])), (q_1, .inl (G.2.2 4, 20, .inr (.inr (.inr (.inr f_74))))), (q_75, .inr (7, [.null, .null, .null, .null, .null, .null, .null, .null, .null, .int 0]))] ++ wt) H := tw_newP hP
  have hD : va_D A ([(t, .inr (3, [.ref q_1, .int 0, .int 0])), (q_1, .inl (G.2.2 4, 20, .inr (.inr (.inr (.inr f_74))))), (q_75, .inr (7, [.null, .null, .null, .null, .null, .null, .null, .null, .null, .int 0]))] ++ wt) := tw_newD hD
  refine lv_dup hx hb dX3_init_39 rfl ?_
  have hP : va_P (gg_D G) classes ([(t, .inr (3, [.ref q_1, .int 0, .int 0])), (q_1, .inl (G.2.2 4, 20, .inr (.inr (.inr (.inr f_74)))))] ++ ([(q_75, .inr (7, [.null, .null, .null, .null, .null, .null, .null, .null, .null, .int 0]))] ++ wt)) H := hP
  have hD : va_D A ([(t, .inr (3, [.ref q_1, .int 0, .int 0])), (q_1, .inl (G.2.2 4, 20, .inr (.inr (.inr (.inr f_74)))))] ++ ([(q_75, .inr (7, [.null, .null, .null, .null, .null, .null, .null, .null, .null, .int 0]))] ++ wt)) := hD
  refine gt_callV (wr := [(t, .inr (3, [.ref q_1, .int 0, .int 0])), (q_1, .inl (G.2.2 4, 20, .inr (.inr (.inr (.inr f_74)))))]) (va_runIN (As := []) (rest := [.ref q_75, .int 18, .ref q_1]) ⟨hx, hb, hml, hown, ht⟩ (d_i_State l G Γ H.size wt hT q_75) ⟨va_cnB 0 ht (tb_good (ts_good wd_229)) rfl rfl rfl (hK.2.1 _ wn_298 rfl) (ht _ wd_125) (by decide +kernel) ⟨Nat.le_of_ble_eq_true rfl, Nat.le_of_ble_eq_true rfl⟩, rfl, ht _ wd_228⟩ (gc_preS hK (tw_right hP) (tw_rightD hD)) rfl rfl hl.1 rfl (lv_room (Nat.le_of_ble_eq_true rfl)) dX3_init_40 ⟨Nat.le_of_ble_eq_true rfl, Nat.le_of_ble_eq_true rfl⟩) hP hD hS hA (fun u H locs hw hP hD hS => ?_)
  obtain ⟨Γ9, wt⟩ := u
  obtain ⟨hT, hkp, hxe, hk_77⟩ := hw
  have hW := hW.call (show ∀ x ∈ [], x ∈ [] by decide) hkp
  have hr_2 := hr_2.ext hxe (by decide)
  have hE := hE.tr hxe
  clear hxe
  obtain ⟨Γ, hΓ9⟩ : ∃ z, z = Γ9 := ⟨_, rfl⟩
  subst hΓ9
  have hP : va_P (gg_D G) classes ([(t, .inr (3, [.ref q_1, .int 0, .int 0])), (q_1, .inl (G.2.2 4, 20, .inr (.inr (.inr (.inr f_74)))))] ++ wt) H := hP
  have hD : va_D A ([(t, .inr (3, [.ref q_1, .int 0, .int 0])), (q_1, .inl (G.2.2 4, 20, .inr (.inr (.inr (.inr f_74)))))] ++ wt) := hD
  refine W.widen (k := 191) (n := 875) (Nat.le_of_ble_eq_true rfl) (Nat.le_of_ble_eq_true rfl) ?_
  obtain ⟨f_78, ef_78⟩ : ∃ z : Nat → Option Nat, va_up f_74 (Int32.toNatClampNeg 18) (some q_75) = z := ⟨_, rfl⟩
  refine tr_aast (we' := [(t, .inr (3, [.ref q_1, .int 0, .int 0])), (q_1, .inl (G.2.2 4, 20, .inr (.inr (.inr (.inr f_78)))))]) hx hb hK hT hP hD hS 1 4 7 rfl rfl hk_77 (by decide) rfl f_78 (by unfold vp_in; decide +kernel) ef_78 rfl dX3_init_43 (fun H locs hP hD hS => ?_)
  have hr_2 := hr_2.step hk_77 (show Int32.toNatClampNeg 18 = 18 by decide +kernel) ef_78
  refine lv_iinc (v := 19) (lv' := [(1, .int 19), (0, .ref t)]) hx hb dX3_init_44 hl (k := 0) rfl (by decide +kernel) (by decide) rfl (fun ls hl => ?_)
  refine lv_goto (tgt := 25) hx hb dX3_init_47 (by decide) ?_
  refine lv_iload_n hx hb dX3_init_25 rfl (lv_at hl 0 rfl) ?_
  refine lv_bipush (v := 20) hx hb dX3_init_26 (by decide +kernel) ?_
  refine lv_icmp_ge (tgt := 50) hx hb dX3_init_28 (by decide) (fun c0 => False.elim (by rw [Int32.le_iff_toInt_le] at c0; omega)) (fun _ => ?_)
  refine lv_aload_n hx hb dX3_init_31 rfl (lv_at hl 1 rfl) ?_
  refine gq_get hx hb ht hown hK hP i_X3 0 rfl rfl 0 (by decide) wd_299 rfl rfl dX3_init_32 ?_
  refine lv_iload_n hx hb dX3_init_35 rfl (lv_at hl 0 rfl) ?_
  refine gq_new (ci := 7) hx hb ht hown i_X7 tyX7 tyX7_ok wd_296 wd_226 wd_125 hK hP hD hS hA rfl [.null, .null, .null, .null, .null, .null, .null, .null, .null, .int 0] df_X7 192 885 (Nat.le_of_ble_eq_true rfl) (Nat.le_of_ble_eq_true rfl) (Nat.le_of_ble_eq_true rfl) (Nat.le_of_ble_eq_true rfl) dX3_init_36 (fun q_79 H hP hD hS => ?_)
  have hP : va_P (gg_D G) classes ([(t, .inr (3, [.ref q_1, .int 0, .int 0])), (q_1, .inl (G.2.2 4, 20, .inr (.inr (.inr (.inr f_78))))), (q_79, .inr (7, [.null, .null, .null, .null, .null, .null, .null, .null, .null, .int 0]))] ++ wt) H := tw_newP hP
  have hD : va_D A ([(t, .inr (3, [.ref q_1, .int 0, .int 0])), (q_1, .inl (G.2.2 4, 20, .inr (.inr (.inr (.inr f_78))))), (q_79, .inr (7, [.null, .null, .null, .null, .null, .null, .null, .null, .null, .int 0]))] ++ wt) := tw_newD hD
  refine lv_dup hx hb dX3_init_39 rfl ?_
  have hP : va_P (gg_D G) classes ([(t, .inr (3, [.ref q_1, .int 0, .int 0])), (q_1, .inl (G.2.2 4, 20, .inr (.inr (.inr (.inr f_78)))))] ++ ([(q_79, .inr (7, [.null, .null, .null, .null, .null, .null, .null, .null, .null, .int 0]))] ++ wt)) H := hP
  have hD : va_D A ([(t, .inr (3, [.ref q_1, .int 0, .int 0])), (q_1, .inl (G.2.2 4, 20, .inr (.inr (.inr (.inr f_78)))))] ++ ([(q_79, .inr (7, [.null, .null, .null, .null, .null, .null, .null, .null, .null, .int 0]))] ++ wt)) := hD
  refine gt_callV (wr := [(t, .inr (3, [.ref q_1, .int 0, .int 0])), (q_1, .inl (G.2.2 4, 20, .inr (.inr (.inr (.inr f_78)))))]) (va_runIN (As := []) (rest := [.ref q_79, .int 19, .ref q_1]) ⟨hx, hb, hml, hown, ht⟩ (d_i_State l G Γ H.size wt hT q_79) ⟨va_cnB 0 ht (tb_good (ts_good wd_229)) rfl rfl rfl (hK.2.1 _ wn_298 rfl) (ht _ wd_125) (by decide +kernel) ⟨Nat.le_of_ble_eq_true rfl, Nat.le_of_ble_eq_true rfl⟩, rfl, ht _ wd_228⟩ (gc_preS hK (tw_right hP) (tw_rightD hD)) rfl rfl hl.1 rfl (lv_room (Nat.le_of_ble_eq_true rfl)) dX3_init_40 ⟨Nat.le_of_ble_eq_true rfl, Nat.le_of_ble_eq_true rfl⟩) hP hD hS hA (fun u H locs hw hP hD hS => ?_)
  obtain ⟨Γ9, wt⟩ := u
  obtain ⟨hT, hkp, hxe, hk_81⟩ := hw
  have hW := hW.call (show ∀ x ∈ [], x ∈ [] by decide) hkp
  have hr_2 := hr_2.ext hxe (by decide)
  have hE := hE.tr hxe
  clear hxe
  obtain ⟨Γ, hΓ9⟩ : ∃ z, z = Γ9 := ⟨_, rfl⟩
  subst hΓ9
  have hP : va_P (gg_D G) classes ([(t, .inr (3, [.ref q_1, .int 0, .int 0])), (q_1, .inl (G.2.2 4, 20, .inr (.inr (.inr (.inr f_78)))))] ++ wt) H := hP
  have hD : va_D A ([(t, .inr (3, [.ref q_1, .int 0, .int 0])), (q_1, .inl (G.2.2 4, 20, .inr (.inr (.inr (.inr f_78)))))] ++ wt) := hD
  refine W.widen (k := 201) (n := 920) (Nat.le_of_ble_eq_true rfl) (Nat.le_of_ble_eq_true rfl) ?_
  obtain ⟨f_82, ef_82⟩ : ∃ z : Nat → Option Nat, va_up f_78 (Int32.toNatClampNeg 19) (some q_79) = z := ⟨_, rfl⟩
  refine tr_aast (we' := [(t, .inr (3, [.ref q_1, .int 0, .int 0])), (q_1, .inl (G.2.2 4, 20, .inr (.inr (.inr (.inr f_82)))))]) hx hb hK hT hP hD hS 1 4 7 rfl rfl hk_81 (by decide) rfl f_82 (by unfold vp_in; decide +kernel) ef_82 rfl dX3_init_43 (fun H locs hP hD hS => ?_)
  have hr_2 := hr_2.step hk_81 (show Int32.toNatClampNeg 19 = 19 by decide +kernel) ef_82
  refine lv_iinc (v := 20) (lv' := [(1, .int 20), (0, .ref t)]) hx hb dX3_init_44 hl (k := 0) rfl (by decide +kernel) (by decide) rfl (fun ls hl => ?_)
  refine lv_goto (tgt := 25) hx hb dX3_init_47 (by decide) ?_
  refine lv_iload_n hx hb dX3_init_25 rfl (lv_at hl 0 rfl) ?_
  refine lv_bipush (v := 20) hx hb dX3_init_26 (by decide +kernel) ?_
  refine lv_icmp_ge (tgt := 50) hx hb dX3_init_28 (by decide) (fun _ => ?_) (fun c0 => False.elim (by rw [Int32.le_iff_toInt_le] at c0; omega))
  have hP : va_P (gg_D G) classes ([(t, .inr (3, [.ref q_1, .int 0, .int 0]))] ++ ((q_1, .inl (G.2.2 4, 20, .inr (.inr (.inr (.inr f_82))))) :: wt)) H := hP
  have hD : va_D A ([(t, .inr (3, [.ref q_1, .int 0, .int 0]))] ++ ((q_1, .inl (G.2.2 4, 20, .inr (.inr (.inr (.inr f_82))))) :: wt)) := hD
  obtain ⟨Γ9, w9, hwe, hxe, hk_83, hT, hkp⟩ := tk_take (k := 40) hT hD (by decide) (show tk_en G Γ 40 _ from ⟨by decide, rfl, rfl, hr_2⟩)
  rw [hwe] at hP hD
  clear hwe
  have hW := hW.call (show ∀ x ∈ ([] : List Nat), x ∈ [] by decide) hkp
  have hE := hE.tr hxe
  clear hxe
  obtain ⟨Γ, hΓ9⟩ : ∃ z, z = Γ9 := ⟨_, rfl⟩
  subst hΓ9
  obtain ⟨wt, hw9⟩ : ∃ z, z = w9 := ⟨_, rfl⟩
  subst hw9
  have hP : va_P (gg_D G) classes ([] ++ ((t, .inr (3, [.ref q_1, .int 0, .int 0])) :: wt)) H := hP
  have hD : va_D A ([] ++ ((t, .inr (3, [.ref q_1, .int 0, .int 0])) :: wt)) := hD
  obtain ⟨Γ9, w9, hwe, hxe, hk_84, hT, hkp⟩ := tk_take (k := 4) hT hD (by decide) (show tk_en G Γ 4 _ from (tk_mko rfl rfl ⟨⟨_, rfl, hk_83⟩, ⟨_, rfl, by omega, by omega⟩, ⟨_, rfl, by omega, by omega⟩, trivial⟩))
  rw [hwe] at hP hD
  clear hwe
  have hW := hW.call (show ∀ x ∈ ([] : List Nat), x ∈ [] by decide) hkp
  have hE := hE.tr hxe
  clear hxe
  obtain ⟨Γ, hΓ9⟩ : ∃ z, z = Γ9 := ⟨_, rfl⟩
  subst hΓ9
  obtain ⟨wt, hw9⟩ : ∃ z, z = w9 := ⟨_, rfl⟩
  subst hw9
  have hP9 : va_P (gg_D G) classes wt _ := hP
  have hD9 : va_D A wt := hD
  exact W.vret hx hb hr (gq_endV (Γ, wt) ⟨hT, hW, hE, hk_84⟩ hP9 hD9 hS) hS.2.2 dX3_init_50
set_option maxHeartbeats 4000000 in
set_option maxRecDepth 100000 in
theorem d_i_Image (l : Launch) (G : gg_T) (Γ : Nat → Nat) (sz : Nat) (wt : va_W) (hT : tk_ty G Γ wt) (t : Nat) : Met l yX1_init (ts_L yX1_init cX1_init 1 none) ({ frames := 2, cells := 20, slots := 119, locals := 32 }) (gc_P G ([(t, .inr (1, [.null, .null, .null, .int 0, .int 0, .int 0]))] ++ wt) sz [.ref t]) (gc_V G (va_A ([(t, .inr (1, [.null, .null, .null, .int 0, .int 0, .int 0]))] ++ wt) sz) (fun (u : (Nat → Nat) × va_W) => match u with | (Γ1, wt1) => tk_ty G Γ1 wt1 ∧ tk_kp [] wt wt1 ∧ tk_ext Γ Γ1 ∧ Γ1 t = 2 ∧ (tk_fl wt1 t 1 3 (.int 0)) ∧ (tk_fl wt1 t 1 5 (.int 0))) (fun (u : (Nat → Nat) × va_W) => match u with | (Γ1, wt1) => wt1)) 20 119 (va_A ([(t, .inr (1, [.null, .null, .null, .int 0, .int 0, .int 0]))] ++ wt) sz) := by
  refine Met.ofW (cc := cX1_init) (maxL := 1) (ret := none) (by decide) rfl ?_
  intro p e s m args below meth c s₁ B hml hv
  obtain ⟨rfl, hsz, hP, hK, hD0⟩ := hv
  have hx := B.exec
  have hb := B.bytes
  have hr := B.returns
  have ht := ts_ht (atoms_spec (ws := ts_L yX1_init cX1_init 1 none) B.pre)
  have hown : s.vm.findClass RX1 = some m.cls := findClass_of_methodNamed B.named
  have hlocks := B.notSynchronized
  subst hsz
  have hD := hD0.self (sz := s.heap.size)
  generalize hAe : va_A ([(t, .inr (1, [.null, .null, .null, .int 0, .int 0, .int 0]))] ++ wt) s.heap.size = A at hD ⊢
  have hA : ∀ q : Nat, s.heap.size ≤ q → A q := fun q h => by rw [← hAe]; exact Or.inr h
  clear hAe hD0
  have hS : va_S A s.heap s.heap [] := va_S.rf
  obtain ⟨w0, hw0⟩ : ∃ z, z = wt := ⟨_, rfl⟩
  have hW : tk_kp [] w0 wt := by rw [hw0]; exact tk_kp.rf
  rw [← hw0]
  clear hw0
  have hin : meth.name = "<init>" := (name_of_methodNamed B.named B.method).1
  obtain ⟨Γ0, hΓ0⟩ : ∃ z, z = Γ := ⟨_, rfl⟩
  have hE : tk_ext Γ0 Γ := by rw [hΓ0]; exact tk_ext.rf
  rw [← hΓ0]
  clear hΓ0
  have hP : va_P (gg_D G) classes ([(t, .inr (1, [.null, .null, .null, .int 0, .int 0, .int 0]))] ++ wt) s.heap := hP
  have hD : va_D A ([(t, .inr (1, [.null, .null, .null, .int 0, .int 0, .int 0]))] ++ wt) := hD
  have hl := lv_entry ([.ref t]) (n := 1) (Nat.le_of_ble_eq_true rfl)
  rw [lg_entry_eq]
  generalize (lg_sl ([.ref t]) ++ List.replicate (1 - (lg_sl ([.ref t])).length) Slot.unset).toArray = ls at hl ⊢
  have hl : lv_has ls 1 [(0, .ref t)] := hl
  have lm1 : ((-1) : Int32).toInt = -1 := by decide +kernel
  have l0 : (0 : Int32).toInt = 0 := by decide +kernel
  refine lv_aload_n hx hb dX1_init_0 rfl (lv_at hl 0 rfl) ?_
  refine W.objInit hx hb hown (ht _ wd_372) (ht _ wd_148) (ht _ wd_149) rfl (by rw [hml]; exact hl.1) rfl dX1_init_1 (Nat.le_of_ble_eq_true rfl) (Nat.le_of_ble_eq_true rfl) ?_
  refine W.eq (g2 := F0 m 4 ls []) rfl ?_
  refine lv_aload_n hx hb dX1_init_4 rfl (lv_at hl 0 rfl) ?_
  refine gq_new (ci := 9) hx hb ht hown i_X9 tyX9 tyX9_ok wd_373 wd_174 wd_124 hK hP hD hS hA rfl [.int 0, .int 0, .int 0, .int 0, .null, .null, .null, .null, .null] df_X9 1 9 (Nat.le_of_ble_eq_true rfl) (Nat.le_of_ble_eq_true rfl) (Nat.le_of_ble_eq_true rfl) (Nat.le_of_ble_eq_true rfl) dX1_init_5 (fun q_1 H hP hD hS => ?_)
  have hP : va_P (gg_D G) classes ([(t, .inr (1, [.null, .null, .null, .int 0, .int 0, .int 0])), (q_1, .inr (9, [.int 0, .int 0, .int 0, .int 0, .null, .null, .null, .null, .null]))] ++ wt) H := tw_newP hP
  have hD : va_D A ([(t, .inr (1, [.null, .null, .null, .int 0, .int 0, .int 0])), (q_1, .inr (9, [.int 0, .int 0, .int 0, .int 0, .null, .null, .null, .null, .null]))] ++ wt) := tw_newD hD
  refine lv_dup hx hb dX1_init_8 rfl ?_
  have hP : va_P (gg_D G) classes ([(t, .inr (1, [.null, .null, .null, .int 0, .int 0, .int 0]))] ++ ([(q_1, .inr (9, [.int 0, .int 0, .int 0, .int 0, .null, .null, .null, .null, .null]))] ++ wt)) H := hP
  have hD : va_D A ([(t, .inr (1, [.null, .null, .null, .int 0, .int 0, .int 0]))] ++ ([(q_1, .inr (9, [.int 0, .int 0, .int 0, .int 0, .null, .null, .null, .null, .null]))] ++ wt)) := hD
  refine gt_callV (wr := [(t, .inr (1, [.null, .null, .null, .int 0, .int 0, .int 0]))]) (va_runIN (As := []) (rest := [.ref q_1, .ref t]) ⟨hx, hb, hml, hown, ht⟩ (d_i_Terms l G Γ H.size wt hT q_1) ⟨va_cnB 0 ht (tb_good (ts_good wd_177)) rfl rfl rfl (hK.2.1 _ wn_374 rfl) (ht _ wd_124) (by decide +kernel) ⟨Nat.le_of_ble_eq_true rfl, Nat.le_of_ble_eq_true rfl⟩, rfl, ht _ wd_176⟩ (gc_preS hK (tw_right hP) (tw_rightD hD)) rfl rfl hl.1 rfl (lv_room (Nat.le_of_ble_eq_true rfl)) dX1_init_9 ⟨Nat.le_of_ble_eq_true rfl, Nat.le_of_ble_eq_true rfl⟩) hP hD hS hA (fun u H locs hw hP hD hS => ?_)
  obtain ⟨Γ9, wt⟩ := u
  obtain ⟨hT, hkp, hxe, hk_3⟩ := hw
  have hW := hW.call (show ∀ x ∈ [], x ∈ [] by decide) hkp
  have hE := hE.tr hxe
  clear hxe
  obtain ⟨Γ, hΓ9⟩ : ∃ z, z = Γ9 := ⟨_, rfl⟩
  subst hΓ9
  have hP : va_P (gg_D G) classes ([(t, .inr (1, [.null, .null, .null, .int 0, .int 0, .int 0]))] ++ wt) H := hP
  have hD : va_D A ([(t, .inr (1, [.null, .null, .null, .int 0, .int 0, .int 0]))] ++ wt) := hD
  refine W.widen (k := 6) (n := 40) (Nat.le_of_ble_eq_true rfl) (Nat.le_of_ble_eq_true rfl) ?_
  refine gq_putF (ws' := [(t, .inr (1, [.ref q_1, .null, .null, .int 0, .int 0, .int 0]))] ++ wt) hx hb ht hown hin hK hP hD hS i_X1 tyX1 tyX1_ok nmX1 0 rfl rfl 0 (by decide) wd_379 rfl rfl rfl rfl (Nat.le_of_ble_eq_true rfl) rfl dX1_init_12 (fun H locs hP hD hS => ?_)
  refine lv_aload_n hx hb dX1_init_15 rfl (lv_at hl 0 rfl) ?_
  refine gq_new (ci := 7) hx hb ht hown i_X7 tyX7 tyX7_ok wd_375 wd_226 wd_125 hK hP hD hS hA rfl [.null, .null, .null, .null, .null, .null, .null, .null, .null, .int 0] df_X7 7 50 (Nat.le_of_ble_eq_true rfl) (Nat.le_of_ble_eq_true rfl) (Nat.le_of_ble_eq_true rfl) (Nat.le_of_ble_eq_true rfl) dX1_init_16 (fun q_4 H hP hD hS => ?_)
  have hP : va_P (gg_D G) classes ([(t, .inr (1, [.ref q_1, .null, .null, .int 0, .int 0, .int 0])), (q_4, .inr (7, [.null, .null, .null, .null, .null, .null, .null, .null, .null, .int 0]))] ++ wt) H := tw_newP hP
  have hD : va_D A ([(t, .inr (1, [.ref q_1, .null, .null, .int 0, .int 0, .int 0])), (q_4, .inr (7, [.null, .null, .null, .null, .null, .null, .null, .null, .null, .int 0]))] ++ wt) := tw_newD hD
  refine lv_dup hx hb dX1_init_19 rfl ?_
  have hP : va_P (gg_D G) classes ([(t, .inr (1, [.ref q_1, .null, .null, .int 0, .int 0, .int 0]))] ++ ([(q_4, .inr (7, [.null, .null, .null, .null, .null, .null, .null, .null, .null, .int 0]))] ++ wt)) H := hP
  have hD : va_D A ([(t, .inr (1, [.ref q_1, .null, .null, .int 0, .int 0, .int 0]))] ++ ([(q_4, .inr (7, [.null, .null, .null, .null, .null, .null, .null, .null, .null, .int 0]))] ++ wt)) := hD
  refine gt_callV (wr := [(t, .inr (1, [.ref q_1, .null, .null, .int 0, .int 0, .int 0]))]) (va_runIN (As := []) (rest := [.ref q_4, .ref t]) ⟨hx, hb, hml, hown, ht⟩ (d_i_State l G Γ H.size wt hT q_4) ⟨va_cnB 0 ht (tb_good (ts_good wd_229)) rfl rfl rfl (hK.2.1 _ wn_376 rfl) (ht _ wd_125) (by decide +kernel) ⟨Nat.le_of_ble_eq_true rfl, Nat.le_of_ble_eq_true rfl⟩, rfl, ht _ wd_228⟩ (gc_preS hK (tw_right hP) (tw_rightD hD)) rfl rfl hl.1 rfl (lv_room (Nat.le_of_ble_eq_true rfl)) dX1_init_20 ⟨Nat.le_of_ble_eq_true rfl, Nat.le_of_ble_eq_true rfl⟩) hP hD hS hA (fun u H locs hw hP hD hS => ?_)
  obtain ⟨Γ9, wt⟩ := u
  obtain ⟨hT, hkp, hxe, hk_6⟩ := hw
  have hW := hW.call (show ∀ x ∈ [], x ∈ [] by decide) hkp
  have hk_3 := hxe.of (by decide) hk_3
  have hE := hE.tr hxe
  clear hxe
  obtain ⟨Γ, hΓ9⟩ : ∃ z, z = Γ9 := ⟨_, rfl⟩
  subst hΓ9
  have hP : va_P (gg_D G) classes ([(t, .inr (1, [.ref q_1, .null, .null, .int 0, .int 0, .int 0]))] ++ wt) H := hP
  have hD : va_D A ([(t, .inr (1, [.ref q_1, .null, .null, .int 0, .int 0, .int 0]))] ++ wt) := hD
  refine W.widen (k := 16) (n := 85) (Nat.le_of_ble_eq_true rfl) (Nat.le_of_ble_eq_true rfl) ?_
  refine gq_putF (ws' := [(t, .inr (1, [.ref q_1, .ref q_4, .null, .int 0, .int 0, .int 0]))] ++ wt) hx hb ht hown hin hK hP hD hS i_X1 tyX1 tyX1_ok nmX1 0 rfl rfl 1 (by decide) wd_380 rfl rfl rfl rfl (Nat.le_of_ble_eq_true rfl) rfl dX1_init_23 (fun H locs hP hD hS => ?_)
  refine lv_aload_n hx hb dX1_init_26 rfl (lv_at hl 0 rfl) ?_
  refine gq_new (ci := 2) hx hb ht hown i_X2 tyX2 tyX2_ok wd_377 wd_311 wd_127 hK hP hD hS hA rfl [.null, .null, .null, .int 0] df_X2 17 89 (Nat.le_of_ble_eq_true rfl) (Nat.le_of_ble_eq_true rfl) (Nat.le_of_ble_eq_true rfl) (Nat.le_of_ble_eq_true rfl) dX1_init_27 (fun q_7 H hP hD hS => ?_)
  have hP : va_P (gg_D G) classes ([(t, .inr (1, [.ref q_1, .ref q_4, .null, .int 0, .int 0, .int 0])), (q_7, .inr (2, [.null, .null, .null, .int 0]))] ++ wt) H := tw_newP hP
  have hD : va_D A ([(t, .inr (1, [.ref q_1, .ref q_4, .null, .int 0, .int 0, .int 0])), (q_7, .inr (2, [.null, .null, .null, .int 0]))] ++ wt) := tw_newD hD
  refine lv_dup hx hb dX1_init_30 rfl ?_
  have hP : va_P (gg_D G) classes ([(t, .inr (1, [.ref q_1, .ref q_4, .null, .int 0, .int 0, .int 0]))] ++ ([(q_7, .inr (2, [.null, .null, .null, .int 0]))] ++ wt)) H := hP
  have hD : va_D A ([(t, .inr (1, [.ref q_1, .ref q_4, .null, .int 0, .int 0, .int 0]))] ++ ([(q_7, .inr (2, [.null, .null, .null, .int 0]))] ++ wt)) := hD
  refine gt_callV (wr := [(t, .inr (1, [.ref q_1, .ref q_4, .null, .int 0, .int 0, .int 0]))]) (va_runIN (As := []) (rest := [.ref q_7, .ref t]) ⟨hx, hb, hml, hown, ht⟩ (d_i_Logs l G Γ H.size wt hT q_7) ⟨va_cnB 0 ht (tb_good (ts_good wd_314)) rfl rfl rfl (hK.2.1 _ wn_378 rfl) (ht _ wd_127) (by decide +kernel) ⟨Nat.le_of_ble_eq_true rfl, Nat.le_of_ble_eq_true rfl⟩, rfl, ht _ wd_313⟩ (gc_preS hK (tw_right hP) (tw_rightD hD)) rfl rfl hl.1 rfl (lv_room (Nat.le_of_ble_eq_true rfl)) dX1_init_31 ⟨Nat.le_of_ble_eq_true rfl, Nat.le_of_ble_eq_true rfl⟩) hP hD hS hA (fun u H locs hw hP hD hS => ?_)
  obtain ⟨Γ9, wt⟩ := u
  obtain ⟨hT, hkp, hxe, hk_9⟩ := hw
  have hW := hW.call (show ∀ x ∈ [], x ∈ [] by decide) hkp
  have hk_3 := hxe.of (by decide) hk_3
  have hk_6 := hxe.of (by decide) hk_6
  have hE := hE.tr hxe
  clear hxe
  obtain ⟨Γ, hΓ9⟩ : ∃ z, z = Γ9 := ⟨_, rfl⟩
  subst hΓ9
  have hP : va_P (gg_D G) classes ([(t, .inr (1, [.ref q_1, .ref q_4, .null, .int 0, .int 0, .int 0]))] ++ wt) H := hP
  have hD : va_D A ([(t, .inr (1, [.ref q_1, .ref q_4, .null, .int 0, .int 0, .int 0]))] ++ wt) := hD
  refine W.widen (k := 20) (n := 119) (Nat.le_of_ble_eq_true rfl) (Nat.le_of_ble_eq_true rfl) ?_
  refine gq_putF (ws' := [(t, .inr (1, [.ref q_1, .ref q_4, .ref q_7, .int 0, .int 0, .int 0]))] ++ wt) hx hb ht hown hin hK hP hD hS i_X1 tyX1 tyX1_ok nmX1 0 rfl rfl 2 (by decide) wd_381 rfl rfl rfl rfl (Nat.le_of_ble_eq_true rfl) rfl dX1_init_34 (fun H locs hP hD hS => ?_)
  refine lv_aload_n hx hb dX1_init_37 rfl (lv_at hl 0 rfl) ?_
  refine lv_iconst (v := 0) hx hb dX1_init_38 (by decide +kernel) ?_
  refine gq_put (ws' := [(t, .inr (1, [.ref q_1, .ref q_4, .ref q_7, .int 0, .int 0, .int 0]))] ++ wt) hx hb ht hown hK hP hD hS i_X1 tyX1 tyX1_ok nmX1 0 rfl rfl 3 (by decide) wd_382 rfl rfl (by decide +kernel) (by decide +kernel) (Nat.le_of_ble_eq_true rfl) rfl dX1_init_39 (fun H locs hP hD hS => ?_)
  refine lv_aload_n hx hb dX1_init_42 rfl (lv_at hl 0 rfl) ?_
  refine lv_iconst (v := (-1)) hx hb dX1_init_43 (by decide +kernel) ?_
  refine gq_put (ws' := [(t, .inr (1, [.ref q_1, .ref q_4, .ref q_7, .int 0, .int (-1), .int 0]))] ++ wt) hx hb ht hown hK hP hD hS i_X1 tyX1 tyX1_ok nmX1 0 rfl rfl 4 (by decide) wd_384 rfl rfl rfl rfl (Nat.le_of_ble_eq_true rfl) rfl dX1_init_44 (fun H locs hP hD hS => ?_)
  refine lv_aload_n hx hb dX1_init_47 rfl (lv_at hl 0 rfl) ?_
  refine lv_iconst (v := 0) hx hb dX1_init_48 (by decide +kernel) ?_
  refine gq_put (ws' := [(t, .inr (1, [.ref q_1, .ref q_4, .ref q_7, .int 0, .int (-1), .int 0]))] ++ wt) hx hb ht hown hK hP hD hS i_X1 tyX1 tyX1_ok nmX1 0 rfl rfl 5 (by decide) wd_386 rfl rfl rfl rfl (Nat.le_of_ble_eq_true rfl) rfl dX1_init_49 (fun H locs hP hD hS => ?_)
  have hP : va_P (gg_D G) classes ([] ++ ((t, .inr (1, [.ref q_1, .ref q_4, .ref q_7, .int 0, .int (-1), .int 0])) :: wt)) H := hP
  have hD : va_D A ([] ++ ((t, .inr (1, [.ref q_1, .ref q_4, .ref q_7, .int 0, .int (-1), .int 0])) :: wt)) := hD
  obtain ⟨Γ9, w9, hwe, hxe, hk_10, hT, hkp⟩ := tk_take (k := 2) hT hD (by decide) (show tk_en G Γ 2 _ from (tk_mko rfl rfl ⟨⟨_, rfl, hk_3⟩, ⟨_, rfl, hk_6⟩, ⟨_, rfl, hk_9⟩, ⟨_, rfl, by omega, by omega⟩, ⟨_, rfl⟩, ⟨_, rfl⟩, trivial⟩))
  rw [hwe] at hP hD
  have hT9a : tk_fl w9 t 1 3 (.int 0) := by rw [← hwe]; exact ⟨0, _, rfl, rfl⟩
  have hT9b : tk_fl w9 t 1 5 (.int 0) := by rw [← hwe]; exact ⟨0, _, rfl, rfl⟩
  clear hwe
  have hW := hW.call (show ∀ x ∈ ([] : List Nat), x ∈ [] by decide) hkp
  have hE := hE.tr hxe
  clear hxe
  obtain ⟨Γ, hΓ9⟩ : ∃ z, z = Γ9 := ⟨_, rfl⟩
  subst hΓ9
  obtain ⟨wt, hw9⟩ : ∃ z, z = w9 := ⟨_, rfl⟩
  subst hw9
  have hP9 : va_P (gg_D G) classes wt _ := hP
  have hD9 : va_D A wt := hD
  exact W.vret hx hb hr (gq_endV (Γ, wt) ⟨hT, hW, hE, hk_10, hT9a, hT9b⟩ hP9 hD9 hS) hS.2.2 dX1_init_52
set_option maxHeartbeats 4000000 in
set_option maxRecDepth 100000 in
theorem d_i_Clerk (l : Launch) (G : gg_T) (Γ : Nat → Nat) (sz : Nat) (wt : va_W) (hT : tk_ty G Γ wt) (t : Nat) : Met l yX0_init (ts_L yX0_init cX0_init 1 none) ({ frames := 2, cells := 6, slots := 40, locals := 32 }) (gc_P G ([(t, .inr (0, [.null, .null, .int 0, .long 0]))] ++ wt) sz [.ref t]) (gc_V G (va_A ([(t, .inr (0, [.null, .null, .int 0, .long 0]))] ++ wt) sz) (fun (u : (Nat → Nat) × va_W) => match u with | (Γ1, wt1) => tk_ty G Γ1 wt1 ∧ tk_kp [] wt wt1 ∧ tk_ext Γ Γ1 ∧ Γ1 t = 1) (fun (u : (Nat → Nat) × va_W) => match u with | (Γ1, wt1) => wt1)) 6 40 (va_A ([(t, .inr (0, [.null, .null, .int 0, .long 0]))] ++ wt) sz) := by
  refine Met.ofW (cc := cX0_init) (maxL := 1) (ret := none) (by decide) rfl ?_
  intro p e s m args below meth c s₁ B hml hv
  obtain ⟨rfl, hsz, hP, hK, hD0⟩ := hv
  have hx := B.exec
  have hb := B.bytes
  have hr := B.returns
  have ht := ts_ht (atoms_spec (ws := ts_L yX0_init cX0_init 1 none) B.pre)
  have hown : s.vm.findClass RX0 = some m.cls := findClass_of_methodNamed B.named
  have hlocks := B.notSynchronized
  subst hsz
  have hD := hD0.self (sz := s.heap.size)
  generalize hAe : va_A ([(t, .inr (0, [.null, .null, .int 0, .long 0]))] ++ wt) s.heap.size = A at hD ⊢
  have hA : ∀ q : Nat, s.heap.size ≤ q → A q := fun q h => by rw [← hAe]; exact Or.inr h
  clear hAe hD0
  have hS : va_S A s.heap s.heap [] := va_S.rf
  obtain ⟨w0, hw0⟩ : ∃ z, z = wt := ⟨_, rfl⟩
  have hW : tk_kp [] w0 wt := by rw [hw0]; exact tk_kp.rf
  rw [← hw0]
  clear hw0
  have hin : meth.name = "<init>" := (name_of_methodNamed B.named B.method).1
  obtain ⟨Γ0, hΓ0⟩ : ∃ z, z = Γ := ⟨_, rfl⟩
  have hE : tk_ext Γ0 Γ := by rw [hΓ0]; exact tk_ext.rf
  rw [← hΓ0]
  clear hΓ0
  have hP : va_P (gg_D G) classes ([(t, .inr (0, [.null, .null, .int 0, .long 0]))] ++ wt) s.heap := hP
  have hD : va_D A ([(t, .inr (0, [.null, .null, .int 0, .long 0]))] ++ wt) := hD
  have hl := lv_entry ([.ref t]) (n := 1) (Nat.le_of_ble_eq_true rfl)
  rw [lg_entry_eq]
  generalize (lg_sl ([.ref t]) ++ List.replicate (1 - (lg_sl ([.ref t])).length) Slot.unset).toArray = ls at hl ⊢
  have hl : lv_has ls 1 [(0, .ref t)] := hl
  have l0 : (0 : Int32).toInt = 0 := by decide +kernel
  refine lv_aload_n hx hb dX0_init_0 rfl (lv_at hl 0 rfl) ?_
  refine W.objInit hx hb hown (ht _ wd_406) (ht _ wd_148) (ht _ wd_149) rfl (by rw [hml]; exact hl.1) rfl dX0_init_1 (Nat.le_of_ble_eq_true rfl) (Nat.le_of_ble_eq_true rfl) ?_
  refine W.eq (g2 := F0 m 4 ls []) rfl ?_
  refine lv_aload_n hx hb dX0_init_4 rfl (lv_at hl 0 rfl) ?_
  refine gq_new (ci := 9) hx hb ht hown i_X9 tyX9 tyX9_ok wd_407 wd_174 wd_124 hK hP hD hS hA rfl [.int 0, .int 0, .int 0, .int 0, .null, .null, .null, .null, .null] df_X9 1 9 (Nat.le_of_ble_eq_true rfl) (Nat.le_of_ble_eq_true rfl) (Nat.le_of_ble_eq_true rfl) (Nat.le_of_ble_eq_true rfl) dX0_init_5 (fun q_1 H hP hD hS => ?_)
  have hP : va_P (gg_D G) classes ([(t, .inr (0, [.null, .null, .int 0, .long 0])), (q_1, .inr (9, [.int 0, .int 0, .int 0, .int 0, .null, .null, .null, .null, .null]))] ++ wt) H := tw_newP hP
  have hD : va_D A ([(t, .inr (0, [.null, .null, .int 0, .long 0])), (q_1, .inr (9, [.int 0, .int 0, .int 0, .int 0, .null, .null, .null, .null, .null]))] ++ wt) := tw_newD hD
  refine lv_dup hx hb dX0_init_8 rfl ?_
  have hP : va_P (gg_D G) classes ([(t, .inr (0, [.null, .null, .int 0, .long 0]))] ++ ([(q_1, .inr (9, [.int 0, .int 0, .int 0, .int 0, .null, .null, .null, .null, .null]))] ++ wt)) H := hP
  have hD : va_D A ([(t, .inr (0, [.null, .null, .int 0, .long 0]))] ++ ([(q_1, .inr (9, [.int 0, .int 0, .int 0, .int 0, .null, .null, .null, .null, .null]))] ++ wt)) := hD
  refine gt_callV (wr := [(t, .inr (0, [.null, .null, .int 0, .long 0]))]) (va_runIN (As := []) (rest := [.ref q_1, .ref t]) ⟨hx, hb, hml, hown, ht⟩ (d_i_Terms l G Γ H.size wt hT q_1) ⟨va_cnB 0 ht (tb_good (ts_good wd_177)) rfl rfl rfl (hK.2.1 _ wn_408 rfl) (ht _ wd_124) (by decide +kernel) ⟨Nat.le_of_ble_eq_true rfl, Nat.le_of_ble_eq_true rfl⟩, rfl, ht _ wd_176⟩ (gc_preS hK (tw_right hP) (tw_rightD hD)) rfl rfl hl.1 rfl (lv_room (Nat.le_of_ble_eq_true rfl)) dX0_init_9 ⟨Nat.le_of_ble_eq_true rfl, Nat.le_of_ble_eq_true rfl⟩) hP hD hS hA (fun u H locs hw hP hD hS => ?_)
  obtain ⟨Γ9, wt⟩ := u
  obtain ⟨hT, hkp, hxe, hk_3⟩ := hw
  have hW := hW.call (show ∀ x ∈ [], x ∈ [] by decide) hkp
  have hE := hE.tr hxe
  clear hxe
  obtain ⟨Γ, hΓ9⟩ : ∃ z, z = Γ9 := ⟨_, rfl⟩
  subst hΓ9
  have hP : va_P (gg_D G) classes ([(t, .inr (0, [.null, .null, .int 0, .long 0]))] ++ wt) H := hP
  have hD : va_D A ([(t, .inr (0, [.null, .null, .int 0, .long 0]))] ++ wt) := hD
  refine W.widen (k := 6) (n := 40) (Nat.le_of_ble_eq_true rfl) (Nat.le_of_ble_eq_true rfl) ?_
  refine gq_put (ws' := [(t, .inr (0, [.ref q_1, .null, .int 0, .long 0]))] ++ wt) hx hb ht hown hK hP hD hS i_X0 tyX0 tyX0_ok nmX0 0 rfl rfl 0 (by decide) wd_409 rfl rfl rfl rfl (Nat.le_of_ble_eq_true rfl) rfl dX0_init_12 (fun H locs hP hD hS => ?_)
  refine lv_aload_n hx hb dX0_init_15 rfl (lv_at hl 0 rfl) ?_
  refine lv_null hx hb dX0_init_16 ?_
  refine gq_put (ws' := [(t, .inr (0, [.ref q_1, .null, .int 0, .long 0]))] ++ wt) hx hb ht hown hK hP hD hS i_X0 tyX0 tyX0_ok nmX0 0 rfl rfl 1 (by decide) wd_410 rfl rfl rfl rfl (Nat.le_of_ble_eq_true rfl) rfl dX0_init_17 (fun H locs hP hD hS => ?_)
  refine lv_aload_n hx hb dX0_init_20 rfl (lv_at hl 0 rfl) ?_
  refine lv_iconst (v := 0) hx hb dX0_init_21 (by decide +kernel) ?_
  refine gq_put (ws' := [(t, .inr (0, [.ref q_1, .null, .int 0, .long 0]))] ++ wt) hx hb ht hown hK hP hD hS i_X0 tyX0 tyX0_ok nmX0 0 rfl rfl 2 (by decide) wd_411 rfl rfl rfl rfl (Nat.le_of_ble_eq_true rfl) rfl dX0_init_22 (fun H locs hP hD hS => ?_)
  refine lv_aload_n hx hb dX0_init_25 rfl (lv_at hl 0 rfl) ?_
  refine lv_lconst (v := 0) hx hb dX0_init_26 (by decide +kernel) ?_
  refine gq_put (ws' := [(t, .inr (0, [.ref q_1, .null, .int 0, .long 0]))] ++ wt) hx hb ht hown hK hP hD hS i_X0 tyX0 tyX0_ok nmX0 0 rfl rfl 3 (by decide) wd_412 rfl rfl rfl rfl (Nat.le_of_ble_eq_true rfl) rfl dX0_init_27 (fun H locs hP hD hS => ?_)
  have hP : va_P (gg_D G) classes ([] ++ ((t, .inr (0, [.ref q_1, .null, .int 0, .long 0])) :: wt)) H := hP
  have hD : va_D A ([] ++ ((t, .inr (0, [.ref q_1, .null, .int 0, .long 0])) :: wt)) := hD
  obtain ⟨Γ9, w9, hwe, hxe, hk_4, hT, hkp⟩ := tk_take (k := 1) hT hD (by decide) (show tk_en G Γ 1 _ from (tk_mko rfl rfl ⟨⟨_, rfl, hk_3⟩, (Or.inl rfl), ⟨_, rfl⟩, ⟨_, rfl⟩, trivial⟩))
  rw [hwe] at hP hD
  clear hwe
  have hW := hW.call (show ∀ x ∈ ([] : List Nat), x ∈ [] by decide) hkp
  have hE := hE.tr hxe
  clear hxe
  obtain ⟨Γ, hΓ9⟩ : ∃ z, z = Γ9 := ⟨_, rfl⟩
  subst hΓ9
  obtain ⟨wt, hw9⟩ : ∃ z, z = w9 := ⟨_, rfl⟩
  subst hw9
  have hP9 : va_P (gg_D G) classes wt _ := hP
  have hD9 : va_D A wt := hD
  exact W.vret hx hb hr (gq_endV (Γ, wt) ⟨hT, hW, hE, hk_4⟩ hP9 hD9 hS) hS.2.2 dX0_init_30
set_option maxHeartbeats 4000000 in
set_option maxRecDepth 100000 in
theorem d_i_Seating (l : Launch) (G : gg_T) (Γ : Nat → Nat) (sz : Nat) (wt : va_W) (hT : tk_ty G Γ wt) (t : Nat) : Met l yX5_init (ts_L yX5_init cX5_init 1 none) ({ frames := 2, cells := 13, slots := 151, locals := 32 }) (gc_P G ([(t, .inr (5, [.null, .null, .null, .null, .int 0]))] ++ wt) sz [.ref t]) (gc_V G (va_A ([(t, .inr (5, [.null, .null, .null, .null, .int 0]))] ++ wt) sz) (fun (u : (Nat → Nat) × va_W) => match u with | (Γ1, wt1) => tk_ty G Γ1 wt1 ∧ tk_kp [] wt wt1 ∧ tk_ext Γ Γ1 ∧ Γ1 t = 6) (fun (u : (Nat → Nat) × va_W) => match u with | (Γ1, wt1) => wt1)) 13 151 (va_A ([(t, .inr (5, [.null, .null, .null, .null, .int 0]))] ++ wt) sz) := by
  refine Met.ofW (cc := cX5_init) (maxL := 1) (ret := none) (by decide) rfl ?_
  intro p e s m args below meth c s₁ B hml hv
  obtain ⟨rfl, hsz, hP, hK, hD0⟩ := hv
  have hx := B.exec
  have hb := B.bytes
  have hr := B.returns
  have ht := ts_ht (atoms_spec (ws := ts_L yX5_init cX5_init 1 none) B.pre)
  have hown : s.vm.findClass RX5 = some m.cls := findClass_of_methodNamed B.named
  have hlocks := B.notSynchronized
  subst hsz
  have hD := hD0.self (sz := s.heap.size)
  generalize hAe : va_A ([(t, .inr (5, [.null, .null, .null, .null, .int 0]))] ++ wt) s.heap.size = A at hD ⊢
  have hA : ∀ q : Nat, s.heap.size ≤ q → A q := fun q h => by rw [← hAe]; exact Or.inr h
  clear hAe hD0
  have hS : va_S A s.heap s.heap [] := va_S.rf
  obtain ⟨w0, hw0⟩ : ∃ z, z = wt := ⟨_, rfl⟩
  have hW : tk_kp [] w0 wt := by rw [hw0]; exact tk_kp.rf
  rw [← hw0]
  clear hw0
  have hin : meth.name = "<init>" := (name_of_methodNamed B.named B.method).1
  obtain ⟨Γ0, hΓ0⟩ : ∃ z, z = Γ := ⟨_, rfl⟩
  have hE : tk_ext Γ0 Γ := by rw [hΓ0]; exact tk_ext.rf
  rw [← hΓ0]
  clear hΓ0
  have hP : va_P (gg_D G) classes ([(t, .inr (5, [.null, .null, .null, .null, .int 0]))] ++ wt) s.heap := hP
  have hD : va_D A ([(t, .inr (5, [.null, .null, .null, .null, .int 0]))] ++ wt) := hD
  have hl := lv_entry ([.ref t]) (n := 1) (Nat.le_of_ble_eq_true rfl)
  rw [lg_entry_eq]
  generalize (lg_sl ([.ref t]) ++ List.replicate (1 - (lg_sl ([.ref t])).length) Slot.unset).toArray = ls at hl ⊢
  have hl : lv_has ls 1 [(0, .ref t)] := hl
  have l0 : (0 : Int32).toInt = 0 := by decide +kernel
  refine lv_aload_n hx hb dX5_init_0 rfl (lv_at hl 0 rfl) ?_
  refine W.objInit hx hb hown (ht _ wd_427) (ht _ wd_148) (ht _ wd_149) rfl (by rw [hml]; exact hl.1) rfl dX5_init_1 (Nat.le_of_ble_eq_true rfl) (Nat.le_of_ble_eq_true rfl) ?_
  refine W.eq (g2 := F0 m 4 ls []) rfl ?_
  refine lv_aload_n hx hb dX5_init_4 rfl (lv_at hl 0 rfl) ?_
  refine gq_new (ci := 7) hx hb ht hown i_X7 tyX7 tyX7_ok wd_428 wd_226 wd_125 hK hP hD hS hA rfl [.null, .null, .null, .null, .null, .null, .null, .null, .null, .int 0] df_X7 1 10 (Nat.le_of_ble_eq_true rfl) (Nat.le_of_ble_eq_true rfl) (Nat.le_of_ble_eq_true rfl) (Nat.le_of_ble_eq_true rfl) dX5_init_5 (fun q_1 H hP hD hS => ?_)
  have hP : va_P (gg_D G) classes ([(t, .inr (5, [.null, .null, .null, .null, .int 0])), (q_1, .inr (7, [.null, .null, .null, .null, .null, .null, .null, .null, .null, .int 0]))] ++ wt) H := tw_newP hP
  have hD : va_D A ([(t, .inr (5, [.null, .null, .null, .null, .int 0])), (q_1, .inr (7, [.null, .null, .null, .null, .null, .null, .null, .null, .null, .int 0]))] ++ wt) := tw_newD hD
  refine lv_dup hx hb dX5_init_8 rfl ?_
  have hP : va_P (gg_D G) classes ([(t, .inr (5, [.null, .null, .null, .null, .int 0]))] ++ ([(q_1, .inr (7, [.null, .null, .null, .null, .null, .null, .null, .null, .null, .int 0]))] ++ wt)) H := hP
  have hD : va_D A ([(t, .inr (5, [.null, .null, .null, .null, .int 0]))] ++ ([(q_1, .inr (7, [.null, .null, .null, .null, .null, .null, .null, .null, .null, .int 0]))] ++ wt)) := hD
  refine gt_callV (wr := [(t, .inr (5, [.null, .null, .null, .null, .int 0]))]) (va_runIN (As := []) (rest := [.ref q_1, .ref t]) ⟨hx, hb, hml, hown, ht⟩ (d_i_State l G Γ H.size wt hT q_1) ⟨va_cnB 0 ht (tb_good (ts_good wd_229)) rfl rfl rfl (hK.2.1 _ wn_429 rfl) (ht _ wd_125) (by decide +kernel) ⟨Nat.le_of_ble_eq_true rfl, Nat.le_of_ble_eq_true rfl⟩, rfl, ht _ wd_228⟩ (gc_preS hK (tw_right hP) (tw_rightD hD)) rfl rfl hl.1 rfl (lv_room (Nat.le_of_ble_eq_true rfl)) dX5_init_9 ⟨Nat.le_of_ble_eq_true rfl, Nat.le_of_ble_eq_true rfl⟩) hP hD hS hA (fun u H locs hw hP hD hS => ?_)
  obtain ⟨Γ9, wt⟩ := u
  obtain ⟨hT, hkp, hxe, hk_3⟩ := hw
  have hW := hW.call (show ∀ x ∈ [], x ∈ [] by decide) hkp
  have hE := hE.tr hxe
  clear hxe
  obtain ⟨Γ, hΓ9⟩ : ∃ z, z = Γ9 := ⟨_, rfl⟩
  subst hΓ9
  have hP : va_P (gg_D G) classes ([(t, .inr (5, [.null, .null, .null, .null, .int 0]))] ++ wt) H := hP
  have hD : va_D A ([(t, .inr (5, [.null, .null, .null, .null, .int 0]))] ++ wt) := hD
  refine W.widen (k := 10) (n := 45) (Nat.le_of_ble_eq_true rfl) (Nat.le_of_ble_eq_true rfl) ?_
  refine gq_putF (ws' := [(t, .inr (5, [.ref q_1, .null, .null, .null, .int 0]))] ++ wt) hx hb ht hown hin hK hP hD hS i_X5 tyX5 tyX5_ok nmX5 0 rfl rfl 0 (by decide) wd_430 rfl rfl rfl rfl (Nat.le_of_ble_eq_true rfl) rfl dX5_init_12 (fun H locs hP hD hS => ?_)
  refine lv_aload_n hx hb dX5_init_15 rfl (lv_at hl 0 rfl) ?_
  refine lv_iconst (v := 5) hx hb dX5_init_16 (by decide +kernel) ?_
  refine gq_newa (atype := .int) (ty := .int) hx hb rfl (ht _ wd_172) hK hP hD hS hA 0 rfl 5 (5, .inl (fun _ => 0)) (fun _ => rfl) (by decide +kernel) (by decide +kernel) (Nat.le_of_ble_eq_true rfl) 11 50 (Nat.le_of_ble_eq_true rfl) (Nat.le_of_ble_eq_true rfl) (Nat.le_of_ble_eq_true rfl) (Nat.le_of_ble_eq_true rfl) dX5_init_17 (fun q_4 H hP hD hS => ?_)
  have hP : va_P (gg_D G) classes ([(t, .inr (5, [.ref q_1, .null, .null, .null, .int 0])), (q_4, .inl (G.2.2 0, 5, .inl (fun _ => 0)))] ++ wt) H := tw_newP hP
  have hD : va_D A ([(t, .inr (5, [.ref q_1, .null, .null, .null, .int 0])), (q_4, .inl (G.2.2 0, 5, .inl (fun _ => 0)))] ++ wt) := tw_newD hD
  refine gq_putF (ws' := [(t, .inr (5, [.ref q_1, .ref q_4, .null, .null, .int 0])), (q_4, .inl (G.2.2 0, 5, .inl (fun _ => 0)))] ++ wt) hx hb ht hown hin hK hP hD hS i_X5 tyX5 tyX5_ok nmX5 0 rfl rfl 1 (by decide) wd_431 rfl rfl rfl rfl (Nat.le_of_ble_eq_true rfl) rfl dX5_init_19 (fun H locs hP hD hS => ?_)
  refine lv_aload_n hx hb dX5_init_22 rfl (lv_at hl 0 rfl) ?_
  refine lv_bipush (v := 96) hx hb dX5_init_23 (by decide +kernel) ?_
  refine gq_newa (atype := .int) (ty := .int) hx hb rfl (ht _ wd_172) hK hP hD hS hA 0 rfl 96 (96, .inl (fun _ => 0)) (fun _ => rfl) (by decide +kernel) (by decide +kernel) (Nat.le_of_ble_eq_true rfl) 12 146 (Nat.le_of_ble_eq_true rfl) (Nat.le_of_ble_eq_true rfl) (Nat.le_of_ble_eq_true rfl) (Nat.le_of_ble_eq_true rfl) dX5_init_25 (fun q_5 H hP hD hS => ?_)
  have hP : va_P (gg_D G) classes ([(t, .inr (5, [.ref q_1, .ref q_4, .null, .null, .int 0])), (q_4, .inl (G.2.2 0, 5, .inl (fun _ => 0))), (q_5, .inl (G.2.2 0, 96, .inl (fun _ => 0)))] ++ wt) H := tw_newP hP
  have hD : va_D A ([(t, .inr (5, [.ref q_1, .ref q_4, .null, .null, .int 0])), (q_4, .inl (G.2.2 0, 5, .inl (fun _ => 0))), (q_5, .inl (G.2.2 0, 96, .inl (fun _ => 0)))] ++ wt) := tw_newD hD
  refine gq_putF (ws' := [(t, .inr (5, [.ref q_1, .ref q_4, .ref q_5, .null, .int 0])), (q_4, .inl (G.2.2 0, 5, .inl (fun _ => 0))), (q_5, .inl (G.2.2 0, 96, .inl (fun _ => 0)))] ++ wt) hx hb ht hown hin hK hP hD hS i_X5 tyX5 tyX5_ok nmX5 0 rfl rfl 2 (by decide) wd_432 rfl rfl rfl rfl (Nat.le_of_ble_eq_true rfl) rfl dX5_init_27 (fun H locs hP hD hS => ?_)
  refine lv_aload_n hx hb dX5_init_30 rfl (lv_at hl 0 rfl) ?_
  refine lv_iconst (v := 5) hx hb dX5_init_31 (by decide +kernel) ?_
  refine gq_newa (atype := .int) (ty := .int) hx hb rfl (ht _ wd_172) hK hP hD hS hA 0 rfl 5 (5, .inl (fun _ => 0)) (fun _ => rfl) (by decide +kernel) (by decide +kernel) (Nat.le_of_ble_eq_true rfl) 13 151 (Nat.le_of_ble_eq_true rfl) (Nat.le_of_ble_eq_true rfl) (Nat.le_of_ble_eq_true rfl) (Nat.le_of_ble_eq_true rfl) dX5_init_32 (fun q_6 H hP hD hS => ?_)
  have hP : va_P (gg_D G) classes ([(t, .inr (5, [.ref q_1, .ref q_4, .ref q_5, .null, .int 0])), (q_4, .inl (G.2.2 0, 5, .inl (fun _ => 0))), (q_5, .inl (G.2.2 0, 96, .inl (fun _ => 0))), (q_6, .inl (G.2.2 0, 5, .inl (fun _ => 0)))] ++ wt) H := tw_newP hP
  have hD : va_D A ([(t, .inr (5, [.ref q_1, .ref q_4, .ref q_5, .null, .int 0])), (q_4, .inl (G.2.2 0, 5, .inl (fun _ => 0))), (q_5, .inl (G.2.2 0, 96, .inl (fun _ => 0))), (q_6, .inl (G.2.2 0, 5, .inl (fun _ => 0)))] ++ wt) := tw_newD hD
  refine gq_putF (ws' := [(t, .inr (5, [.ref q_1, .ref q_4, .ref q_5, .ref q_6, .int 0])), (q_4, .inl (G.2.2 0, 5, .inl (fun _ => 0))), (q_5, .inl (G.2.2 0, 96, .inl (fun _ => 0))), (q_6, .inl (G.2.2 0, 5, .inl (fun _ => 0)))] ++ wt) hx hb ht hown hin hK hP hD hS i_X5 tyX5 tyX5_ok nmX5 0 rfl rfl 3 (by decide) wd_433 rfl rfl rfl rfl (Nat.le_of_ble_eq_true rfl) rfl dX5_init_34 (fun H locs hP hD hS => ?_)
  refine lv_aload_n hx hb dX5_init_37 rfl (lv_at hl 0 rfl) ?_
  refine lv_iconst (v := 0) hx hb dX5_init_38 (by decide +kernel) ?_
  refine gq_put (ws' := [(t, .inr (5, [.ref q_1, .ref q_4, .ref q_5, .ref q_6, .int 0])), (q_4, .inl (G.2.2 0, 5, .inl (fun _ => 0))), (q_5, .inl (G.2.2 0, 96, .inl (fun _ => 0))), (q_6, .inl (G.2.2 0, 5, .inl (fun _ => 0)))] ++ wt) hx hb ht hown hK hP hD hS i_X5 tyX5 tyX5_ok nmX5 0 rfl rfl 4 (by decide) wd_435 rfl rfl rfl rfl (Nat.le_of_ble_eq_true rfl) rfl dX5_init_39 (fun H locs hP hD hS => ?_)
  have hP := tw_permP (we' := [(t, .inr (5, [.ref q_1, .ref q_4, .ref q_5, .ref q_6, .int 0])), (q_5, .inl (G.2.2 0, 96, .inl (fun _ => 0))), (q_6, .inl (G.2.2 0, 5, .inl (fun _ => 0))), (q_4, .inl (G.2.2 0, 5, .inl (fun _ => 0)))]) [0, 2, 3, 1] rfl hP
  have hD := tw_permD (we' := [(t, .inr (5, [.ref q_1, .ref q_4, .ref q_5, .ref q_6, .int 0])), (q_5, .inl (G.2.2 0, 96, .inl (fun _ => 0))), (q_6, .inl (G.2.2 0, 5, .inl (fun _ => 0))), (q_4, .inl (G.2.2 0, 5, .inl (fun _ => 0)))]) [0, 2, 3, 1] (by decide) rfl hD
  have hP : va_P (gg_D G) classes ([(t, .inr (5, [.ref q_1, .ref q_4, .ref q_5, .ref q_6, .int 0])), (q_5, .inl (G.2.2 0, 96, .inl (fun _ => 0))), (q_6, .inl (G.2.2 0, 5, .inl (fun _ => 0)))] ++ ((q_4, .inl (G.2.2 0, 5, .inl (fun _ => 0))) :: wt)) H := hP
  have hD : va_D A ([(t, .inr (5, [.ref q_1, .ref q_4, .ref q_5, .ref q_6, .int 0])), (q_5, .inl (G.2.2 0, 96, .inl (fun _ => 0))), (q_6, .inl (G.2.2 0, 5, .inl (fun _ => 0)))] ++ ((q_4, .inl (G.2.2 0, 5, .inl (fun _ => 0))) :: wt)) := hD
  obtain ⟨Γ9, w9, hwe, hxe, hk_7, hT, hkp⟩ := tk_take (k := 20) hT hD (by decide) (show tk_en G Γ 20 _ from ⟨⟨by decide, by decide⟩, rfl, rfl, fun _ => (show tk_e 20 0 from trivial)⟩)
  rw [hwe] at hP hD
  clear hwe
  have hW := hW.call (show ∀ x ∈ ([] : List Nat), x ∈ [] by decide) hkp
  have hk_3 := hxe.of (by decide) hk_3
  have hE := hE.tr hxe
  clear hxe
  obtain ⟨Γ, hΓ9⟩ : ∃ z, z = Γ9 := ⟨_, rfl⟩
  subst hΓ9
  obtain ⟨wt, hw9⟩ : ∃ z, z = w9 := ⟨_, rfl⟩
  subst hw9
  have hP := tw_permP (we' := [(t, .inr (5, [.ref q_1, .ref q_4, .ref q_5, .ref q_6, .int 0])), (q_6, .inl (G.2.2 0, 5, .inl (fun _ => 0))), (q_5, .inl (G.2.2 0, 96, .inl (fun _ => 0)))]) [0, 2, 1] rfl hP
  have hD := tw_permD (we' := [(t, .inr (5, [.ref q_1, .ref q_4, .ref q_5, .ref q_6, .int 0])), (q_6, .inl (G.2.2 0, 5, .inl (fun _ => 0))), (q_5, .inl (G.2.2 0, 96, .inl (fun _ => 0)))]) [0, 2, 1] (by decide) rfl hD
  have hP : va_P (gg_D G) classes ([(t, .inr (5, [.ref q_1, .ref q_4, .ref q_5, .ref q_6, .int 0])), (q_6, .inl (G.2.2 0, 5, .inl (fun _ => 0)))] ++ ((q_5, .inl (G.2.2 0, 96, .inl (fun _ => 0))) :: wt)) H := hP
  have hD : va_D A ([(t, .inr (5, [.ref q_1, .ref q_4, .ref q_5, .ref q_6, .int 0])), (q_6, .inl (G.2.2 0, 5, .inl (fun _ => 0)))] ++ ((q_5, .inl (G.2.2 0, 96, .inl (fun _ => 0))) :: wt)) := hD
  obtain ⟨Γ9, w9, hwe, hxe, hk_8, hT, hkp⟩ := tk_take (k := 27) hT hD (by decide) (show tk_en G Γ 27 _ from ⟨⟨by decide, by decide⟩, rfl, rfl, fun _ => (show tk_e 27 0 from trivial)⟩)
  rw [hwe] at hP hD
  clear hwe
  have hW := hW.call (show ∀ x ∈ ([] : List Nat), x ∈ [] by decide) hkp
  have hk_3 := hxe.of (by decide) hk_3
  have hk_7 := hxe.of (by decide) hk_7
  have hE := hE.tr hxe
  clear hxe
  obtain ⟨Γ, hΓ9⟩ : ∃ z, z = Γ9 := ⟨_, rfl⟩
  subst hΓ9
  obtain ⟨wt, hw9⟩ : ∃ z, z = w9 := ⟨_, rfl⟩
  subst hw9
  have hP : va_P (gg_D G) classes ([(t, .inr (5, [.ref q_1, .ref q_4, .ref q_5, .ref q_6, .int 0]))] ++ ((q_6, .inl (G.2.2 0, 5, .inl (fun _ => 0))) :: wt)) H := hP
  have hD : va_D A ([(t, .inr (5, [.ref q_1, .ref q_4, .ref q_5, .ref q_6, .int 0]))] ++ ((q_6, .inl (G.2.2 0, 5, .inl (fun _ => 0))) :: wt)) := hD
  obtain ⟨Γ9, w9, hwe, hxe, hk_9, hT, hkp⟩ := tk_take (k := 20) hT hD (by decide) (show tk_en G Γ 20 _ from ⟨⟨by decide, by decide⟩, rfl, rfl, fun _ => (show tk_e 20 0 from trivial)⟩)
  rw [hwe] at hP hD
  clear hwe
  have hW := hW.call (show ∀ x ∈ ([] : List Nat), x ∈ [] by decide) hkp
  have hk_3 := hxe.of (by decide) hk_3
  have hk_7 := hxe.of (by decide) hk_7
  have hk_8 := hxe.of (by decide) hk_8
  have hE := hE.tr hxe
  clear hxe
  obtain ⟨Γ, hΓ9⟩ : ∃ z, z = Γ9 := ⟨_, rfl⟩
  subst hΓ9
  obtain ⟨wt, hw9⟩ : ∃ z, z = w9 := ⟨_, rfl⟩
  subst hw9
  have hP : va_P (gg_D G) classes ([] ++ ((t, .inr (5, [.ref q_1, .ref q_4, .ref q_5, .ref q_6, .int 0])) :: wt)) H := hP
  have hD : va_D A ([] ++ ((t, .inr (5, [.ref q_1, .ref q_4, .ref q_5, .ref q_6, .int 0])) :: wt)) := hD
  obtain ⟨Γ9, w9, hwe, hxe, hk_10, hT, hkp⟩ := tk_take (k := 6) hT hD (by decide) (show tk_en G Γ 6 _ from (tk_mko rfl rfl ⟨⟨_, rfl, hk_3⟩, ⟨_, rfl, hk_7⟩, ⟨_, rfl, hk_8⟩, ⟨_, rfl, hk_9⟩, ⟨_, rfl⟩, trivial⟩))
  rw [hwe] at hP hD
  clear hwe
  have hW := hW.call (show ∀ x ∈ ([] : List Nat), x ∈ [] by decide) hkp
  have hE := hE.tr hxe
  clear hxe
  obtain ⟨Γ, hΓ9⟩ : ∃ z, z = Γ9 := ⟨_, rfl⟩
  subst hΓ9
  obtain ⟨wt, hw9⟩ : ∃ z, z = w9 := ⟨_, rfl⟩
  subst hw9
  have hP9 : va_P (gg_D G) classes wt _ := hP
  have hD9 : va_D A wt := hD
  exact W.vret hx hb hr (gq_endV (Γ, wt) ⟨hT, hW, hE, hk_10⟩ hP9 hD9 hS) hS.2.2 dX5_init_42
set_option maxHeartbeats 4000000 in
set_option maxRecDepth 100000 in
theorem d_i_Trickery (l : Launch) (G : gg_T) (Γ : Nat → Nat) (sz : Nat) (wt : va_W) (hT : tk_ty G Γ wt) (t : Nat) : Met l yX10_init (ts_L yX10_init cX10_init 1 none) ({ frames := 2, cells := 12, slots := 55, locals := 32 }) (gc_P G ([(t, .inr (10, [.null, .null, .null, .int 0]))] ++ wt) sz [.ref t]) (gc_V G (va_A ([(t, .inr (10, [.null, .null, .null, .int 0]))] ++ wt) sz) (fun (u : (Nat → Nat) × va_W) => match u with | (Γ1, wt1) => tk_ty G Γ1 wt1 ∧ tk_kp [] wt wt1 ∧ tk_ext Γ Γ1 ∧ Γ1 t = 11) (fun (u : (Nat → Nat) × va_W) => match u with | (Γ1, wt1) => wt1)) 12 55 (va_A ([(t, .inr (10, [.null, .null, .null, .int 0]))] ++ wt) sz) := by
  refine Met.ofW (cc := cX10_init) (maxL := 1) (ret := none) (by decide) rfl ?_
  intro p e s m args below meth c s₁ B hml hv
  obtain ⟨rfl, hsz, hP, hK, hD0⟩ := hv
  have hx := B.exec
  have hb := B.bytes
  have hr := B.returns
  have ht := ts_ht (atoms_spec (ws := ts_L yX10_init cX10_init 1 none) B.pre)
  have hown : s.vm.findClass RX10 = some m.cls := findClass_of_methodNamed B.named
  have hlocks := B.notSynchronized
  subst hsz
  have hD := hD0.self (sz := s.heap.size)
  generalize hAe : va_A ([(t, .inr (10, [.null, .null, .null, .int 0]))] ++ wt) s.heap.size = A at hD ⊢
  have hA : ∀ q : Nat, s.heap.size ≤ q → A q := fun q h => by rw [← hAe]; exact Or.inr h
  clear hAe hD0
  have hS : va_S A s.heap s.heap [] := va_S.rf
  obtain ⟨w0, hw0⟩ : ∃ z, z = wt := ⟨_, rfl⟩
  have hW : tk_kp [] w0 wt := by rw [hw0]; exact tk_kp.rf
  rw [← hw0]
  clear hw0
  have hin : meth.name = "<init>" := (name_of_methodNamed B.named B.method).1
  obtain ⟨Γ0, hΓ0⟩ : ∃ z, z = Γ := ⟨_, rfl⟩
  have hE : tk_ext Γ0 Γ := by rw [hΓ0]; exact tk_ext.rf
  rw [← hΓ0]
  clear hΓ0
  have hP : va_P (gg_D G) classes ([(t, .inr (10, [.null, .null, .null, .int 0]))] ++ wt) s.heap := hP
  have hD : va_D A ([(t, .inr (10, [.null, .null, .null, .int 0]))] ++ wt) := hD
  have hl := lv_entry ([.ref t]) (n := 1) (Nat.le_of_ble_eq_true rfl)
  rw [lg_entry_eq]
  generalize (lg_sl ([.ref t]) ++ List.replicate (1 - (lg_sl ([.ref t])).length) Slot.unset).toArray = ls at hl ⊢
  have hl : lv_has ls 1 [(0, .ref t)] := hl
  have lm1 : ((-1) : Int32).toInt = -1 := by decide +kernel
  have l0 : (0 : Int32).toInt = 0 := by decide +kernel
  refine lv_aload_n hx hb dX10_init_0 rfl (lv_at hl 0 rfl) ?_
  refine W.objInit hx hb hown (ht _ wd_453) (ht _ wd_148) (ht _ wd_149) rfl (by rw [hml]; exact hl.1) rfl dX10_init_1 (Nat.le_of_ble_eq_true rfl) (Nat.le_of_ble_eq_true rfl) ?_
  refine W.eq (g2 := F0 m 4 ls []) rfl ?_
  refine lv_aload_n hx hb dX10_init_4 rfl (lv_at hl 0 rfl) ?_
  refine gq_new (ci := 7) hx hb ht hown i_X7 tyX7 tyX7_ok wd_454 wd_226 wd_125 hK hP hD hS hA rfl [.null, .null, .null, .null, .null, .null, .null, .null, .null, .int 0] df_X7 1 10 (Nat.le_of_ble_eq_true rfl) (Nat.le_of_ble_eq_true rfl) (Nat.le_of_ble_eq_true rfl) (Nat.le_of_ble_eq_true rfl) dX10_init_5 (fun q_1 H hP hD hS => ?_)
  have hP : va_P (gg_D G) classes ([(t, .inr (10, [.null, .null, .null, .int 0])), (q_1, .inr (7, [.null, .null, .null, .null, .null, .null, .null, .null, .null, .int 0]))] ++ wt) H := tw_newP hP
  have hD : va_D A ([(t, .inr (10, [.null, .null, .null, .int 0])), (q_1, .inr (7, [.null, .null, .null, .null, .null, .null, .null, .null, .null, .int 0]))] ++ wt) := tw_newD hD
  refine lv_dup hx hb dX10_init_8 rfl ?_
  have hP : va_P (gg_D G) classes ([(t, .inr (10, [.null, .null, .null, .int 0]))] ++ ([(q_1, .inr (7, [.null, .null, .null, .null, .null, .null, .null, .null, .null, .int 0]))] ++ wt)) H := hP
  have hD : va_D A ([(t, .inr (10, [.null, .null, .null, .int 0]))] ++ ([(q_1, .inr (7, [.null, .null, .null, .null, .null, .null, .null, .null, .null, .int 0]))] ++ wt)) := hD
  refine gt_callV (wr := [(t, .inr (10, [.null, .null, .null, .int 0]))]) (va_runIN (As := []) (rest := [.ref q_1, .ref t]) ⟨hx, hb, hml, hown, ht⟩ (d_i_State l G Γ H.size wt hT q_1) ⟨va_cnB 0 ht (tb_good (ts_good wd_229)) rfl rfl rfl (hK.2.1 _ wn_455 rfl) (ht _ wd_125) (by decide +kernel) ⟨Nat.le_of_ble_eq_true rfl, Nat.le_of_ble_eq_true rfl⟩, rfl, ht _ wd_228⟩ (gc_preS hK (tw_right hP) (tw_rightD hD)) rfl rfl hl.1 rfl (lv_room (Nat.le_of_ble_eq_true rfl)) dX10_init_9 ⟨Nat.le_of_ble_eq_true rfl, Nat.le_of_ble_eq_true rfl⟩) hP hD hS hA (fun u H locs hw hP hD hS => ?_)
  obtain ⟨Γ9, wt⟩ := u
  obtain ⟨hT, hkp, hxe, hk_3⟩ := hw
  have hW := hW.call (show ∀ x ∈ [], x ∈ [] by decide) hkp
  have hE := hE.tr hxe
  clear hxe
  obtain ⟨Γ, hΓ9⟩ : ∃ z, z = Γ9 := ⟨_, rfl⟩
  subst hΓ9
  have hP : va_P (gg_D G) classes ([(t, .inr (10, [.null, .null, .null, .int 0]))] ++ wt) H := hP
  have hD : va_D A ([(t, .inr (10, [.null, .null, .null, .int 0]))] ++ wt) := hD
  refine W.widen (k := 10) (n := 45) (Nat.le_of_ble_eq_true rfl) (Nat.le_of_ble_eq_true rfl) ?_
  refine gq_putF (ws' := [(t, .inr (10, [.ref q_1, .null, .null, .int 0]))] ++ wt) hx hb ht hown hin hK hP hD hS i_X10 tyX10 tyX10_ok nmX10 0 rfl rfl 0 (by decide) wd_456 rfl rfl rfl rfl (Nat.le_of_ble_eq_true rfl) rfl dX10_init_12 (fun H locs hP hD hS => ?_)
  refine lv_aload_n hx hb dX10_init_15 rfl (lv_at hl 0 rfl) ?_
  refine lv_iconst (v := 5) hx hb dX10_init_16 (by decide +kernel) ?_
  refine gq_newa (atype := .int) (ty := .int) hx hb rfl (ht _ wd_172) hK hP hD hS hA 0 rfl 5 (5, .inl (fun _ => 0)) (fun _ => rfl) (by decide +kernel) (by decide +kernel) (Nat.le_of_ble_eq_true rfl) 11 50 (Nat.le_of_ble_eq_true rfl) (Nat.le_of_ble_eq_true rfl) (Nat.le_of_ble_eq_true rfl) (Nat.le_of_ble_eq_true rfl) dX10_init_17 (fun q_4 H hP hD hS => ?_)
  have hP : va_P (gg_D G) classes ([(t, .inr (10, [.ref q_1, .null, .null, .int 0])), (q_4, .inl (G.2.2 0, 5, .inl (fun _ => 0)))] ++ wt) H := tw_newP hP
  have hD : va_D A ([(t, .inr (10, [.ref q_1, .null, .null, .int 0])), (q_4, .inl (G.2.2 0, 5, .inl (fun _ => 0)))] ++ wt) := tw_newD hD
  refine gq_putF (ws' := [(t, .inr (10, [.ref q_1, .ref q_4, .null, .int 0])), (q_4, .inl (G.2.2 0, 5, .inl (fun _ => 0)))] ++ wt) hx hb ht hown hin hK hP hD hS i_X10 tyX10 tyX10_ok nmX10 0 rfl rfl 1 (by decide) wd_457 rfl rfl rfl rfl (Nat.le_of_ble_eq_true rfl) rfl dX10_init_19 (fun H locs hP hD hS => ?_)
  refine lv_aload_n hx hb dX10_init_22 rfl (lv_at hl 0 rfl) ?_
  refine lv_iconst (v := 5) hx hb dX10_init_23 (by decide +kernel) ?_
  refine gq_newa (atype := .int) (ty := .int) hx hb rfl (ht _ wd_172) hK hP hD hS hA 0 rfl 5 (5, .inl (fun _ => 0)) (fun _ => rfl) (by decide +kernel) (by decide +kernel) (Nat.le_of_ble_eq_true rfl) 12 55 (Nat.le_of_ble_eq_true rfl) (Nat.le_of_ble_eq_true rfl) (Nat.le_of_ble_eq_true rfl) (Nat.le_of_ble_eq_true rfl) dX10_init_24 (fun q_5 H hP hD hS => ?_)
  have hP : va_P (gg_D G) classes ([(t, .inr (10, [.ref q_1, .ref q_4, .null, .int 0])), (q_4, .inl (G.2.2 0, 5, .inl (fun _ => 0))), (q_5, .inl (G.2.2 0, 5, .inl (fun _ => 0)))] ++ wt) H := tw_newP hP
  have hD : va_D A ([(t, .inr (10, [.ref q_1, .ref q_4, .null, .int 0])), (q_4, .inl (G.2.2 0, 5, .inl (fun _ => 0))), (q_5, .inl (G.2.2 0, 5, .inl (fun _ => 0)))] ++ wt) := tw_newD hD
  refine gq_putF (ws' := [(t, .inr (10, [.ref q_1, .ref q_4, .ref q_5, .int 0])), (q_4, .inl (G.2.2 0, 5, .inl (fun _ => 0))), (q_5, .inl (G.2.2 0, 5, .inl (fun _ => 0)))] ++ wt) hx hb ht hown hin hK hP hD hS i_X10 tyX10 tyX10_ok nmX10 0 rfl rfl 2 (by decide) wd_458 rfl rfl rfl rfl (Nat.le_of_ble_eq_true rfl) rfl dX10_init_26 (fun H locs hP hD hS => ?_)
  refine lv_aload_n hx hb dX10_init_29 rfl (lv_at hl 0 rfl) ?_
  refine lv_iconst (v := (-1)) hx hb dX10_init_30 (by decide +kernel) ?_
  refine gq_put (ws' := [(t, .inr (10, [.ref q_1, .ref q_4, .ref q_5, .int (-1)])), (q_4, .inl (G.2.2 0, 5, .inl (fun _ => 0))), (q_5, .inl (G.2.2 0, 5, .inl (fun _ => 0)))] ++ wt) hx hb ht hown hK hP hD hS i_X10 tyX10 tyX10_ok nmX10 0 rfl rfl 3 (by decide) wd_460 rfl rfl rfl rfl (Nat.le_of_ble_eq_true rfl) rfl dX10_init_31 (fun H locs hP hD hS => ?_)
  have hP := tw_permP (we' := [(t, .inr (10, [.ref q_1, .ref q_4, .ref q_5, .int (-1)])), (q_5, .inl (G.2.2 0, 5, .inl (fun _ => 0))), (q_4, .inl (G.2.2 0, 5, .inl (fun _ => 0)))]) [0, 2, 1] rfl hP
  have hD := tw_permD (we' := [(t, .inr (10, [.ref q_1, .ref q_4, .ref q_5, .int (-1)])), (q_5, .inl (G.2.2 0, 5, .inl (fun _ => 0))), (q_4, .inl (G.2.2 0, 5, .inl (fun _ => 0)))]) [0, 2, 1] (by decide) rfl hD
  have hP : va_P (gg_D G) classes ([(t, .inr (10, [.ref q_1, .ref q_4, .ref q_5, .int (-1)])), (q_5, .inl (G.2.2 0, 5, .inl (fun _ => 0)))] ++ ((q_4, .inl (G.2.2 0, 5, .inl (fun _ => 0))) :: wt)) H := hP
  have hD : va_D A ([(t, .inr (10, [.ref q_1, .ref q_4, .ref q_5, .int (-1)])), (q_5, .inl (G.2.2 0, 5, .inl (fun _ => 0)))] ++ ((q_4, .inl (G.2.2 0, 5, .inl (fun _ => 0))) :: wt)) := hD
  obtain ⟨Γ9, w9, hwe, hxe, hk_6, hT, hkp⟩ := tk_take (k := 20) hT hD (by decide) (show tk_en G Γ 20 _ from ⟨⟨by decide, by decide⟩, rfl, rfl, fun _ => (show tk_e 20 0 from trivial)⟩)
  rw [hwe] at hP hD
  clear hwe
  have hW := hW.call (show ∀ x ∈ ([] : List Nat), x ∈ [] by decide) hkp
  have hk_3 := hxe.of (by decide) hk_3
  have hE := hE.tr hxe
  clear hxe
  obtain ⟨Γ, hΓ9⟩ : ∃ z, z = Γ9 := ⟨_, rfl⟩
  subst hΓ9
  obtain ⟨wt, hw9⟩ : ∃ z, z = w9 := ⟨_, rfl⟩
  subst hw9
  have hP : va_P (gg_D G) classes ([(t, .inr (10, [.ref q_1, .ref q_4, .ref q_5, .int (-1)]))] ++ ((q_5, .inl (G.2.2 0, 5, .inl (fun _ => 0))) :: wt)) H := hP
  have hD : va_D A ([(t, .inr (10, [.ref q_1, .ref q_4, .ref q_5, .int (-1)]))] ++ ((q_5, .inl (G.2.2 0, 5, .inl (fun _ => 0))) :: wt)) := hD
  obtain ⟨Γ9, w9, hwe, hxe, hk_7, hT, hkp⟩ := tk_take (k := 20) hT hD (by decide) (show tk_en G Γ 20 _ from ⟨⟨by decide, by decide⟩, rfl, rfl, fun _ => (show tk_e 20 0 from trivial)⟩)
  rw [hwe] at hP hD
  clear hwe
  have hW := hW.call (show ∀ x ∈ ([] : List Nat), x ∈ [] by decide) hkp
  have hk_3 := hxe.of (by decide) hk_3
  have hk_6 := hxe.of (by decide) hk_6
  have hE := hE.tr hxe
  clear hxe
  obtain ⟨Γ, hΓ9⟩ : ∃ z, z = Γ9 := ⟨_, rfl⟩
  subst hΓ9
  obtain ⟨wt, hw9⟩ : ∃ z, z = w9 := ⟨_, rfl⟩
  subst hw9
  have hP : va_P (gg_D G) classes ([] ++ ((t, .inr (10, [.ref q_1, .ref q_4, .ref q_5, .int (-1)])) :: wt)) H := hP
  have hD : va_D A ([] ++ ((t, .inr (10, [.ref q_1, .ref q_4, .ref q_5, .int (-1)])) :: wt)) := hD
  obtain ⟨Γ9, w9, hwe, hxe, hk_8, hT, hkp⟩ := tk_take (k := 11) hT hD (by decide) (show tk_en G Γ 11 _ from (tk_mko rfl rfl ⟨⟨_, rfl, hk_3⟩, ⟨_, rfl, hk_6⟩, ⟨_, rfl, hk_7⟩, ⟨_, rfl⟩, trivial⟩))
  rw [hwe] at hP hD
  clear hwe
  have hW := hW.call (show ∀ x ∈ ([] : List Nat), x ∈ [] by decide) hkp
  have hE := hE.tr hxe
  clear hxe
  obtain ⟨Γ, hΓ9⟩ : ∃ z, z = Γ9 := ⟨_, rfl⟩
  subst hΓ9
  obtain ⟨wt, hw9⟩ : ∃ z, z = w9 := ⟨_, rfl⟩
  subst hw9
  have hP9 : va_P (gg_D G) classes wt _ := hP
  have hD9 : va_D A wt := hD
  exact W.vret hx hb hr (gq_endV (Γ, wt) ⟨hT, hW, hE, hk_8⟩ hP9 hD9 hS) hS.2.2 dX10_init_34
set_option maxHeartbeats 4000000 in
set_option maxRecDepth 100000 in
theorem d_i_Sleuth (l : Launch) (G : gg_T) (Γ : Nat → Nat) (sz : Nat) (wt : va_W) (hT : tk_ty G Γ wt) (t : Nat) : Met l yX6_init (ts_L yX6_init cX6_init 1 none) ({ frames := 2, cells := 12, slots := 87, locals := 32 }) (gc_P G ([(t, .inr (6, [.null, .null, .null, .int 0]))] ++ wt) sz [.ref t]) (gc_V G (va_A ([(t, .inr (6, [.null, .null, .null, .int 0]))] ++ wt) sz) (fun (u : (Nat → Nat) × va_W) => match u with | (Γ1, wt1) => tk_ty G Γ1 wt1 ∧ tk_kp [] wt wt1 ∧ tk_ext Γ Γ1 ∧ Γ1 t = 7) (fun (u : (Nat → Nat) × va_W) => match u with | (Γ1, wt1) => wt1)) 12 87 (va_A ([(t, .inr (6, [.null, .null, .null, .int 0]))] ++ wt) sz) := by
  refine Met.ofW (cc := cX6_init) (maxL := 1) (ret := none) (by decide) rfl ?_
  intro p e s m args below meth c s₁ B hml hv
  obtain ⟨rfl, hsz, hP, hK, hD0⟩ := hv
  have hx := B.exec
  have hb := B.bytes
  have hr := B.returns
  have ht := ts_ht (atoms_spec (ws := ts_L yX6_init cX6_init 1 none) B.pre)
  have hown : s.vm.findClass RX6 = some m.cls := findClass_of_methodNamed B.named
  have hlocks := B.notSynchronized
  subst hsz
  have hD := hD0.self (sz := s.heap.size)
  generalize hAe : va_A ([(t, .inr (6, [.null, .null, .null, .int 0]))] ++ wt) s.heap.size = A at hD ⊢
  have hA : ∀ q : Nat, s.heap.size ≤ q → A q := fun q h => by rw [← hAe]; exact Or.inr h
  clear hAe hD0
  have hS : va_S A s.heap s.heap [] := va_S.rf
  obtain ⟨w0, hw0⟩ : ∃ z, z = wt := ⟨_, rfl⟩
  have hW : tk_kp [] w0 wt := by rw [hw0]; exact tk_kp.rf
  rw [← hw0]
  clear hw0
  have hin : meth.name = "<init>" := (name_of_methodNamed B.named B.method).1
  obtain ⟨Γ0, hΓ0⟩ : ∃ z, z = Γ := ⟨_, rfl⟩
  have hE : tk_ext Γ0 Γ := by rw [hΓ0]; exact tk_ext.rf
  rw [← hΓ0]
  clear hΓ0
  have hP : va_P (gg_D G) classes ([(t, .inr (6, [.null, .null, .null, .int 0]))] ++ wt) s.heap := hP
  have hD : va_D A ([(t, .inr (6, [.null, .null, .null, .int 0]))] ++ wt) := hD
  have hl := lv_entry ([.ref t]) (n := 1) (Nat.le_of_ble_eq_true rfl)
  rw [lg_entry_eq]
  generalize (lg_sl ([.ref t]) ++ List.replicate (1 - (lg_sl ([.ref t])).length) Slot.unset).toArray = ls at hl ⊢
  have hl : lv_has ls 1 [(0, .ref t)] := hl
  have l0 : (0 : Int32).toInt = 0 := by decide +kernel
  refine lv_aload_n hx hb dX6_init_0 rfl (lv_at hl 0 rfl) ?_
  refine W.objInit hx hb hown (ht _ wd_476) (ht _ wd_148) (ht _ wd_149) rfl (by rw [hml]; exact hl.1) rfl dX6_init_1 (Nat.le_of_ble_eq_true rfl) (Nat.le_of_ble_eq_true rfl) ?_
  refine W.eq (g2 := F0 m 4 ls []) rfl ?_
  refine lv_aload_n hx hb dX6_init_4 rfl (lv_at hl 0 rfl) ?_
  refine gq_new (ci := 7) hx hb ht hown i_X7 tyX7 tyX7_ok wd_477 wd_226 wd_125 hK hP hD hS hA rfl [.null, .null, .null, .null, .null, .null, .null, .null, .null, .int 0] df_X7 1 10 (Nat.le_of_ble_eq_true rfl) (Nat.le_of_ble_eq_true rfl) (Nat.le_of_ble_eq_true rfl) (Nat.le_of_ble_eq_true rfl) dX6_init_5 (fun q_1 H hP hD hS => ?_)
  have hP : va_P (gg_D G) classes ([(t, .inr (6, [.null, .null, .null, .int 0])), (q_1, .inr (7, [.null, .null, .null, .null, .null, .null, .null, .null, .null, .int 0]))] ++ wt) H := tw_newP hP
  have hD : va_D A ([(t, .inr (6, [.null, .null, .null, .int 0])), (q_1, .inr (7, [.null, .null, .null, .null, .null, .null, .null, .null, .null, .int 0]))] ++ wt) := tw_newD hD
  refine lv_dup hx hb dX6_init_8 rfl ?_
  have hP : va_P (gg_D G) classes ([(t, .inr (6, [.null, .null, .null, .int 0]))] ++ ([(q_1, .inr (7, [.null, .null, .null, .null, .null, .null, .null, .null, .null, .int 0]))] ++ wt)) H := hP
  have hD : va_D A ([(t, .inr (6, [.null, .null, .null, .int 0]))] ++ ([(q_1, .inr (7, [.null, .null, .null, .null, .null, .null, .null, .null, .null, .int 0]))] ++ wt)) := hD
  refine gt_callV (wr := [(t, .inr (6, [.null, .null, .null, .int 0]))]) (va_runIN (As := []) (rest := [.ref q_1, .ref t]) ⟨hx, hb, hml, hown, ht⟩ (d_i_State l G Γ H.size wt hT q_1) ⟨va_cnB 0 ht (tb_good (ts_good wd_229)) rfl rfl rfl (hK.2.1 _ wn_478 rfl) (ht _ wd_125) (by decide +kernel) ⟨Nat.le_of_ble_eq_true rfl, Nat.le_of_ble_eq_true rfl⟩, rfl, ht _ wd_228⟩ (gc_preS hK (tw_right hP) (tw_rightD hD)) rfl rfl hl.1 rfl (lv_room (Nat.le_of_ble_eq_true rfl)) dX6_init_9 ⟨Nat.le_of_ble_eq_true rfl, Nat.le_of_ble_eq_true rfl⟩) hP hD hS hA (fun u H locs hw hP hD hS => ?_)
  obtain ⟨Γ9, wt⟩ := u
  obtain ⟨hT, hkp, hxe, hk_3⟩ := hw
  have hW := hW.call (show ∀ x ∈ [], x ∈ [] by decide) hkp
  have hE := hE.tr hxe
  clear hxe
  obtain ⟨Γ, hΓ9⟩ : ∃ z, z = Γ9 := ⟨_, rfl⟩
  subst hΓ9
  have hP : va_P (gg_D G) classes ([(t, .inr (6, [.null, .null, .null, .int 0]))] ++ wt) H := hP
  have hD : va_D A ([(t, .inr (6, [.null, .null, .null, .int 0]))] ++ wt) := hD
  refine W.widen (k := 10) (n := 45) (Nat.le_of_ble_eq_true rfl) (Nat.le_of_ble_eq_true rfl) ?_
  refine gq_putF (ws' := [(t, .inr (6, [.ref q_1, .null, .null, .int 0]))] ++ wt) hx hb ht hown hin hK hP hD hS i_X6 tyX6 tyX6_ok nmX6 0 rfl rfl 0 (by decide) wd_479 rfl rfl rfl rfl (Nat.le_of_ble_eq_true rfl) rfl dX6_init_12 (fun H locs hP hD hS => ?_)
  refine lv_aload_n hx hb dX6_init_15 rfl (lv_at hl 0 rfl) ?_
  refine lv_bipush (v := 21) hx hb dX6_init_16 (by decide +kernel) ?_
  refine gq_newa (atype := .int) (ty := .int) hx hb rfl (ht _ wd_172) hK hP hD hS hA 0 rfl 21 (21, .inl (fun _ => 0)) (fun _ => rfl) (by decide +kernel) (by decide +kernel) (Nat.le_of_ble_eq_true rfl) 11 66 (Nat.le_of_ble_eq_true rfl) (Nat.le_of_ble_eq_true rfl) (Nat.le_of_ble_eq_true rfl) (Nat.le_of_ble_eq_true rfl) dX6_init_18 (fun q_4 H hP hD hS => ?_)
  have hP : va_P (gg_D G) classes ([(t, .inr (6, [.ref q_1, .null, .null, .int 0])), (q_4, .inl (G.2.2 0, 21, .inl (fun _ => 0)))] ++ wt) H := tw_newP hP
  have hD : va_D A ([(t, .inr (6, [.ref q_1, .null, .null, .int 0])), (q_4, .inl (G.2.2 0, 21, .inl (fun _ => 0)))] ++ wt) := tw_newD hD
  refine gq_putF (ws' := [(t, .inr (6, [.ref q_1, .ref q_4, .null, .int 0])), (q_4, .inl (G.2.2 0, 21, .inl (fun _ => 0)))] ++ wt) hx hb ht hown hin hK hP hD hS i_X6 tyX6 tyX6_ok nmX6 0 rfl rfl 1 (by decide) wd_480 rfl rfl rfl rfl (Nat.le_of_ble_eq_true rfl) rfl dX6_init_20 (fun H locs hP hD hS => ?_)
  refine lv_aload_n hx hb dX6_init_23 rfl (lv_at hl 0 rfl) ?_
  refine lv_bipush (v := 21) hx hb dX6_init_24 (by decide +kernel) ?_
  refine gq_newa (atype := .int) (ty := .int) hx hb rfl (ht _ wd_172) hK hP hD hS hA 0 rfl 21 (21, .inl (fun _ => 0)) (fun _ => rfl) (by decide +kernel) (by decide +kernel) (Nat.le_of_ble_eq_true rfl) 12 87 (Nat.le_of_ble_eq_true rfl) (Nat.le_of_ble_eq_true rfl) (Nat.le_of_ble_eq_true rfl) (Nat.le_of_ble_eq_true rfl) dX6_init_26 (fun q_5 H hP hD hS => ?_)
  have hP : va_P (gg_D G) classes ([(t, .inr (6, [.ref q_1, .ref q_4, .null, .int 0])), (q_4, .inl (G.2.2 0, 21, .inl (fun _ => 0))), (q_5, .inl (G.2.2 0, 21, .inl (fun _ => 0)))] ++ wt) H := tw_newP hP
  have hD : va_D A ([(t, .inr (6, [.ref q_1, .ref q_4, .null, .int 0])), (q_4, .inl (G.2.2 0, 21, .inl (fun _ => 0))), (q_5, .inl (G.2.2 0, 21, .inl (fun _ => 0)))] ++ wt) := tw_newD hD
  refine gq_putF (ws' := [(t, .inr (6, [.ref q_1, .ref q_4, .ref q_5, .int 0])), (q_4, .inl (G.2.2 0, 21, .inl (fun _ => 0))), (q_5, .inl (G.2.2 0, 21, .inl (fun _ => 0)))] ++ wt) hx hb ht hown hin hK hP hD hS i_X6 tyX6 tyX6_ok nmX6 0 rfl rfl 2 (by decide) wd_481 rfl rfl rfl rfl (Nat.le_of_ble_eq_true rfl) rfl dX6_init_28 (fun H locs hP hD hS => ?_)
  refine lv_aload_n hx hb dX6_init_31 rfl (lv_at hl 0 rfl) ?_
  refine lv_iconst (v := 0) hx hb dX6_init_32 (by decide +kernel) ?_
  refine gq_put (ws' := [(t, .inr (6, [.ref q_1, .ref q_4, .ref q_5, .int 0])), (q_4, .inl (G.2.2 0, 21, .inl (fun _ => 0))), (q_5, .inl (G.2.2 0, 21, .inl (fun _ => 0)))] ++ wt) hx hb ht hown hK hP hD hS i_X6 tyX6 tyX6_ok nmX6 0 rfl rfl 3 (by decide) wd_482 rfl rfl rfl rfl (Nat.le_of_ble_eq_true rfl) rfl dX6_init_33 (fun H locs hP hD hS => ?_)
  have hP := tw_permP (we' := [(t, .inr (6, [.ref q_1, .ref q_4, .ref q_5, .int 0])), (q_5, .inl (G.2.2 0, 21, .inl (fun _ => 0))), (q_4, .inl (G.2.2 0, 21, .inl (fun _ => 0)))]) [0, 2, 1] rfl hP
  have hD := tw_permD (we' := [(t, .inr (6, [.ref q_1, .ref q_4, .ref q_5, .int 0])), (q_5, .inl (G.2.2 0, 21, .inl (fun _ => 0))), (q_4, .inl (G.2.2 0, 21, .inl (fun _ => 0)))]) [0, 2, 1] (by decide) rfl hD
  have hP : va_P (gg_D G) classes ([(t, .inr (6, [.ref q_1, .ref q_4, .ref q_5, .int 0])), (q_5, .inl (G.2.2 0, 21, .inl (fun _ => 0)))] ++ ((q_4, .inl (G.2.2 0, 21, .inl (fun _ => 0))) :: wt)) H := hP
  have hD : va_D A ([(t, .inr (6, [.ref q_1, .ref q_4, .ref q_5, .int 0])), (q_5, .inl (G.2.2 0, 21, .inl (fun _ => 0)))] ++ ((q_4, .inl (G.2.2 0, 21, .inl (fun _ => 0))) :: wt)) := hD
  obtain ⟨Γ9, w9, hwe, hxe, hk_6, hT, hkp⟩ := tk_take (k := 28) hT hD (by decide) (show tk_en G Γ 28 _ from ⟨⟨by decide, by decide⟩, rfl, rfl, fun _ => (show tk_e 28 0 from trivial)⟩)
  rw [hwe] at hP hD
  clear hwe
  have hW := hW.call (show ∀ x ∈ ([] : List Nat), x ∈ [] by decide) hkp
  have hk_3 := hxe.of (by decide) hk_3
  have hE := hE.tr hxe
  clear hxe
  obtain ⟨Γ, hΓ9⟩ : ∃ z, z = Γ9 := ⟨_, rfl⟩
  subst hΓ9
  obtain ⟨wt, hw9⟩ : ∃ z, z = w9 := ⟨_, rfl⟩
  subst hw9
  have hP : va_P (gg_D G) classes ([(t, .inr (6, [.ref q_1, .ref q_4, .ref q_5, .int 0]))] ++ ((q_5, .inl (G.2.2 0, 21, .inl (fun _ => 0))) :: wt)) H := hP
  have hD : va_D A ([(t, .inr (6, [.ref q_1, .ref q_4, .ref q_5, .int 0]))] ++ ((q_5, .inl (G.2.2 0, 21, .inl (fun _ => 0))) :: wt)) := hD
  obtain ⟨Γ9, w9, hwe, hxe, hk_7, hT, hkp⟩ := tk_take (k := 28) hT hD (by decide) (show tk_en G Γ 28 _ from ⟨⟨by decide, by decide⟩, rfl, rfl, fun _ => (show tk_e 28 0 from trivial)⟩)
  rw [hwe] at hP hD
  clear hwe
  have hW := hW.call (show ∀ x ∈ ([] : List Nat), x ∈ [] by decide) hkp
  have hk_3 := hxe.of (by decide) hk_3
  have hk_6 := hxe.of (by decide) hk_6
  have hE := hE.tr hxe
  clear hxe
  obtain ⟨Γ, hΓ9⟩ : ∃ z, z = Γ9 := ⟨_, rfl⟩
  subst hΓ9
  obtain ⟨wt, hw9⟩ : ∃ z, z = w9 := ⟨_, rfl⟩
  subst hw9
  have hP : va_P (gg_D G) classes ([] ++ ((t, .inr (6, [.ref q_1, .ref q_4, .ref q_5, .int 0])) :: wt)) H := hP
  have hD : va_D A ([] ++ ((t, .inr (6, [.ref q_1, .ref q_4, .ref q_5, .int 0])) :: wt)) := hD
  obtain ⟨Γ9, w9, hwe, hxe, hk_8, hT, hkp⟩ := tk_take (k := 7) hT hD (by decide) (show tk_en G Γ 7 _ from (tk_mko rfl rfl ⟨⟨_, rfl, hk_3⟩, ⟨_, rfl, hk_6⟩, ⟨_, rfl, hk_7⟩, ⟨_, rfl⟩, trivial⟩))
  rw [hwe] at hP hD
  clear hwe
  have hW := hW.call (show ∀ x ∈ ([] : List Nat), x ∈ [] by decide) hkp
  have hE := hE.tr hxe
  clear hxe
  obtain ⟨Γ, hΓ9⟩ : ∃ z, z = Γ9 := ⟨_, rfl⟩
  subst hΓ9
  obtain ⟨wt, hw9⟩ : ∃ z, z = w9 := ⟨_, rfl⟩
  subst hw9
  have hP9 : va_P (gg_D G) classes wt _ := hP
  have hD9 : va_D A wt := hD
  exact W.vret hx hb hr (gq_endV (Γ, wt) ⟨hT, hW, hE, hk_8⟩ hP9 hD9 hS) hS.2.2 dX6_init_36
set_option maxHeartbeats 4000000 in
set_option maxRecDepth 100000 in
theorem d_i_Tape (l : Launch) (G : gg_T) (Γ : Nat → Nat) (sz : Nat) (wt : va_W) (hT : tk_ty G Γ wt) (tp : Nat) : Met l yX8_init (ts_L yX8_init cX8_init 1 none) ({ frames := 1, cells := 1, slots := 400, locals := 12 }) (gc_P G ([(tp, .inr (8, [.null, .int 0, .int 0, .int 0, .int 0]))] ++ wt) sz [.ref tp]) (gc_V G (va_A ([(tp, .inr (8, [.null, .int 0, .int 0, .int 0, .int 0]))] ++ wt) sz) (fun (u : (Nat) × va_W) => match u with | (bp, wt1) => tk_ty G Γ wt1 ∧ tk_kp [] wt wt1) (fun (u : (Nat) × va_W) => match u with | (bp, wt1) => [(tp, .inr (8, [.ref bp, .int 0, .int 0, .int 0, .int 0])), (bp, .inl (G.2.2 0, 400, .inl (fun _ => 0)))] ++ wt1)) 1 400 (va_A ([(tp, .inr (8, [.null, .int 0, .int 0, .int 0, .int 0]))] ++ wt) sz) := by
  refine Met.ofW (cc := cX8_init) (maxL := 1) (ret := none) (by decide) rfl ?_
  intro p e s m args below meth c s₁ B hml hv
  obtain ⟨rfl, hsz, hP, hK, hD0⟩ := hv
  have hx := B.exec
  have hb := B.bytes
  have hr := B.returns
  have ht := ts_ht (atoms_spec (ws := ts_L yX8_init cX8_init 1 none) B.pre)
  have hown : s.vm.findClass RX8 = some m.cls := findClass_of_methodNamed B.named
  have hlocks := B.notSynchronized
  subst hsz
  have hD := hD0.self (sz := s.heap.size)
  generalize hAe : va_A ([(tp, .inr (8, [.null, .int 0, .int 0, .int 0, .int 0]))] ++ wt) s.heap.size = A at hD ⊢
  have hA : ∀ q : Nat, s.heap.size ≤ q → A q := fun q h => by rw [← hAe]; exact Or.inr h
  clear hAe hD0
  have hS : va_S A s.heap s.heap [] := va_S.rf
  obtain ⟨w0, hw0⟩ : ∃ z, z = wt := ⟨_, rfl⟩
  have hW : tk_kp [] w0 wt := by rw [hw0]; exact tk_kp.rf
  rw [← hw0]
  clear hw0
  have hin : meth.name = "<init>" := (name_of_methodNamed B.named B.method).1
  have hP : va_P (gg_D G) classes ([(tp, .inr (8, [.null, .int 0, .int 0, .int 0, .int 0]))] ++ wt) s.heap := hP
  have hD : va_D A ([(tp, .inr (8, [.null, .int 0, .int 0, .int 0, .int 0]))] ++ wt) := hD
  have hl := lv_entry ([.ref tp]) (n := 1) (Nat.le_of_ble_eq_true rfl)
  rw [lg_entry_eq]
  generalize (lg_sl ([.ref tp]) ++ List.replicate (1 - (lg_sl ([.ref tp])).length) Slot.unset).toArray = ls at hl ⊢
  have hl : lv_has ls 1 [(0, .ref tp)] := hl
  have l0 : (0 : Int32).toInt = 0 := by decide +kernel
  refine lv_aload_n hx hb dX8_init_0 rfl (lv_at hl 0 rfl) ?_
  refine W.objInit hx hb hown (ht _ wd_155) (ht _ wd_148) (ht _ wd_149) rfl (by rw [hml]; exact hl.1) rfl dX8_init_1 (Nat.le_of_ble_eq_true rfl) (Nat.le_of_ble_eq_true rfl) ?_
  refine W.eq (g2 := F0 m 4 ls []) rfl ?_
  refine lv_aload_n hx hb dX8_init_4 rfl (lv_at hl 0 rfl) ?_
  refine lv_sipush (v := 400) hx hb dX8_init_5 (by decide +kernel) ?_
  refine gq_newa (atype := .int) (ty := .int) hx hb rfl (ht _ wd_172) hK hP hD hS hA 0 rfl 400 (400, .inl (fun _ => 0)) (fun _ => rfl) (by decide +kernel) (by decide +kernel) (Nat.le_of_ble_eq_true rfl) 1 400 (Nat.le_of_ble_eq_true rfl) (Nat.le_of_ble_eq_true rfl) (Nat.le_of_ble_eq_true rfl) (Nat.le_of_ble_eq_true rfl) dX8_init_8 (fun q_1 H hP hD hS => ?_)
  have hP : va_P (gg_D G) classes ([(tp, .inr (8, [.null, .int 0, .int 0, .int 0, .int 0])), (q_1, .inl (G.2.2 0, 400, .inl (fun _ => 0)))] ++ wt) H := tw_newP hP
  have hD : va_D A ([(tp, .inr (8, [.null, .int 0, .int 0, .int 0, .int 0])), (q_1, .inl (G.2.2 0, 400, .inl (fun _ => 0)))] ++ wt) := tw_newD hD
  refine gq_putF (ws' := [(tp, .inr (8, [.ref q_1, .int 0, .int 0, .int 0, .int 0])), (q_1, .inl (G.2.2 0, 400, .inl (fun _ => 0)))] ++ wt) hx hb ht hown hin hK hP hD hS i_X8 tyX8 tyX8_ok nmX8 0 rfl rfl 0 (by decide) wd_156 rfl rfl rfl rfl (Nat.le_of_ble_eq_true rfl) rfl dX8_init_10 (fun H locs hP hD hS => ?_)
  refine lv_aload_n hx hb dX8_init_13 rfl (lv_at hl 0 rfl) ?_
  refine lv_iconst (v := 0) hx hb dX8_init_14 (by decide +kernel) ?_
  refine gq_put (ws' := [(tp, .inr (8, [.ref q_1, .int 0, .int 0, .int 0, .int 0])), (q_1, .inl (G.2.2 0, 400, .inl (fun _ => 0)))] ++ wt) hx hb ht hown hK hP hD hS i_X8 tyX8 tyX8_ok nmX8 0 rfl rfl 1 (by decide) wd_157 rfl rfl rfl rfl (Nat.le_of_ble_eq_true rfl) rfl dX8_init_15 (fun H locs hP hD hS => ?_)
  refine lv_aload_n hx hb dX8_init_18 rfl (lv_at hl 0 rfl) ?_
  refine lv_iconst (v := 0) hx hb dX8_init_19 (by decide +kernel) ?_
  refine gq_put (ws' := [(tp, .inr (8, [.ref q_1, .int 0, .int 0, .int 0, .int 0])), (q_1, .inl (G.2.2 0, 400, .inl (fun _ => 0)))] ++ wt) hx hb ht hown hK hP hD hS i_X8 tyX8 tyX8_ok nmX8 0 rfl rfl 2 (by decide) wd_158 rfl rfl rfl rfl (Nat.le_of_ble_eq_true rfl) rfl dX8_init_20 (fun H locs hP hD hS => ?_)
  refine lv_aload_n hx hb dX8_init_23 rfl (lv_at hl 0 rfl) ?_
  refine lv_iconst (v := 0) hx hb dX8_init_24 (by decide +kernel) ?_
  refine gq_put (ws' := [(tp, .inr (8, [.ref q_1, .int 0, .int 0, .int 0, .int 0])), (q_1, .inl (G.2.2 0, 400, .inl (fun _ => 0)))] ++ wt) hx hb ht hown hK hP hD hS i_X8 tyX8 tyX8_ok nmX8 0 rfl rfl 3 (by decide) wd_159 rfl rfl rfl rfl (Nat.le_of_ble_eq_true rfl) rfl dX8_init_25 (fun H locs hP hD hS => ?_)
  refine lv_aload_n hx hb dX8_init_28 rfl (lv_at hl 0 rfl) ?_
  refine lv_iconst (v := 0) hx hb dX8_init_29 (by decide +kernel) ?_
  refine gq_put (ws' := [(tp, .inr (8, [.ref q_1, .int 0, .int 0, .int 0, .int 0])), (q_1, .inl (G.2.2 0, 400, .inl (fun _ => 0)))] ++ wt) hx hb ht hown hK hP hD hS i_X8 tyX8 tyX8_ok nmX8 0 rfl rfl 4 (by decide) wd_160 rfl rfl rfl rfl (Nat.le_of_ble_eq_true rfl) rfl dX8_init_30 (fun H locs hP hD hS => ?_)
  have hP9 : va_P (gg_D G) classes ([(tp, .inr (8, [.ref q_1, .int 0, .int 0, .int 0, .int 0])), (q_1, .inl (G.2.2 0, 400, .inl (fun _ => 0)))] ++ wt) _ := hP
  have hD9 : va_D A ([(tp, .inr (8, [.ref q_1, .int 0, .int 0, .int 0, .int 0])), (q_1, .inl (G.2.2 0, 400, .inl (fun _ => 0)))] ++ wt) := hD
  exact W.vret hx hb hr (gq_endV (q_1, wt) ⟨hT, hW⟩ hP9 hD9 hS) hS.2.2 dX8_init_33
set_option maxHeartbeats 4000000 in
set_option maxRecDepth 100000 in
theorem d_i_Sale (l : Launch) (G : gg_T) (Γ : Nat → Nat) (sz : Nat) (wt : va_W) (hT : tk_ty G Γ wt) (h0 : Nat) : Met l yX11_init (ts_L yX11_init cX11_init 2 none) ({ frames := 3, cells := 409, slots := 5398, locals := 53 }) (gc_P G ([(h0, .inr (11, [.null, .null, .null, .null, .null, .null, .null, .null, .null, .null, .null, .null, .null, .int 0, .int 0, .int 0]))] ++ wt) sz [.ref h0]) (gc_V G (va_A ([(h0, .inr (11, [.null, .null, .null, .null, .null, .null, .null, .null, .null, .null, .null, .null, .null, .int 0, .int 0, .int 0]))] ++ wt) sz) (fun (u : (Nat → Nat) × (Nat) × (Nat) × (Nat) × (Nat) × (Nat) × (Nat) × (Nat) × (Nat) × (Nat) × (Nat) × (Nat) × (Nat) × (Nat) × (Nat) × (Nat → Option Nat) × (Nat → Nat) × va_W) => match u with | (Γ1, tp, bp, ra1, ra2, ra3, ra4, ra5, ra6, ra7, ra8, ra9, ra10, ra11, ra12, fi, ia, wt1) => tk_ty G Γ1 wt1 ∧ tk_kp [709] wt wt1 ∧ tk_ext Γ Γ1 ∧ (Γ1 ra1 = 10) ∧ (Γ1 ra2 = 10) ∧ (Γ1 ra3 = 8) ∧ (Γ1 ra4 = 8) ∧ (Γ1 ra5 = 4) ∧ (Γ1 ra6 = 3) ∧ (Γ1 ra7 = 41) ∧ (Γ1 ra9 = 1) ∧ (Γ1 ra10 = 6) ∧ (Γ1 ra11 = 11) ∧ (Γ1 ra12 = 7) ∧ (∀ j : Nat, j < 4 → fi j = some (ia j)) ∧ (∀ j : Nat, j < 4 → Γ1 (ia j) = 2) ∧ (∀ i j : Nat, i < 4 → j < 4 → ia i = ia j → i = j) ∧ (∀ j : Nat, j < 4 → tk_fl wt1 (ia j) 1 3 (.int 0)) ∧ (∀ j : Nat, j < 4 → tk_fl wt1 (ia j) 1 5 (.int 0))) (fun (u : (Nat → Nat) × (Nat) × (Nat) × (Nat) × (Nat) × (Nat) × (Nat) × (Nat) × (Nat) × (Nat) × (Nat) × (Nat) × (Nat) × (Nat) × (Nat) × (Nat → Option Nat) × (Nat → Nat) × va_W) => match u with | (Γ1, tp, bp, ra1, ra2, ra3, ra4, ra5, ra6, ra7, ra8, ra9, ra10, ra11, ra12, fi, ia, wt1) => [(h0, .inr (11, [.ref tp, .ref ra1, .ref ra2, .ref ra3, .ref ra4, .ref ra5, .ref ra6, .ref ra7, .ref ra8, .ref ra9, .ref ra10, .ref ra11, .ref ra12, .int 0, .int (-1), .int 0])), (tp, .inr (8, [.ref bp, .int 0, .int 0, .int 0, .int 0])), (bp, .inl (G.2.2 0, 400, .inl (fun _ => 0))), (ra8, .inl (G.2.2 6, 4, .inr (.inr (.inr (.inr fi)))))] ++ wt1)) 409 5398 (va_A ([(h0, .inr (11, [.null, .null, .null, .null, .null, .null, .null, .null, .null, .null, .null, .null, .null, .int 0, .int 0, .int 0]))] ++ wt) sz) := by
  refine Met.ofW (cc := cX11_init) (maxL := 2) (ret := none) (by decide) rfl ?_
  intro p e s m args below meth c s₁ B hml hv
  obtain ⟨rfl, hsz, hP, hK, hD0⟩ := hv
  have hx := B.exec
  have hb := B.bytes
  have hr := B.returns
  have ht := ts_ht (atoms_spec (ws := ts_L yX11_init cX11_init 2 none) B.pre)
  have hown : s.vm.findClass RX11 = some m.cls := findClass_of_methodNamed B.named
  have hlocks := B.notSynchronized
  subst hsz
  have hD := hD0.self (sz := s.heap.size)
  generalize hAe : va_A ([(h0, .inr (11, [.null, .null, .null, .null, .null, .null, .null, .null, .null, .null, .null, .null, .null, .int 0, .int 0, .int 0]))] ++ wt) s.heap.size = A at hD ⊢
  have hA : ∀ q : Nat, s.heap.size ≤ q → A q := fun q h => by rw [← hAe]; exact Or.inr h
  clear hAe hD0
  have hS : va_S A s.heap s.heap [] := va_S.rf
  obtain ⟨w0, hw0⟩ : ∃ z, z = wt := ⟨_, rfl⟩
  have hW : tk_kp [709] w0 wt := by rw [hw0]; exact tk_kp.rf
  rw [← hw0]
  clear hw0
  have hin : meth.name = "<init>" := (name_of_methodNamed B.named B.method).1
  obtain ⟨Γ0, hΓ0⟩ : ∃ z, z = Γ := ⟨_, rfl⟩
  have hE : tk_ext Γ0 Γ := by rw [hΓ0]; exact tk_ext.rf
  rw [← hΓ0]
  clear hΓ0
  have hP : va_P (gg_D G) classes ([(h0, .inr (11, [.null, .null, .null, .null, .null, .null, .null, .null, .null, .null, .null, .null, .null, .int 0, .int 0, .int 0]))] ++ wt) s.heap := hP
  have hD : va_D A ([(h0, .inr (11, [.null, .null, .null, .null, .null, .null, .null, .null, .null, .null, .null, .null, .null, .int 0, .int 0, .int 0]))] ++ wt) := hD
  have hl := lv_entry ([.ref h0]) (n := 2) (Nat.le_of_ble_eq_true rfl)
  rw [lg_entry_eq]
  generalize (lg_sl ([.ref h0]) ++ List.replicate (2 - (lg_sl ([.ref h0])).length) Slot.unset).toArray = ls at hl ⊢
  have hl : lv_has ls 2 [(0, .ref h0)] := hl
  have lm1 : ((-1) : Int32).toInt = -1 := by decide +kernel
  have l0 : (0 : Int32).toInt = 0 := by decide +kernel
  have l1 : (1 : Int32).toInt = 1 := by decide +kernel
  have l2 : (2 : Int32).toInt = 2 := by decide +kernel
  have l3 : (3 : Int32).toInt = 3 := by decide +kernel
  have l4 : (4 : Int32).toInt = 4 := by decide +kernel
  have l5 : (5 : Int32).toInt = 5 := by decide +kernel
  have l6 : (6 : Int32).toInt = 6 := by decide +kernel
  refine lv_aload_n hx hb dX11_init_0 rfl (lv_at hl 0 rfl) ?_
  refine W.objInit hx hb hown (ht _ wd_147) (ht _ wd_148) (ht _ wd_149) rfl (by rw [hml]; exact hl.1) rfl dX11_init_1 (Nat.le_of_ble_eq_true rfl) (Nat.le_of_ble_eq_true rfl) ?_
  refine W.eq (g2 := F0 m 4 ls []) rfl ?_
  refine lv_aload_n hx hb dX11_init_4 rfl (lv_at hl 0 rfl) ?_
  refine gq_new (ci := 8) hx hb ht hown i_X8 tyX8 tyX8_ok wd_150 wd_151 wd_123 hK hP hD hS hA rfl [.null, .int 0, .int 0, .int 0, .int 0] df_X8 1 5 (Nat.le_of_ble_eq_true rfl) (Nat.le_of_ble_eq_true rfl) (Nat.le_of_ble_eq_true rfl) (Nat.le_of_ble_eq_true rfl) dX11_init_5 (fun q_1 H hP hD hS => ?_)
  have hP : va_P (gg_D G) classes ([(h0, .inr (11, [.null, .null, .null, .null, .null, .null, .null, .null, .null, .null, .null, .null, .null, .int 0, .int 0, .int 0])), (q_1, .inr (8, [.null, .int 0, .int 0, .int 0, .int 0]))] ++ wt) H := tw_newP hP
  have hD : va_D A ([(h0, .inr (11, [.null, .null, .null, .null, .null, .null, .null, .null, .null, .null, .null, .null, .null, .int 0, .int 0, .int 0])), (q_1, .inr (8, [.null, .int 0, .int 0, .int 0, .int 0]))] ++ wt) := tw_newD hD
  refine lv_dup hx hb dX11_init_8 rfl ?_
  have hP : va_P (gg_D G) classes ([(h0, .inr (11, [.null, .null, .null, .null, .null, .null, .null, .null, .null, .null, .null, .null, .null, .int 0, .int 0, .int 0]))] ++ ([(q_1, .inr (8, [.null, .int 0, .int 0, .int 0, .int 0]))] ++ wt)) H := hP
  have hD : va_D A ([(h0, .inr (11, [.null, .null, .null, .null, .null, .null, .null, .null, .null, .null, .null, .null, .null, .int 0, .int 0, .int 0]))] ++ ([(q_1, .inr (8, [.null, .int 0, .int 0, .int 0, .int 0]))] ++ wt)) := hD
  refine gt_callV (wr := [(h0, .inr (11, [.null, .null, .null, .null, .null, .null, .null, .null, .null, .null, .null, .null, .null, .int 0, .int 0, .int 0]))]) (va_runIN (As := []) (rest := [.ref q_1, .ref h0]) ⟨hx, hb, hml, hown, ht⟩ (d_i_Tape l G Γ H.size wt hT q_1) ⟨va_cnB 0 ht (tb_good (ts_good wd_154)) rfl rfl rfl (hK.2.1 _ wn_152 rfl) (ht _ wd_123) (by decide +kernel) ⟨Nat.le_of_ble_eq_true rfl, Nat.le_of_ble_eq_true rfl⟩, rfl, ht _ wd_153⟩ (gc_preS hK (tw_right hP) (tw_rightD hD)) rfl rfl hl.1 rfl (lv_room (Nat.le_of_ble_eq_true rfl)) dX11_init_9 ⟨Nat.le_of_ble_eq_true rfl, Nat.le_of_ble_eq_true rfl⟩) hP hD hS hA (fun u H locs hw hP hD hS => ?_)
  obtain ⟨y_2, wt⟩ := u
  obtain ⟨hT, hkp⟩ := hw
  have hW := hW.call (show ∀ x ∈ [], x ∈ [709] by decide) hkp
  have hP : va_P (gg_D G) classes ([(h0, .inr (11, [.null, .null, .null, .null, .null, .null, .null, .null, .null, .null, .null, .null, .null, .int 0, .int 0, .int 0])), (q_1, .inr (8, [.ref y_2, .int 0, .int 0, .int 0, .int 0])), (y_2, .inl (G.2.2 0, 400, .inl (fun _ => 0)))] ++ wt) H := hP
  have hD : va_D A ([(h0, .inr (11, [.null, .null, .null, .null, .null, .null, .null, .null, .null, .null, .null, .null, .null, .int 0, .int 0, .int 0])), (q_1, .inr (8, [.ref y_2, .int 0, .int 0, .int 0, .int 0])), (y_2, .inl (G.2.2 0, 400, .inl (fun _ => 0)))] ++ wt) := hD
  refine W.widen (k := 2) (n := 405) (Nat.le_of_ble_eq_true rfl) (Nat.le_of_ble_eq_true rfl) ?_
  refine gq_putF (ws' := [(h0, .inr (11, [.ref q_1, .null, .null, .null, .null, .null, .null, .null, .null, .null, .null, .null, .null, .int 0, .int 0, .int 0])), (q_1, .inr (8, [.ref y_2, .int 0, .int 0, .int 0, .int 0])), (y_2, .inl (G.2.2 0, 400, .inl (fun _ => 0)))] ++ wt) hx hb ht hown hin hK hP hD hS i_X11 tyX11 tyX11_ok nmX11 0 rfl rfl 0 (by decide) wd_497 rfl rfl rfl rfl (Nat.le_of_ble_eq_true rfl) rfl dX11_init_12 (fun H locs hP hD hS => ?_)
  refine lv_aload_n hx hb dX11_init_15 rfl (lv_at hl 0 rfl) ?_
  refine gq_new (ci := 9) hx hb ht hown i_X9 tyX9 tyX9_ok wd_173 wd_174 wd_124 hK hP hD hS hA rfl [.int 0, .int 0, .int 0, .int 0, .null, .null, .null, .null, .null] df_X9 3 414 (Nat.le_of_ble_eq_true rfl) (Nat.le_of_ble_eq_true rfl) (Nat.le_of_ble_eq_true rfl) (Nat.le_of_ble_eq_true rfl) dX11_init_16 (fun q_3 H hP hD hS => ?_)
  have hP : va_P (gg_D G) classes ([(h0, .inr (11, [.ref q_1, .null, .null, .null, .null, .null, .null, .null, .null, .null, .null, .null, .null, .int 0, .int 0, .int 0])), (q_1, .inr (8, [.ref y_2, .int 0, .int 0, .int 0, .int 0])), (y_2, .inl (G.2.2 0, 400, .inl (fun _ => 0))), (q_3, .inr (9, [.int 0, .int 0, .int 0, .int 0, .null, .null, .null, .null, .null]))] ++ wt) H := tw_newP hP
  have hD : va_D A ([(h0, .inr (11, [.ref q_1, .null, .null, .null, .null, .null, .null, .null, .null, .null, .null, .null, .null, .int 0, .int 0, .int 0])), (q_1, .inr (8, [.ref y_2, .int 0, .int 0, .int 0, .int 0])), (y_2, .inl (G.2.2 0, 400, .inl (fun _ => 0))), (q_3, .inr (9, [.int 0, .int 0, .int 0, .int 0, .null, .null, .null, .null, .null]))] ++ wt) := tw_newD hD
  refine lv_dup hx hb dX11_init_19 rfl ?_
  have hP : va_P (gg_D G) classes ([(h0, .inr (11, [.ref q_1, .null, .null, .null, .null, .null, .null, .null, .null, .null, .null, .null, .null, .int 0, .int 0, .int 0])), (q_1, .inr (8, [.ref y_2, .int 0, .int 0, .int 0, .int 0])), (y_2, .inl (G.2.2 0, 400, .inl (fun _ => 0)))] ++ ([(q_3, .inr (9, [.int 0, .int 0, .int 0, .int 0, .null, .null, .null, .null, .null]))] ++ wt)) H := hP
  have hD : va_D A ([(h0, .inr (11, [.ref q_1, .null, .null, .null, .null, .null, .null, .null, .null, .null, .null, .null, .null, .int 0, .int 0, .int 0])), (q_1, .inr (8, [.ref y_2, .int 0, .int 0, .int 0, .int 0])), (y_2, .inl (G.2.2 0, 400, .inl (fun _ => 0)))] ++ ([(q_3, .inr (9, [.int 0, .int 0, .int 0, .int 0, .null, .null, .null, .null, .null]))] ++ wt)) := hD
  refine gt_callV (wr := [(h0, .inr (11, [.ref q_1, .null, .null, .null, .null, .null, .null, .null, .null, .null, .null, .null, .null, .int 0, .int 0, .int 0])), (q_1, .inr (8, [.ref y_2, .int 0, .int 0, .int 0, .int 0])), (y_2, .inl (G.2.2 0, 400, .inl (fun _ => 0)))]) (va_runIN (As := []) (rest := [.ref q_3, .ref h0]) ⟨hx, hb, hml, hown, ht⟩ (d_i_Terms l G Γ H.size wt hT q_3) ⟨va_cnB 0 ht (tb_good (ts_good wd_177)) rfl rfl rfl (hK.2.1 _ wn_175 rfl) (ht _ wd_124) (by decide +kernel) ⟨Nat.le_of_ble_eq_true rfl, Nat.le_of_ble_eq_true rfl⟩, rfl, ht _ wd_176⟩ (gc_preS hK (tw_right hP) (tw_rightD hD)) rfl rfl hl.1 rfl (lv_room (Nat.le_of_ble_eq_true rfl)) dX11_init_20 ⟨Nat.le_of_ble_eq_true rfl, Nat.le_of_ble_eq_true rfl⟩) hP hD hS hA (fun u H locs hw hP hD hS => ?_)
  obtain ⟨Γ9, wt⟩ := u
  obtain ⟨hT, hkp, hxe, hk_5⟩ := hw
  have hW := hW.call (show ∀ x ∈ [], x ∈ [709] by decide) hkp
  have hE := hE.tr hxe
  clear hxe
  obtain ⟨Γ, hΓ9⟩ : ∃ z, z = Γ9 := ⟨_, rfl⟩
  subst hΓ9
  have hP : va_P (gg_D G) classes ([(h0, .inr (11, [.ref q_1, .null, .null, .null, .null, .null, .null, .null, .null, .null, .null, .null, .null, .int 0, .int 0, .int 0])), (q_1, .inr (8, [.ref y_2, .int 0, .int 0, .int 0, .int 0])), (y_2, .inl (G.2.2 0, 400, .inl (fun _ => 0)))] ++ wt) H := hP
  have hD : va_D A ([(h0, .inr (11, [.ref q_1, .null, .null, .null, .null, .null, .null, .null, .null, .null, .null, .null, .null, .int 0, .int 0, .int 0])), (q_1, .inr (8, [.ref y_2, .int 0, .int 0, .int 0, .int 0])), (y_2, .inl (G.2.2 0, 400, .inl (fun _ => 0)))] ++ wt) := hD
  refine W.widen (k := 8) (n := 445) (Nat.le_of_ble_eq_true rfl) (Nat.le_of_ble_eq_true rfl) ?_
  refine gq_putF (ws' := [(h0, .inr (11, [.ref q_1, .ref q_3, .null, .null, .null, .null, .null, .null, .null, .null, .null, .null, .null, .int 0, .int 0, .int 0])), (q_1, .inr (8, [.ref y_2, .int 0, .int 0, .int 0, .int 0])), (y_2, .inl (G.2.2 0, 400, .inl (fun _ => 0)))] ++ wt) hx hb ht hown hin hK hP hD hS i_X11 tyX11 tyX11_ok nmX11 0 rfl rfl 1 (by decide) wd_498 rfl rfl rfl rfl (Nat.le_of_ble_eq_true rfl) rfl dX11_init_23 (fun H locs hP hD hS => ?_)
  refine lv_aload_n hx hb dX11_init_26 rfl (lv_at hl 0 rfl) ?_
  refine gq_new (ci := 9) hx hb ht hown i_X9 tyX9 tyX9_ok wd_173 wd_174 wd_124 hK hP hD hS hA rfl [.int 0, .int 0, .int 0, .int 0, .null, .null, .null, .null, .null] df_X9 9 454 (Nat.le_of_ble_eq_true rfl) (Nat.le_of_ble_eq_true rfl) (Nat.le_of_ble_eq_true rfl) (Nat.le_of_ble_eq_true rfl) dX11_init_27 (fun q_6 H hP hD hS => ?_)
  have hP : va_P (gg_D G) classes ([(h0, .inr (11, [.ref q_1, .ref q_3, .null, .null, .null, .null, .null, .null, .null, .null, .null, .null, .null, .int 0, .int 0, .int 0])), (q_1, .inr (8, [.ref y_2, .int 0, .int 0, .int 0, .int 0])), (y_2, .inl (G.2.2 0, 400, .inl (fun _ => 0))), (q_6, .inr (9, [.int 0, .int 0, .int 0, .int 0, .null, .null, .null, .null, .null]))] ++ wt) H := tw_newP hP
  have hD : va_D A ([(h0, .inr (11, [.ref q_1, .ref q_3, .null, .null, .null, .null, .null, .null, .null, .null, .null, .null, .null, .int 0, .int 0, .int 0])), (q_1, .inr (8, [.ref y_2, .int 0, .int 0, .int 0, .int 0])), (y_2, .inl (G.2.2 0, 400, .inl (fun _ => 0))), (q_6, .inr (9, [.int 0, .int 0, .int 0, .int 0, .null, .null, .null, .null, .null]))] ++ wt) := tw_newD hD
  refine lv_dup hx hb dX11_init_30 rfl ?_
  have hP : va_P (gg_D G) classes ([(h0, .inr (11, [.ref q_1, .ref q_3, .null, .null, .null, .null, .null, .null, .null, .null, .null, .null, .null, .int 0, .int 0, .int 0])), (q_1, .inr (8, [.ref y_2, .int 0, .int 0, .int 0, .int 0])), (y_2, .inl (G.2.2 0, 400, .inl (fun _ => 0)))] ++ ([(q_6, .inr (9, [.int 0, .int 0, .int 0, .int 0, .null, .null, .null, .null, .null]))] ++ wt)) H := hP
  have hD : va_D A ([(h0, .inr (11, [.ref q_1, .ref q_3, .null, .null, .null, .null, .null, .null, .null, .null, .null, .null, .null, .int 0, .int 0, .int 0])), (q_1, .inr (8, [.ref y_2, .int 0, .int 0, .int 0, .int 0])), (y_2, .inl (G.2.2 0, 400, .inl (fun _ => 0)))] ++ ([(q_6, .inr (9, [.int 0, .int 0, .int 0, .int 0, .null, .null, .null, .null, .null]))] ++ wt)) := hD
  refine gt_callV (wr := [(h0, .inr (11, [.ref q_1, .ref q_3, .null, .null, .null, .null, .null, .null, .null, .null, .null, .null, .null, .int 0, .int 0, .int 0])), (q_1, .inr (8, [.ref y_2, .int 0, .int 0, .int 0, .int 0])), (y_2, .inl (G.2.2 0, 400, .inl (fun _ => 0)))]) (va_runIN (As := []) (rest := [.ref q_6, .ref h0]) ⟨hx, hb, hml, hown, ht⟩ (d_i_Terms l G Γ H.size wt hT q_6) ⟨va_cnB 0 ht (tb_good (ts_good wd_177)) rfl rfl rfl (hK.2.1 _ wn_175 rfl) (ht _ wd_124) (by decide +kernel) ⟨Nat.le_of_ble_eq_true rfl, Nat.le_of_ble_eq_true rfl⟩, rfl, ht _ wd_176⟩ (gc_preS hK (tw_right hP) (tw_rightD hD)) rfl rfl hl.1 rfl (lv_room (Nat.le_of_ble_eq_true rfl)) dX11_init_31 ⟨Nat.le_of_ble_eq_true rfl, Nat.le_of_ble_eq_true rfl⟩) hP hD hS hA (fun u H locs hw hP hD hS => ?_)
  obtain ⟨Γ9, wt⟩ := u
  obtain ⟨hT, hkp, hxe, hk_8⟩ := hw
  have hW := hW.call (show ∀ x ∈ [], x ∈ [709] by decide) hkp
  have hk_5 := hxe.of (by decide) hk_5
  have hE := hE.tr hxe
  clear hxe
  obtain ⟨Γ, hΓ9⟩ : ∃ z, z = Γ9 := ⟨_, rfl⟩
  subst hΓ9
  have hP : va_P (gg_D G) classes ([(h0, .inr (11, [.ref q_1, .ref q_3, .null, .null, .null, .null, .null, .null, .null, .null, .null, .null, .null, .int 0, .int 0, .int 0])), (q_1, .inr (8, [.ref y_2, .int 0, .int 0, .int 0, .int 0])), (y_2, .inl (G.2.2 0, 400, .inl (fun _ => 0)))] ++ wt) H := hP
  have hD : va_D A ([(h0, .inr (11, [.ref q_1, .ref q_3, .null, .null, .null, .null, .null, .null, .null, .null, .null, .null, .null, .int 0, .int 0, .int 0])), (q_1, .inr (8, [.ref y_2, .int 0, .int 0, .int 0, .int 0])), (y_2, .inl (G.2.2 0, 400, .inl (fun _ => 0)))] ++ wt) := hD
  refine W.widen (k := 14) (n := 485) (Nat.le_of_ble_eq_true rfl) (Nat.le_of_ble_eq_true rfl) ?_
  refine gq_putF (ws' := [(h0, .inr (11, [.ref q_1, .ref q_3, .ref q_6, .null, .null, .null, .null, .null, .null, .null, .null, .null, .null, .int 0, .int 0, .int 0])), (q_1, .inr (8, [.ref y_2, .int 0, .int 0, .int 0, .int 0])), (y_2, .inl (G.2.2 0, 400, .inl (fun _ => 0)))] ++ wt) hx hb ht hown hin hK hP hD hS i_X11 tyX11 tyX11_ok nmX11 0 rfl rfl 2 (by decide) wd_499 rfl rfl rfl rfl (Nat.le_of_ble_eq_true rfl) rfl dX11_init_34 (fun H locs hP hD hS => ?_)
  refine lv_aload_n hx hb dX11_init_37 rfl (lv_at hl 0 rfl) ?_
  refine gq_new (ci := 7) hx hb ht hown i_X7 tyX7 tyX7_ok wd_225 wd_226 wd_125 hK hP hD hS hA rfl [.null, .null, .null, .null, .null, .null, .null, .null, .null, .int 0] df_X7 15 495 (Nat.le_of_ble_eq_true rfl) (Nat.le_of_ble_eq_true rfl) (Nat.le_of_ble_eq_true rfl) (Nat.le_of_ble_eq_true rfl) dX11_init_38 (fun q_9 H hP hD hS => ?_)
  have hP : va_P (gg_D G) classes ([(h0, .inr (11, [.ref q_1, .ref q_3, .ref q_6, .null, .null, .null, .null, .null, .null, .null, .null, .null, .null, .int 0, .int 0, .int 0])), (q_1, .inr (8, [.ref y_2, .int 0, .int 0, .int 0, .int 0])), (y_2, .inl (G.2.2 0, 400, .inl (fun _ => 0))), (q_9, .inr (7, [.null, .null, .null, .null, .null, .null, .null, .null, .null, .int 0]))] ++ wt) H := tw_newP hP
  have hD : va_D A ([(h0, .inr (11, [.ref q_1, .ref q_3, .ref q_6, .null, .null, .null, .null, .null, .null, .null, .null, .null, .null, .int 0, .int 0, .int 0])), (q_1, .inr (8, [.ref y_2, .int 0, .int 0, .int 0, .int 0])), (y_2, .inl (G.2.2 0, 400, .inl (fun _ => 0))), (q_9, .inr (7, [.null, .null, .null, .null, .null, .null, .null, .null, .null, .int 0]))] ++ wt) := tw_newD hD
  refine lv_dup hx hb dX11_init_41 rfl ?_
  have hP : va_P (gg_D G) classes ([(h0, .inr (11, [.ref q_1, .ref q_3, .ref q_6, .null, .null, .null, .null, .null, .null, .null, .null, .null, .null, .int 0, .int 0, .int 0])), (q_1, .inr (8, [.ref y_2, .int 0, .int 0, .int 0, .int 0])), (y_2, .inl (G.2.2 0, 400, .inl (fun _ => 0)))] ++ ([(q_9, .inr (7, [.null, .null, .null, .null, .null, .null, .null, .null, .null, .int 0]))] ++ wt)) H := hP
  have hD : va_D A ([(h0, .inr (11, [.ref q_1, .ref q_3, .ref q_6, .null, .null, .null, .null, .null, .null, .null, .null, .null, .null, .int 0, .int 0, .int 0])), (q_1, .inr (8, [.ref y_2, .int 0, .int 0, .int 0, .int 0])), (y_2, .inl (G.2.2 0, 400, .inl (fun _ => 0)))] ++ ([(q_9, .inr (7, [.null, .null, .null, .null, .null, .null, .null, .null, .null, .int 0]))] ++ wt)) := hD
  refine gt_callV (wr := [(h0, .inr (11, [.ref q_1, .ref q_3, .ref q_6, .null, .null, .null, .null, .null, .null, .null, .null, .null, .null, .int 0, .int 0, .int 0])), (q_1, .inr (8, [.ref y_2, .int 0, .int 0, .int 0, .int 0])), (y_2, .inl (G.2.2 0, 400, .inl (fun _ => 0)))]) (va_runIN (As := []) (rest := [.ref q_9, .ref h0]) ⟨hx, hb, hml, hown, ht⟩ (d_i_State l G Γ H.size wt hT q_9) ⟨va_cnB 0 ht (tb_good (ts_good wd_229)) rfl rfl rfl (hK.2.1 _ wn_227 rfl) (ht _ wd_125) (by decide +kernel) ⟨Nat.le_of_ble_eq_true rfl, Nat.le_of_ble_eq_true rfl⟩, rfl, ht _ wd_228⟩ (gc_preS hK (tw_right hP) (tw_rightD hD)) rfl rfl hl.1 rfl (lv_room (Nat.le_of_ble_eq_true rfl)) dX11_init_42 ⟨Nat.le_of_ble_eq_true rfl, Nat.le_of_ble_eq_true rfl⟩) hP hD hS hA (fun u H locs hw hP hD hS => ?_)
  obtain ⟨Γ9, wt⟩ := u
  obtain ⟨hT, hkp, hxe, hk_11⟩ := hw
  have hW := hW.call (show ∀ x ∈ [], x ∈ [709] by decide) hkp
  have hk_5 := hxe.of (by decide) hk_5
  have hk_8 := hxe.of (by decide) hk_8
  have hE := hE.tr hxe
  clear hxe
  obtain ⟨Γ, hΓ9⟩ : ∃ z, z = Γ9 := ⟨_, rfl⟩
  subst hΓ9
  have hP : va_P (gg_D G) classes ([(h0, .inr (11, [.ref q_1, .ref q_3, .ref q_6, .null, .null, .null, .null, .null, .null, .null, .null, .null, .null, .int 0, .int 0, .int 0])), (q_1, .inr (8, [.ref y_2, .int 0, .int 0, .int 0, .int 0])), (y_2, .inl (G.2.2 0, 400, .inl (fun _ => 0)))] ++ wt) H := hP
  have hD : va_D A ([(h0, .inr (11, [.ref q_1, .ref q_3, .ref q_6, .null, .null, .null, .null, .null, .null, .null, .null, .null, .null, .int 0, .int 0, .int 0])), (q_1, .inr (8, [.ref y_2, .int 0, .int 0, .int 0, .int 0])), (y_2, .inl (G.2.2 0, 400, .inl (fun _ => 0)))] ++ wt) := hD
  refine W.widen (k := 24) (n := 530) (Nat.le_of_ble_eq_true rfl) (Nat.le_of_ble_eq_true rfl) ?_
  refine gq_putF (ws' := [(h0, .inr (11, [.ref q_1, .ref q_3, .ref q_6, .ref q_9, .null, .null, .null, .null, .null, .null, .null, .null, .null, .int 0, .int 0, .int 0])), (q_1, .inr (8, [.ref y_2, .int 0, .int 0, .int 0, .int 0])), (y_2, .inl (G.2.2 0, 400, .inl (fun _ => 0)))] ++ wt) hx hb ht hown hin hK hP hD hS i_X11 tyX11 tyX11_ok nmX11 0 rfl rfl 3 (by decide) wd_500 rfl rfl rfl rfl (Nat.le_of_ble_eq_true rfl) rfl dX11_init_45 (fun H locs hP hD hS => ?_)
  refine lv_aload_n hx hb dX11_init_48 rfl (lv_at hl 0 rfl) ?_
  refine gq_new (ci := 7) hx hb ht hown i_X7 tyX7 tyX7_ok wd_225 wd_226 wd_125 hK hP hD hS hA rfl [.null, .null, .null, .null, .null, .null, .null, .null, .null, .int 0] df_X7 25 540 (Nat.le_of_ble_eq_true rfl) (Nat.le_of_ble_eq_true rfl) (Nat.le_of_ble_eq_true rfl) (Nat.le_of_ble_eq_true rfl) dX11_init_49 (fun q_12 H hP hD hS => ?_)
  have hP : va_P (gg_D G) classes ([(h0, .inr (11, [.ref q_1, .ref q_3, .ref q_6, .ref q_9, .null, .null, .null, .null, .null, .null, .null, .null, .null, .int 0, .int 0, .int 0])), (q_1, .inr (8, [.ref y_2, .int 0, .int 0, .int 0, .int 0])), (y_2, .inl (G.2.2 0, 400, .inl (fun _ => 0))), (q_12, .inr (7, [.null, .null, .null, .null, .null, .null, .null, .null, .null, .int 0]))] ++ wt) H := tw_newP hP
  have hD : va_D A ([(h0, .inr (11, [.ref q_1, .ref q_3, .ref q_6, .ref q_9, .null, .null, .null, .null, .null, .null, .null, .null, .null, .int 0, .int 0, .int 0])), (q_1, .inr (8, [.ref y_2, .int 0, .int 0, .int 0, .int 0])), (y_2, .inl (G.2.2 0, 400, .inl (fun _ => 0))), (q_12, .inr (7, [.null, .null, .null, .null, .null, .null, .null, .null, .null, .int 0]))] ++ wt) := tw_newD hD
  refine lv_dup hx hb dX11_init_52 rfl ?_
  have hP : va_P (gg_D G) classes ([(h0, .inr (11, [.ref q_1, .ref q_3, .ref q_6, .ref q_9, .null, .null, .null, .null, .null, .null, .null, .null, .null, .int 0, .int 0, .int 0])), (q_1, .inr (8, [.ref y_2, .int 0, .int 0, .int 0, .int 0])), (y_2, .inl (G.2.2 0, 400, .inl (fun _ => 0)))] ++ ([(q_12, .inr (7, [.null, .null, .null, .null, .null, .null, .null, .null, .null, .int 0]))] ++ wt)) H := hP
  have hD : va_D A ([(h0, .inr (11, [.ref q_1, .ref q_3, .ref q_6, .ref q_9, .null, .null, .null, .null, .null, .null, .null, .null, .null, .int 0, .int 0, .int 0])), (q_1, .inr (8, [.ref y_2, .int 0, .int 0, .int 0, .int 0])), (y_2, .inl (G.2.2 0, 400, .inl (fun _ => 0)))] ++ ([(q_12, .inr (7, [.null, .null, .null, .null, .null, .null, .null, .null, .null, .int 0]))] ++ wt)) := hD
  refine gt_callV (wr := [(h0, .inr (11, [.ref q_1, .ref q_3, .ref q_6, .ref q_9, .null, .null, .null, .null, .null, .null, .null, .null, .null, .int 0, .int 0, .int 0])), (q_1, .inr (8, [.ref y_2, .int 0, .int 0, .int 0, .int 0])), (y_2, .inl (G.2.2 0, 400, .inl (fun _ => 0)))]) (va_runIN (As := []) (rest := [.ref q_12, .ref h0]) ⟨hx, hb, hml, hown, ht⟩ (d_i_State l G Γ H.size wt hT q_12) ⟨va_cnB 0 ht (tb_good (ts_good wd_229)) rfl rfl rfl (hK.2.1 _ wn_227 rfl) (ht _ wd_125) (by decide +kernel) ⟨Nat.le_of_ble_eq_true rfl, Nat.le_of_ble_eq_true rfl⟩, rfl, ht _ wd_228⟩ (gc_preS hK (tw_right hP) (tw_rightD hD)) rfl rfl hl.1 rfl (lv_room (Nat.le_of_ble_eq_true rfl)) dX11_init_53 ⟨Nat.le_of_ble_eq_true rfl, Nat.le_of_ble_eq_true rfl⟩) hP hD hS hA (fun u H locs hw hP hD hS => ?_)
  obtain ⟨Γ9, wt⟩ := u
  obtain ⟨hT, hkp, hxe, hk_14⟩ := hw
  have hW := hW.call (show ∀ x ∈ [], x ∈ [709] by decide) hkp
  have hk_5 := hxe.of (by decide) hk_5
  have hk_8 := hxe.of (by decide) hk_8
  have hk_11 := hxe.of (by decide) hk_11
  have hE := hE.tr hxe
  clear hxe
  obtain ⟨Γ, hΓ9⟩ : ∃ z, z = Γ9 := ⟨_, rfl⟩
  subst hΓ9
  have hP : va_P (gg_D G) classes ([(h0, .inr (11, [.ref q_1, .ref q_3, .ref q_6, .ref q_9, .null, .null, .null, .null, .null, .null, .null, .null, .null, .int 0, .int 0, .int 0])), (q_1, .inr (8, [.ref y_2, .int 0, .int 0, .int 0, .int 0])), (y_2, .inl (G.2.2 0, 400, .inl (fun _ => 0)))] ++ wt) H := hP
  have hD : va_D A ([(h0, .inr (11, [.ref q_1, .ref q_3, .ref q_6, .ref q_9, .null, .null, .null, .null, .null, .null, .null, .null, .null, .int 0, .int 0, .int 0])), (q_1, .inr (8, [.ref y_2, .int 0, .int 0, .int 0, .int 0])), (y_2, .inl (G.2.2 0, 400, .inl (fun _ => 0)))] ++ wt) := hD
  refine W.widen (k := 34) (n := 575) (Nat.le_of_ble_eq_true rfl) (Nat.le_of_ble_eq_true rfl) ?_
  refine gq_putF (ws' := [(h0, .inr (11, [.ref q_1, .ref q_3, .ref q_6, .ref q_9, .ref q_12, .null, .null, .null, .null, .null, .null, .null, .null, .int 0, .int 0, .int 0])), (q_1, .inr (8, [.ref y_2, .int 0, .int 0, .int 0, .int 0])), (y_2, .inl (G.2.2 0, 400, .inl (fun _ => 0)))] ++ wt) hx hb ht hown hin hK hP hD hS i_X11 tyX11 tyX11_ok nmX11 0 rfl rfl 4 (by decide) wd_501 rfl rfl rfl rfl (Nat.le_of_ble_eq_true rfl) rfl dX11_init_56 (fun H locs hP hD hS => ?_)
  refine lv_aload_n hx hb dX11_init_59 rfl (lv_at hl 0 rfl) ?_
  refine gq_new (ci := 3) hx hb ht hown i_X3 tyX3 tyX3_ok wd_290 wd_291 wd_126 hK hP hD hS hA rfl [.null, .int 0, .int 0] df_X3 35 578 (Nat.le_of_ble_eq_true rfl) (Nat.le_of_ble_eq_true rfl) (Nat.le_of_ble_eq_true rfl) (Nat.le_of_ble_eq_true rfl) dX11_init_60 (fun q_15 H hP hD hS => ?_)
  have hP : va_P (gg_D G) classes ([(h0, .inr (11, [.ref q_1, .ref q_3, .ref q_6, .ref q_9, .ref q_12, .null, .null, .null, .null, .null, .null, .null, .null, .int 0, .int 0, .int 0])), (q_1, .inr (8, [.ref y_2, .int 0, .int 0, .int 0, .int 0])), (y_2, .inl (G.2.2 0, 400, .inl (fun _ => 0))), (q_15, .inr (3, [.null, .int 0, .int 0]))] ++ wt) H := tw_newP hP
  have hD : va_D A ([(h0, .inr (11, [.ref q_1, .ref q_3, .ref q_6, .ref q_9, .ref q_12, .null, .null, .null, .null, .null, .null, .null, .null, .int 0, .int 0, .int 0])), (q_1, .inr (8, [.ref y_2, .int 0, .int 0, .int 0, .int 0])), (y_2, .inl (G.2.2 0, 400, .inl (fun _ => 0))), (q_15, .inr (3, [.null, .int 0, .int 0]))] ++ wt) := tw_newD hD
  refine lv_dup hx hb dX11_init_63 rfl ?_
  have hP : va_P (gg_D G) classes ([(h0, .inr (11, [.ref q_1, .ref q_3, .ref q_6, .ref q_9, .ref q_12, .null, .null, .null, .null, .null, .null, .null, .null, .int 0, .int 0, .int 0])), (q_1, .inr (8, [.ref y_2, .int 0, .int 0, .int 0, .int 0])), (y_2, .inl (G.2.2 0, 400, .inl (fun _ => 0)))] ++ ([(q_15, .inr (3, [.null, .int 0, .int 0]))] ++ wt)) H := hP
  have hD : va_D A ([(h0, .inr (11, [.ref q_1, .ref q_3, .ref q_6, .ref q_9, .ref q_12, .null, .null, .null, .null, .null, .null, .null, .null, .int 0, .int 0, .int 0])), (q_1, .inr (8, [.ref y_2, .int 0, .int 0, .int 0, .int 0])), (y_2, .inl (G.2.2 0, 400, .inl (fun _ => 0)))] ++ ([(q_15, .inr (3, [.null, .int 0, .int 0]))] ++ wt)) := hD
  refine gt_callV (wr := [(h0, .inr (11, [.ref q_1, .ref q_3, .ref q_6, .ref q_9, .ref q_12, .null, .null, .null, .null, .null, .null, .null, .null, .int 0, .int 0, .int 0])), (q_1, .inr (8, [.ref y_2, .int 0, .int 0, .int 0, .int 0])), (y_2, .inl (G.2.2 0, 400, .inl (fun _ => 0)))]) (va_runI (As := []) (rest := [.ref q_15, .ref h0]) ⟨hx, hb, hml, hown, ht⟩ (d_i_Past l G Γ H.size wt hT q_15) (cwI 0 ht (tb_good (ts_good wd_294)) rfl rfl rfl (ht _ wd_126) (ht _ wd_292) (ht _ wd_293) rfl (by decide +kernel) ⟨Nat.le_of_ble_eq_true rfl, Nat.le_of_ble_eq_true rfl⟩) (gc_preS hK (tw_right hP) (tw_rightD hD)) rfl rfl hl.1 rfl (lv_room (Nat.le_of_ble_eq_true rfl)) dX11_init_64 ⟨Nat.le_of_ble_eq_true rfl, Nat.le_of_ble_eq_true rfl⟩) hP hD hS hA (fun u H locs hw hP hD hS => ?_)
  obtain ⟨Γ9, wt⟩ := u
  obtain ⟨hT, hkp, hxe, hk_17⟩ := hw
  have hW := hW.call (show ∀ x ∈ [], x ∈ [709] by decide) hkp
  have hk_5 := hxe.of (by decide) hk_5
  have hk_8 := hxe.of (by decide) hk_8
  have hk_11 := hxe.of (by decide) hk_11
  have hk_14 := hxe.of (by decide) hk_14
  have hE := hE.tr hxe
  clear hxe
  obtain ⟨Γ, hΓ9⟩ : ∃ z, z = Γ9 := ⟨_, rfl⟩
  subst hΓ9
  have hP : va_P (gg_D G) classes ([(h0, .inr (11, [.ref q_1, .ref q_3, .ref q_6, .ref q_9, .ref q_12, .null, .null, .null, .null, .null, .null, .null, .null, .int 0, .int 0, .int 0])), (q_1, .inr (8, [.ref y_2, .int 0, .int 0, .int 0, .int 0])), (y_2, .inl (G.2.2 0, 400, .inl (fun _ => 0)))] ++ wt) H := hP
  have hD : va_D A ([(h0, .inr (11, [.ref q_1, .ref q_3, .ref q_6, .ref q_9, .ref q_12, .null, .null, .null, .null, .null, .null, .null, .null, .int 0, .int 0, .int 0])), (q_1, .inr (8, [.ref y_2, .int 0, .int 0, .int 0, .int 0])), (y_2, .inl (G.2.2 0, 400, .inl (fun _ => 0)))] ++ wt) := hD
  refine W.widen (k := 236) (n := 1498) (Nat.le_of_ble_eq_true rfl) (Nat.le_of_ble_eq_true rfl) ?_
  refine gq_putF (ws' := [(h0, .inr (11, [.ref q_1, .ref q_3, .ref q_6, .ref q_9, .ref q_12, .ref q_15, .null, .null, .null, .null, .null, .null, .null, .int 0, .int 0, .int 0])), (q_1, .inr (8, [.ref y_2, .int 0, .int 0, .int 0, .int 0])), (y_2, .inl (G.2.2 0, 400, .inl (fun _ => 0)))] ++ wt) hx hb ht hown hin hK hP hD hS i_X11 tyX11 tyX11_ok nmX11 0 rfl rfl 5 (by decide) wd_502 rfl rfl rfl rfl (Nat.le_of_ble_eq_true rfl) rfl dX11_init_67 (fun H locs hP hD hS => ?_)
  refine lv_aload_n hx hb dX11_init_70 rfl (lv_at hl 0 rfl) ?_
  refine gq_new (ci := 2) hx hb ht hown i_X2 tyX2 tyX2_ok wd_310 wd_311 wd_127 hK hP hD hS hA rfl [.null, .null, .null, .int 0] df_X2 237 1502 (Nat.le_of_ble_eq_true rfl) (Nat.le_of_ble_eq_true rfl) (Nat.le_of_ble_eq_true rfl) (Nat.le_of_ble_eq_true rfl) dX11_init_71 (fun q_18 H hP hD hS => ?_)
  have hP : va_P (gg_D G) classes ([(h0, .inr (11, [.ref q_1, .ref q_3, .ref q_6, .ref q_9, .ref q_12, .ref q_15, .null, .null, .null, .null, .null, .null, .null, .int 0, .int 0, .int 0])), (q_1, .inr (8, [.ref y_2, .int 0, .int 0, .int 0, .int 0])), (y_2, .inl (G.2.2 0, 400, .inl (fun _ => 0))), (q_18, .inr (2, [.null, .null, .null, .int 0]))] ++ wt) H := tw_newP hP
  have hD : va_D A ([(h0, .inr (11, [.ref q_1, .ref q_3, .ref q_6, .ref q_9, .ref q_12, .ref q_15, .null, .null, .null, .null, .null, .null, .null, .int 0, .int 0, .int 0])), (q_1, .inr (8, [.ref y_2, .int 0, .int 0, .int 0, .int 0])), (y_2, .inl (G.2.2 0, 400, .inl (fun _ => 0))), (q_18, .inr (2, [.null, .null, .null, .int 0]))] ++ wt) := tw_newD hD
  refine lv_dup hx hb dX11_init_74 rfl ?_
  have hP : va_P (gg_D G) classes ([(h0, .inr (11, [.ref q_1, .ref q_3, .ref q_6, .ref q_9, .ref q_12, .ref q_15, .null, .null, .null, .null, .null, .null, .null, .int 0, .int 0, .int 0])), (q_1, .inr (8, [.ref y_2, .int 0, .int 0, .int 0, .int 0])), (y_2, .inl (G.2.2 0, 400, .inl (fun _ => 0)))] ++ ([(q_18, .inr (2, [.null, .null, .null, .int 0]))] ++ wt)) H := hP
  have hD : va_D A ([(h0, .inr (11, [.ref q_1, .ref q_3, .ref q_6, .ref q_9, .ref q_12, .ref q_15, .null, .null, .null, .null, .null, .null, .null, .int 0, .int 0, .int 0])), (q_1, .inr (8, [.ref y_2, .int 0, .int 0, .int 0, .int 0])), (y_2, .inl (G.2.2 0, 400, .inl (fun _ => 0)))] ++ ([(q_18, .inr (2, [.null, .null, .null, .int 0]))] ++ wt)) := hD
  refine gt_callV (wr := [(h0, .inr (11, [.ref q_1, .ref q_3, .ref q_6, .ref q_9, .ref q_12, .ref q_15, .null, .null, .null, .null, .null, .null, .null, .int 0, .int 0, .int 0])), (q_1, .inr (8, [.ref y_2, .int 0, .int 0, .int 0, .int 0])), (y_2, .inl (G.2.2 0, 400, .inl (fun _ => 0)))]) (va_runIN (As := []) (rest := [.ref q_18, .ref h0]) ⟨hx, hb, hml, hown, ht⟩ (d_i_Logs l G Γ H.size wt hT q_18) ⟨va_cnB 0 ht (tb_good (ts_good wd_314)) rfl rfl rfl (hK.2.1 _ wn_312 rfl) (ht _ wd_127) (by decide +kernel) ⟨Nat.le_of_ble_eq_true rfl, Nat.le_of_ble_eq_true rfl⟩, rfl, ht _ wd_313⟩ (gc_preS hK (tw_right hP) (tw_rightD hD)) rfl rfl hl.1 rfl (lv_room (Nat.le_of_ble_eq_true rfl)) dX11_init_75 ⟨Nat.le_of_ble_eq_true rfl, Nat.le_of_ble_eq_true rfl⟩) hP hD hS hA (fun u H locs hw hP hD hS => ?_)
  obtain ⟨Γ9, wt⟩ := u
  obtain ⟨hT, hkp, hxe, hk_20⟩ := hw
  have hW := hW.call (show ∀ x ∈ [], x ∈ [709] by decide) hkp
  have hk_5 := hxe.of (by decide) hk_5
  have hk_8 := hxe.of (by decide) hk_8
  have hk_11 := hxe.of (by decide) hk_11
  have hk_14 := hxe.of (by decide) hk_14
  have hk_17 := hxe.of (by decide) hk_17
  have hE := hE.tr hxe
  clear hxe
  obtain ⟨Γ, hΓ9⟩ : ∃ z, z = Γ9 := ⟨_, rfl⟩
  subst hΓ9
  have hP : va_P (gg_D G) classes ([(h0, .inr (11, [.ref q_1, .ref q_3, .ref q_6, .ref q_9, .ref q_12, .ref q_15, .null, .null, .null, .null, .null, .null, .null, .int 0, .int 0, .int 0])), (q_1, .inr (8, [.ref y_2, .int 0, .int 0, .int 0, .int 0])), (y_2, .inl (G.2.2 0, 400, .inl (fun _ => 0)))] ++ wt) H := hP
  have hD : va_D A ([(h0, .inr (11, [.ref q_1, .ref q_3, .ref q_6, .ref q_9, .ref q_12, .ref q_15, .null, .null, .null, .null, .null, .null, .null, .int 0, .int 0, .int 0])), (q_1, .inr (8, [.ref y_2, .int 0, .int 0, .int 0, .int 0])), (y_2, .inl (G.2.2 0, 400, .inl (fun _ => 0)))] ++ wt) := hD
  refine W.widen (k := 240) (n := 1532) (Nat.le_of_ble_eq_true rfl) (Nat.le_of_ble_eq_true rfl) ?_
  refine gq_putF (ws' := [(h0, .inr (11, [.ref q_1, .ref q_3, .ref q_6, .ref q_9, .ref q_12, .ref q_15, .ref q_18, .null, .null, .null, .null, .null, .null, .int 0, .int 0, .int 0])), (q_1, .inr (8, [.ref y_2, .int 0, .int 0, .int 0, .int 0])), (y_2, .inl (G.2.2 0, 400, .inl (fun _ => 0)))] ++ wt) hx hb ht hown hin hK hP hD hS i_X11 tyX11 tyX11_ok nmX11 0 rfl rfl 6 (by decide) wd_503 rfl rfl rfl rfl (Nat.le_of_ble_eq_true rfl) rfl dX11_init_78 (fun H locs hP hD hS => ?_)
  refine lv_aload_n hx hb dX11_init_81 rfl (lv_at hl 0 rfl) ?_
  refine lv_bipush (v := 6) hx hb dX11_init_82 (by decide +kernel) ?_
  refine gq_newq hx hb hown (ht _ wd_330) hK.2.2.2.1 hK hP hD hS hA 5 rfl 6 (by decide +kernel) (by decide +kernel) (Nat.le_of_ble_eq_true rfl) 241 1538 (Nat.le_of_ble_eq_true rfl) (Nat.le_of_ble_eq_true rfl) (Nat.le_of_ble_eq_true rfl) (Nat.le_of_ble_eq_true rfl) dX11_init_84 (fun q_21 H hP hD hS => ?_)
  have hP : va_P (gg_D G) classes ([(h0, .inr (11, [.ref q_1, .ref q_3, .ref q_6, .ref q_9, .ref q_12, .ref q_15, .ref q_18, .null, .null, .null, .null, .null, .null, .int 0, .int 0, .int 0])), (q_1, .inr (8, [.ref y_2, .int 0, .int 0, .int 0, .int 0])), (y_2, .inl (G.2.2 0, 400, .inl (fun _ => 0))), (q_21, .inl (G.2.2 5, 6, .inr (.inr (.inr (.inr (fun _ => none))))))] ++ wt) H := tw_newP hP
  have hD : va_D A ([(h0, .inr (11, [.ref q_1, .ref q_3, .ref q_6, .ref q_9, .ref q_12, .ref q_15, .ref q_18, .null, .null, .null, .null, .null, .null, .int 0, .int 0, .int 0])), (q_1, .inr (8, [.ref y_2, .int 0, .int 0, .int 0, .int 0])), (y_2, .inl (G.2.2 0, 400, .inl (fun _ => 0))), (q_21, .inl (G.2.2 5, 6, .inr (.inr (.inr (.inr (fun _ => none))))))] ++ wt) := tw_newD hD
  have hr_22 : tk_row Γ (fun _ => none) 0 5 := tk_row.z
  refine gq_putF (ws' := [(h0, .inr (11, [.ref q_1, .ref q_3, .ref q_6, .ref q_9, .ref q_12, .ref q_15, .ref q_18, .ref q_21, .null, .null, .null, .null, .null, .int 0, .int 0, .int 0])), (q_1, .inr (8, [.ref y_2, .int 0, .int 0, .int 0, .int 0])), (y_2, .inl (G.2.2 0, 400, .inl (fun _ => 0))), (q_21, .inl (G.2.2 5, 6, .inr (.inr (.inr (.inr (fun _ => none))))))] ++ wt) hx hb ht hown hin hK hP hD hS i_X11 tyX11 tyX11_ok nmX11 0 rfl rfl 7 (by decide) wd_504 rfl rfl rfl rfl (Nat.le_of_ble_eq_true rfl) rfl dX11_init_87 (fun H locs hP hD hS => ?_)
  refine lv_iconst (v := 0) hx hb dX11_init_90 (by decide +kernel) ?_
  refine lv_istore_n (lv' := [(1, .int 0), (0, .ref h0)]) hx hb dX11_init_91 rfl hl (by decide) rfl (fun ls hl => ?_)
  refine lv_iload_n hx hb dX11_init_92 rfl (lv_at hl 0 rfl) ?_
  refine lv_bipush (v := 6) hx hb dX11_init_93 (by decide +kernel) ?_
  refine lv_icmp_ge (tgt := 117) hx hb dX11_init_95 (by decide) (fun c0 => False.elim (by rw [Int32.le_iff_toInt_le] at c0; omega)) (fun _ => ?_)
  refine lv_aload_n hx hb dX11_init_98 rfl (lv_at hl 1 rfl) ?_
  refine gq_get hx hb ht hown hK hP i_X11 0 rfl rfl 7 (by decide) wd_504 rfl rfl dX11_init_99 ?_
  refine lv_iload_n hx hb dX11_init_102 rfl (lv_at hl 0 rfl) ?_
  refine gq_new (ci := 4) hx hb ht hown i_X4 tyX4 tyX4_ok wd_330 wd_332 wd_128 hK hP hD hS hA rfl [.null, .null, .null, .null, .null, .int 0, .int 0, .int 0, .int 0] df_X4 242 1547 (Nat.le_of_ble_eq_true rfl) (Nat.le_of_ble_eq_true rfl) (Nat.le_of_ble_eq_true rfl) (Nat.le_of_ble_eq_true rfl) dX11_init_103 (fun q_23 H hP hD hS => ?_)
  have hP : va_P (gg_D G) classes ([(h0, .inr (11, [.ref q_1, .ref q_3, .ref q_6, .ref q_9, .ref q_12, .ref q_15, .ref q_18, .ref q_21, .null, .null, .null, .null, .null, .int 0, .int 0, .int 0])), (q_1, .inr (8, [.ref y_2, .int 0, .int 0, .int 0, .int 0])), (y_2, .inl (G.2.2 0, 400, .inl (fun _ => 0))), (q_21, .inl (G.2.2 5, 6, .inr (.inr (.inr (.inr (fun _ => none)))))), (q_23, .inr (4, [.null, .null, .null, .null, .null, .int 0, .int 0, .int 0, .int 0]))] ++ wt) H := tw_newP hP
  have hD : va_D A ([(h0, .inr (11, [.ref q_1, .ref q_3, .ref q_6, .ref q_9, .ref q_12, .ref q_15, .ref q_18, .ref q_21, .null, .null, .null, .null, .null, .int 0, .int 0, .int 0])), (q_1, .inr (8, [.ref y_2, .int 0, .int 0, .int 0, .int 0])), (y_2, .inl (G.2.2 0, 400, .inl (fun _ => 0))), (q_21, .inl (G.2.2 5, 6, .inr (.inr (.inr (.inr (fun _ => none)))))), (q_23, .inr (4, [.null, .null, .null, .null, .null, .int 0, .int 0, .int 0, .int 0]))] ++ wt) := tw_newD hD
  refine lv_dup hx hb dX11_init_106 rfl ?_
  have hP : va_P (gg_D G) classes ([(h0, .inr (11, [.ref q_1, .ref q_3, .ref q_6, .ref q_9, .ref q_12, .ref q_15, .ref q_18, .ref q_21, .null, .null, .null, .null, .null, .int 0, .int 0, .int 0])), (q_1, .inr (8, [.ref y_2, .int 0, .int 0, .int 0, .int 0])), (y_2, .inl (G.2.2 0, 400, .inl (fun _ => 0))), (q_21, .inl (G.2.2 5, 6, .inr (.inr (.inr (.inr (fun _ => none))))))] ++ ([(q_23, .inr (4, [.null, .null, .null, .null, .null, .int 0, .int 0, .int 0, .int 0]))] ++ wt)) H := hP
  have hD : va_D A ([(h0, .inr (11, [.ref q_1, .ref q_3, .ref q_6, .ref q_9, .ref q_12, .ref q_15, .ref q_18, .ref q_21, .null, .null, .null, .null, .null, .int 0, .int 0, .int 0])), (q_1, .inr (8, [.ref y_2, .int 0, .int 0, .int 0, .int 0])), (y_2, .inl (G.2.2 0, 400, .inl (fun _ => 0))), (q_21, .inl (G.2.2 5, 6, .inr (.inr (.inr (.inr (fun _ => none))))))] ++ ([(q_23, .inr (4, [.null, .null, .null, .null, .null, .int 0, .int 0, .int 0, .int 0]))] ++ wt)) := hD
  refine gt_callV (wr := [(h0, .inr (11, [.ref q_1, .ref q_3, .ref q_6, .ref q_9, .ref q_12, .ref q_15, .ref q_18, .ref q_21, .null, .null, .null, .null, .null, .int 0, .int 0, .int 0])), (q_1, .inr (8, [.ref y_2, .int 0, .int 0, .int 0, .int 0])), (y_2, .inl (G.2.2 0, 400, .inl (fun _ => 0))), (q_21, .inl (G.2.2 5, 6, .inr (.inr (.inr (.inr (fun _ => none))))))]) (va_runIN (As := []) (rest := [.ref q_23, .int 0, .ref q_21]) ⟨hx, hb, hml, hown, ht⟩ (d_i_Rule l G Γ H.size wt hT q_23) ⟨va_cnB 0 ht (tb_good (ts_good wd_335)) rfl rfl rfl (hK.2.1 _ wn_333 rfl) (ht _ wd_128) (by decide +kernel) ⟨Nat.le_of_ble_eq_true rfl, Nat.le_of_ble_eq_true rfl⟩, rfl, ht _ wd_334⟩ (gc_preS hK (tw_right hP) (tw_rightD hD)) rfl rfl hl.1 rfl (lv_room (Nat.le_of_ble_eq_true rfl)) dX11_init_107 ⟨Nat.le_of_ble_eq_true rfl, Nat.le_of_ble_eq_true rfl⟩) hP hD hS hA (fun u H locs hw hP hD hS => ?_)
  obtain ⟨Γ9, wt⟩ := u
  obtain ⟨hT, hkp, hxe, hk_25⟩ := hw
  have hW := hW.call (show ∀ x ∈ [], x ∈ [709] by decide) hkp
  have hk_5 := hxe.of (by decide) hk_5
  have hk_8 := hxe.of (by decide) hk_8
  have hk_11 := hxe.of (by decide) hk_11
  have hk_14 := hxe.of (by decide) hk_14
  have hk_17 := hxe.of (by decide) hk_17
  have hk_20 := hxe.of (by decide) hk_20
  have hr_22 := hr_22.ext hxe (by decide)
  have hE := hE.tr hxe
  clear hxe
  obtain ⟨Γ, hΓ9⟩ : ∃ z, z = Γ9 := ⟨_, rfl⟩
  subst hΓ9
  have hP : va_P (gg_D G) classes ([(h0, .inr (11, [.ref q_1, .ref q_3, .ref q_6, .ref q_9, .ref q_12, .ref q_15, .ref q_18, .ref q_21, .null, .null, .null, .null, .null, .int 0, .int 0, .int 0])), (q_1, .inr (8, [.ref y_2, .int 0, .int 0, .int 0, .int 0])), (y_2, .inl (G.2.2 0, 400, .inl (fun _ => 0))), (q_21, .inl (G.2.2 5, 6, .inr (.inr (.inr (.inr (fun _ => none))))))] ++ wt) H := hP
  have hD : va_D A ([(h0, .inr (11, [.ref q_1, .ref q_3, .ref q_6, .ref q_9, .ref q_12, .ref q_15, .ref q_18, .ref q_21, .null, .null, .null, .null, .null, .int 0, .int 0, .int 0])), (q_1, .inr (8, [.ref y_2, .int 0, .int 0, .int 0, .int 0])), (y_2, .inl (G.2.2 0, 400, .inl (fun _ => 0))), (q_21, .inl (G.2.2 5, 6, .inr (.inr (.inr (.inr (fun _ => none))))))] ++ wt) := hD
  refine W.widen (k := 247) (n := 2039) (Nat.le_of_ble_eq_true rfl) (Nat.le_of_ble_eq_true rfl) ?_
  obtain ⟨f_26, ef_26⟩ : ∃ z : Nat → Option Nat, va_up (fun _ => none) (Int32.toNatClampNeg 0) (some q_23) = z := ⟨_, rfl⟩
  refine tr_aast (we' := [(h0, .inr (11, [.ref q_1, .ref q_3, .ref q_6, .ref q_9, .ref q_12, .ref q_15, .ref q_18, .ref q_21, .null, .null, .null, .null, .null, .int 0, .int 0, .int 0])), (q_1, .inr (8, [.ref y_2, .int 0, .int 0, .int 0, .int 0])), (y_2, .inl (G.2.2 0, 400, .inl (fun _ => 0))), (q_21, .inl (G.2.2 5, 6, .inr (.inr (.inr (.inr f_26)))))]) hx hb hK hT hP hD hS 3 5 4 rfl rfl hk_25 (by decide) rfl f_26 (by unfold vp_in; decide +kernel) ef_26 rfl dX11_init_110 (fun H locs hP hD hS => ?_)
  have hr_22 := hr_22.step hk_25 (show Int32.toNatClampNeg 0 = 0 by decide +kernel) ef_26
  refine lv_iinc (v := 1) (lv' := [(1, .int 1), (0, .ref h0)]) hx hb dX11_init_111 hl (k := 0) rfl (by decide +kernel) (by decide) rfl (fun ls hl => ?_)
  refine lv_goto (tgt := 92) hx hb dX11_init_114 (by decide) ?_
  refine lv_iload_n hx hb dX11_init_92 rfl (lv_at hl 0 rfl) ?_
  refine lv_bipush (v := 6) hx hb dX11_init_93 (by decide +kernel) ?_
  refine lv_icmp_ge (tgt := 117) hx hb dX11_init_95 (by decide) (fun c0 => False.elim (by rw [Int32.le_iff_toInt_le] at c0; omega)) (fun _ => ?_)
  refine lv_aload_n hx hb dX11_init_98 rfl (lv_at hl 1 rfl) ?_
  refine gq_get hx hb ht hown hK hP i_X11 0 rfl rfl 7 (by decide) wd_504 rfl rfl dX11_init_99 ?_
  refine lv_iload_n hx hb dX11_init_102 rfl (lv_at hl 0 rfl) ?_
  refine gq_new (ci := 4) hx hb ht hown i_X4 tyX4 tyX4_ok wd_330 wd_332 wd_128 hK hP hD hS hA rfl [.null, .null, .null, .null, .null, .int 0, .int 0, .int 0, .int 0] df_X4 248 2048 (Nat.le_of_ble_eq_true rfl) (Nat.le_of_ble_eq_true rfl) (Nat.le_of_ble_eq_true rfl) (Nat.le_of_ble_eq_true rfl) dX11_init_103 (fun q_27 H hP hD hS => ?_)
  have hP : va_P (gg_D G) classes ([(h0, .inr (11, [.ref q_1, .ref q_3, .ref q_6, .ref q_9, .ref q_12, .ref q_15, .ref q_18, .ref q_21, .null, .null, .null, .null, .null, .int 0, .int 0, .int 0])), (q_1, .inr (8, [.ref y_2, .int 0, .int 0, .int 0, .int 0])), (y_2, .inl (G.2.2 0, 400, .inl (fun _ => 0))), (q_21, .inl (G.2.2 5, 6, .inr (.inr (.inr (.inr f_26))))), (q_27, .inr (4, [.null, .null, .null, .null, .null, .int 0, .int 0, .int 0, .int 0]))] ++ wt) H := tw_newP hP
  have hD : va_D A ([(h0, .inr (11, [.ref q_1, .ref q_3, .ref q_6, .ref q_9, .ref q_12, .ref q_15, .ref q_18, .ref q_21, .null, .null, .null, .null, .null, .int 0, .int 0, .int 0])), (q_1, .inr (8, [.ref y_2, .int 0, .int 0, .int 0, .int 0])), (y_2, .inl (G.2.2 0, 400, .inl (fun _ => 0))), (q_21, .inl (G.2.2 5, 6, .inr (.inr (.inr (.inr f_26))))), (q_27, .inr (4, [.null, .null, .null, .null, .null, .int 0, .int 0, .int 0, .int 0]))] ++ wt) := tw_newD hD
  refine lv_dup hx hb dX11_init_106 rfl ?_
  have hP : va_P (gg_D G) classes ([(h0, .inr (11, [.ref q_1, .ref q_3, .ref q_6, .ref q_9, .ref q_12, .ref q_15, .ref q_18, .ref q_21, .null, .null, .null, .null, .null, .int 0, .int 0, .int 0])), (q_1, .inr (8, [.ref y_2, .int 0, .int 0, .int 0, .int 0])), (y_2, .inl (G.2.2 0, 400, .inl (fun _ => 0))), (q_21, .inl (G.2.2 5, 6, .inr (.inr (.inr (.inr f_26)))))] ++ ([(q_27, .inr (4, [.null, .null, .null, .null, .null, .int 0, .int 0, .int 0, .int 0]))] ++ wt)) H := hP
  have hD : va_D A ([(h0, .inr (11, [.ref q_1, .ref q_3, .ref q_6, .ref q_9, .ref q_12, .ref q_15, .ref q_18, .ref q_21, .null, .null, .null, .null, .null, .int 0, .int 0, .int 0])), (q_1, .inr (8, [.ref y_2, .int 0, .int 0, .int 0, .int 0])), (y_2, .inl (G.2.2 0, 400, .inl (fun _ => 0))), (q_21, .inl (G.2.2 5, 6, .inr (.inr (.inr (.inr f_26)))))] ++ ([(q_27, .inr (4, [.null, .null, .null, .null, .null, .int 0, .int 0, .int 0, .int 0]))] ++ wt)) := hD
  refine gt_callV (wr := [(h0, .inr (11, [.ref q_1, .ref q_3, .ref q_6, .ref q_9, .ref q_12, .ref q_15, .ref q_18, .ref q_21, .null, .null, .null, .null, .null, .int 0, .int 0, .int 0])), (q_1, .inr (8, [.ref y_2, .int 0, .int 0, .int 0, .int 0])), (y_2, .inl (G.2.2 0, 400, .inl (fun _ => 0))), (q_21, .inl (G.2.2 5, 6, .inr (.inr (.inr (.inr f_26)))))]) (va_runIN (As := []) (rest := [.ref q_27, .int 1, .ref q_21]) ⟨hx, hb, hml, hown, ht⟩ (d_i_Rule l G Γ H.size wt hT q_27) ⟨va_cnB 0 ht (tb_good (ts_good wd_335)) rfl rfl rfl (hK.2.1 _ wn_333 rfl) (ht _ wd_128) (by decide +kernel) ⟨Nat.le_of_ble_eq_true rfl, Nat.le_of_ble_eq_true rfl⟩, rfl, ht _ wd_334⟩ (gc_preS hK (tw_right hP) (tw_rightD hD)) rfl rfl hl.1 rfl (lv_room (Nat.le_of_ble_eq_true rfl)) dX11_init_107 ⟨Nat.le_of_ble_eq_true rfl, Nat.le_of_ble_eq_true rfl⟩) hP hD hS hA (fun u H locs hw hP hD hS => ?_)
  obtain ⟨Γ9, wt⟩ := u
  obtain ⟨hT, hkp, hxe, hk_29⟩ := hw
  have hW := hW.call (show ∀ x ∈ [], x ∈ [709] by decide) hkp
  have hk_5 := hxe.of (by decide) hk_5
  have hk_8 := hxe.of (by decide) hk_8
  have hk_11 := hxe.of (by decide) hk_11
  have hk_14 := hxe.of (by decide) hk_14
  have hk_17 := hxe.of (by decide) hk_17
  have hk_20 := hxe.of (by decide) hk_20
  have hr_22 := hr_22.ext hxe (by decide)
  have hE := hE.tr hxe
  clear hxe
  obtain ⟨Γ, hΓ9⟩ : ∃ z, z = Γ9 := ⟨_, rfl⟩
  subst hΓ9
  have hP : va_P (gg_D G) classes ([(h0, .inr (11, [.ref q_1, .ref q_3, .ref q_6, .ref q_9, .ref q_12, .ref q_15, .ref q_18, .ref q_21, .null, .null, .null, .null, .null, .int 0, .int 0, .int 0])), (q_1, .inr (8, [.ref y_2, .int 0, .int 0, .int 0, .int 0])), (y_2, .inl (G.2.2 0, 400, .inl (fun _ => 0))), (q_21, .inl (G.2.2 5, 6, .inr (.inr (.inr (.inr f_26)))))] ++ wt) H := hP
  have hD : va_D A ([(h0, .inr (11, [.ref q_1, .ref q_3, .ref q_6, .ref q_9, .ref q_12, .ref q_15, .ref q_18, .ref q_21, .null, .null, .null, .null, .null, .int 0, .int 0, .int 0])), (q_1, .inr (8, [.ref y_2, .int 0, .int 0, .int 0, .int 0])), (y_2, .inl (G.2.2 0, 400, .inl (fun _ => 0))), (q_21, .inl (G.2.2 5, 6, .inr (.inr (.inr (.inr f_26)))))] ++ wt) := hD
  refine W.widen (k := 253) (n := 2540) (Nat.le_of_ble_eq_true rfl) (Nat.le_of_ble_eq_true rfl) ?_
  obtain ⟨f_30, ef_30⟩ : ∃ z : Nat → Option Nat, va_up f_26 (Int32.toNatClampNeg 1) (some q_27) = z := ⟨_, rfl⟩
  refine tr_aast (we' := [(h0, .inr (11, [.ref q_1, .ref q_3, .ref q_6, .ref q_9, .ref q_12, .ref q_15, .ref q_18, .ref q_21, .null, .null, .null, .null, .null, .int 0, .int 0, .int 0])), (q_1, .inr (8, [.ref y_2, .int 0, .int 0, .int 0, .int 0])), (y_2, .inl (G.2.2 0, 400, .inl (fun _ => 0))), (q_21, .inl (G.2.2 5, 6, .inr (.inr (.inr (.inr f_30)))))]) hx hb hK hT hP hD hS 3 5 4 rfl rfl hk_29 (by decide) rfl f_30 (by unfold vp_in; decide +kernel) ef_30 rfl dX11_init_110 (fun H locs hP hD hS => ?_)
  have hr_22 := hr_22.step hk_29 (show Int32.toNatClampNeg 1 = 1 by decide +kernel) ef_30
  refine lv_iinc (v := 2) (lv' := [(1, .int 2), (0, .ref h0)]) hx hb dX11_init_111 hl (k := 0) rfl (by decide +kernel) (by decide) rfl (fun ls hl => ?_)
  refine lv_goto (tgt := 92) hx hb dX11_init_114 (by decide) ?_
  refine lv_iload_n hx hb dX11_init_92 rfl (lv_at hl 0 rfl) ?_
  refine lv_bipush (v := 6) hx hb dX11_init_93 (by decide +kernel) ?_
  refine lv_icmp_ge (tgt := 117) hx hb dX11_init_95 (by decide) (fun c0 => False.elim (by rw [Int32.le_iff_toInt_le] at c0; omega)) (fun _ => ?_)
  refine lv_aload_n hx hb dX11_init_98 rfl (lv_at hl 1 rfl) ?_
  refine gq_get hx hb ht hown hK hP i_X11 0 rfl rfl 7 (by decide) wd_504 rfl rfl dX11_init_99 ?_
  refine lv_iload_n hx hb dX11_init_102 rfl (lv_at hl 0 rfl) ?_
  refine gq_new (ci := 4) hx hb ht hown i_X4 tyX4 tyX4_ok wd_330 wd_332 wd_128 hK hP hD hS hA rfl [.null, .null, .null, .null, .null, .int 0, .int 0, .int 0, .int 0] df_X4 254 2549 (Nat.le_of_ble_eq_true rfl) (Nat.le_of_ble_eq_true rfl) (Nat.le_of_ble_eq_true rfl) (Nat.le_of_ble_eq_true rfl) dX11_init_103 (fun q_31 H hP hD hS => ?_)
  have hP : va_P (gg_D G) classes ([(h0, .inr (11, [.ref q_1, .ref q_3, .ref q_6, .ref q_9, .ref q_12, .ref q_15, .ref q_18, .ref q_21, .null, .null, .null, .null, .null, .int 0, .int 0, .int 0])), (q_1, .inr (8, [.ref y_2, .int 0, .int 0, .int 0, .int 0])), (y_2, .inl (G.2.2 0, 400, .inl (fun _ => 0))), (q_21, .inl (G.2.2 5, 6, .inr (.inr (.inr (.inr f_30))))), (q_31, .inr (4, [.null, .null, .null, .null, .null, .int 0, .int 0, .int 0, .int 0]))] ++ wt) H := tw_newP hP
  have hD : va_D A ([(h0, .inr (11, [.ref q_1, .ref q_3, .ref q_6, .ref q_9, .ref q_12, .ref q_15, .ref q_18, .ref q_21, .null, .null, .null, .null, .null, .int 0, .int 0, .int 0])), (q_1, .inr (8, [.ref y_2, .int 0, .int 0, .int 0, .int 0])), (y_2, .inl (G.2.2 0, 400, .inl (fun _ => 0))), (q_21, .inl (G.2.2 5, 6, .inr (.inr (.inr (.inr f_30))))), (q_31, .inr (4, [.null, .null, .null, .null, .null, .int 0, .int 0, .int 0, .int 0]))] ++ wt) := tw_newD hD
  refine lv_dup hx hb dX11_init_106 rfl ?_
  have hP : va_P (gg_D G) classes ([(h0, .inr (11, [.ref q_1, .ref q_3, .ref q_6, .ref q_9, .ref q_12, .ref q_15, .ref q_18, .ref q_21, .null, .null, .null, .null, .null, .int 0, .int 0, .int 0])), (q_1, .inr (8, [.ref y_2, .int 0, .int 0, .int 0, .int 0])), (y_2, .inl (G.2.2 0, 400, .inl (fun _ => 0))), (q_21, .inl (G.2.2 5, 6, .inr (.inr (.inr (.inr f_30)))))] ++ ([(q_31, .inr (4, [.null, .null, .null, .null, .null, .int 0, .int 0, .int 0, .int 0]))] ++ wt)) H := hP
  have hD : va_D A ([(h0, .inr (11, [.ref q_1, .ref q_3, .ref q_6, .ref q_9, .ref q_12, .ref q_15, .ref q_18, .ref q_21, .null, .null, .null, .null, .null, .int 0, .int 0, .int 0])), (q_1, .inr (8, [.ref y_2, .int 0, .int 0, .int 0, .int 0])), (y_2, .inl (G.2.2 0, 400, .inl (fun _ => 0))), (q_21, .inl (G.2.2 5, 6, .inr (.inr (.inr (.inr f_30)))))] ++ ([(q_31, .inr (4, [.null, .null, .null, .null, .null, .int 0, .int 0, .int 0, .int 0]))] ++ wt)) := hD
  refine gt_callV (wr := [(h0, .inr (11, [.ref q_1, .ref q_3, .ref q_6, .ref q_9, .ref q_12, .ref q_15, .ref q_18, .ref q_21, .null, .null, .null, .null, .null, .int 0, .int 0, .int 0])), (q_1, .inr (8, [.ref y_2, .int 0, .int 0, .int 0, .int 0])), (y_2, .inl (G.2.2 0, 400, .inl (fun _ => 0))), (q_21, .inl (G.2.2 5, 6, .inr (.inr (.inr (.inr f_30)))))]) (va_runIN (As := []) (rest := [.ref q_31, .int 2, .ref q_21]) ⟨hx, hb, hml, hown, ht⟩ (d_i_Rule l G Γ H.size wt hT q_31) ⟨va_cnB 0 ht (tb_good (ts_good wd_335)) rfl rfl rfl (hK.2.1 _ wn_333 rfl) (ht _ wd_128) (by decide +kernel) ⟨Nat.le_of_ble_eq_true rfl, Nat.le_of_ble_eq_true rfl⟩, rfl, ht _ wd_334⟩ (gc_preS hK (tw_right hP) (tw_rightD hD)) rfl rfl hl.1 rfl (lv_room (Nat.le_of_ble_eq_true rfl)) dX11_init_107 ⟨Nat.le_of_ble_eq_true rfl, Nat.le_of_ble_eq_true rfl⟩) hP hD hS hA (fun u H locs hw hP hD hS => ?_)
  obtain ⟨Γ9, wt⟩ := u
  obtain ⟨hT, hkp, hxe, hk_33⟩ := hw
  have hW := hW.call (show ∀ x ∈ [], x ∈ [709] by decide) hkp
  have hk_5 := hxe.of (by decide) hk_5
  have hk_8 := hxe.of (by decide) hk_8
  have hk_11 := hxe.of (by decide) hk_11
  have hk_14 := hxe.of (by decide) hk_14
  have hk_17 := hxe.of (by decide) hk_17
  have hk_20 := hxe.of (by decide) hk_20
  have hr_22 := hr_22.ext hxe (by decide)
  have hE := hE.tr hxe
  clear hxe
  obtain ⟨Γ, hΓ9⟩ : ∃ z, z = Γ9 := ⟨_, rfl⟩
  subst hΓ9
  have hP : va_P (gg_D G) classes ([(h0, .inr (11, [.ref q_1, .ref q_3, .ref q_6, .ref q_9, .ref q_12, .ref q_15, .ref q_18, .ref q_21, .null, .null, .null, .null, .null, .int 0, .int 0, .int 0])), (q_1, .inr (8, [.ref y_2, .int 0, .int 0, .int 0, .int 0])), (y_2, .inl (G.2.2 0, 400, .inl (fun _ => 0))), (q_21, .inl (G.2.2 5, 6, .inr (.inr (.inr (.inr f_30)))))] ++ wt) H := hP
  have hD : va_D A ([(h0, .inr (11, [.ref q_1, .ref q_3, .ref q_6, .ref q_9, .ref q_12, .ref q_15, .ref q_18, .ref q_21, .null, .null, .null, .null, .null, .int 0, .int 0, .int 0])), (q_1, .inr (8, [.ref y_2, .int 0, .int 0, .int 0, .int 0])), (y_2, .inl (G.2.2 0, 400, .inl (fun _ => 0))), (q_21, .inl (G.2.2 5, 6, .inr (.inr (.inr (.inr f_30)))))] ++ wt) := hD
  refine W.widen (k := 259) (n := 3041) (Nat.le_of_ble_eq_true rfl) (Nat.le_of_ble_eq_true rfl) ?_
  obtain ⟨f_34, ef_34⟩ : ∃ z : Nat → Option Nat, va_up f_30 (Int32.toNatClampNeg 2) (some q_31) = z := ⟨_, rfl⟩
  refine tr_aast (we' := [(h0, .inr (11, [.ref q_1, .ref q_3, .ref q_6, .ref q_9, .ref q_12, .ref q_15, .ref q_18, .ref q_21, .null, .null, .null, .null, .null, .int 0, .int 0, .int 0])), (q_1, .inr (8, [.ref y_2, .int 0, .int 0, .int 0, .int 0])), (y_2, .inl (G.2.2 0, 400, .inl (fun _ => 0))), (q_21, .inl (G.2.2 5, 6, .inr (.inr (.inr (.inr f_34)))))]) hx hb hK hT hP hD hS 3 5 4 rfl rfl hk_33 (by decide) rfl f_34 (by unfold vp_in; decide +kernel) ef_34 rfl dX11_init_110 (fun H locs hP hD hS => ?_)
  have hr_22 := hr_22.step hk_33 (show Int32.toNatClampNeg 2 = 2 by decide +kernel) ef_34
  refine lv_iinc (v := 3) (lv' := [(1, .int 3), (0, .ref h0)]) hx hb dX11_init_111 hl (k := 0) rfl (by decide +kernel) (by decide) rfl (fun ls hl => ?_)
  refine lv_goto (tgt := 92) hx hb dX11_init_114 (by decide) ?_
  refine lv_iload_n hx hb dX11_init_92 rfl (lv_at hl 0 rfl) ?_
  refine lv_bipush (v := 6) hx hb dX11_init_93 (by decide +kernel) ?_
  refine lv_icmp_ge (tgt := 117) hx hb dX11_init_95 (by decide) (fun c0 => False.elim (by rw [Int32.le_iff_toInt_le] at c0; omega)) (fun _ => ?_)
  refine lv_aload_n hx hb dX11_init_98 rfl (lv_at hl 1 rfl) ?_
  refine gq_get hx hb ht hown hK hP i_X11 0 rfl rfl 7 (by decide) wd_504 rfl rfl dX11_init_99 ?_
  refine lv_iload_n hx hb dX11_init_102 rfl (lv_at hl 0 rfl) ?_
  refine gq_new (ci := 4) hx hb ht hown i_X4 tyX4 tyX4_ok wd_330 wd_332 wd_128 hK hP hD hS hA rfl [.null, .null, .null, .null, .null, .int 0, .int 0, .int 0, .int 0] df_X4 260 3050 (Nat.le_of_ble_eq_true rfl) (Nat.le_of_ble_eq_true rfl) (Nat.le_of_ble_eq_true rfl) (Nat.le_of_ble_eq_true rfl) dX11_init_103 (fun q_35 H hP hD hS => ?_)
  have hP : va_P (gg_D G) classes ([(h0, .inr (11, [.ref q_1, .ref q_3, .ref q_6, .ref q_9, .ref q_12, .ref q_15, .ref q_18, .ref q_21, .null, .null, .null, .null, .null, .int 0, .int 0, .int 0])), (q_1, .inr (8, [.ref y_2, .int 0, .int 0, .int 0, .int 0])), (y_2, .inl (G.2.2 0, 400, .inl (fun _ => 0))), (q_21, .inl (G.2.2 5, 6, .inr (.inr (.inr (.inr f_34))))), (q_35, .inr (4, [.null, .null, .null, .null, .null, .int 0, .int 0, .int 0, .int 0]))] ++ wt) H := tw_newP hP
  have hD : va_D A ([(h0, .inr (11, [.ref q_1, .ref q_3, .ref q_6, .ref q_9, .ref q_12, .ref q_15, .ref q_18, .ref q_21, .null, .null, .null, .null, .null, .int 0, .int 0, .int 0])), (q_1, .inr (8, [.ref y_2, .int 0, .int 0, .int 0, .int 0])), (y_2, .inl (G.2.2 0, 400, .inl (fun _ => 0))), (q_21, .inl (G.2.2 5, 6, .inr (.inr (.inr (.inr f_34))))), (q_35, .inr (4, [.null, .null, .null, .null, .null, .int 0, .int 0, .int 0, .int 0]))] ++ wt) := tw_newD hD
  refine lv_dup hx hb dX11_init_106 rfl ?_
  have hP : va_P (gg_D G) classes ([(h0, .inr (11, [.ref q_1, .ref q_3, .ref q_6, .ref q_9, .ref q_12, .ref q_15, .ref q_18, .ref q_21, .null, .null, .null, .null, .null, .int 0, .int 0, .int 0])), (q_1, .inr (8, [.ref y_2, .int 0, .int 0, .int 0, .int 0])), (y_2, .inl (G.2.2 0, 400, .inl (fun _ => 0))), (q_21, .inl (G.2.2 5, 6, .inr (.inr (.inr (.inr f_34)))))] ++ ([(q_35, .inr (4, [.null, .null, .null, .null, .null, .int 0, .int 0, .int 0, .int 0]))] ++ wt)) H := hP
  have hD : va_D A ([(h0, .inr (11, [.ref q_1, .ref q_3, .ref q_6, .ref q_9, .ref q_12, .ref q_15, .ref q_18, .ref q_21, .null, .null, .null, .null, .null, .int 0, .int 0, .int 0])), (q_1, .inr (8, [.ref y_2, .int 0, .int 0, .int 0, .int 0])), (y_2, .inl (G.2.2 0, 400, .inl (fun _ => 0))), (q_21, .inl (G.2.2 5, 6, .inr (.inr (.inr (.inr f_34)))))] ++ ([(q_35, .inr (4, [.null, .null, .null, .null, .null, .int 0, .int 0, .int 0, .int 0]))] ++ wt)) := hD
  refine gt_callV (wr := [(h0, .inr (11, [.ref q_1, .ref q_3, .ref q_6, .ref q_9, .ref q_12, .ref q_15, .ref q_18, .ref q_21, .null, .null, .null, .null, .null, .int 0, .int 0, .int 0])), (q_1, .inr (8, [.ref y_2, .int 0, .int 0, .int 0, .int 0])), (y_2, .inl (G.2.2 0, 400, .inl (fun _ => 0))), (q_21, .inl (G.2.2 5, 6, .inr (.inr (.inr (.inr f_34)))))]) (va_runIN (As := []) (rest := [.ref q_35, .int 3, .ref q_21]) ⟨hx, hb, hml, hown, ht⟩ (d_i_Rule l G Γ H.size wt hT q_35) ⟨va_cnB 0 ht (tb_good (ts_good wd_335)) rfl rfl rfl (hK.2.1 _ wn_333 rfl) (ht _ wd_128) (by decide +kernel) ⟨Nat.le_of_ble_eq_true rfl, Nat.le_of_ble_eq_true rfl⟩, rfl, ht _ wd_334⟩ (gc_preS hK (tw_right hP) (tw_rightD hD)) rfl rfl hl.1 rfl (lv_room (Nat.le_of_ble_eq_true rfl)) dX11_init_107 ⟨Nat.le_of_ble_eq_true rfl, Nat.le_of_ble_eq_true rfl⟩) hP hD hS hA (fun u H locs hw hP hD hS => ?_)
  obtain ⟨Γ9, wt⟩ := u
  obtain ⟨hT, hkp, hxe, hk_37⟩ := hw
  have hW := hW.call (show ∀ x ∈ [], x ∈ [709] by decide) hkp
  have hk_5 := hxe.of (by decide) hk_5
  have hk_8 := hxe.of (by decide) hk_8
  have hk_11 := hxe.of (by decide) hk_11
  have hk_14 := hxe.of (by decide) hk_14
  have hk_17 := hxe.of (by decide) hk_17
  have hk_20 := hxe.of (by decide) hk_20
  have hr_22 := hr_22.ext hxe (by decide)
  have hE := hE.tr hxe
  clear hxe
  obtain ⟨Γ, hΓ9⟩ : ∃ z, z = Γ9 := ⟨_, rfl⟩
  subst hΓ9
  have hP : va_P (gg_D G) classes ([(h0, .inr (11, [.ref q_1, .ref q_3, .ref q_6, .ref q_9, .ref q_12, .ref q_15, .ref q_18, .ref q_21, .null, .null, .null, .null, .null, .int 0, .int 0, .int 0])), (q_1, .inr (8, [.ref y_2, .int 0, .int 0, .int 0, .int 0])), (y_2, .inl (G.2.2 0, 400, .inl (fun _ => 0))), (q_21, .inl (G.2.2 5, 6, .inr (.inr (.inr (.inr f_34)))))] ++ wt) H := hP
  have hD : va_D A ([(h0, .inr (11, [.ref q_1, .ref q_3, .ref q_6, .ref q_9, .ref q_12, .ref q_15, .ref q_18, .ref q_21, .null, .null, .null, .null, .null, .int 0, .int 0, .int 0])), (q_1, .inr (8, [.ref y_2, .int 0, .int 0, .int 0, .int 0])), (y_2, .inl (G.2.2 0, 400, .inl (fun _ => 0))), (q_21, .inl (G.2.2 5, 6, .inr (.inr (.inr (.inr f_34)))))] ++ wt) := hD
  refine W.widen (k := 265) (n := 3542) (Nat.le_of_ble_eq_true rfl) (Nat.le_of_ble_eq_true rfl) ?_
  obtain ⟨f_38, ef_38⟩ : ∃ z : Nat → Option Nat, va_up f_34 (Int32.toNatClampNeg 3) (some q_35) = z := ⟨_, rfl⟩
  refine tr_aast (we' := [(h0, .inr (11, [.ref q_1, .ref q_3, .ref q_6, .ref q_9, .ref q_12, .ref q_15, .ref q_18, .ref q_21, .null, .null, .null, .null, .null, .int 0, .int 0, .int 0])), (q_1, .inr (8, [.ref y_2, .int 0, .int 0, .int 0, .int 0])), (y_2, .inl (G.2.2 0, 400, .inl (fun _ => 0))), (q_21, .inl (G.2.2 5, 6, .inr (.inr (.inr (.inr f_38)))))]) hx hb hK hT hP hD hS 3 5 4 rfl rfl hk_37 (by decide) rfl f_38 (by unfold vp_in; decide +kernel) ef_38 rfl dX11_init_110 (fun H locs hP hD hS => ?_)
  have hr_22 := hr_22.step hk_37 (show Int32.toNatClampNeg 3 = 3 by decide +kernel) ef_38
  refine lv_iinc (v := 4) (lv' := [(1, .int 4), (0, .ref h0)]) hx hb dX11_init_111 hl (k := 0) rfl (by decide +kernel) (by decide) rfl (fun ls hl => ?_)
  refine lv_goto (tgt := 92) hx hb dX11_init_114 (by decide) ?_
  refine lv_iload_n hx hb dX11_init_92 rfl (lv_at hl 0 rfl) ?_
  refine lv_bipush (v := 6) hx hb dX11_init_93 (by decide +kernel) ?_
  refine lv_icmp_ge (tgt := 117) hx hb dX11_init_95 (by decide) (fun c0 => False.elim (by rw [Int32.le_iff_toInt_le] at c0; omega)) (fun _ => ?_)
  refine lv_aload_n hx hb dX11_init_98 rfl (lv_at hl 1 rfl) ?_
  refine gq_get hx hb ht hown hK hP i_X11 0 rfl rfl 7 (by decide) wd_504 rfl rfl dX11_init_99 ?_
  refine lv_iload_n hx hb dX11_init_102 rfl (lv_at hl 0 rfl) ?_
  refine gq_new (ci := 4) hx hb ht hown i_X4 tyX4 tyX4_ok wd_330 wd_332 wd_128 hK hP hD hS hA rfl [.null, .null, .null, .null, .null, .int 0, .int 0, .int 0, .int 0] df_X4 266 3551 (Nat.le_of_ble_eq_true rfl) (Nat.le_of_ble_eq_true rfl) (Nat.le_of_ble_eq_true rfl) (Nat.le_of_ble_eq_true rfl) dX11_init_103 (fun q_39 H hP hD hS => ?_)
  have hP : va_P (gg_D G) classes ([(h0, .inr (11, [.ref q_1, .ref q_3, .ref q_6, .ref q_9, .ref q_12, .ref q_15, .ref q_18, .ref q_21, .null, .null, .null, .null, .null, .int 0, .int 0, .int 0])), (q_1, .inr (8, [.ref y_2, .int 0, .int 0, .int 0, .int 0])), (y_2, .inl (G.2.2 0, 400, .inl (fun _ => 0))), (q_21, .inl (G.2.2 5, 6, .inr (.inr (.inr (.inr f_38))))), (q_39, .inr (4, [.null, .null, .null, .null, .null, .int 0, .int 0, .int 0, .int 0]))] ++ wt) H := tw_newP hP
  have hD : va_D A ([(h0, .inr (11, [.ref q_1, .ref q_3, .ref q_6, .ref q_9, .ref q_12, .ref q_15, .ref q_18, .ref q_21, .null, .null, .null, .null, .null, .int 0, .int 0, .int 0])), (q_1, .inr (8, [.ref y_2, .int 0, .int 0, .int 0, .int 0])), (y_2, .inl (G.2.2 0, 400, .inl (fun _ => 0))), (q_21, .inl (G.2.2 5, 6, .inr (.inr (.inr (.inr f_38))))), (q_39, .inr (4, [.null, .null, .null, .null, .null, .int 0, .int 0, .int 0, .int 0]))] ++ wt) := tw_newD hD
  refine lv_dup hx hb dX11_init_106 rfl ?_
  have hP : va_P (gg_D G) classes ([(h0, .inr (11, [.ref q_1, .ref q_3, .ref q_6, .ref q_9, .ref q_12, .ref q_15, .ref q_18, .ref q_21, .null, .null, .null, .null, .null, .int 0, .int 0, .int 0])), (q_1, .inr (8, [.ref y_2, .int 0, .int 0, .int 0, .int 0])), (y_2, .inl (G.2.2 0, 400, .inl (fun _ => 0))), (q_21, .inl (G.2.2 5, 6, .inr (.inr (.inr (.inr f_38)))))] ++ ([(q_39, .inr (4, [.null, .null, .null, .null, .null, .int 0, .int 0, .int 0, .int 0]))] ++ wt)) H := hP
  have hD : va_D A ([(h0, .inr (11, [.ref q_1, .ref q_3, .ref q_6, .ref q_9, .ref q_12, .ref q_15, .ref q_18, .ref q_21, .null, .null, .null, .null, .null, .int 0, .int 0, .int 0])), (q_1, .inr (8, [.ref y_2, .int 0, .int 0, .int 0, .int 0])), (y_2, .inl (G.2.2 0, 400, .inl (fun _ => 0))), (q_21, .inl (G.2.2 5, 6, .inr (.inr (.inr (.inr f_38)))))] ++ ([(q_39, .inr (4, [.null, .null, .null, .null, .null, .int 0, .int 0, .int 0, .int 0]))] ++ wt)) := hD
  refine gt_callV (wr := [(h0, .inr (11, [.ref q_1, .ref q_3, .ref q_6, .ref q_9, .ref q_12, .ref q_15, .ref q_18, .ref q_21, .null, .null, .null, .null, .null, .int 0, .int 0, .int 0])), (q_1, .inr (8, [.ref y_2, .int 0, .int 0, .int 0, .int 0])), (y_2, .inl (G.2.2 0, 400, .inl (fun _ => 0))), (q_21, .inl (G.2.2 5, 6, .inr (.inr (.inr (.inr f_38)))))]) (va_runIN (As := []) (rest := [.ref q_39, .int 4, .ref q_21]) ⟨hx, hb, hml, hown, ht⟩ (d_i_Rule l G Γ H.size wt hT q_39) ⟨va_cnB 0 ht (tb_good (ts_good wd_335)) rfl rfl rfl (hK.2.1 _ wn_333 rfl) (ht _ wd_128) (by decide +kernel) ⟨Nat.le_of_ble_eq_true rfl, Nat.le_of_ble_eq_true rfl⟩, rfl, ht _ wd_334⟩ (gc_preS hK (tw_right hP) (tw_rightD hD)) rfl rfl hl.1 rfl (lv_room (Nat.le_of_ble_eq_true rfl)) dX11_init_107 ⟨Nat.le_of_ble_eq_true rfl, Nat.le_of_ble_eq_true rfl⟩) hP hD hS hA (fun u H locs hw hP hD hS => ?_)
  obtain ⟨Γ9, wt⟩ := u
  obtain ⟨hT, hkp, hxe, hk_41⟩ := hw
  have hW := hW.call (show ∀ x ∈ [], x ∈ [709] by decide) hkp
  have hk_5 := hxe.of (by decide) hk_5
  have hk_8 := hxe.of (by decide) hk_8
  have hk_11 := hxe.of (by decide) hk_11
  have hk_14 := hxe.of (by decide) hk_14
  have hk_17 := hxe.of (by decide) hk_17
  have hk_20 := hxe.of (by decide) hk_20
  have hr_22 := hr_22.ext hxe (by decide)
  have hE := hE.tr hxe
  clear hxe
  obtain ⟨Γ, hΓ9⟩ : ∃ z, z = Γ9 := ⟨_, rfl⟩
  subst hΓ9
  have hP : va_P (gg_D G) classes ([(h0, .inr (11, [.ref q_1, .ref q_3, .ref q_6, .ref q_9, .ref q_12, .ref q_15, .ref q_18, .ref q_21, .null, .null, .null, .null, .null, .int 0, .int 0, .int 0])), (q_1, .inr (8, [.ref y_2, .int 0, .int 0, .int 0, .int 0])), (y_2, .inl (G.2.2 0, 400, .inl (fun _ => 0))), (q_21, .inl (G.2.2 5, 6, .inr (.inr (.inr (.inr f_38)))))] ++ wt) H := hP
  have hD : va_D A ([(h0, .inr (11, [.ref q_1, .ref q_3, .ref q_6, .ref q_9, .ref q_12, .ref q_15, .ref q_18, .ref q_21, .null, .null, .null, .null, .null, .int 0, .int 0, .int 0])), (q_1, .inr (8, [.ref y_2, .int 0, .int 0, .int 0, .int 0])), (y_2, .inl (G.2.2 0, 400, .inl (fun _ => 0))), (q_21, .inl (G.2.2 5, 6, .inr (.inr (.inr (.inr f_38)))))] ++ wt) := hD
  refine W.widen (k := 271) (n := 4043) (Nat.le_of_ble_eq_true rfl) (Nat.le_of_ble_eq_true rfl) ?_
  obtain ⟨f_42, ef_42⟩ : ∃ z : Nat → Option Nat, va_up f_38 (Int32.toNatClampNeg 4) (some q_39) = z := ⟨_, rfl⟩
  refine tr_aast (we' := [(h0, .inr (11, [.ref q_1, .ref q_3, .ref q_6, .ref q_9, .ref q_12, .ref q_15, .ref q_18, .ref q_21, .null, .null, .null, .null, .null, .int 0, .int 0, .int 0])), (q_1, .inr (8, [.ref y_2, .int 0, .int 0, .int 0, .int 0])), (y_2, .inl (G.2.2 0, 400, .inl (fun _ => 0))), (q_21, .inl (G.2.2 5, 6, .inr (.inr (.inr (.inr f_42)))))]) hx hb hK hT hP hD hS 3 5 4 rfl rfl hk_41 (by decide) rfl f_42 (by unfold vp_in; decide +kernel) ef_42 rfl dX11_init_110 (fun H locs hP hD hS => ?_)
  have hr_22 := hr_22.step hk_41 (show Int32.toNatClampNeg 4 = 4 by decide +kernel) ef_42
  refine lv_iinc (v := 5) (lv' := [(1, .int 5), (0, .ref h0)]) hx hb dX11_init_111 hl (k := 0) rfl (by decide +kernel) (by decide) rfl (fun ls hl => ?_)
  refine lv_goto (tgt := 92) hx hb dX11_init_114 (by decide) ?_
  refine lv_iload_n hx hb dX11_init_92 rfl (lv_at hl 0 rfl) ?_
  refine lv_bipush (v := 6) hx hb dX11_init_93 (by decide +kernel) ?_
  refine lv_icmp_ge (tgt := 117) hx hb dX11_init_95 (by decide) (fun c0 => False.elim (by rw [Int32.le_iff_toInt_le] at c0; omega)) (fun _ => ?_)
  refine lv_aload_n hx hb dX11_init_98 rfl (lv_at hl 1 rfl) ?_
  refine gq_get hx hb ht hown hK hP i_X11 0 rfl rfl 7 (by decide) wd_504 rfl rfl dX11_init_99 ?_
  refine lv_iload_n hx hb dX11_init_102 rfl (lv_at hl 0 rfl) ?_
  refine gq_new (ci := 4) hx hb ht hown i_X4 tyX4 tyX4_ok wd_330 wd_332 wd_128 hK hP hD hS hA rfl [.null, .null, .null, .null, .null, .int 0, .int 0, .int 0, .int 0] df_X4 272 4052 (Nat.le_of_ble_eq_true rfl) (Nat.le_of_ble_eq_true rfl) (Nat.le_of_ble_eq_true rfl) (Nat.le_of_ble_eq_true rfl) dX11_init_103 (fun q_43 H hP hD hS => ?_)
  have hP : va_P (gg_D G) classes ([(h0, .inr (11, [.ref q_1, .ref q_3, .ref q_6, .ref q_9, .ref q_12, .ref q_15, .ref q_18, .ref q_21, .null, .null, .null, .null, .null, .int 0, .int 0, .int 0])), (q_1, .inr (8, [.ref y_2, .int 0, .int 0, .int 0, .int 0])), (y_2, .inl (G.2.2 0, 400, .inl (fun _ => 0))), (q_21, .inl (G.2.2 5, 6, .inr (.inr (.inr (.inr f_42))))), (q_43, .inr (4, [.null, .null, .null, .null, .null, .int 0, .int 0, .int 0, .int 0]))] ++ wt) H := tw_newP hP
  have hD : va_D A ([(h0, .inr (11, [.ref q_1, .ref q_3, .ref q_6, .ref q_9, .ref q_12, .ref q_15, .ref q_18, .ref q_21, .null, .null, .null, .null, .null, .int 0, .int 0, .int 0])), (q_1, .inr (8, [.ref y_2, .int 0, .int 0, .int 0, .int 0])), (y_2, .inl (G.2.2 0, 400, .inl (fun _ => 0))), (q_21, .inl (G.2.2 5, 6, .inr (.inr (.inr (.inr f_42))))), (q_43, .inr (4, [.null, .null, .null, .null, .null, .int 0, .int 0, .int 0, .int 0]))] ++ wt) := tw_newD hD
  refine lv_dup hx hb dX11_init_106 rfl ?_
  have hP : va_P (gg_D G) classes ([(h0, .inr (11, [.ref q_1, .ref q_3, .ref q_6, .ref q_9, .ref q_12, .ref q_15, .ref q_18, .ref q_21, .null, .null, .null, .null, .null, .int 0, .int 0, .int 0])), (q_1, .inr (8, [.ref y_2, .int 0, .int 0, .int 0, .int 0])), (y_2, .inl (G.2.2 0, 400, .inl (fun _ => 0))), (q_21, .inl (G.2.2 5, 6, .inr (.inr (.inr (.inr f_42)))))] ++ ([(q_43, .inr (4, [.null, .null, .null, .null, .null, .int 0, .int 0, .int 0, .int 0]))] ++ wt)) H := hP
  have hD : va_D A ([(h0, .inr (11, [.ref q_1, .ref q_3, .ref q_6, .ref q_9, .ref q_12, .ref q_15, .ref q_18, .ref q_21, .null, .null, .null, .null, .null, .int 0, .int 0, .int 0])), (q_1, .inr (8, [.ref y_2, .int 0, .int 0, .int 0, .int 0])), (y_2, .inl (G.2.2 0, 400, .inl (fun _ => 0))), (q_21, .inl (G.2.2 5, 6, .inr (.inr (.inr (.inr f_42)))))] ++ ([(q_43, .inr (4, [.null, .null, .null, .null, .null, .int 0, .int 0, .int 0, .int 0]))] ++ wt)) := hD
  refine gt_callV (wr := [(h0, .inr (11, [.ref q_1, .ref q_3, .ref q_6, .ref q_9, .ref q_12, .ref q_15, .ref q_18, .ref q_21, .null, .null, .null, .null, .null, .int 0, .int 0, .int 0])), (q_1, .inr (8, [.ref y_2, .int 0, .int 0, .int 0, .int 0])), (y_2, .inl (G.2.2 0, 400, .inl (fun _ => 0))), (q_21, .inl (G.2.2 5, 6, .inr (.inr (.inr (.inr f_42)))))]) (va_runIN (As := []) (rest := [.ref q_43, .int 5, .ref q_21]) ⟨hx, hb, hml, hown, ht⟩ (d_i_Rule l G Γ H.size wt hT q_43) ⟨va_cnB 0 ht (tb_good (ts_good wd_335)) rfl rfl rfl (hK.2.1 _ wn_333 rfl) (ht _ wd_128) (by decide +kernel) ⟨Nat.le_of_ble_eq_true rfl, Nat.le_of_ble_eq_true rfl⟩, rfl, ht _ wd_334⟩ (gc_preS hK (tw_right hP) (tw_rightD hD)) rfl rfl hl.1 rfl (lv_room (Nat.le_of_ble_eq_true rfl)) dX11_init_107 ⟨Nat.le_of_ble_eq_true rfl, Nat.le_of_ble_eq_true rfl⟩) hP hD hS hA (fun u H locs hw hP hD hS => ?_)
  obtain ⟨Γ9, wt⟩ := u
  obtain ⟨hT, hkp, hxe, hk_45⟩ := hw
  have hW := hW.call (show ∀ x ∈ [], x ∈ [709] by decide) hkp
  have hk_5 := hxe.of (by decide) hk_5
  have hk_8 := hxe.of (by decide) hk_8
  have hk_11 := hxe.of (by decide) hk_11
  have hk_14 := hxe.of (by decide) hk_14
  have hk_17 := hxe.of (by decide) hk_17
  have hk_20 := hxe.of (by decide) hk_20
  have hr_22 := hr_22.ext hxe (by decide)
  have hE := hE.tr hxe
  clear hxe
  obtain ⟨Γ, hΓ9⟩ : ∃ z, z = Γ9 := ⟨_, rfl⟩
  subst hΓ9
  have hP : va_P (gg_D G) classes ([(h0, .inr (11, [.ref q_1, .ref q_3, .ref q_6, .ref q_9, .ref q_12, .ref q_15, .ref q_18, .ref q_21, .null, .null, .null, .null, .null, .int 0, .int 0, .int 0])), (q_1, .inr (8, [.ref y_2, .int 0, .int 0, .int 0, .int 0])), (y_2, .inl (G.2.2 0, 400, .inl (fun _ => 0))), (q_21, .inl (G.2.2 5, 6, .inr (.inr (.inr (.inr f_42)))))] ++ wt) H := hP
  have hD : va_D A ([(h0, .inr (11, [.ref q_1, .ref q_3, .ref q_6, .ref q_9, .ref q_12, .ref q_15, .ref q_18, .ref q_21, .null, .null, .null, .null, .null, .int 0, .int 0, .int 0])), (q_1, .inr (8, [.ref y_2, .int 0, .int 0, .int 0, .int 0])), (y_2, .inl (G.2.2 0, 400, .inl (fun _ => 0))), (q_21, .inl (G.2.2 5, 6, .inr (.inr (.inr (.inr f_42)))))] ++ wt) := hD
  refine W.widen (k := 277) (n := 4544) (Nat.le_of_ble_eq_true rfl) (Nat.le_of_ble_eq_true rfl) ?_
  obtain ⟨f_46, ef_46⟩ : ∃ z : Nat → Option Nat, va_up f_42 (Int32.toNatClampNeg 5) (some q_43) = z := ⟨_, rfl⟩
  refine tr_aast (we' := [(h0, .inr (11, [.ref q_1, .ref q_3, .ref q_6, .ref q_9, .ref q_12, .ref q_15, .ref q_18, .ref q_21, .null, .null, .null, .null, .null, .int 0, .int 0, .int 0])), (q_1, .inr (8, [.ref y_2, .int 0, .int 0, .int 0, .int 0])), (y_2, .inl (G.2.2 0, 400, .inl (fun _ => 0))), (q_21, .inl (G.2.2 5, 6, .inr (.inr (.inr (.inr f_46)))))]) hx hb hK hT hP hD hS 3 5 4 rfl rfl hk_45 (by decide) rfl f_46 (by unfold vp_in; decide +kernel) ef_46 rfl dX11_init_110 (fun H locs hP hD hS => ?_)
  have hr_22 := hr_22.step hk_45 (show Int32.toNatClampNeg 5 = 5 by decide +kernel) ef_46
  refine lv_iinc (v := 6) (lv' := [(1, .int 6), (0, .ref h0)]) hx hb dX11_init_111 hl (k := 0) rfl (by decide +kernel) (by decide) rfl (fun ls hl => ?_)
  refine lv_goto (tgt := 92) hx hb dX11_init_114 (by decide) ?_
  refine lv_iload_n hx hb dX11_init_92 rfl (lv_at hl 0 rfl) ?_
  refine lv_bipush (v := 6) hx hb dX11_init_93 (by decide +kernel) ?_
  refine lv_icmp_ge (tgt := 117) hx hb dX11_init_95 (by decide) (fun _ => ?_) (fun c0 => False.elim (by rw [Int32.le_iff_toInt_le] at c0; omega))
  refine lv_aload_n hx hb dX11_init_117 rfl (lv_at hl 1 rfl) ?_
  refine lv_iconst (v := 4) hx hb dX11_init_118 (by decide +kernel) ?_
  refine gq_newq hx hb hown (ht _ wd_366) hK.2.2.2.2 hK hP hD hS hA 6 rfl 4 (by decide +kernel) (by decide +kernel) (Nat.le_of_ble_eq_true rfl) 278 4548 (Nat.le_of_ble_eq_true rfl) (Nat.le_of_ble_eq_true rfl) (Nat.le_of_ble_eq_true rfl) (Nat.le_of_ble_eq_true rfl) dX11_init_119 (fun q_47 H hP hD hS => ?_)
  have hP : va_P (gg_D G) classes ([(h0, .inr (11, [.ref q_1, .ref q_3, .ref q_6, .ref q_9, .ref q_12, .ref q_15, .ref q_18, .ref q_21, .null, .null, .null, .null, .null, .int 0, .int 0, .int 0])), (q_1, .inr (8, [.ref y_2, .int 0, .int 0, .int 0, .int 0])), (y_2, .inl (G.2.2 0, 400, .inl (fun _ => 0))), (q_21, .inl (G.2.2 5, 6, .inr (.inr (.inr (.inr f_46))))), (q_47, .inl (G.2.2 6, 4, .inr (.inr (.inr (.inr (fun _ => none))))))] ++ wt) H := tw_newP hP
  have hD : va_D A ([(h0, .inr (11, [.ref q_1, .ref q_3, .ref q_6, .ref q_9, .ref q_12, .ref q_15, .ref q_18, .ref q_21, .null, .null, .null, .null, .null, .int 0, .int 0, .int 0])), (q_1, .inr (8, [.ref y_2, .int 0, .int 0, .int 0, .int 0])), (y_2, .inl (G.2.2 0, 400, .inl (fun _ => 0))), (q_21, .inl (G.2.2 5, 6, .inr (.inr (.inr (.inr f_46))))), (q_47, .inl (G.2.2 6, 4, .inr (.inr (.inr (.inr (fun _ => none))))))] ++ wt) := tw_newD hD
  have hr_48 : tk_row Γ (fun _ => none) 0 2 := tk_row.z
  refine gq_putF (ws' := [(h0, .inr (11, [.ref q_1, .ref q_3, .ref q_6, .ref q_9, .ref q_12, .ref q_15, .ref q_18, .ref q_21, .ref q_47, .null, .null, .null, .null, .int 0, .int 0, .int 0])), (q_1, .inr (8, [.ref y_2, .int 0, .int 0, .int 0, .int 0])), (y_2, .inl (G.2.2 0, 400, .inl (fun _ => 0))), (q_21, .inl (G.2.2 5, 6, .inr (.inr (.inr (.inr f_46))))), (q_47, .inl (G.2.2 6, 4, .inr (.inr (.inr (.inr (fun _ => none))))))] ++ wt) hx hb ht hown hin hK hP hD hS i_X11 tyX11 tyX11_ok nmX11 0 rfl rfl 8 (by decide) wd_505 rfl rfl rfl rfl (Nat.le_of_ble_eq_true rfl) rfl dX11_init_122 (fun H locs hP hD hS => ?_)
  refine lv_iconst (v := 0) hx hb dX11_init_125 (by decide +kernel) ?_
  refine lv_istore_n (lv' := [(1, .int 0), (0, .ref h0)]) hx hb dX11_init_126 rfl hl (by decide) rfl (fun ls hl => ?_)
  refine lv_iload_n hx hb dX11_init_127 rfl (lv_at hl 0 rfl) ?_
  refine lv_iconst (v := 4) hx hb dX11_init_128 (by decide +kernel) ?_
  refine lv_icmp_ge (tgt := 151) hx hb dX11_init_129 (by decide) (fun c0 => False.elim (by rw [Int32.le_iff_toInt_le] at c0; omega)) (fun _ => ?_)
  refine lv_aload_n hx hb dX11_init_132 rfl (lv_at hl 1 rfl) ?_
  refine gq_get hx hb ht hown hK hP i_X11 0 rfl rfl 8 (by decide) wd_505 rfl rfl dX11_init_133 ?_
  refine lv_iload_n hx hb dX11_init_136 rfl (lv_at hl 0 rfl) ?_
  refine gq_new (ci := 1) hx hb ht hown i_X1 tyX1 tyX1_ok wd_366 wd_368 wd_129 hK hP hD hS hA rfl [.null, .null, .null, .int 0, .int 0, .int 0] df_X1 279 4554 (Nat.le_of_ble_eq_true rfl) (Nat.le_of_ble_eq_true rfl) (Nat.le_of_ble_eq_true rfl) (Nat.le_of_ble_eq_true rfl) dX11_init_137 (fun q_49 H hP hD hS => ?_)
  have hP : va_P (gg_D G) classes ([(h0, .inr (11, [.ref q_1, .ref q_3, .ref q_6, .ref q_9, .ref q_12, .ref q_15, .ref q_18, .ref q_21, .ref q_47, .null, .null, .null, .null, .int 0, .int 0, .int 0])), (q_1, .inr (8, [.ref y_2, .int 0, .int 0, .int 0, .int 0])), (y_2, .inl (G.2.2 0, 400, .inl (fun _ => 0))), (q_21, .inl (G.2.2 5, 6, .inr (.inr (.inr (.inr f_46))))), (q_47, .inl (G.2.2 6, 4, .inr (.inr (.inr (.inr (fun _ => none)))))), (q_49, .inr (1, [.null, .null, .null, .int 0, .int 0, .int 0]))] ++ wt) H := tw_newP hP
  have hD : va_D A ([(h0, .inr (11, [.ref q_1, .ref q_3, .ref q_6, .ref q_9, .ref q_12, .ref q_15, .ref q_18, .ref q_21, .ref q_47, .null, .null, .null, .null, .int 0, .int 0, .int 0])), (q_1, .inr (8, [.ref y_2, .int 0, .int 0, .int 0, .int 0])), (y_2, .inl (G.2.2 0, 400, .inl (fun _ => 0))), (q_21, .inl (G.2.2 5, 6, .inr (.inr (.inr (.inr f_46))))), (q_47, .inl (G.2.2 6, 4, .inr (.inr (.inr (.inr (fun _ => none)))))), (q_49, .inr (1, [.null, .null, .null, .int 0, .int 0, .int 0]))] ++ wt) := tw_newD hD
  refine lv_dup hx hb dX11_init_140 rfl ?_
  have hP : va_P (gg_D G) classes ([(h0, .inr (11, [.ref q_1, .ref q_3, .ref q_6, .ref q_9, .ref q_12, .ref q_15, .ref q_18, .ref q_21, .ref q_47, .null, .null, .null, .null, .int 0, .int 0, .int 0])), (q_1, .inr (8, [.ref y_2, .int 0, .int 0, .int 0, .int 0])), (y_2, .inl (G.2.2 0, 400, .inl (fun _ => 0))), (q_21, .inl (G.2.2 5, 6, .inr (.inr (.inr (.inr f_46))))), (q_47, .inl (G.2.2 6, 4, .inr (.inr (.inr (.inr (fun _ => none))))))] ++ ([(q_49, .inr (1, [.null, .null, .null, .int 0, .int 0, .int 0]))] ++ wt)) H := hP
  have hD : va_D A ([(h0, .inr (11, [.ref q_1, .ref q_3, .ref q_6, .ref q_9, .ref q_12, .ref q_15, .ref q_18, .ref q_21, .ref q_47, .null, .null, .null, .null, .int 0, .int 0, .int 0])), (q_1, .inr (8, [.ref y_2, .int 0, .int 0, .int 0, .int 0])), (y_2, .inl (G.2.2 0, 400, .inl (fun _ => 0))), (q_21, .inl (G.2.2 5, 6, .inr (.inr (.inr (.inr f_46))))), (q_47, .inl (G.2.2 6, 4, .inr (.inr (.inr (.inr (fun _ => none))))))] ++ ([(q_49, .inr (1, [.null, .null, .null, .int 0, .int 0, .int 0]))] ++ wt)) := hD
  refine gt_callV (wr := [(h0, .inr (11, [.ref q_1, .ref q_3, .ref q_6, .ref q_9, .ref q_12, .ref q_15, .ref q_18, .ref q_21, .ref q_47, .null, .null, .null, .null, .int 0, .int 0, .int 0])), (q_1, .inr (8, [.ref y_2, .int 0, .int 0, .int 0, .int 0])), (y_2, .inl (G.2.2 0, 400, .inl (fun _ => 0))), (q_21, .inl (G.2.2 5, 6, .inr (.inr (.inr (.inr f_46))))), (q_47, .inl (G.2.2 6, 4, .inr (.inr (.inr (.inr (fun _ => none))))))]) (va_runIN (As := []) (rest := [.ref q_49, .int 0, .ref q_47]) ⟨hx, hb, hml, hown, ht⟩ (d_i_Image l G Γ H.size wt hT q_49) ⟨va_cnB 0 ht (tb_good (ts_good wd_371)) rfl rfl rfl (hK.2.1 _ wn_369 rfl) (ht _ wd_129) (by decide +kernel) ⟨Nat.le_of_ble_eq_true rfl, Nat.le_of_ble_eq_true rfl⟩, rfl, ht _ wd_370⟩ (gc_preS hK (tw_right hP) (tw_rightD hD)) rfl rfl hl.1 rfl (lv_room (Nat.le_of_ble_eq_true rfl)) dX11_init_141 ⟨Nat.le_of_ble_eq_true rfl, Nat.le_of_ble_eq_true rfl⟩) hP hD hS hA (fun u H locs hw hP hD hS => ?_)
  obtain ⟨Γ9, wt⟩ := u
  obtain ⟨hT, hkp, hxe, hk_53, w_51, w_52⟩ := hw
  have hW := hW.call (show ∀ x ∈ [], x ∈ [709] by decide) hkp
  have hk_5 := hxe.of (by decide) hk_5
  have hk_8 := hxe.of (by decide) hk_8
  have hk_11 := hxe.of (by decide) hk_11
  have hk_14 := hxe.of (by decide) hk_14
  have hk_17 := hxe.of (by decide) hk_17
  have hk_20 := hxe.of (by decide) hk_20
  have hr_22 := hr_22.ext hxe (by decide)
  have hr_48 := hr_48.ext hxe (by decide)
  have hE := hE.tr hxe
  clear hxe
  obtain ⟨Γ, hΓ9⟩ : ∃ z, z = Γ9 := ⟨_, rfl⟩
  subst hΓ9
  have hP : va_P (gg_D G) classes ([(h0, .inr (11, [.ref q_1, .ref q_3, .ref q_6, .ref q_9, .ref q_12, .ref q_15, .ref q_18, .ref q_21, .ref q_47, .null, .null, .null, .null, .int 0, .int 0, .int 0])), (q_1, .inr (8, [.ref y_2, .int 0, .int 0, .int 0, .int 0])), (y_2, .inl (G.2.2 0, 400, .inl (fun _ => 0))), (q_21, .inl (G.2.2 5, 6, .inr (.inr (.inr (.inr f_46))))), (q_47, .inl (G.2.2 6, 4, .inr (.inr (.inr (.inr (fun _ => none))))))] ++ wt) H := hP
  have hD : va_D A ([(h0, .inr (11, [.ref q_1, .ref q_3, .ref q_6, .ref q_9, .ref q_12, .ref q_15, .ref q_18, .ref q_21, .ref q_47, .null, .null, .null, .null, .int 0, .int 0, .int 0])), (q_1, .inr (8, [.ref y_2, .int 0, .int 0, .int 0, .int 0])), (y_2, .inl (G.2.2 0, 400, .inl (fun _ => 0))), (q_21, .inl (G.2.2 5, 6, .inr (.inr (.inr (.inr f_46))))), (q_47, .inl (G.2.2 6, 4, .inr (.inr (.inr (.inr (fun _ => none))))))] ++ wt) := hD
  refine W.widen (k := 299) (n := 4673) (Nat.le_of_ble_eq_true rfl) (Nat.le_of_ble_eq_true rfl) ?_
  obtain ⟨f_54, ef_54⟩ : ∃ z : Nat → Option Nat, va_up (fun _ => none) (Int32.toNatClampNeg 0) (some q_49) = z := ⟨_, rfl⟩
  refine tr_aast (we' := [(h0, .inr (11, [.ref q_1, .ref q_3, .ref q_6, .ref q_9, .ref q_12, .ref q_15, .ref q_18, .ref q_21, .ref q_47, .null, .null, .null, .null, .int 0, .int 0, .int 0])), (q_1, .inr (8, [.ref y_2, .int 0, .int 0, .int 0, .int 0])), (y_2, .inl (G.2.2 0, 400, .inl (fun _ => 0))), (q_21, .inl (G.2.2 5, 6, .inr (.inr (.inr (.inr f_46))))), (q_47, .inl (G.2.2 6, 4, .inr (.inr (.inr (.inr f_54)))))]) hx hb hK hT hP hD hS 4 6 1 rfl rfl hk_53 (by decide) rfl f_54 (by unfold vp_in; decide +kernel) ef_54 rfl dX11_init_144 (fun H locs hP hD hS => ?_)
  have hr_48 := hr_48.step hk_53 (show Int32.toNatClampNeg 0 = 0 by decide +kernel) ef_54
  have pf_54 : f_54 0 = some q_49 := by rw [← ef_54]; rfl
  refine lv_iinc (v := 1) (lv' := [(1, .int 1), (0, .ref h0)]) hx hb dX11_init_145 hl (k := 0) rfl (by decide +kernel) (by decide) rfl (fun ls hl => ?_)
  refine lv_goto (tgt := 127) hx hb dX11_init_148 (by decide) ?_
  refine lv_iload_n hx hb dX11_init_127 rfl (lv_at hl 0 rfl) ?_
  refine lv_iconst (v := 4) hx hb dX11_init_128 (by decide +kernel) ?_
  refine lv_icmp_ge (tgt := 151) hx hb dX11_init_129 (by decide) (fun c0 => False.elim (by rw [Int32.le_iff_toInt_le] at c0; omega)) (fun _ => ?_)
  refine lv_aload_n hx hb dX11_init_132 rfl (lv_at hl 1 rfl) ?_
  refine gq_get hx hb ht hown hK hP i_X11 0 rfl rfl 8 (by decide) wd_505 rfl rfl dX11_init_133 ?_
  refine lv_iload_n hx hb dX11_init_136 rfl (lv_at hl 0 rfl) ?_
  refine gq_new (ci := 1) hx hb ht hown i_X1 tyX1 tyX1_ok wd_366 wd_368 wd_129 hK hP hD hS hA rfl [.null, .null, .null, .int 0, .int 0, .int 0] df_X1 300 4679 (Nat.le_of_ble_eq_true rfl) (Nat.le_of_ble_eq_true rfl) (Nat.le_of_ble_eq_true rfl) (Nat.le_of_ble_eq_true rfl) dX11_init_137 (fun q_55 H hP hD hS => ?_)
  have hP : va_P (gg_D G) classes ([(h0, .inr (11, [.ref q_1, .ref q_3, .ref q_6, .ref q_9, .ref q_12, .ref q_15, .ref q_18, .ref q_21, .ref q_47, .null, .null, .null, .null, .int 0, .int 0, .int 0])), (q_1, .inr (8, [.ref y_2, .int 0, .int 0, .int 0, .int 0])), (y_2, .inl (G.2.2 0, 400, .inl (fun _ => 0))), (q_21, .inl (G.2.2 5, 6, .inr (.inr (.inr (.inr f_46))))), (q_47, .inl (G.2.2 6, 4, .inr (.inr (.inr (.inr f_54))))), (q_55, .inr (1, [.null, .null, .null, .int 0, .int 0, .int 0]))] ++ wt) H := tw_newP hP
  have hD : va_D A ([(h0, .inr (11, [.ref q_1, .ref q_3, .ref q_6, .ref q_9, .ref q_12, .ref q_15, .ref q_18, .ref q_21, .ref q_47, .null, .null, .null, .null, .int 0, .int 0, .int 0])), (q_1, .inr (8, [.ref y_2, .int 0, .int 0, .int 0, .int 0])), (y_2, .inl (G.2.2 0, 400, .inl (fun _ => 0))), (q_21, .inl (G.2.2 5, 6, .inr (.inr (.inr (.inr f_46))))), (q_47, .inl (G.2.2 6, 4, .inr (.inr (.inr (.inr f_54))))), (q_55, .inr (1, [.null, .null, .null, .int 0, .int 0, .int 0]))] ++ wt) := tw_newD hD
  have nq_49_q_55 : q_49 ≠ q_55 := tk_neq (we := [(h0, .inr (11, [.ref q_1, .ref q_3, .ref q_6, .ref q_9, .ref q_12, .ref q_15, .ref q_18, .ref q_21, .ref q_47, .null, .null, .null, .null, .int 0, .int 0, .int 0])), (q_1, .inr (8, [.ref y_2, .int 0, .int 0, .int 0, .int 0])), (y_2, .inl (G.2.2 0, 400, .inl (fun _ => 0))), (q_21, .inl (G.2.2 5, 6, .inr (.inr (.inr (.inr f_46))))), (q_47, .inl (G.2.2 6, 4, .inr (.inr (.inr (.inr f_54))))), (q_55, .inr (1, [.null, .null, .null, .int 0, .int 0, .int 0]))]) (i := 5) hT hD hk_53 (by decide) rfl
  refine lv_dup hx hb dX11_init_140 rfl ?_
  have hP : va_P (gg_D G) classes ([(h0, .inr (11, [.ref q_1, .ref q_3, .ref q_6, .ref q_9, .ref q_12, .ref q_15, .ref q_18, .ref q_21, .ref q_47, .null, .null, .null, .null, .int 0, .int 0, .int 0])), (q_1, .inr (8, [.ref y_2, .int 0, .int 0, .int 0, .int 0])), (y_2, .inl (G.2.2 0, 400, .inl (fun _ => 0))), (q_21, .inl (G.2.2 5, 6, .inr (.inr (.inr (.inr f_46))))), (q_47, .inl (G.2.2 6, 4, .inr (.inr (.inr (.inr f_54)))))] ++ ([(q_55, .inr (1, [.null, .null, .null, .int 0, .int 0, .int 0]))] ++ wt)) H := hP
  have hD : va_D A ([(h0, .inr (11, [.ref q_1, .ref q_3, .ref q_6, .ref q_9, .ref q_12, .ref q_15, .ref q_18, .ref q_21, .ref q_47, .null, .null, .null, .null, .int 0, .int 0, .int 0])), (q_1, .inr (8, [.ref y_2, .int 0, .int 0, .int 0, .int 0])), (y_2, .inl (G.2.2 0, 400, .inl (fun _ => 0))), (q_21, .inl (G.2.2 5, 6, .inr (.inr (.inr (.inr f_46))))), (q_47, .inl (G.2.2 6, 4, .inr (.inr (.inr (.inr f_54)))))] ++ ([(q_55, .inr (1, [.null, .null, .null, .int 0, .int 0, .int 0]))] ++ wt)) := hD
  refine gt_callV (wr := [(h0, .inr (11, [.ref q_1, .ref q_3, .ref q_6, .ref q_9, .ref q_12, .ref q_15, .ref q_18, .ref q_21, .ref q_47, .null, .null, .null, .null, .int 0, .int 0, .int 0])), (q_1, .inr (8, [.ref y_2, .int 0, .int 0, .int 0, .int 0])), (y_2, .inl (G.2.2 0, 400, .inl (fun _ => 0))), (q_21, .inl (G.2.2 5, 6, .inr (.inr (.inr (.inr f_46))))), (q_47, .inl (G.2.2 6, 4, .inr (.inr (.inr (.inr f_54)))))]) (va_runIN (As := []) (rest := [.ref q_55, .int 1, .ref q_47]) ⟨hx, hb, hml, hown, ht⟩ (d_i_Image l G Γ H.size wt hT q_55) ⟨va_cnB 0 ht (tb_good (ts_good wd_371)) rfl rfl rfl (hK.2.1 _ wn_369 rfl) (ht _ wd_129) (by decide +kernel) ⟨Nat.le_of_ble_eq_true rfl, Nat.le_of_ble_eq_true rfl⟩, rfl, ht _ wd_370⟩ (gc_preS hK (tw_right hP) (tw_rightD hD)) rfl rfl hl.1 rfl (lv_room (Nat.le_of_ble_eq_true rfl)) dX11_init_141 ⟨Nat.le_of_ble_eq_true rfl, Nat.le_of_ble_eq_true rfl⟩) hP hD hS hA (fun u H locs hw hP hD hS => ?_)
  obtain ⟨Γ9, wt⟩ := u
  obtain ⟨hT, hkp, hxe, hk_59, w_57, w_58⟩ := hw
  have hW := hW.call (show ∀ x ∈ [], x ∈ [709] by decide) hkp
  have w_51 := hkp _ _ _ _ (by decide) (by decide) w_51
  have w_52 := hkp _ _ _ _ (by decide) (by decide) w_52
  have hk_5 := hxe.of (by decide) hk_5
  have hk_8 := hxe.of (by decide) hk_8
  have hk_11 := hxe.of (by decide) hk_11
  have hk_14 := hxe.of (by decide) hk_14
  have hk_17 := hxe.of (by decide) hk_17
  have hk_20 := hxe.of (by decide) hk_20
  have hk_53 := hxe.of (by decide) hk_53
  have hr_22 := hr_22.ext hxe (by decide)
  have hr_48 := hr_48.ext hxe (by decide)
  have hE := hE.tr hxe
  clear hxe
  obtain ⟨Γ, hΓ9⟩ : ∃ z, z = Γ9 := ⟨_, rfl⟩
  subst hΓ9
  have hP : va_P (gg_D G) classes ([(h0, .inr (11, [.ref q_1, .ref q_3, .ref q_6, .ref q_9, .ref q_12, .ref q_15, .ref q_18, .ref q_21, .ref q_47, .null, .null, .null, .null, .int 0, .int 0, .int 0])), (q_1, .inr (8, [.ref y_2, .int 0, .int 0, .int 0, .int 0])), (y_2, .inl (G.2.2 0, 400, .inl (fun _ => 0))), (q_21, .inl (G.2.2 5, 6, .inr (.inr (.inr (.inr f_46))))), (q_47, .inl (G.2.2 6, 4, .inr (.inr (.inr (.inr f_54)))))] ++ wt) H := hP
  have hD : va_D A ([(h0, .inr (11, [.ref q_1, .ref q_3, .ref q_6, .ref q_9, .ref q_12, .ref q_15, .ref q_18, .ref q_21, .ref q_47, .null, .null, .null, .null, .int 0, .int 0, .int 0])), (q_1, .inr (8, [.ref y_2, .int 0, .int 0, .int 0, .int 0])), (y_2, .inl (G.2.2 0, 400, .inl (fun _ => 0))), (q_21, .inl (G.2.2 5, 6, .inr (.inr (.inr (.inr f_46))))), (q_47, .inl (G.2.2 6, 4, .inr (.inr (.inr (.inr f_54)))))] ++ wt) := hD
  refine W.widen (k := 320) (n := 4798) (Nat.le_of_ble_eq_true rfl) (Nat.le_of_ble_eq_true rfl) ?_
  obtain ⟨f_60, ef_60⟩ : ∃ z : Nat → Option Nat, va_up f_54 (Int32.toNatClampNeg 1) (some q_55) = z := ⟨_, rfl⟩
  refine tr_aast (we' := [(h0, .inr (11, [.ref q_1, .ref q_3, .ref q_6, .ref q_9, .ref q_12, .ref q_15, .ref q_18, .ref q_21, .ref q_47, .null, .null, .null, .null, .int 0, .int 0, .int 0])), (q_1, .inr (8, [.ref y_2, .int 0, .int 0, .int 0, .int 0])), (y_2, .inl (G.2.2 0, 400, .inl (fun _ => 0))), (q_21, .inl (G.2.2 5, 6, .inr (.inr (.inr (.inr f_46))))), (q_47, .inl (G.2.2 6, 4, .inr (.inr (.inr (.inr f_60)))))]) hx hb hK hT hP hD hS 4 6 1 rfl rfl hk_59 (by decide) rfl f_60 (by unfold vp_in; decide +kernel) ef_60 rfl dX11_init_144 (fun H locs hP hD hS => ?_)
  have hr_48 := hr_48.step hk_59 (show Int32.toNatClampNeg 1 = 1 by decide +kernel) ef_60
  have pf_60_0 : f_60 0 = some q_49 := by rw [← ef_60]; exact up_nq (by decide +kernel) pf_54
  have pf_60 : f_60 1 = some q_55 := by rw [← ef_60]; rfl
  refine lv_iinc (v := 2) (lv' := [(1, .int 2), (0, .ref h0)]) hx hb dX11_init_145 hl (k := 0) rfl (by decide +kernel) (by decide) rfl (fun ls hl => ?_)
  refine lv_goto (tgt := 127) hx hb dX11_init_148 (by decide) ?_
  refine lv_iload_n hx hb dX11_init_127 rfl (lv_at hl 0 rfl) ?_
  refine lv_iconst (v := 4) hx hb dX11_init_128 (by decide +kernel) ?_
  refine lv_icmp_ge (tgt := 151) hx hb dX11_init_129 (by decide) (fun c0 => False.elim (by rw [Int32.le_iff_toInt_le] at c0; omega)) (fun _ => ?_)
  refine lv_aload_n hx hb dX11_init_132 rfl (lv_at hl 1 rfl) ?_
  refine gq_get hx hb ht hown hK hP i_X11 0 rfl rfl 8 (by decide) wd_505 rfl rfl dX11_init_133 ?_
  refine lv_iload_n hx hb dX11_init_136 rfl (lv_at hl 0 rfl) ?_
  refine gq_new (ci := 1) hx hb ht hown i_X1 tyX1 tyX1_ok wd_366 wd_368 wd_129 hK hP hD hS hA rfl [.null, .null, .null, .int 0, .int 0, .int 0] df_X1 321 4804 (Nat.le_of_ble_eq_true rfl) (Nat.le_of_ble_eq_true rfl) (Nat.le_of_ble_eq_true rfl) (Nat.le_of_ble_eq_true rfl) dX11_init_137 (fun q_61 H hP hD hS => ?_)
  have hP : va_P (gg_D G) classes ([(h0, .inr (11, [.ref q_1, .ref q_3, .ref q_6, .ref q_9, .ref q_12, .ref q_15, .ref q_18, .ref q_21, .ref q_47, .null, .null, .null, .null, .int 0, .int 0, .int 0])), (q_1, .inr (8, [.ref y_2, .int 0, .int 0, .int 0, .int 0])), (y_2, .inl (G.2.2 0, 400, .inl (fun _ => 0))), (q_21, .inl (G.2.2 5, 6, .inr (.inr (.inr (.inr f_46))))), (q_47, .inl (G.2.2 6, 4, .inr (.inr (.inr (.inr f_60))))), (q_61, .inr (1, [.null, .null, .null, .int 0, .int 0, .int 0]))] ++ wt) H := tw_newP hP
  have hD : va_D A ([(h0, .inr (11, [.ref q_1, .ref q_3, .ref q_6, .ref q_9, .ref q_12, .ref q_15, .ref q_18, .ref q_21, .ref q_47, .null, .null, .null, .null, .int 0, .int 0, .int 0])), (q_1, .inr (8, [.ref y_2, .int 0, .int 0, .int 0, .int 0])), (y_2, .inl (G.2.2 0, 400, .inl (fun _ => 0))), (q_21, .inl (G.2.2 5, 6, .inr (.inr (.inr (.inr f_46))))), (q_47, .inl (G.2.2 6, 4, .inr (.inr (.inr (.inr f_60))))), (q_61, .inr (1, [.null, .null, .null, .int 0, .int 0, .int 0]))] ++ wt) := tw_newD hD
  have nq_49_q_61 : q_49 ≠ q_61 := tk_neq (we := [(h0, .inr (11, [.ref q_1, .ref q_3, .ref q_6, .ref q_9, .ref q_12, .ref q_15, .ref q_18, .ref q_21, .ref q_47, .null, .null, .null, .null, .int 0, .int 0, .int 0])), (q_1, .inr (8, [.ref y_2, .int 0, .int 0, .int 0, .int 0])), (y_2, .inl (G.2.2 0, 400, .inl (fun _ => 0))), (q_21, .inl (G.2.2 5, 6, .inr (.inr (.inr (.inr f_46))))), (q_47, .inl (G.2.2 6, 4, .inr (.inr (.inr (.inr f_60))))), (q_61, .inr (1, [.null, .null, .null, .int 0, .int 0, .int 0]))]) (i := 5) hT hD hk_53 (by decide) rfl
  have nq_55_q_61 : q_55 ≠ q_61 := tk_neq (we := [(h0, .inr (11, [.ref q_1, .ref q_3, .ref q_6, .ref q_9, .ref q_12, .ref q_15, .ref q_18, .ref q_21, .ref q_47, .null, .null, .null, .null, .int 0, .int 0, .int 0])), (q_1, .inr (8, [.ref y_2, .int 0, .int 0, .int 0, .int 0])), (y_2, .inl (G.2.2 0, 400, .inl (fun _ => 0))), (q_21, .inl (G.2.2 5, 6, .inr (.inr (.inr (.inr f_46))))), (q_47, .inl (G.2.2 6, 4, .inr (.inr (.inr (.inr f_60))))), (q_61, .inr (1, [.null, .null, .null, .int 0, .int 0, .int 0]))]) (i := 5) hT hD hk_59 (by decide) rfl
  refine lv_dup hx hb dX11_init_140 rfl ?_
  have hP : va_P (gg_D G) classes ([(h0, .inr (11, [.ref q_1, .ref q_3, .ref q_6, .ref q_9, .ref q_12, .ref q_15, .ref q_18, .ref q_21, .ref q_47, .null, .null, .null, .null, .int 0, .int 0, .int 0])), (q_1, .inr (8, [.ref y_2, .int 0, .int 0, .int 0, .int 0])), (y_2, .inl (G.2.2 0, 400, .inl (fun _ => 0))), (q_21, .inl (G.2.2 5, 6, .inr (.inr (.inr (.inr f_46))))), (q_47, .inl (G.2.2 6, 4, .inr (.inr (.inr (.inr f_60)))))] ++ ([(q_61, .inr (1, [.null, .null, .null, .int 0, .int 0, .int 0]))] ++ wt)) H := hP
  have hD : va_D A ([(h0, .inr (11, [.ref q_1, .ref q_3, .ref q_6, .ref q_9, .ref q_12, .ref q_15, .ref q_18, .ref q_21, .ref q_47, .null, .null, .null, .null, .int 0, .int 0, .int 0])), (q_1, .inr (8, [.ref y_2, .int 0, .int 0, .int 0, .int 0])), (y_2, .inl (G.2.2 0, 400, .inl (fun _ => 0))), (q_21, .inl (G.2.2 5, 6, .inr (.inr (.inr (.inr f_46))))), (q_47, .inl (G.2.2 6, 4, .inr (.inr (.inr (.inr f_60)))))] ++ ([(q_61, .inr (1, [.null, .null, .null, .int 0, .int 0, .int 0]))] ++ wt)) := hD
  refine gt_callV (wr := [(h0, .inr (11, [.ref q_1, .ref q_3, .ref q_6, .ref q_9, .ref q_12, .ref q_15, .ref q_18, .ref q_21, .ref q_47, .null, .null, .null, .null, .int 0, .int 0, .int 0])), (q_1, .inr (8, [.ref y_2, .int 0, .int 0, .int 0, .int 0])), (y_2, .inl (G.2.2 0, 400, .inl (fun _ => 0))), (q_21, .inl (G.2.2 5, 6, .inr (.inr (.inr (.inr f_46))))), (q_47, .inl (G.2.2 6, 4, .inr (.inr (.inr (.inr f_60)))))]) (va_runIN (As := []) (rest := [.ref q_61, .int 2, .ref q_47]) ⟨hx, hb, hml, hown, ht⟩ (d_i_Image l G Γ H.size wt hT q_61) ⟨va_cnB 0 ht (tb_good (ts_good wd_371)) rfl rfl rfl (hK.2.1 _ wn_369 rfl) (ht _ wd_129) (by decide +kernel) ⟨Nat.le_of_ble_eq_true rfl, Nat.le_of_ble_eq_true rfl⟩, rfl, ht _ wd_370⟩ (gc_preS hK (tw_right hP) (tw_rightD hD)) rfl rfl hl.1 rfl (lv_room (Nat.le_of_ble_eq_true rfl)) dX11_init_141 ⟨Nat.le_of_ble_eq_true rfl, Nat.le_of_ble_eq_true rfl⟩) hP hD hS hA (fun u H locs hw hP hD hS => ?_)
  obtain ⟨Γ9, wt⟩ := u
  obtain ⟨hT, hkp, hxe, hk_65, w_63, w_64⟩ := hw
  have hW := hW.call (show ∀ x ∈ [], x ∈ [709] by decide) hkp
  have w_51 := hkp _ _ _ _ (by decide) (by decide) w_51
  have w_52 := hkp _ _ _ _ (by decide) (by decide) w_52
  have w_57 := hkp _ _ _ _ (by decide) (by decide) w_57
  have w_58 := hkp _ _ _ _ (by decide) (by decide) w_58
  have hk_5 := hxe.of (by decide) hk_5
  have hk_8 := hxe.of (by decide) hk_8
  have hk_11 := hxe.of (by decide) hk_11
  have hk_14 := hxe.of (by decide) hk_14
  have hk_17 := hxe.of (by decide) hk_17
  have hk_20 := hxe.of (by decide) hk_20
  have hk_53 := hxe.of (by decide) hk_53
  have hk_59 := hxe.of (by decide) hk_59
  have hr_22 := hr_22.ext hxe (by decide)
  have hr_48 := hr_48.ext hxe (by decide)
  have hE := hE.tr hxe
  clear hxe
  obtain ⟨Γ, hΓ9⟩ : ∃ z, z = Γ9 := ⟨_, rfl⟩
  subst hΓ9
  have hP : va_P (gg_D G) classes ([(h0, .inr (11, [.ref q_1, .ref q_3, .ref q_6, .ref q_9, .ref q_12, .ref q_15, .ref q_18, .ref q_21, .ref q_47, .null, .null, .null, .null, .int 0, .int 0, .int 0])), (q_1, .inr (8, [.ref y_2, .int 0, .int 0, .int 0, .int 0])), (y_2, .inl (G.2.2 0, 400, .inl (fun _ => 0))), (q_21, .inl (G.2.2 5, 6, .inr (.inr (.inr (.inr f_46))))), (q_47, .inl (G.2.2 6, 4, .inr (.inr (.inr (.inr f_60)))))] ++ wt) H := hP
  have hD : va_D A ([(h0, .inr (11, [.ref q_1, .ref q_3, .ref q_6, .ref q_9, .ref q_12, .ref q_15, .ref q_18, .ref q_21, .ref q_47, .null, .null, .null, .null, .int 0, .int 0, .int 0])), (q_1, .inr (8, [.ref y_2, .int 0, .int 0, .int 0, .int 0])), (y_2, .inl (G.2.2 0, 400, .inl (fun _ => 0))), (q_21, .inl (G.2.2 5, 6, .inr (.inr (.inr (.inr f_46))))), (q_47, .inl (G.2.2 6, 4, .inr (.inr (.inr (.inr f_60)))))] ++ wt) := hD
  refine W.widen (k := 341) (n := 4923) (Nat.le_of_ble_eq_true rfl) (Nat.le_of_ble_eq_true rfl) ?_
  obtain ⟨f_66, ef_66⟩ : ∃ z : Nat → Option Nat, va_up f_60 (Int32.toNatClampNeg 2) (some q_61) = z := ⟨_, rfl⟩
  refine tr_aast (we' := [(h0, .inr (11, [.ref q_1, .ref q_3, .ref q_6, .ref q_9, .ref q_12, .ref q_15, .ref q_18, .ref q_21, .ref q_47, .null, .null, .null, .null, .int 0, .int 0, .int 0])), (q_1, .inr (8, [.ref y_2, .int 0, .int 0, .int 0, .int 0])), (y_2, .inl (G.2.2 0, 400, .inl (fun _ => 0))), (q_21, .inl (G.2.2 5, 6, .inr (.inr (.inr (.inr f_46))))), (q_47, .inl (G.2.2 6, 4, .inr (.inr (.inr (.inr f_66)))))]) hx hb hK hT hP hD hS 4 6 1 rfl rfl hk_65 (by decide) rfl f_66 (by unfold vp_in; decide +kernel) ef_66 rfl dX11_init_144 (fun H locs hP hD hS => ?_)
  have hr_48 := hr_48.step hk_65 (show Int32.toNatClampNeg 2 = 2 by decide +kernel) ef_66
  have pf_66_0 : f_66 0 = some q_49 := by rw [← ef_66]; exact up_nq (by decide +kernel) pf_60_0
  have pf_66_1 : f_66 1 = some q_55 := by rw [← ef_66]; exact up_nq (by decide +kernel) pf_60
  have pf_66 : f_66 2 = some q_61 := by rw [← ef_66]; rfl
  refine lv_iinc (v := 3) (lv' := [(1, .int 3), (0, .ref h0)]) hx hb dX11_init_145 hl (k := 0) rfl (by decide +kernel) (by decide) rfl (fun ls hl => ?_)
  refine lv_goto (tgt := 127) hx hb dX11_init_148 (by decide) ?_
  refine lv_iload_n hx hb dX11_init_127 rfl (lv_at hl 0 rfl) ?_
  refine lv_iconst (v := 4) hx hb dX11_init_128 (by decide +kernel) ?_
  refine lv_icmp_ge (tgt := 151) hx hb dX11_init_129 (by decide) (fun c0 => False.elim (by rw [Int32.le_iff_toInt_le] at c0; omega)) (fun _ => ?_)
  refine lv_aload_n hx hb dX11_init_132 rfl (lv_at hl 1 rfl) ?_
  refine gq_get hx hb ht hown hK hP i_X11 0 rfl rfl 8 (by decide) wd_505 rfl rfl dX11_init_133 ?_
  refine lv_iload_n hx hb dX11_init_136 rfl (lv_at hl 0 rfl) ?_
  refine gq_new (ci := 1) hx hb ht hown i_X1 tyX1 tyX1_ok wd_366 wd_368 wd_129 hK hP hD hS hA rfl [.null, .null, .null, .int 0, .int 0, .int 0] df_X1 342 4929 (Nat.le_of_ble_eq_true rfl) (Nat.le_of_ble_eq_true rfl) (Nat.le_of_ble_eq_true rfl) (Nat.le_of_ble_eq_true rfl) dX11_init_137 (fun q_67 H hP hD hS => ?_)
  have hP : va_P (gg_D G) classes ([(h0, .inr (11, [.ref q_1, .ref q_3, .ref q_6, .ref q_9, .ref q_12, .ref q_15, .ref q_18, .ref q_21, .ref q_47, .null, .null, .null, .null, .int 0, .int 0, .int 0])), (q_1, .inr (8, [.ref y_2, .int 0, .int 0, .int 0, .int 0])), (y_2, .inl (G.2.2 0, 400, .inl (fun _ => 0))), (q_21, .inl (G.2.2 5, 6, .inr (.inr (.inr (.inr f_46))))), (q_47, .inl (G.2.2 6, 4, .inr (.inr (.inr (.inr f_66))))), (q_67, .inr (1, [.null, .null, .null, .int 0, .int 0, .int 0]))] ++ wt) H := tw_newP hP
  have hD : va_D A ([(h0, .inr (11, [.ref q_1, .ref q_3, .ref q_6, .ref q_9, .ref q_12, .ref q_15, .ref q_18, .ref q_21, .ref q_47, .null, .null, .null, .null, .int 0, .int 0, .int 0])), (q_1, .inr (8, [.ref y_2, .int 0, .int 0, .int 0, .int 0])), (y_2, .inl (G.2.2 0, 400, .inl (fun _ => 0))), (q_21, .inl (G.2.2 5, 6, .inr (.inr (.inr (.inr f_46))))), (q_47, .inl (G.2.2 6, 4, .inr (.inr (.inr (.inr f_66))))), (q_67, .inr (1, [.null, .null, .null, .int 0, .int 0, .int 0]))] ++ wt) := tw_newD hD
  have nq_49_q_67 : q_49 ≠ q_67 := tk_neq (we := [(h0, .inr (11, [.ref q_1, .ref q_3, .ref q_6, .ref q_9, .ref q_12, .ref q_15, .ref q_18, .ref q_21, .ref q_47, .null, .null, .null, .null, .int 0, .int 0, .int 0])), (q_1, .inr (8, [.ref y_2, .int 0, .int 0, .int 0, .int 0])), (y_2, .inl (G.2.2 0, 400, .inl (fun _ => 0))), (q_21, .inl (G.2.2 5, 6, .inr (.inr (.inr (.inr f_46))))), (q_47, .inl (G.2.2 6, 4, .inr (.inr (.inr (.inr f_66))))), (q_67, .inr (1, [.null, .null, .null, .int 0, .int 0, .int 0]))]) (i := 5) hT hD hk_53 (by decide) rfl
  have nq_55_q_67 : q_55 ≠ q_67 := tk_neq (we := [(h0, .inr (11, [.ref q_1, .ref q_3, .ref q_6, .ref q_9, .ref q_12, .ref q_15, .ref q_18, .ref q_21, .ref q_47, .null, .null, .null, .null, .int 0, .int 0, .int 0])), (q_1, .inr (8, [.ref y_2, .int 0, .int 0, .int 0, .int 0])), (y_2, .inl (G.2.2 0, 400, .inl (fun _ => 0))), (q_21, .inl (G.2.2 5, 6, .inr (.inr (.inr (.inr f_46))))), (q_47, .inl (G.2.2 6, 4, .inr (.inr (.inr (.inr f_66))))), (q_67, .inr (1, [.null, .null, .null, .int 0, .int 0, .int 0]))]) (i := 5) hT hD hk_59 (by decide) rfl
  have nq_61_q_67 : q_61 ≠ q_67 := tk_neq (we := [(h0, .inr (11, [.ref q_1, .ref q_3, .ref q_6, .ref q_9, .ref q_12, .ref q_15, .ref q_18, .ref q_21, .ref q_47, .null, .null, .null, .null, .int 0, .int 0, .int 0])), (q_1, .inr (8, [.ref y_2, .int 0, .int 0, .int 0, .int 0])), (y_2, .inl (G.2.2 0, 400, .inl (fun _ => 0))), (q_21, .inl (G.2.2 5, 6, .inr (.inr (.inr (.inr f_46))))), (q_47, .inl (G.2.2 6, 4, .inr (.inr (.inr (.inr f_66))))), (q_67, .inr (1, [.null, .null, .null, .int 0, .int 0, .int 0]))]) (i := 5) hT hD hk_65 (by decide) rfl
  refine lv_dup hx hb dX11_init_140 rfl ?_
  have hP : va_P (gg_D G) classes ([(h0, .inr (11, [.ref q_1, .ref q_3, .ref q_6, .ref q_9, .ref q_12, .ref q_15, .ref q_18, .ref q_21, .ref q_47, .null, .null, .null, .null, .int 0, .int 0, .int 0])), (q_1, .inr (8, [.ref y_2, .int 0, .int 0, .int 0, .int 0])), (y_2, .inl (G.2.2 0, 400, .inl (fun _ => 0))), (q_21, .inl (G.2.2 5, 6, .inr (.inr (.inr (.inr f_46))))), (q_47, .inl (G.2.2 6, 4, .inr (.inr (.inr (.inr f_66)))))] ++ ([(q_67, .inr (1, [.null, .null, .null, .int 0, .int 0, .int 0]))] ++ wt)) H := hP
  have hD : va_D A ([(h0, .inr (11, [.ref q_1, .ref q_3, .ref q_6, .ref q_9, .ref q_12, .ref q_15, .ref q_18, .ref q_21, .ref q_47, .null, .null, .null, .null, .int 0, .int 0, .int 0])), (q_1, .inr (8, [.ref y_2, .int 0, .int 0, .int 0, .int 0])), (y_2, .inl (G.2.2 0, 400, .inl (fun _ => 0))), (q_21, .inl (G.2.2 5, 6, .inr (.inr (.inr (.inr f_46))))), (q_47, .inl (G.2.2 6, 4, .inr (.inr (.inr (.inr f_66)))))] ++ ([(q_67, .inr (1, [.null, .null, .null, .int 0, .int 0, .int 0]))] ++ wt)) := hD
  refine gt_callV (wr := [(h0, .inr (11, [.ref q_1, .ref q_3, .ref q_6, .ref q_9, .ref q_12, .ref q_15, .ref q_18, .ref q_21, .ref q_47, .null, .null, .null, .null, .int 0, .int 0, .int 0])), (q_1, .inr (8, [.ref y_2, .int 0, .int 0, .int 0, .int 0])), (y_2, .inl (G.2.2 0, 400, .inl (fun _ => 0))), (q_21, .inl (G.2.2 5, 6, .inr (.inr (.inr (.inr f_46))))), (q_47, .inl (G.2.2 6, 4, .inr (.inr (.inr (.inr f_66)))))]) (va_runIN (As := []) (rest := [.ref q_67, .int 3, .ref q_47]) ⟨hx, hb, hml, hown, ht⟩ (d_i_Image l G Γ H.size wt hT q_67) ⟨va_cnB 0 ht (tb_good (ts_good wd_371)) rfl rfl rfl (hK.2.1 _ wn_369 rfl) (ht _ wd_129) (by decide +kernel) ⟨Nat.le_of_ble_eq_true rfl, Nat.le_of_ble_eq_true rfl⟩, rfl, ht _ wd_370⟩ (gc_preS hK (tw_right hP) (tw_rightD hD)) rfl rfl hl.1 rfl (lv_room (Nat.le_of_ble_eq_true rfl)) dX11_init_141 ⟨Nat.le_of_ble_eq_true rfl, Nat.le_of_ble_eq_true rfl⟩) hP hD hS hA (fun u H locs hw hP hD hS => ?_)
  obtain ⟨Γ9, wt⟩ := u
  obtain ⟨hT, hkp, hxe, hk_71, w_69, w_70⟩ := hw
  have hW := hW.call (show ∀ x ∈ [], x ∈ [709] by decide) hkp
  have w_51 := hkp _ _ _ _ (by decide) (by decide) w_51
  have w_52 := hkp _ _ _ _ (by decide) (by decide) w_52
  have w_57 := hkp _ _ _ _ (by decide) (by decide) w_57
  have w_58 := hkp _ _ _ _ (by decide) (by decide) w_58
  have w_63 := hkp _ _ _ _ (by decide) (by decide) w_63
  have w_64 := hkp _ _ _ _ (by decide) (by decide) w_64
  have hk_5 := hxe.of (by decide) hk_5
  have hk_8 := hxe.of (by decide) hk_8
  have hk_11 := hxe.of (by decide) hk_11
  have hk_14 := hxe.of (by decide) hk_14
  have hk_17 := hxe.of (by decide) hk_17
  have hk_20 := hxe.of (by decide) hk_20
  have hk_53 := hxe.of (by decide) hk_53
  have hk_59 := hxe.of (by decide) hk_59
  have hk_65 := hxe.of (by decide) hk_65
  have hr_22 := hr_22.ext hxe (by decide)
  have hr_48 := hr_48.ext hxe (by decide)
  have hE := hE.tr hxe
  clear hxe
  obtain ⟨Γ, hΓ9⟩ : ∃ z, z = Γ9 := ⟨_, rfl⟩
  subst hΓ9
  have hP : va_P (gg_D G) classes ([(h0, .inr (11, [.ref q_1, .ref q_3, .ref q_6, .ref q_9, .ref q_12, .ref q_15, .ref q_18, .ref q_21, .ref q_47, .null, .null, .null, .null, .int 0, .int 0, .int 0])), (q_1, .inr (8, [.ref y_2, .int 0, .int 0, .int 0, .int 0])), (y_2, .inl (G.2.2 0, 400, .inl (fun _ => 0))), (q_21, .inl (G.2.2 5, 6, .inr (.inr (.inr (.inr f_46))))), (q_47, .inl (G.2.2 6, 4, .inr (.inr (.inr (.inr f_66)))))] ++ wt) H := hP
  have hD : va_D A ([(h0, .inr (11, [.ref q_1, .ref q_3, .ref q_6, .ref q_9, .ref q_12, .ref q_15, .ref q_18, .ref q_21, .ref q_47, .null, .null, .null, .null, .int 0, .int 0, .int 0])), (q_1, .inr (8, [.ref y_2, .int 0, .int 0, .int 0, .int 0])), (y_2, .inl (G.2.2 0, 400, .inl (fun _ => 0))), (q_21, .inl (G.2.2 5, 6, .inr (.inr (.inr (.inr f_46))))), (q_47, .inl (G.2.2 6, 4, .inr (.inr (.inr (.inr f_66)))))] ++ wt) := hD
  refine W.widen (k := 362) (n := 5048) (Nat.le_of_ble_eq_true rfl) (Nat.le_of_ble_eq_true rfl) ?_
  obtain ⟨f_72, ef_72⟩ : ∃ z : Nat → Option Nat, va_up f_66 (Int32.toNatClampNeg 3) (some q_67) = z := ⟨_, rfl⟩
  refine tr_aast (we' := [(h0, .inr (11, [.ref q_1, .ref q_3, .ref q_6, .ref q_9, .ref q_12, .ref q_15, .ref q_18, .ref q_21, .ref q_47, .null, .null, .null, .null, .int 0, .int 0, .int 0])), (q_1, .inr (8, [.ref y_2, .int 0, .int 0, .int 0, .int 0])), (y_2, .inl (G.2.2 0, 400, .inl (fun _ => 0))), (q_21, .inl (G.2.2 5, 6, .inr (.inr (.inr (.inr f_46))))), (q_47, .inl (G.2.2 6, 4, .inr (.inr (.inr (.inr f_72)))))]) hx hb hK hT hP hD hS 4 6 1 rfl rfl hk_71 (by decide) rfl f_72 (by unfold vp_in; decide +kernel) ef_72 rfl dX11_init_144 (fun H locs hP hD hS => ?_)
  have hr_48 := hr_48.step hk_71 (show Int32.toNatClampNeg 3 = 3 by decide +kernel) ef_72
  have pf_72_0 : f_72 0 = some q_49 := by rw [← ef_72]; exact up_nq (by decide +kernel) pf_66_0
  have pf_72_1 : f_72 1 = some q_55 := by rw [← ef_72]; exact up_nq (by decide +kernel) pf_66_1
  have pf_72_2 : f_72 2 = some q_61 := by rw [← ef_72]; exact up_nq (by decide +kernel) pf_66
  have pf_72 : f_72 3 = some q_67 := by rw [← ef_72]; rfl
  refine lv_iinc (v := 4) (lv' := [(1, .int 4), (0, .ref h0)]) hx hb dX11_init_145 hl (k := 0) rfl (by decide +kernel) (by decide) rfl (fun ls hl => ?_)
  refine lv_goto (tgt := 127) hx hb dX11_init_148 (by decide) ?_
  refine lv_iload_n hx hb dX11_init_127 rfl (lv_at hl 0 rfl) ?_
  refine lv_iconst (v := 4) hx hb dX11_init_128 (by decide +kernel) ?_
  refine lv_icmp_ge (tgt := 151) hx hb dX11_init_129 (by decide) (fun _ => ?_) (fun c0 => False.elim (by rw [Int32.le_iff_toInt_le] at c0; omega))
  refine lv_aload_n hx hb dX11_init_151 rfl (lv_at hl 1 rfl) ?_
  refine gq_new (ci := 0) hx hb ht hown i_X0 tyX0 tyX0_ok wd_401 wd_402 wd_130 hK hP hD hS hA rfl [.null, .null, .int 0, .long 0] df_X0 363 5052 (Nat.le_of_ble_eq_true rfl) (Nat.le_of_ble_eq_true rfl) (Nat.le_of_ble_eq_true rfl) (Nat.le_of_ble_eq_true rfl) dX11_init_152 (fun q_73 H hP hD hS => ?_)
  have hP : va_P (gg_D G) classes ([(h0, .inr (11, [.ref q_1, .ref q_3, .ref q_6, .ref q_9, .ref q_12, .ref q_15, .ref q_18, .ref q_21, .ref q_47, .null, .null, .null, .null, .int 0, .int 0, .int 0])), (q_1, .inr (8, [.ref y_2, .int 0, .int 0, .int 0, .int 0])), (y_2, .inl (G.2.2 0, 400, .inl (fun _ => 0))), (q_21, .inl (G.2.2 5, 6, .inr (.inr (.inr (.inr f_46))))), (q_47, .inl (G.2.2 6, 4, .inr (.inr (.inr (.inr f_72))))), (q_73, .inr (0, [.null, .null, .int 0, .long 0]))] ++ wt) H := tw_newP hP
  have hD : va_D A ([(h0, .inr (11, [.ref q_1, .ref q_3, .ref q_6, .ref q_9, .ref q_12, .ref q_15, .ref q_18, .ref q_21, .ref q_47, .null, .null, .null, .null, .int 0, .int 0, .int 0])), (q_1, .inr (8, [.ref y_2, .int 0, .int 0, .int 0, .int 0])), (y_2, .inl (G.2.2 0, 400, .inl (fun _ => 0))), (q_21, .inl (G.2.2 5, 6, .inr (.inr (.inr (.inr f_46))))), (q_47, .inl (G.2.2 6, 4, .inr (.inr (.inr (.inr f_72))))), (q_73, .inr (0, [.null, .null, .int 0, .long 0]))] ++ wt) := tw_newD hD
  refine lv_dup hx hb dX11_init_155 rfl ?_
  have hP : va_P (gg_D G) classes ([(h0, .inr (11, [.ref q_1, .ref q_3, .ref q_6, .ref q_9, .ref q_12, .ref q_15, .ref q_18, .ref q_21, .ref q_47, .null, .null, .null, .null, .int 0, .int 0, .int 0])), (q_1, .inr (8, [.ref y_2, .int 0, .int 0, .int 0, .int 0])), (y_2, .inl (G.2.2 0, 400, .inl (fun _ => 0))), (q_21, .inl (G.2.2 5, 6, .inr (.inr (.inr (.inr f_46))))), (q_47, .inl (G.2.2 6, 4, .inr (.inr (.inr (.inr f_72)))))] ++ ([(q_73, .inr (0, [.null, .null, .int 0, .long 0]))] ++ wt)) H := hP
  have hD : va_D A ([(h0, .inr (11, [.ref q_1, .ref q_3, .ref q_6, .ref q_9, .ref q_12, .ref q_15, .ref q_18, .ref q_21, .ref q_47, .null, .null, .null, .null, .int 0, .int 0, .int 0])), (q_1, .inr (8, [.ref y_2, .int 0, .int 0, .int 0, .int 0])), (y_2, .inl (G.2.2 0, 400, .inl (fun _ => 0))), (q_21, .inl (G.2.2 5, 6, .inr (.inr (.inr (.inr f_46))))), (q_47, .inl (G.2.2 6, 4, .inr (.inr (.inr (.inr f_72)))))] ++ ([(q_73, .inr (0, [.null, .null, .int 0, .long 0]))] ++ wt)) := hD
  refine gt_callV (wr := [(h0, .inr (11, [.ref q_1, .ref q_3, .ref q_6, .ref q_9, .ref q_12, .ref q_15, .ref q_18, .ref q_21, .ref q_47, .null, .null, .null, .null, .int 0, .int 0, .int 0])), (q_1, .inr (8, [.ref y_2, .int 0, .int 0, .int 0, .int 0])), (y_2, .inl (G.2.2 0, 400, .inl (fun _ => 0))), (q_21, .inl (G.2.2 5, 6, .inr (.inr (.inr (.inr f_46))))), (q_47, .inl (G.2.2 6, 4, .inr (.inr (.inr (.inr f_72)))))]) (va_runIN (As := []) (rest := [.ref q_73, .ref h0]) ⟨hx, hb, hml, hown, ht⟩ (d_i_Clerk l G Γ H.size wt hT q_73) ⟨va_cnB 0 ht (tb_good (ts_good wd_405)) rfl rfl rfl (hK.2.1 _ wn_403 rfl) (ht _ wd_130) (by decide +kernel) ⟨Nat.le_of_ble_eq_true rfl, Nat.le_of_ble_eq_true rfl⟩, rfl, ht _ wd_404⟩ (gc_preS hK (tw_right hP) (tw_rightD hD)) rfl rfl hl.1 rfl (lv_room (Nat.le_of_ble_eq_true rfl)) dX11_init_156 ⟨Nat.le_of_ble_eq_true rfl, Nat.le_of_ble_eq_true rfl⟩) hP hD hS hA (fun u H locs hw hP hD hS => ?_)
  obtain ⟨Γ9, wt⟩ := u
  obtain ⟨hT, hkp, hxe, hk_75⟩ := hw
  have hW := hW.call (show ∀ x ∈ [], x ∈ [709] by decide) hkp
  have w_51 := hkp _ _ _ _ (by decide) (by decide) w_51
  have w_52 := hkp _ _ _ _ (by decide) (by decide) w_52
  have w_57 := hkp _ _ _ _ (by decide) (by decide) w_57
  have w_58 := hkp _ _ _ _ (by decide) (by decide) w_58
  have w_63 := hkp _ _ _ _ (by decide) (by decide) w_63
  have w_64 := hkp _ _ _ _ (by decide) (by decide) w_64
  have w_69 := hkp _ _ _ _ (by decide) (by decide) w_69
  have w_70 := hkp _ _ _ _ (by decide) (by decide) w_70
  have hk_5 := hxe.of (by decide) hk_5
  have hk_8 := hxe.of (by decide) hk_8
  have hk_11 := hxe.of (by decide) hk_11
  have hk_14 := hxe.of (by decide) hk_14
  have hk_17 := hxe.of (by decide) hk_17
  have hk_20 := hxe.of (by decide) hk_20
  have hk_53 := hxe.of (by decide) hk_53
  have hk_59 := hxe.of (by decide) hk_59
  have hk_65 := hxe.of (by decide) hk_65
  have hk_71 := hxe.of (by decide) hk_71
  have hr_22 := hr_22.ext hxe (by decide)
  have hr_48 := hr_48.ext hxe (by decide)
  have hE := hE.tr hxe
  clear hxe
  obtain ⟨Γ, hΓ9⟩ : ∃ z, z = Γ9 := ⟨_, rfl⟩
  subst hΓ9
  have hP : va_P (gg_D G) classes ([(h0, .inr (11, [.ref q_1, .ref q_3, .ref q_6, .ref q_9, .ref q_12, .ref q_15, .ref q_18, .ref q_21, .ref q_47, .null, .null, .null, .null, .int 0, .int 0, .int 0])), (q_1, .inr (8, [.ref y_2, .int 0, .int 0, .int 0, .int 0])), (y_2, .inl (G.2.2 0, 400, .inl (fun _ => 0))), (q_21, .inl (G.2.2 5, 6, .inr (.inr (.inr (.inr f_46))))), (q_47, .inl (G.2.2 6, 4, .inr (.inr (.inr (.inr f_72)))))] ++ wt) H := hP
  have hD : va_D A ([(h0, .inr (11, [.ref q_1, .ref q_3, .ref q_6, .ref q_9, .ref q_12, .ref q_15, .ref q_18, .ref q_21, .ref q_47, .null, .null, .null, .null, .int 0, .int 0, .int 0])), (q_1, .inr (8, [.ref y_2, .int 0, .int 0, .int 0, .int 0])), (y_2, .inl (G.2.2 0, 400, .inl (fun _ => 0))), (q_21, .inl (G.2.2 5, 6, .inr (.inr (.inr (.inr f_46))))), (q_47, .inl (G.2.2 6, 4, .inr (.inr (.inr (.inr f_72)))))] ++ wt) := hD
  refine W.widen (k := 369) (n := 5092) (Nat.le_of_ble_eq_true rfl) (Nat.le_of_ble_eq_true rfl) ?_
  refine gq_putF (ws' := [(h0, .inr (11, [.ref q_1, .ref q_3, .ref q_6, .ref q_9, .ref q_12, .ref q_15, .ref q_18, .ref q_21, .ref q_47, .ref q_73, .null, .null, .null, .int 0, .int 0, .int 0])), (q_1, .inr (8, [.ref y_2, .int 0, .int 0, .int 0, .int 0])), (y_2, .inl (G.2.2 0, 400, .inl (fun _ => 0))), (q_21, .inl (G.2.2 5, 6, .inr (.inr (.inr (.inr f_46))))), (q_47, .inl (G.2.2 6, 4, .inr (.inr (.inr (.inr f_72)))))] ++ wt) hx hb ht hown hin hK hP hD hS i_X11 tyX11 tyX11_ok nmX11 0 rfl rfl 9 (by decide) wd_506 rfl rfl rfl rfl (Nat.le_of_ble_eq_true rfl) rfl dX11_init_159 (fun H locs hP hD hS => ?_)
  refine lv_aload_n hx hb dX11_init_162 rfl (lv_at hl 1 rfl) ?_
  refine gq_new (ci := 5) hx hb ht hown i_X5 tyX5 tyX5_ok wd_422 wd_423 wd_131 hK hP hD hS hA rfl [.null, .null, .null, .null, .int 0] df_X5 370 5097 (Nat.le_of_ble_eq_true rfl) (Nat.le_of_ble_eq_true rfl) (Nat.le_of_ble_eq_true rfl) (Nat.le_of_ble_eq_true rfl) dX11_init_163 (fun q_76 H hP hD hS => ?_)
  have hP : va_P (gg_D G) classes ([(h0, .inr (11, [.ref q_1, .ref q_3, .ref q_6, .ref q_9, .ref q_12, .ref q_15, .ref q_18, .ref q_21, .ref q_47, .ref q_73, .null, .null, .null, .int 0, .int 0, .int 0])), (q_1, .inr (8, [.ref y_2, .int 0, .int 0, .int 0, .int 0])), (y_2, .inl (G.2.2 0, 400, .inl (fun _ => 0))), (q_21, .inl (G.2.2 5, 6, .inr (.inr (.inr (.inr f_46))))), (q_47, .inl (G.2.2 6, 4, .inr (.inr (.inr (.inr f_72))))), (q_76, .inr (5, [.null, .null, .null, .null, .int 0]))] ++ wt) H := tw_newP hP
  have hD : va_D A ([(h0, .inr (11, [.ref q_1, .ref q_3, .ref q_6, .ref q_9, .ref q_12, .ref q_15, .ref q_18, .ref q_21, .ref q_47, .ref q_73, .null, .null, .null, .int 0, .int 0, .int 0])), (q_1, .inr (8, [.ref y_2, .int 0, .int 0, .int 0, .int 0])), (y_2, .inl (G.2.2 0, 400, .inl (fun _ => 0))), (q_21, .inl (G.2.2 5, 6, .inr (.inr (.inr (.inr f_46))))), (q_47, .inl (G.2.2 6, 4, .inr (.inr (.inr (.inr f_72))))), (q_76, .inr (5, [.null, .null, .null, .null, .int 0]))] ++ wt) := tw_newD hD
  refine lv_dup hx hb dX11_init_166 rfl ?_
  have hP : va_P (gg_D G) classes ([(h0, .inr (11, [.ref q_1, .ref q_3, .ref q_6, .ref q_9, .ref q_12, .ref q_15, .ref q_18, .ref q_21, .ref q_47, .ref q_73, .null, .null, .null, .int 0, .int 0, .int 0])), (q_1, .inr (8, [.ref y_2, .int 0, .int 0, .int 0, .int 0])), (y_2, .inl (G.2.2 0, 400, .inl (fun _ => 0))), (q_21, .inl (G.2.2 5, 6, .inr (.inr (.inr (.inr f_46))))), (q_47, .inl (G.2.2 6, 4, .inr (.inr (.inr (.inr f_72)))))] ++ ([(q_76, .inr (5, [.null, .null, .null, .null, .int 0]))] ++ wt)) H := hP
  have hD : va_D A ([(h0, .inr (11, [.ref q_1, .ref q_3, .ref q_6, .ref q_9, .ref q_12, .ref q_15, .ref q_18, .ref q_21, .ref q_47, .ref q_73, .null, .null, .null, .int 0, .int 0, .int 0])), (q_1, .inr (8, [.ref y_2, .int 0, .int 0, .int 0, .int 0])), (y_2, .inl (G.2.2 0, 400, .inl (fun _ => 0))), (q_21, .inl (G.2.2 5, 6, .inr (.inr (.inr (.inr f_46))))), (q_47, .inl (G.2.2 6, 4, .inr (.inr (.inr (.inr f_72)))))] ++ ([(q_76, .inr (5, [.null, .null, .null, .null, .int 0]))] ++ wt)) := hD
  refine gt_callV (wr := [(h0, .inr (11, [.ref q_1, .ref q_3, .ref q_6, .ref q_9, .ref q_12, .ref q_15, .ref q_18, .ref q_21, .ref q_47, .ref q_73, .null, .null, .null, .int 0, .int 0, .int 0])), (q_1, .inr (8, [.ref y_2, .int 0, .int 0, .int 0, .int 0])), (y_2, .inl (G.2.2 0, 400, .inl (fun _ => 0))), (q_21, .inl (G.2.2 5, 6, .inr (.inr (.inr (.inr f_46))))), (q_47, .inl (G.2.2 6, 4, .inr (.inr (.inr (.inr f_72)))))]) (va_runIN (As := []) (rest := [.ref q_76, .ref h0]) ⟨hx, hb, hml, hown, ht⟩ (d_i_Seating l G Γ H.size wt hT q_76) ⟨va_cnB 0 ht (tb_good (ts_good wd_426)) rfl rfl rfl (hK.2.1 _ wn_424 rfl) (ht _ wd_131) (by decide +kernel) ⟨Nat.le_of_ble_eq_true rfl, Nat.le_of_ble_eq_true rfl⟩, rfl, ht _ wd_425⟩ (gc_preS hK (tw_right hP) (tw_rightD hD)) rfl rfl hl.1 rfl (lv_room (Nat.le_of_ble_eq_true rfl)) dX11_init_167 ⟨Nat.le_of_ble_eq_true rfl, Nat.le_of_ble_eq_true rfl⟩) hP hD hS hA (fun u H locs hw hP hD hS => ?_)
  obtain ⟨Γ9, wt⟩ := u
  obtain ⟨hT, hkp, hxe, hk_78⟩ := hw
  have hW := hW.call (show ∀ x ∈ [], x ∈ [709] by decide) hkp
  have w_51 := hkp _ _ _ _ (by decide) (by decide) w_51
  have w_52 := hkp _ _ _ _ (by decide) (by decide) w_52
  have w_57 := hkp _ _ _ _ (by decide) (by decide) w_57
  have w_58 := hkp _ _ _ _ (by decide) (by decide) w_58
  have w_63 := hkp _ _ _ _ (by decide) (by decide) w_63
  have w_64 := hkp _ _ _ _ (by decide) (by decide) w_64
  have w_69 := hkp _ _ _ _ (by decide) (by decide) w_69
  have w_70 := hkp _ _ _ _ (by decide) (by decide) w_70
  have hk_5 := hxe.of (by decide) hk_5
  have hk_8 := hxe.of (by decide) hk_8
  have hk_11 := hxe.of (by decide) hk_11
  have hk_14 := hxe.of (by decide) hk_14
  have hk_17 := hxe.of (by decide) hk_17
  have hk_20 := hxe.of (by decide) hk_20
  have hk_75 := hxe.of (by decide) hk_75
  have hk_53 := hxe.of (by decide) hk_53
  have hk_59 := hxe.of (by decide) hk_59
  have hk_65 := hxe.of (by decide) hk_65
  have hk_71 := hxe.of (by decide) hk_71
  have hr_22 := hr_22.ext hxe (by decide)
  have hr_48 := hr_48.ext hxe (by decide)
  have hE := hE.tr hxe
  clear hxe
  obtain ⟨Γ, hΓ9⟩ : ∃ z, z = Γ9 := ⟨_, rfl⟩
  subst hΓ9
  have hP : va_P (gg_D G) classes ([(h0, .inr (11, [.ref q_1, .ref q_3, .ref q_6, .ref q_9, .ref q_12, .ref q_15, .ref q_18, .ref q_21, .ref q_47, .ref q_73, .null, .null, .null, .int 0, .int 0, .int 0])), (q_1, .inr (8, [.ref y_2, .int 0, .int 0, .int 0, .int 0])), (y_2, .inl (G.2.2 0, 400, .inl (fun _ => 0))), (q_21, .inl (G.2.2 5, 6, .inr (.inr (.inr (.inr f_46))))), (q_47, .inl (G.2.2 6, 4, .inr (.inr (.inr (.inr f_72)))))] ++ wt) H := hP
  have hD : va_D A ([(h0, .inr (11, [.ref q_1, .ref q_3, .ref q_6, .ref q_9, .ref q_12, .ref q_15, .ref q_18, .ref q_21, .ref q_47, .ref q_73, .null, .null, .null, .int 0, .int 0, .int 0])), (q_1, .inr (8, [.ref y_2, .int 0, .int 0, .int 0, .int 0])), (y_2, .inl (G.2.2 0, 400, .inl (fun _ => 0))), (q_21, .inl (G.2.2 5, 6, .inr (.inr (.inr (.inr f_46))))), (q_47, .inl (G.2.2 6, 4, .inr (.inr (.inr (.inr f_72)))))] ++ wt) := hD
  refine W.widen (k := 383) (n := 5248) (Nat.le_of_ble_eq_true rfl) (Nat.le_of_ble_eq_true rfl) ?_
  refine gq_putF (ws' := [(h0, .inr (11, [.ref q_1, .ref q_3, .ref q_6, .ref q_9, .ref q_12, .ref q_15, .ref q_18, .ref q_21, .ref q_47, .ref q_73, .ref q_76, .null, .null, .int 0, .int 0, .int 0])), (q_1, .inr (8, [.ref y_2, .int 0, .int 0, .int 0, .int 0])), (y_2, .inl (G.2.2 0, 400, .inl (fun _ => 0))), (q_21, .inl (G.2.2 5, 6, .inr (.inr (.inr (.inr f_46))))), (q_47, .inl (G.2.2 6, 4, .inr (.inr (.inr (.inr f_72)))))] ++ wt) hx hb ht hown hin hK hP hD hS i_X11 tyX11 tyX11_ok nmX11 0 rfl rfl 10 (by decide) wd_507 rfl rfl rfl rfl (Nat.le_of_ble_eq_true rfl) rfl dX11_init_170 (fun H locs hP hD hS => ?_)
  refine lv_aload_n hx hb dX11_init_173 rfl (lv_at hl 1 rfl) ?_
  refine gq_new (ci := 10) hx hb ht hown i_X10 tyX10 tyX10_ok wd_448 wd_449 wd_132 hK hP hD hS hA rfl [.null, .null, .null, .int 0] df_X10 384 5252 (Nat.le_of_ble_eq_true rfl) (Nat.le_of_ble_eq_true rfl) (Nat.le_of_ble_eq_true rfl) (Nat.le_of_ble_eq_true rfl) dX11_init_174 (fun q_79 H hP hD hS => ?_)
  have hP : va_P (gg_D G) classes ([(h0, .inr (11, [.ref q_1, .ref q_3, .ref q_6, .ref q_9, .ref q_12, .ref q_15, .ref q_18, .ref q_21, .ref q_47, .ref q_73, .ref q_76, .null, .null, .int 0, .int 0, .int 0])), (q_1, .inr (8, [.ref y_2, .int 0, .int 0, .int 0, .int 0])), (y_2, .inl (G.2.2 0, 400, .inl (fun _ => 0))), (q_21, .inl (G.2.2 5, 6, .inr (.inr (.inr (.inr f_46))))), (q_47, .inl (G.2.2 6, 4, .inr (.inr (.inr (.inr f_72))))), (q_79, .inr (10, [.null, .null, .null, .int 0]))] ++ wt) H := tw_newP hP
  have hD : va_D A ([(h0, .inr (11, [.ref q_1, .ref q_3, .ref q_6, .ref q_9, .ref q_12, .ref q_15, .ref q_18, .ref q_21, .ref q_47, .ref q_73, .ref q_76, .null, .null, .int 0, .int 0, .int 0])), (q_1, .inr (8, [.ref y_2, .int 0, .int 0, .int 0, .int 0])), (y_2, .inl (G.2.2 0, 400, .inl (fun _ => 0))), (q_21, .inl (G.2.2 5, 6, .inr (.inr (.inr (.inr f_46))))), (q_47, .inl (G.2.2 6, 4, .inr (.inr (.inr (.inr f_72))))), (q_79, .inr (10, [.null, .null, .null, .int 0]))] ++ wt) := tw_newD hD
  refine lv_dup hx hb dX11_init_177 rfl ?_
  have hP : va_P (gg_D G) classes ([(h0, .inr (11, [.ref q_1, .ref q_3, .ref q_6, .ref q_9, .ref q_12, .ref q_15, .ref q_18, .ref q_21, .ref q_47, .ref q_73, .ref q_76, .null, .null, .int 0, .int 0, .int 0])), (q_1, .inr (8, [.ref y_2, .int 0, .int 0, .int 0, .int 0])), (y_2, .inl (G.2.2 0, 400, .inl (fun _ => 0))), (q_21, .inl (G.2.2 5, 6, .inr (.inr (.inr (.inr f_46))))), (q_47, .inl (G.2.2 6, 4, .inr (.inr (.inr (.inr f_72)))))] ++ ([(q_79, .inr (10, [.null, .null, .null, .int 0]))] ++ wt)) H := hP
  have hD : va_D A ([(h0, .inr (11, [.ref q_1, .ref q_3, .ref q_6, .ref q_9, .ref q_12, .ref q_15, .ref q_18, .ref q_21, .ref q_47, .ref q_73, .ref q_76, .null, .null, .int 0, .int 0, .int 0])), (q_1, .inr (8, [.ref y_2, .int 0, .int 0, .int 0, .int 0])), (y_2, .inl (G.2.2 0, 400, .inl (fun _ => 0))), (q_21, .inl (G.2.2 5, 6, .inr (.inr (.inr (.inr f_46))))), (q_47, .inl (G.2.2 6, 4, .inr (.inr (.inr (.inr f_72)))))] ++ ([(q_79, .inr (10, [.null, .null, .null, .int 0]))] ++ wt)) := hD
  refine gt_callV (wr := [(h0, .inr (11, [.ref q_1, .ref q_3, .ref q_6, .ref q_9, .ref q_12, .ref q_15, .ref q_18, .ref q_21, .ref q_47, .ref q_73, .ref q_76, .null, .null, .int 0, .int 0, .int 0])), (q_1, .inr (8, [.ref y_2, .int 0, .int 0, .int 0, .int 0])), (y_2, .inl (G.2.2 0, 400, .inl (fun _ => 0))), (q_21, .inl (G.2.2 5, 6, .inr (.inr (.inr (.inr f_46))))), (q_47, .inl (G.2.2 6, 4, .inr (.inr (.inr (.inr f_72)))))]) (va_runIN (As := []) (rest := [.ref q_79, .ref h0]) ⟨hx, hb, hml, hown, ht⟩ (d_i_Trickery l G Γ H.size wt hT q_79) ⟨va_cnB 0 ht (tb_good (ts_good wd_452)) rfl rfl rfl (hK.2.1 _ wn_450 rfl) (ht _ wd_132) (by decide +kernel) ⟨Nat.le_of_ble_eq_true rfl, Nat.le_of_ble_eq_true rfl⟩, rfl, ht _ wd_451⟩ (gc_preS hK (tw_right hP) (tw_rightD hD)) rfl rfl hl.1 rfl (lv_room (Nat.le_of_ble_eq_true rfl)) dX11_init_178 ⟨Nat.le_of_ble_eq_true rfl, Nat.le_of_ble_eq_true rfl⟩) hP hD hS hA (fun u H locs hw hP hD hS => ?_)
  obtain ⟨Γ9, wt⟩ := u
  obtain ⟨hT, hkp, hxe, hk_81⟩ := hw
  have hW := hW.call (show ∀ x ∈ [], x ∈ [709] by decide) hkp
  have w_51 := hkp _ _ _ _ (by decide) (by decide) w_51
  have w_52 := hkp _ _ _ _ (by decide) (by decide) w_52
  have w_57 := hkp _ _ _ _ (by decide) (by decide) w_57
  have w_58 := hkp _ _ _ _ (by decide) (by decide) w_58
  have w_63 := hkp _ _ _ _ (by decide) (by decide) w_63
  have w_64 := hkp _ _ _ _ (by decide) (by decide) w_64
  have w_69 := hkp _ _ _ _ (by decide) (by decide) w_69
  have w_70 := hkp _ _ _ _ (by decide) (by decide) w_70
  have hk_5 := hxe.of (by decide) hk_5
  have hk_8 := hxe.of (by decide) hk_8
  have hk_11 := hxe.of (by decide) hk_11
  have hk_14 := hxe.of (by decide) hk_14
  have hk_17 := hxe.of (by decide) hk_17
  have hk_20 := hxe.of (by decide) hk_20
  have hk_75 := hxe.of (by decide) hk_75
  have hk_78 := hxe.of (by decide) hk_78
  have hk_53 := hxe.of (by decide) hk_53
  have hk_59 := hxe.of (by decide) hk_59
  have hk_65 := hxe.of (by decide) hk_65
  have hk_71 := hxe.of (by decide) hk_71
  have hr_22 := hr_22.ext hxe (by decide)
  have hr_48 := hr_48.ext hxe (by decide)
  have hE := hE.tr hxe
  clear hxe
  obtain ⟨Γ, hΓ9⟩ : ∃ z, z = Γ9 := ⟨_, rfl⟩
  subst hΓ9
  have hP : va_P (gg_D G) classes ([(h0, .inr (11, [.ref q_1, .ref q_3, .ref q_6, .ref q_9, .ref q_12, .ref q_15, .ref q_18, .ref q_21, .ref q_47, .ref q_73, .ref q_76, .null, .null, .int 0, .int 0, .int 0])), (q_1, .inr (8, [.ref y_2, .int 0, .int 0, .int 0, .int 0])), (y_2, .inl (G.2.2 0, 400, .inl (fun _ => 0))), (q_21, .inl (G.2.2 5, 6, .inr (.inr (.inr (.inr f_46))))), (q_47, .inl (G.2.2 6, 4, .inr (.inr (.inr (.inr f_72)))))] ++ wt) H := hP
  have hD : va_D A ([(h0, .inr (11, [.ref q_1, .ref q_3, .ref q_6, .ref q_9, .ref q_12, .ref q_15, .ref q_18, .ref q_21, .ref q_47, .ref q_73, .ref q_76, .null, .null, .int 0, .int 0, .int 0])), (q_1, .inr (8, [.ref y_2, .int 0, .int 0, .int 0, .int 0])), (y_2, .inl (G.2.2 0, 400, .inl (fun _ => 0))), (q_21, .inl (G.2.2 5, 6, .inr (.inr (.inr (.inr f_46))))), (q_47, .inl (G.2.2 6, 4, .inr (.inr (.inr (.inr f_72)))))] ++ wt) := hD
  refine W.widen (k := 396) (n := 5307) (Nat.le_of_ble_eq_true rfl) (Nat.le_of_ble_eq_true rfl) ?_
  refine gq_putF (ws' := [(h0, .inr (11, [.ref q_1, .ref q_3, .ref q_6, .ref q_9, .ref q_12, .ref q_15, .ref q_18, .ref q_21, .ref q_47, .ref q_73, .ref q_76, .ref q_79, .null, .int 0, .int 0, .int 0])), (q_1, .inr (8, [.ref y_2, .int 0, .int 0, .int 0, .int 0])), (y_2, .inl (G.2.2 0, 400, .inl (fun _ => 0))), (q_21, .inl (G.2.2 5, 6, .inr (.inr (.inr (.inr f_46))))), (q_47, .inl (G.2.2 6, 4, .inr (.inr (.inr (.inr f_72)))))] ++ wt) hx hb ht hown hin hK hP hD hS i_X11 tyX11 tyX11_ok nmX11 0 rfl rfl 11 (by decide) wd_508 rfl rfl rfl rfl (Nat.le_of_ble_eq_true rfl) rfl dX11_init_181 (fun H locs hP hD hS => ?_)
  refine lv_aload_n hx hb dX11_init_184 rfl (lv_at hl 1 rfl) ?_
  refine gq_new (ci := 6) hx hb ht hown i_X6 tyX6 tyX6_ok wd_471 wd_472 wd_133 hK hP hD hS hA rfl [.null, .null, .null, .int 0] df_X6 397 5311 (Nat.le_of_ble_eq_true rfl) (Nat.le_of_ble_eq_true rfl) (Nat.le_of_ble_eq_true rfl) (Nat.le_of_ble_eq_true rfl) dX11_init_185 (fun q_82 H hP hD hS => ?_)
  have hP : va_P (gg_D G) classes ([(h0, .inr (11, [.ref q_1, .ref q_3, .ref q_6, .ref q_9, .ref q_12, .ref q_15, .ref q_18, .ref q_21, .ref q_47, .ref q_73, .ref q_76, .ref q_79, .null, .int 0, .int 0, .int 0])), (q_1, .inr (8, [.ref y_2, .int 0, .int 0, .int 0, .int 0])), (y_2, .inl (G.2.2 0, 400, .inl (fun _ => 0))), (q_21, .inl (G.2.2 5, 6, .inr (.inr (.inr (.inr f_46))))), (q_47, .inl (G.2.2 6, 4, .inr (.inr (.inr (.inr f_72))))), (q_82, .inr (6, [.null, .null, .null, .int 0]))] ++ wt) H := tw_newP hP
  have hD : va_D A ([(h0, .inr (11, [.ref q_1, .ref q_3, .ref q_6, .ref q_9, .ref q_12, .ref q_15, .ref q_18, .ref q_21, .ref q_47, .ref q_73, .ref q_76, .ref q_79, .null, .int 0, .int 0, .int 0])), (q_1, .inr (8, [.ref y_2, .int 0, .int 0, .int 0, .int 0])), (y_2, .inl (G.2.2 0, 400, .inl (fun _ => 0))), (q_21, .inl (G.2.2 5, 6, .inr (.inr (.inr (.inr f_46))))), (q_47, .inl (G.2.2 6, 4, .inr (.inr (.inr (.inr f_72))))), (q_82, .inr (6, [.null, .null, .null, .int 0]))] ++ wt) := tw_newD hD
  refine lv_dup hx hb dX11_init_188 rfl ?_
  have hP : va_P (gg_D G) classes ([(h0, .inr (11, [.ref q_1, .ref q_3, .ref q_6, .ref q_9, .ref q_12, .ref q_15, .ref q_18, .ref q_21, .ref q_47, .ref q_73, .ref q_76, .ref q_79, .null, .int 0, .int 0, .int 0])), (q_1, .inr (8, [.ref y_2, .int 0, .int 0, .int 0, .int 0])), (y_2, .inl (G.2.2 0, 400, .inl (fun _ => 0))), (q_21, .inl (G.2.2 5, 6, .inr (.inr (.inr (.inr f_46))))), (q_47, .inl (G.2.2 6, 4, .inr (.inr (.inr (.inr f_72)))))] ++ ([(q_82, .inr (6, [.null, .null, .null, .int 0]))] ++ wt)) H := hP
  have hD : va_D A ([(h0, .inr (11, [.ref q_1, .ref q_3, .ref q_6, .ref q_9, .ref q_12, .ref q_15, .ref q_18, .ref q_21, .ref q_47, .ref q_73, .ref q_76, .ref q_79, .null, .int 0, .int 0, .int 0])), (q_1, .inr (8, [.ref y_2, .int 0, .int 0, .int 0, .int 0])), (y_2, .inl (G.2.2 0, 400, .inl (fun _ => 0))), (q_21, .inl (G.2.2 5, 6, .inr (.inr (.inr (.inr f_46))))), (q_47, .inl (G.2.2 6, 4, .inr (.inr (.inr (.inr f_72)))))] ++ ([(q_82, .inr (6, [.null, .null, .null, .int 0]))] ++ wt)) := hD
  refine gt_callV (wr := [(h0, .inr (11, [.ref q_1, .ref q_3, .ref q_6, .ref q_9, .ref q_12, .ref q_15, .ref q_18, .ref q_21, .ref q_47, .ref q_73, .ref q_76, .ref q_79, .null, .int 0, .int 0, .int 0])), (q_1, .inr (8, [.ref y_2, .int 0, .int 0, .int 0, .int 0])), (y_2, .inl (G.2.2 0, 400, .inl (fun _ => 0))), (q_21, .inl (G.2.2 5, 6, .inr (.inr (.inr (.inr f_46))))), (q_47, .inl (G.2.2 6, 4, .inr (.inr (.inr (.inr f_72)))))]) (va_runIN (As := []) (rest := [.ref q_82, .ref h0]) ⟨hx, hb, hml, hown, ht⟩ (d_i_Sleuth l G Γ H.size wt hT q_82) ⟨va_cnB 0 ht (tb_good (ts_good wd_475)) rfl rfl rfl (hK.2.1 _ wn_473 rfl) (ht _ wd_133) (by decide +kernel) ⟨Nat.le_of_ble_eq_true rfl, Nat.le_of_ble_eq_true rfl⟩, rfl, ht _ wd_474⟩ (gc_preS hK (tw_right hP) (tw_rightD hD)) rfl rfl hl.1 rfl (lv_room (Nat.le_of_ble_eq_true rfl)) dX11_init_189 ⟨Nat.le_of_ble_eq_true rfl, Nat.le_of_ble_eq_true rfl⟩) hP hD hS hA (fun u H locs hw hP hD hS => ?_)
  obtain ⟨Γ9, wt⟩ := u
  obtain ⟨hT, hkp, hxe, hk_84⟩ := hw
  have hW := hW.call (show ∀ x ∈ [], x ∈ [709] by decide) hkp
  have w_51 := hkp _ _ _ _ (by decide) (by decide) w_51
  have w_52 := hkp _ _ _ _ (by decide) (by decide) w_52
  have w_57 := hkp _ _ _ _ (by decide) (by decide) w_57
  have w_58 := hkp _ _ _ _ (by decide) (by decide) w_58
  have w_63 := hkp _ _ _ _ (by decide) (by decide) w_63
  have w_64 := hkp _ _ _ _ (by decide) (by decide) w_64
  have w_69 := hkp _ _ _ _ (by decide) (by decide) w_69
  have w_70 := hkp _ _ _ _ (by decide) (by decide) w_70
  have hk_5 := hxe.of (by decide) hk_5
  have hk_8 := hxe.of (by decide) hk_8
  have hk_11 := hxe.of (by decide) hk_11
  have hk_14 := hxe.of (by decide) hk_14
  have hk_17 := hxe.of (by decide) hk_17
  have hk_20 := hxe.of (by decide) hk_20
  have hk_75 := hxe.of (by decide) hk_75
  have hk_78 := hxe.of (by decide) hk_78
  have hk_81 := hxe.of (by decide) hk_81
  have hk_53 := hxe.of (by decide) hk_53
  have hk_59 := hxe.of (by decide) hk_59
  have hk_65 := hxe.of (by decide) hk_65
  have hk_71 := hxe.of (by decide) hk_71
  have hr_22 := hr_22.ext hxe (by decide)
  have hr_48 := hr_48.ext hxe (by decide)
  have hE := hE.tr hxe
  clear hxe
  obtain ⟨Γ, hΓ9⟩ : ∃ z, z = Γ9 := ⟨_, rfl⟩
  subst hΓ9
  have hP : va_P (gg_D G) classes ([(h0, .inr (11, [.ref q_1, .ref q_3, .ref q_6, .ref q_9, .ref q_12, .ref q_15, .ref q_18, .ref q_21, .ref q_47, .ref q_73, .ref q_76, .ref q_79, .null, .int 0, .int 0, .int 0])), (q_1, .inr (8, [.ref y_2, .int 0, .int 0, .int 0, .int 0])), (y_2, .inl (G.2.2 0, 400, .inl (fun _ => 0))), (q_21, .inl (G.2.2 5, 6, .inr (.inr (.inr (.inr f_46))))), (q_47, .inl (G.2.2 6, 4, .inr (.inr (.inr (.inr f_72)))))] ++ wt) H := hP
  have hD : va_D A ([(h0, .inr (11, [.ref q_1, .ref q_3, .ref q_6, .ref q_9, .ref q_12, .ref q_15, .ref q_18, .ref q_21, .ref q_47, .ref q_73, .ref q_76, .ref q_79, .null, .int 0, .int 0, .int 0])), (q_1, .inr (8, [.ref y_2, .int 0, .int 0, .int 0, .int 0])), (y_2, .inl (G.2.2 0, 400, .inl (fun _ => 0))), (q_21, .inl (G.2.2 5, 6, .inr (.inr (.inr (.inr f_46))))), (q_47, .inl (G.2.2 6, 4, .inr (.inr (.inr (.inr f_72)))))] ++ wt) := hD
  refine W.widen (k := 409) (n := 5398) (Nat.le_of_ble_eq_true rfl) (Nat.le_of_ble_eq_true rfl) ?_
  refine gq_putF (ws' := [(h0, .inr (11, [.ref q_1, .ref q_3, .ref q_6, .ref q_9, .ref q_12, .ref q_15, .ref q_18, .ref q_21, .ref q_47, .ref q_73, .ref q_76, .ref q_79, .ref q_82, .int 0, .int 0, .int 0])), (q_1, .inr (8, [.ref y_2, .int 0, .int 0, .int 0, .int 0])), (y_2, .inl (G.2.2 0, 400, .inl (fun _ => 0))), (q_21, .inl (G.2.2 5, 6, .inr (.inr (.inr (.inr f_46))))), (q_47, .inl (G.2.2 6, 4, .inr (.inr (.inr (.inr f_72)))))] ++ wt) hx hb ht hown hin hK hP hD hS i_X11 tyX11 tyX11_ok nmX11 0 rfl rfl 12 (by decide) wd_509 rfl rfl rfl rfl (Nat.le_of_ble_eq_true rfl) rfl dX11_init_192 (fun H locs hP hD hS => ?_)
  refine lv_aload_n hx hb dX11_init_195 rfl (lv_at hl 1 rfl) ?_
  refine lv_iconst (v := 0) hx hb dX11_init_196 (by decide +kernel) ?_
  refine gq_put (ws' := [(h0, .inr (11, [.ref q_1, .ref q_3, .ref q_6, .ref q_9, .ref q_12, .ref q_15, .ref q_18, .ref q_21, .ref q_47, .ref q_73, .ref q_76, .ref q_79, .ref q_82, .int 0, .int 0, .int 0])), (q_1, .inr (8, [.ref y_2, .int 0, .int 0, .int 0, .int 0])), (y_2, .inl (G.2.2 0, 400, .inl (fun _ => 0))), (q_21, .inl (G.2.2 5, 6, .inr (.inr (.inr (.inr f_46))))), (q_47, .inl (G.2.2 6, 4, .inr (.inr (.inr (.inr f_72)))))] ++ wt) hx hb ht hown hK hP hD hS i_X11 tyX11 tyX11_ok nmX11 0 rfl rfl 13 (by decide) wd_510 rfl rfl rfl rfl (Nat.le_of_ble_eq_true rfl) rfl dX11_init_197 (fun H locs hP hD hS => ?_)
  refine lv_aload_n hx hb dX11_init_200 rfl (lv_at hl 1 rfl) ?_
  refine lv_iconst (v := (-1)) hx hb dX11_init_201 (by decide +kernel) ?_
  refine gq_put (ws' := [(h0, .inr (11, [.ref q_1, .ref q_3, .ref q_6, .ref q_9, .ref q_12, .ref q_15, .ref q_18, .ref q_21, .ref q_47, .ref q_73, .ref q_76, .ref q_79, .ref q_82, .int 0, .int (-1), .int 0])), (q_1, .inr (8, [.ref y_2, .int 0, .int 0, .int 0, .int 0])), (y_2, .inl (G.2.2 0, 400, .inl (fun _ => 0))), (q_21, .inl (G.2.2 5, 6, .inr (.inr (.inr (.inr f_46))))), (q_47, .inl (G.2.2 6, 4, .inr (.inr (.inr (.inr f_72)))))] ++ wt) hx hb ht hown hK hP hD hS i_X11 tyX11 tyX11_ok nmX11 0 rfl rfl 14 (by decide) wd_511 rfl rfl rfl rfl (Nat.le_of_ble_eq_true rfl) rfl dX11_init_202 (fun H locs hP hD hS => ?_)
  refine lv_aload_n hx hb dX11_init_205 rfl (lv_at hl 1 rfl) ?_
  refine lv_iconst (v := 0) hx hb dX11_init_206 (by decide +kernel) ?_
  refine gq_put (ws' := [(h0, .inr (11, [.ref q_1, .ref q_3, .ref q_6, .ref q_9, .ref q_12, .ref q_15, .ref q_18, .ref q_21, .ref q_47, .ref q_73, .ref q_76, .ref q_79, .ref q_82, .int 0, .int (-1), .int 0])), (q_1, .inr (8, [.ref y_2, .int 0, .int 0, .int 0, .int 0])), (y_2, .inl (G.2.2 0, 400, .inl (fun _ => 0))), (q_21, .inl (G.2.2 5, 6, .inr (.inr (.inr (.inr f_46))))), (q_47, .inl (G.2.2 6, 4, .inr (.inr (.inr (.inr f_72)))))] ++ wt) hx hb ht hown hK hP hD hS i_X11 tyX11 tyX11_ok nmX11 0 rfl rfl 15 (by decide) wd_512 rfl rfl rfl rfl (Nat.le_of_ble_eq_true rfl) rfl dX11_init_207 (fun H locs hP hD hS => ?_)
  refine lv_aload_n hx hb dX11_init_210 rfl (lv_at hl 1 rfl) ?_
  refine gq_get hx hb ht hown hK hP i_X11 0 rfl rfl 3 (by decide) wd_500 rfl rfl dX11_init_211 ?_
  refine lv_aload_n hx hb dX11_init_214 rfl (lv_at hl 1 rfl) ?_
  refine gq_get hx hb ht hown hK hP i_X11 0 rfl rfl 1 (by decide) wd_498 rfl rfl dX11_init_215 ?_
  refine gt_callV (wr := [(h0, .inr (11, [.ref q_1, .ref q_3, .ref q_6, .ref q_9, .ref q_12, .ref q_15, .ref q_18, .ref q_21, .ref q_47, .ref q_73, .ref q_76, .ref q_79, .ref q_82, .int 0, .int (-1), .int 0])), (q_1, .inr (8, [.ref y_2, .int 0, .int 0, .int 0, .int 0])), (y_2, .inl (G.2.2 0, 400, .inl (fun _ => 0))), (q_21, .inl (G.2.2 5, 6, .inr (.inr (.inr (.inr f_46))))), (q_47, .inl (G.2.2 6, 4, .inr (.inr (.inr (.inr f_72)))))]) (va_runV (As := [.ref q_3]) (rest := []) ⟨hx, hb, hml, hown, ht⟩ (d_S_open l G Γ H.size wt hT q_9 q_3 hk_11 hk_5) (cwV 1 ht (ts_gV wd_493 wd_494 wd_495 wd_125 wd_496) rfl rfl rfl (by decide +kernel) ⟨Nat.le_of_ble_eq_true rfl, Nat.le_of_ble_eq_true rfl⟩) (gt_preW (ci := 7) hK hT (tw_right hP) (tw_rightD hD) hk_11 (by decide) rfl) rfl rfl hl.1 rfl (lv_room (Nat.le_of_ble_eq_true rfl)) dX11_init_218 ⟨Nat.le_of_ble_eq_true rfl, Nat.le_of_ble_eq_true rfl⟩) hP hD hS hA (fun wt H locs hw hP hD hS => ?_)
  obtain ⟨hT, hkp⟩ := hw
  have hW := hW.call (show ∀ x ∈ [709], x ∈ [709] by decide) hkp
  have w_51 := hkp _ _ _ _ (by decide) (by decide) w_51
  have w_52 := hkp _ _ _ _ (by decide) (by decide) w_52
  have w_57 := hkp _ _ _ _ (by decide) (by decide) w_57
  have w_58 := hkp _ _ _ _ (by decide) (by decide) w_58
  have w_63 := hkp _ _ _ _ (by decide) (by decide) w_63
  have w_64 := hkp _ _ _ _ (by decide) (by decide) w_64
  have w_69 := hkp _ _ _ _ (by decide) (by decide) w_69
  have w_70 := hkp _ _ _ _ (by decide) (by decide) w_70
  have hP : va_P (gg_D G) classes ([(h0, .inr (11, [.ref q_1, .ref q_3, .ref q_6, .ref q_9, .ref q_12, .ref q_15, .ref q_18, .ref q_21, .ref q_47, .ref q_73, .ref q_76, .ref q_79, .ref q_82, .int 0, .int (-1), .int 0])), (q_1, .inr (8, [.ref y_2, .int 0, .int 0, .int 0, .int 0])), (y_2, .inl (G.2.2 0, 400, .inl (fun _ => 0))), (q_21, .inl (G.2.2 5, 6, .inr (.inr (.inr (.inr f_46))))), (q_47, .inl (G.2.2 6, 4, .inr (.inr (.inr (.inr f_72)))))] ++ wt) H := hP
  have hD : va_D A ([(h0, .inr (11, [.ref q_1, .ref q_3, .ref q_6, .ref q_9, .ref q_12, .ref q_15, .ref q_18, .ref q_21, .ref q_47, .ref q_73, .ref q_76, .ref q_79, .ref q_82, .int 0, .int (-1), .int 0])), (q_1, .inr (8, [.ref y_2, .int 0, .int 0, .int 0, .int 0])), (y_2, .inl (G.2.2 0, 400, .inl (fun _ => 0))), (q_21, .inl (G.2.2 5, 6, .inr (.inr (.inr (.inr f_46))))), (q_47, .inl (G.2.2 6, 4, .inr (.inr (.inr (.inr f_72)))))] ++ wt) := hD
  have hP := tw_permP (we' := [(h0, .inr (11, [.ref q_1, .ref q_3, .ref q_6, .ref q_9, .ref q_12, .ref q_15, .ref q_18, .ref q_21, .ref q_47, .ref q_73, .ref q_76, .ref q_79, .ref q_82, .int 0, .int (-1), .int 0])), (q_1, .inr (8, [.ref y_2, .int 0, .int 0, .int 0, .int 0])), (y_2, .inl (G.2.2 0, 400, .inl (fun _ => 0))), (q_47, .inl (G.2.2 6, 4, .inr (.inr (.inr (.inr f_72))))), (q_21, .inl (G.2.2 5, 6, .inr (.inr (.inr (.inr f_46)))))]) [0, 1, 2, 4, 3] rfl hP
  have hD := tw_permD (we' := [(h0, .inr (11, [.ref q_1, .ref q_3, .ref q_6, .ref q_9, .ref q_12, .ref q_15, .ref q_18, .ref q_21, .ref q_47, .ref q_73, .ref q_76, .ref q_79, .ref q_82, .int 0, .int (-1), .int 0])), (q_1, .inr (8, [.ref y_2, .int 0, .int 0, .int 0, .int 0])), (y_2, .inl (G.2.2 0, 400, .inl (fun _ => 0))), (q_47, .inl (G.2.2 6, 4, .inr (.inr (.inr (.inr f_72))))), (q_21, .inl (G.2.2 5, 6, .inr (.inr (.inr (.inr f_46)))))]) [0, 1, 2, 4, 3] (by decide) rfl hD
  have hP : va_P (gg_D G) classes ([(h0, .inr (11, [.ref q_1, .ref q_3, .ref q_6, .ref q_9, .ref q_12, .ref q_15, .ref q_18, .ref q_21, .ref q_47, .ref q_73, .ref q_76, .ref q_79, .ref q_82, .int 0, .int (-1), .int 0])), (q_1, .inr (8, [.ref y_2, .int 0, .int 0, .int 0, .int 0])), (y_2, .inl (G.2.2 0, 400, .inl (fun _ => 0))), (q_47, .inl (G.2.2 6, 4, .inr (.inr (.inr (.inr f_72)))))] ++ ((q_21, .inl (G.2.2 5, 6, .inr (.inr (.inr (.inr f_46))))) :: wt)) H := hP
  have hD : va_D A ([(h0, .inr (11, [.ref q_1, .ref q_3, .ref q_6, .ref q_9, .ref q_12, .ref q_15, .ref q_18, .ref q_21, .ref q_47, .ref q_73, .ref q_76, .ref q_79, .ref q_82, .int 0, .int (-1), .int 0])), (q_1, .inr (8, [.ref y_2, .int 0, .int 0, .int 0, .int 0])), (y_2, .inl (G.2.2 0, 400, .inl (fun _ => 0))), (q_47, .inl (G.2.2 6, 4, .inr (.inr (.inr (.inr f_72)))))] ++ ((q_21, .inl (G.2.2 5, 6, .inr (.inr (.inr (.inr f_46))))) :: wt)) := hD
  obtain ⟨Γ9, w9, hwe, hxe, hk_85, hT, hkp⟩ := tk_take (k := 41) hT hD (by decide) (show tk_en G Γ 41 _ from ⟨by decide, rfl, rfl, hr_22⟩)
  rw [hwe] at hP hD
  clear hwe
  have hW := hW.call (show ∀ x ∈ ([] : List Nat), x ∈ [709] by decide) hkp
  have w_51 := hkp _ _ _ _ (by decide) (by decide) w_51
  have w_52 := hkp _ _ _ _ (by decide) (by decide) w_52
  have w_57 := hkp _ _ _ _ (by decide) (by decide) w_57
  have w_58 := hkp _ _ _ _ (by decide) (by decide) w_58
  have w_63 := hkp _ _ _ _ (by decide) (by decide) w_63
  have w_64 := hkp _ _ _ _ (by decide) (by decide) w_64
  have w_69 := hkp _ _ _ _ (by decide) (by decide) w_69
  have w_70 := hkp _ _ _ _ (by decide) (by decide) w_70
  have hk_5 := hxe.of (by decide) hk_5
  have hk_8 := hxe.of (by decide) hk_8
  have hk_11 := hxe.of (by decide) hk_11
  have hk_14 := hxe.of (by decide) hk_14
  have hk_17 := hxe.of (by decide) hk_17
  have hk_20 := hxe.of (by decide) hk_20
  have hk_75 := hxe.of (by decide) hk_75
  have hk_78 := hxe.of (by decide) hk_78
  have hk_81 := hxe.of (by decide) hk_81
  have hk_84 := hxe.of (by decide) hk_84
  have hk_53 := hxe.of (by decide) hk_53
  have hk_59 := hxe.of (by decide) hk_59
  have hk_65 := hxe.of (by decide) hk_65
  have hk_71 := hxe.of (by decide) hk_71
  have hr_48 := hr_48.ext hxe (by decide)
  have hE := hE.tr hxe
  clear hxe
  obtain ⟨Γ, hΓ9⟩ : ∃ z, z = Γ9 := ⟨_, rfl⟩
  subst hΓ9
  obtain ⟨wt, hw9⟩ : ∃ z, z = w9 := ⟨_, rfl⟩
  subst hw9
  have hP9 : va_P (gg_D G) classes ([(h0, .inr (11, [.ref q_1, .ref q_3, .ref q_6, .ref q_9, .ref q_12, .ref q_15, .ref q_18, .ref q_21, .ref q_47, .ref q_73, .ref q_76, .ref q_79, .ref q_82, .int 0, .int (-1), .int 0])), (q_1, .inr (8, [.ref y_2, .int 0, .int 0, .int 0, .int 0])), (y_2, .inl (G.2.2 0, 400, .inl (fun _ => 0))), (q_47, .inl (G.2.2 6, 4, .inr (.inr (.inr (.inr f_72)))))] ++ wt) _ := hP
  have hD9 : va_D A ([(h0, .inr (11, [.ref q_1, .ref q_3, .ref q_6, .ref q_9, .ref q_12, .ref q_15, .ref q_18, .ref q_21, .ref q_47, .ref q_73, .ref q_76, .ref q_79, .ref q_82, .int 0, .int (-1), .int 0])), (q_1, .inr (8, [.ref y_2, .int 0, .int 0, .int 0, .int 0])), (y_2, .inl (G.2.2 0, 400, .inl (fun _ => 0))), (q_47, .inl (G.2.2 6, 4, .inr (.inr (.inr (.inr f_72)))))] ++ wt) := hD
  exact W.vret hx hb hr (gq_endV (Γ, q_1, y_2, q_3, q_6, q_9, q_12, q_15, q_18, q_21, q_47, q_73, q_76, q_79, q_82, f_72, (fun k => ([q_49, q_55, q_61, q_67] : List Nat).getD k 0), wt) ⟨hT, hW, hE, hk_5, hk_8, hk_11, hk_14, hk_17, hk_20, hk_85, hk_75, hk_78, hk_81, hk_84, (tk_four pf_72_0 pf_72_1 pf_72_2 pf_72), (tk_four hk_53 hk_59 hk_65 hk_71), (tk_inj4 nq_49_q_55 nq_49_q_61 nq_55_q_61 nq_49_q_67 nq_55_q_67 nq_61_q_67), (tk_four w_51 w_57 w_63 w_69), (tk_four w_52 w_58 w_64 w_70)⟩ hP9 hD9 hS) hS.2.2 dX11_init_221

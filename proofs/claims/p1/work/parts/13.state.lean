theorem wd_195 : (Jvm.Cond.fieldLink "SilentSale$State" (49 : Nat) "SilentSale$Terms" "purse" "[I") ∈ tb_L := tb_in (i := 195) (by decide +kernel) (by decide +kernel)
theorem wd_197 : (Jvm.Cond.fieldLink "SilentSale$State" (52 : Nat) "SilentSale$Terms" "patience" "[I") ∈ tb_L := tb_in (i := 197) (by decide +kernel) (by decide +kernel)
theorem wd_496 : (Jvm.Cond.code ({ cls := "SilentSale$State", name := "open", desc := "(LSilentSale$Terms;)V" } : Jvm.MethodName) prog_9_method_3_code (3 : Nat) (Option.none : Option Jvm.ClassFile.FieldType)) ∈ tb_L := tb_in (i := 496) (by decide +kernel) (by decide +kernel)
theorem dX7_open_0 : decode cX7_open 0 = .ok (.iconst 0, 1) := by decide +kernel
theorem dX7_open_1 : decode cX7_open 1 = .ok (.istore_n 2, 1) := by decide +kernel
theorem dX7_open_2 : decode cX7_open 2 = .ok (.iload_n 2, 1) := by decide +kernel
theorem dX7_open_3 : decode cX7_open 3 = .ok (.iconst 5, 1) := by decide +kernel
theorem dX7_open_4 : decode cX7_open 4 = .ok (.if_icmp .ge 47, 3) := by decide +kernel
theorem dX7_open_7 : decode cX7_open 7 = .ok (.aload_n 0, 1) := by decide +kernel
theorem dX7_open_8 : decode cX7_open 8 = .ok (.getfield 9, 3) := by decide +kernel
theorem dX7_open_11 : decode cX7_open 11 = .ok (.iload_n 2, 1) := by decide +kernel
theorem dX7_open_12 : decode cX7_open 12 = .ok (.aload_n 1, 1) := by decide +kernel
theorem dX7_open_13 : decode cX7_open 13 = .ok (.getfield 49, 3) := by decide +kernel
theorem dX7_open_16 : decode cX7_open 16 = .ok (.iload_n 2, 1) := by decide +kernel
theorem dX7_open_17 : decode cX7_open 17 = .ok (.iaload, 1) := by decide +kernel
theorem dX7_open_18 : decode cX7_open 18 = .ok (.iastore, 1) := by decide +kernel
theorem dX7_open_19 : decode cX7_open 19 = .ok (.aload_n 0, 1) := by decide +kernel
theorem dX7_open_20 : decode cX7_open 20 = .ok (.getfield 15, 3) := by decide +kernel
theorem dX7_open_23 : decode cX7_open 23 = .ok (.iload_n 2, 1) := by decide +kernel
theorem dX7_open_24 : decode cX7_open 24 = .ok (.aload_n 1, 1) := by decide +kernel
theorem dX7_open_25 : decode cX7_open 25 = .ok (.getfield 52, 3) := by decide +kernel
theorem dX7_open_28 : decode cX7_open 28 = .ok (.iload_n 2, 1) := by decide +kernel
theorem dX7_open_29 : decode cX7_open 29 = .ok (.iaload, 1) := by decide +kernel
theorem dX7_open_30 : decode cX7_open 30 = .ok (.iastore, 1) := by decide +kernel
theorem dX7_open_31 : decode cX7_open 31 = .ok (.aload_n 0, 1) := by decide +kernel
theorem dX7_open_32 : decode cX7_open 32 = .ok (.getfield 18, 3) := by decide +kernel
theorem dX7_open_35 : decode cX7_open 35 = .ok (.iload_n 2, 1) := by decide +kernel
theorem dX7_open_36 : decode cX7_open 36 = .ok (.iconst (-1), 1) := by decide +kernel
theorem dX7_open_37 : decode cX7_open 37 = .ok (.iastore, 1) := by decide +kernel
theorem dX7_open_38 : decode cX7_open 38 = .ok (.aload_n 0, 1) := by decide +kernel
theorem dX7_open_39 : decode cX7_open 39 = .ok (.getfield 21, 3) := by decide +kernel
theorem dX7_open_42 : decode cX7_open 42 = .ok (.iload_n 2, 1) := by decide +kernel
theorem dX7_open_43 : decode cX7_open 43 = .ok (.iconst 0, 1) := by decide +kernel
theorem dX7_open_44 : decode cX7_open 44 = .ok (.iastore, 1) := by decide +kernel
theorem dX7_open_45 : decode cX7_open 45 = .ok (.iinc 2 1, 3) := by decide +kernel
theorem dX7_open_48 : decode cX7_open 48 = .ok (.goto (-46), 3) := by decide +kernel
theorem dX7_open_51 : decode cX7_open 51 = .ok (.iconst 0, 1) := by decide +kernel
theorem dX7_open_52 : decode cX7_open 52 = .ok (.istore_n 2, 1) := by decide +kernel
theorem dX7_open_53 : decode cX7_open 53 = .ok (.iload_n 2, 1) := by decide +kernel
theorem dX7_open_54 : decode cX7_open 54 = .ok (.iconst 3, 1) := by decide +kernel
theorem dX7_open_55 : decode cX7_open 55 = .ok (.if_icmp .ge 44, 3) := by decide +kernel
theorem dX7_open_58 : decode cX7_open 58 = .ok (.aload_n 0, 1) := by decide +kernel
theorem dX7_open_59 : decode cX7_open 59 = .ok (.getfield 24, 3) := by decide +kernel
theorem dX7_open_62 : decode cX7_open 62 = .ok (.iload_n 2, 1) := by decide +kernel
theorem dX7_open_63 : decode cX7_open 63 = .ok (.iconst 0, 1) := by decide +kernel
theorem dX7_open_64 : decode cX7_open 64 = .ok (.iastore, 1) := by decide +kernel
theorem dX7_open_65 : decode cX7_open 65 = .ok (.aload_n 0, 1) := by decide +kernel
theorem dX7_open_66 : decode cX7_open 66 = .ok (.getfield 27, 3) := by decide +kernel
theorem dX7_open_69 : decode cX7_open 69 = .ok (.iload_n 2, 1) := by decide +kernel
theorem dX7_open_70 : decode cX7_open 70 = .ok (.iconst 0, 1) := by decide +kernel
theorem dX7_open_71 : decode cX7_open 71 = .ok (.iastore, 1) := by decide +kernel
theorem dX7_open_72 : decode cX7_open 72 = .ok (.aload_n 0, 1) := by decide +kernel
theorem dX7_open_73 : decode cX7_open 73 = .ok (.getfield 30, 3) := by decide +kernel
theorem dX7_open_76 : decode cX7_open 76 = .ok (.iload_n 2, 1) := by decide +kernel
theorem dX7_open_77 : decode cX7_open 77 = .ok (.iconst (-1), 1) := by decide +kernel
theorem dX7_open_78 : decode cX7_open 78 = .ok (.iastore, 1) := by decide +kernel
theorem dX7_open_79 : decode cX7_open 79 = .ok (.aload_n 0, 1) := by decide +kernel
theorem dX7_open_80 : decode cX7_open 80 = .ok (.getfield 33, 3) := by decide +kernel
theorem dX7_open_83 : decode cX7_open 83 = .ok (.iload_n 2, 1) := by decide +kernel
theorem dX7_open_84 : decode cX7_open 84 = .ok (.iconst 0, 1) := by decide +kernel
theorem dX7_open_85 : decode cX7_open 85 = .ok (.iastore, 1) := by decide +kernel
theorem dX7_open_86 : decode cX7_open 86 = .ok (.aload_n 0, 1) := by decide +kernel
theorem dX7_open_87 : decode cX7_open 87 = .ok (.getfield 36, 3) := by decide +kernel
theorem dX7_open_90 : decode cX7_open 90 = .ok (.iload_n 2, 1) := by decide +kernel
theorem dX7_open_91 : decode cX7_open 91 = .ok (.iconst 0, 1) := by decide +kernel
theorem dX7_open_92 : decode cX7_open 92 = .ok (.iastore, 1) := by decide +kernel
theorem dX7_open_93 : decode cX7_open 93 = .ok (.iinc 2 1, 3) := by decide +kernel
theorem dX7_open_96 : decode cX7_open 96 = .ok (.goto (-43), 3) := by decide +kernel
theorem dX7_open_99 : decode cX7_open 99 = .ok (.aload_n 0, 1) := by decide +kernel
theorem dX7_open_100 : decode cX7_open 100 = .ok (.iconst 0, 1) := by decide +kernel
theorem dX7_open_101 : decode cX7_open 101 = .ok (.putfield 39, 3) := by decide +kernel
theorem dX7_open_104 : decode cX7_open 104 = .ok (.return_, 1) := by decide +kernel
theorem wd_849 : (Jvm.Cond.code ({ cls := "SilentSale$State", name := "lotsAt", desc := "(I)I" } : Jvm.MethodName) prog_9_method_7_code (4 : Nat) (Option.some Jvm.ClassFile.FieldType.int)) ∈ tb_L := tb_in (i := 849) (by decide +kernel) (by decide +kernel)
theorem dX7_lotsAt_0 : decode cX7_lotsAt 0 = .ok (.iconst 0, 1) := by decide +kernel
theorem dX7_lotsAt_1 : decode cX7_lotsAt 1 = .ok (.istore_n 2, 1) := by decide +kernel
theorem dX7_lotsAt_2 : decode cX7_lotsAt 2 = .ok (.iconst 0, 1) := by decide +kernel
theorem dX7_lotsAt_3 : decode cX7_lotsAt 3 = .ok (.istore_n 3, 1) := by decide +kernel
theorem dX7_lotsAt_4 : decode cX7_lotsAt 4 = .ok (.iload_n 3, 1) := by decide +kernel
theorem dX7_lotsAt_5 : decode cX7_lotsAt 5 = .ok (.iconst 3, 1) := by decide +kernel
theorem dX7_lotsAt_6 : decode cX7_lotsAt 6 = .ok (.if_icmp .ge 29, 3) := by decide +kernel
theorem dX7_lotsAt_9 : decode cX7_lotsAt 9 = .ok (.iload_n 2, 1) := by decide +kernel
theorem dX7_lotsAt_10 : decode cX7_lotsAt 10 = .ok (.aload_n 0, 1) := by decide +kernel
theorem dX7_lotsAt_11 : decode cX7_lotsAt 11 = .ok (.getfield 24, 3) := by decide +kernel
theorem dX7_lotsAt_14 : decode cX7_lotsAt 14 = .ok (.iload_n 3, 1) := by decide +kernel
theorem dX7_lotsAt_15 : decode cX7_lotsAt 15 = .ok (.iaload, 1) := by decide +kernel
theorem dX7_lotsAt_16 : decode cX7_lotsAt 16 = .ok (.iload_n 1, 1) := by decide +kernel
theorem dX7_lotsAt_17 : decode cX7_lotsAt 17 = .ok (.if_icmp .ne 9, 3) := by decide +kernel
theorem dX7_lotsAt_26 : decode cX7_lotsAt 26 = .ok (.iconst 0, 1) := by decide +kernel
theorem dX7_lotsAt_27 : decode cX7_lotsAt 27 = .ok (.ior, 1) := by decide +kernel
theorem dX7_lotsAt_28 : decode cX7_lotsAt 28 = .ok (.istore_n 2, 1) := by decide +kernel
theorem dX7_lotsAt_29 : decode cX7_lotsAt 29 = .ok (.iinc 3 1, 3) := by decide +kernel
theorem dX7_lotsAt_32 : decode cX7_lotsAt 32 = .ok (.goto (-28), 3) := by decide +kernel
theorem dX7_lotsAt_35 : decode cX7_lotsAt 35 = .ok (.iload_n 2, 1) := by decide +kernel
theorem dX7_lotsAt_36 : decode cX7_lotsAt 36 = .ok (.ireturn, 1) := by decide +kernel
theorem wd_800 : (Jvm.Cond.code ({ cls := "SilentSale$State", name := "silentOnes", desc := "()I" } : Jvm.MethodName) prog_9_method_5_code (3 : Nat) (Option.some Jvm.ClassFile.FieldType.int)) ∈ tb_L := tb_in (i := 800) (by decide +kernel) (by decide +kernel)
theorem dX7_silentOnes_0 : decode cX7_silentOnes 0 = .ok (.iconst 0, 1) := by decide +kernel
theorem dX7_silentOnes_1 : decode cX7_silentOnes 1 = .ok (.istore_n 1, 1) := by decide +kernel
theorem dX7_silentOnes_2 : decode cX7_silentOnes 2 = .ok (.iconst 0, 1) := by decide +kernel
theorem dX7_silentOnes_3 : decode cX7_silentOnes 3 = .ok (.istore_n 2, 1) := by decide +kernel
theorem dX7_silentOnes_4 : decode cX7_silentOnes 4 = .ok (.iload_n 2, 1) := by decide +kernel
theorem dX7_silentOnes_5 : decode cX7_silentOnes 5 = .ok (.iconst 3, 1) := by decide +kernel
theorem dX7_silentOnes_6 : decode cX7_silentOnes 6 = .ok (.if_icmp .ge 18, 3) := by decide +kernel
theorem dX7_silentOnes_9 : decode cX7_silentOnes 9 = .ok (.iload_n 1, 1) := by decide +kernel
theorem dX7_silentOnes_10 : decode cX7_silentOnes 10 = .ok (.aload_n 0, 1) := by decide +kernel
theorem dX7_silentOnes_11 : decode cX7_silentOnes 11 = .ok (.getfield 36, 3) := by decide +kernel
theorem dX7_silentOnes_14 : decode cX7_silentOnes 14 = .ok (.iload_n 2, 1) := by decide +kernel
theorem dX7_silentOnes_15 : decode cX7_silentOnes 15 = .ok (.iaload, 1) := by decide +kernel
theorem dX7_silentOnes_16 : decode cX7_silentOnes 16 = .ok (.ior, 1) := by decide +kernel
theorem dX7_silentOnes_17 : decode cX7_silentOnes 17 = .ok (.istore_n 1, 1) := by decide +kernel
theorem dX7_silentOnes_18 : decode cX7_silentOnes 18 = .ok (.iinc 2 1, 3) := by decide +kernel
theorem dX7_silentOnes_21 : decode cX7_silentOnes 21 = .ok (.goto (-17), 3) := by decide +kernel
theorem dX7_silentOnes_24 : decode cX7_silentOnes 24 = .ok (.iload_n 1, 1) := by decide +kernel
theorem dX7_silentOnes_25 : decode cX7_silentOnes 25 = .ok (.ireturn, 1) := by decide +kernel
theorem wd_853 : (Jvm.Cond.code ({ cls := "SilentSale$State", name := "allPaid", desc := "()I" } : Jvm.MethodName) prog_9_method_10_code (3 : Nat) (Option.some Jvm.ClassFile.FieldType.int)) ∈ tb_L := tb_in (i := 853) (by decide +kernel) (by decide +kernel)
theorem dX7_allPaid_0 : decode cX7_allPaid 0 = .ok (.iconst 0, 1) := by decide +kernel
theorem dX7_allPaid_1 : decode cX7_allPaid 1 = .ok (.istore_n 1, 1) := by decide +kernel
theorem dX7_allPaid_2 : decode cX7_allPaid 2 = .ok (.iconst 0, 1) := by decide +kernel
theorem dX7_allPaid_3 : decode cX7_allPaid 3 = .ok (.istore_n 2, 1) := by decide +kernel
theorem dX7_allPaid_4 : decode cX7_allPaid 4 = .ok (.iload_n 2, 1) := by decide +kernel
theorem dX7_allPaid_5 : decode cX7_allPaid 5 = .ok (.iconst 3, 1) := by decide +kernel
theorem dX7_allPaid_6 : decode cX7_allPaid 6 = .ok (.if_icmp .ge 18, 3) := by decide +kernel
theorem dX7_allPaid_9 : decode cX7_allPaid 9 = .ok (.iload_n 1, 1) := by decide +kernel
theorem dX7_allPaid_10 : decode cX7_allPaid 10 = .ok (.aload_n 0, 1) := by decide +kernel
theorem dX7_allPaid_11 : decode cX7_allPaid 11 = .ok (.getfield 33, 3) := by decide +kernel
theorem dX7_allPaid_14 : decode cX7_allPaid 14 = .ok (.iload_n 2, 1) := by decide +kernel
theorem dX7_allPaid_15 : decode cX7_allPaid 15 = .ok (.iaload, 1) := by decide +kernel
theorem dX7_allPaid_16 : decode cX7_allPaid 16 = .ok (.iadd, 1) := by decide +kernel
theorem dX7_allPaid_17 : decode cX7_allPaid 17 = .ok (.istore_n 1, 1) := by decide +kernel
theorem dX7_allPaid_18 : decode cX7_allPaid 18 = .ok (.iinc 2 1, 3) := by decide +kernel
theorem dX7_allPaid_21 : decode cX7_allPaid 21 = .ok (.goto (-17), 3) := by decide +kernel
theorem dX7_allPaid_24 : decode cX7_allPaid 24 = .ok (.iload_n 1, 1) := by decide +kernel
theorem dX7_allPaid_25 : decode cX7_allPaid 25 = .ok (.ireturn, 1) := by decide +kernel
set_option maxHeartbeats 4000000 in
set_option maxRecDepth 100000 in
theorem c_State_open (l : Launch) (G : gg_T) (sz : Nat) (t : Nat) (s0 : Nat) (s1 : Nat) (s2 : Nat) (s3 : Nat) (s4 : Nat) (s5 : Nat) (s6 : Nat) (s7 : Nat) (s8 : Nat) (tm : Nat) (r0 : Nat) (r1 : Nat) (r2 : Nat) (r3 : Nat) (r4 : Nat) : Met l yX7_open (ts_L yX7_open cX7_open 3 none) ({ frames := 0, cells := 0, slots := 0, locals := 0 }) (gc_P G [(t, .inr (7, [.ref s0, .ref s1, .ref s2, .ref s3, .ref s4, .ref s5, .ref s6, .ref s7, .ref s8, .int 0])), (s0, .inl (G.2.2 0, 5, .inl (fun _ => 0))), (s1, .inl (G.2.2 0, 5, .inl (fun _ => 0))), (s2, .inl (G.2.2 0, 5, .inl (fun _ => 0))), (s3, .inl (G.2.2 0, 5, .inl (fun _ => 0))), (s4, .inl (G.2.2 0, 3, .inl (fun _ => 0))), (s5, .inl (G.2.2 0, 3, .inl (fun _ => 0))), (s6, .inl (G.2.2 0, 3, .inl (fun _ => 0))), (s7, .inl (G.2.2 0, 3, .inl (fun _ => 0))), (s8, .inl (G.2.2 0, 3, .inl (fun _ => 0))), (tm, .inr (9, [.int 0, .int 0, .int 0, .int 0, .ref r0, .ref r1, .ref r2, .ref r3, .ref r4])), (r0, .inl (G.2.2 0, 5, .inl (fun _ => 0))), (r1, .inl (G.2.2 0, 5, .inl (fun _ => 0)))] sz [.ref t, .ref tm]) (gc_V G (va_A [(t, .inr (7, [.ref s0, .ref s1, .ref s2, .ref s3, .ref s4, .ref s5, .ref s6, .ref s7, .ref s8, .int 0])), (s0, .inl (G.2.2 0, 5, .inl (fun _ => 0))), (s1, .inl (G.2.2 0, 5, .inl (fun _ => 0))), (s2, .inl (G.2.2 0, 5, .inl (fun _ => 0))), (s3, .inl (G.2.2 0, 5, .inl (fun _ => 0))), (s4, .inl (G.2.2 0, 3, .inl (fun _ => 0))), (s5, .inl (G.2.2 0, 3, .inl (fun _ => 0))), (s6, .inl (G.2.2 0, 3, .inl (fun _ => 0))), (s7, .inl (G.2.2 0, 3, .inl (fun _ => 0))), (s8, .inl (G.2.2 0, 3, .inl (fun _ => 0))), (tm, .inr (9, [.int 0, .int 0, .int 0, .int 0, .ref r0, .ref r1, .ref r2, .ref r3, .ref r4])), (r0, .inl (G.2.2 0, 5, .inl (fun _ => 0))), (r1, .inl (G.2.2 0, 5, .inl (fun _ => 0)))] sz) (fun (_ : (Nat → Int32) × (Nat → Int32)) => True) (fun (u : (Nat → Int32) × (Nat → Int32)) => match u with | (fs, fo) => [(t, .inr (7, [.ref s0, .ref s1, .ref s2, .ref s3, .ref s4, .ref s5, .ref s6, .ref s7, .ref s8, .int 0])), (s0, .inl (G.2.2 0, 5, .inl (fun _ => 0))), (s1, .inl (G.2.2 0, 5, .inl (fun _ => 0))), (s2, .inl (G.2.2 0, 5, .inl fs)), (s3, .inl (G.2.2 0, 5, .inl (fun _ => 0))), (s4, .inl (G.2.2 0, 3, .inl (fun _ => 0))), (s5, .inl (G.2.2 0, 3, .inl (fun _ => 0))), (s6, .inl (G.2.2 0, 3, .inl fo)), (s7, .inl (G.2.2 0, 3, .inl (fun _ => 0))), (s8, .inl (G.2.2 0, 3, .inl (fun _ => 0))), (tm, .inr (9, [.int 0, .int 0, .int 0, .int 0, .ref r0, .ref r1, .ref r2, .ref r3, .ref r4])), (r0, .inl (G.2.2 0, 5, .inl (fun _ => 0))), (r1, .inl (G.2.2 0, 5, .inl (fun _ => 0)))])) 0 0 (va_A [(t, .inr (7, [.ref s0, .ref s1, .ref s2, .ref s3, .ref s4, .ref s5, .ref s6, .ref s7, .ref s8, .int 0])), (s0, .inl (G.2.2 0, 5, .inl (fun _ => 0))), (s1, .inl (G.2.2 0, 5, .inl (fun _ => 0))), (s2, .inl (G.2.2 0, 5, .inl (fun _ => 0))), (s3, .inl (G.2.2 0, 5, .inl (fun _ => 0))), (s4, .inl (G.2.2 0, 3, .inl (fun _ => 0))), (s5, .inl (G.2.2 0, 3, .inl (fun _ => 0))), (s6, .inl (G.2.2 0, 3, .inl (fun _ => 0))), (s7, .inl (G.2.2 0, 3, .inl (fun _ => 0))), (s8, .inl (G.2.2 0, 3, .inl (fun _ => 0))), (tm, .inr (9, [.int 0, .int 0, .int 0, .int 0, .ref r0, .ref r1, .ref r2, .ref r3, .ref r4])), (r0, .inl (G.2.2 0, 5, .inl (fun _ => 0))), (r1, .inl (G.2.2 0, 5, .inl (fun _ => 0)))] sz) := by
  refine Met.ofW (cc := cX7_open) (maxL := 3) (ret := none) (by decide) rfl ?_
  intro p e s m args below meth c s₁ B hml hv
  obtain ⟨rfl, hsz, hP, hK, hD0⟩ := hv
  have hx := B.exec
  have hb := B.bytes
  have hr := B.returns
  have ht := ts_ht (atoms_spec (ws := ts_L yX7_open cX7_open 3 none) B.pre)
  have hown : s.vm.findClass RX7 = some m.cls := findClass_of_methodNamed B.named
  have hlocks := B.notSynchronized
  subst hsz
  have hD := hD0.self (sz := s.heap.size)
  generalize hAe : va_A [(t, .inr (7, [.ref s0, .ref s1, .ref s2, .ref s3, .ref s4, .ref s5, .ref s6, .ref s7, .ref s8, .int 0])), (s0, .inl (G.2.2 0, 5, .inl (fun _ => 0))), (s1, .inl (G.2.2 0, 5, .inl (fun _ => 0))), (s2, .inl (G.2.2 0, 5, .inl (fun _ => 0))), (s3, .inl (G.2.2 0, 5, .inl (fun _ => 0))), (s4, .inl (G.2.2 0, 3, .inl (fun _ => 0))), (s5, .inl (G.2.2 0, 3, .inl (fun _ => 0))), (s6, .inl (G.2.2 0, 3, .inl (fun _ => 0))), (s7, .inl (G.2.2 0, 3, .inl (fun _ => 0))), (s8, .inl (G.2.2 0, 3, .inl (fun _ => 0))), (tm, .inr (9, [.int 0, .int 0, .int 0, .int 0, .ref r0, .ref r1, .ref r2, .ref r3, .ref r4])), (r0, .inl (G.2.2 0, 5, .inl (fun _ => 0))), (r1, .inl (G.2.2 0, 5, .inl (fun _ => 0)))] s.heap.size = A at hD ⊢
  have hA : ∀ q : Nat, s.heap.size ≤ q → A q := fun q h => by rw [← hAe]; exact Or.inr h
  have hS : va_S A s.heap s.heap [] := va_S.rf
  have hl := lv_entry ([.ref t, .ref tm]) (n := 3) (Nat.le_of_ble_eq_true rfl)
  rw [lg_entry_eq]
  generalize (lg_sl ([.ref t, .ref tm]) ++ List.replicate (3 - (lg_sl ([.ref t, .ref tm])).length) Slot.unset).toArray = ls at hl ⊢
  have hl : lv_has ls 3 [(0, .ref t), (1, .ref tm)] := hl
  refine lv_iconst (v := 0) hx hb dX7_open_0 (by decide) ?_
  refine lv_istore_n (lv' := [(2, .int 0), (0, .ref t), (1, .ref tm)]) hx hb dX7_open_1 rfl hl (by decide) rfl (fun ls hl => ?_)
  refine lv_iload_n hx hb dX7_open_2 rfl (lv_at hl 0 rfl) ?_
  refine lv_iconst (v := 5) hx hb dX7_open_3 (by decide) ?_
  refine lv_icmp_ge (tgt := 51) hx hb dX7_open_4 (by decide) (fun c0 => absurd c0 (by decide +kernel)) (fun _ => ?_)
  refine lv_aload_n hx hb dX7_open_7 rfl (lv_at hl 1 rfl) ?_
  refine gq_get hx hb ht hown hK hP i_X7 0 rfl rfl 0 (by decide) wd_231 rfl rfl dX7_open_8 ?_
  refine lv_iload_n hx hb dX7_open_11 rfl (lv_at hl 0 rfl) ?_
  refine lv_aload_n hx hb dX7_open_12 rfl (lv_at hl 2 rfl) ?_
  refine gq_get hx hb ht hown hK hP i_X9 10 rfl rfl 4 (by decide) wd_195 rfl rfl dX7_open_13 ?_
  refine lv_iload_n hx hb dX7_open_16 rfl (lv_at hl 0 rfl) ?_
  refine gq_iald hx hb hK hP 11 rfl 0 (by unfold vp_in; decide +kernel) rfl dX7_open_17 ?_
  refine gq_iast (ws' := [(t, .inr (7, [.ref s0, .ref s1, .ref s2, .ref s3, .ref s4, .ref s5, .ref s6, .ref s7, .ref s8, .int 0])), (s0, .inl (G.2.2 0, 5, .inl (fun _ => 0))), (s1, .inl (G.2.2 0, 5, .inl (fun _ => 0))), (s2, .inl (G.2.2 0, 5, .inl (fun _ => 0))), (s3, .inl (G.2.2 0, 5, .inl (fun _ => 0))), (s4, .inl (G.2.2 0, 3, .inl (fun _ => 0))), (s5, .inl (G.2.2 0, 3, .inl (fun _ => 0))), (s6, .inl (G.2.2 0, 3, .inl (fun _ => 0))), (s7, .inl (G.2.2 0, 3, .inl (fun _ => 0))), (s8, .inl (G.2.2 0, 3, .inl (fun _ => 0))), (tm, .inr (9, [.int 0, .int 0, .int 0, .int 0, .ref r0, .ref r1, .ref r2, .ref r3, .ref r4])), (r0, .inl (G.2.2 0, 5, .inl (fun _ => 0))), (r1, .inl (G.2.2 0, 5, .inl (fun _ => 0)))]) hx hb hK hP hD hS 1 rfl (fun _ => 0) (by unfold vp_in; decide +kernel) (up_z _ _) rfl dX7_open_18 (fun H locs hP hD hS => ?_)
  refine lv_aload_n hx hb dX7_open_19 rfl (lv_at hl 1 rfl) ?_
  refine gq_get hx hb ht hown hK hP i_X7 0 rfl rfl 1 (by decide) wd_235 rfl rfl dX7_open_20 ?_
  refine lv_iload_n hx hb dX7_open_23 rfl (lv_at hl 0 rfl) ?_
  refine lv_aload_n hx hb dX7_open_24 rfl (lv_at hl 2 rfl) ?_
  refine gq_get hx hb ht hown hK hP i_X9 10 rfl rfl 5 (by decide) wd_197 rfl rfl dX7_open_25 ?_
  refine lv_iload_n hx hb dX7_open_28 rfl (lv_at hl 0 rfl) ?_
  refine gq_iald hx hb hK hP 12 rfl 0 (by unfold vp_in; decide +kernel) rfl dX7_open_29 ?_
  refine gq_iast (ws' := [(t, .inr (7, [.ref s0, .ref s1, .ref s2, .ref s3, .ref s4, .ref s5, .ref s6, .ref s7, .ref s8, .int 0])), (s0, .inl (G.2.2 0, 5, .inl (fun _ => 0))), (s1, .inl (G.2.2 0, 5, .inl (fun _ => 0))), (s2, .inl (G.2.2 0, 5, .inl (fun _ => 0))), (s3, .inl (G.2.2 0, 5, .inl (fun _ => 0))), (s4, .inl (G.2.2 0, 3, .inl (fun _ => 0))), (s5, .inl (G.2.2 0, 3, .inl (fun _ => 0))), (s6, .inl (G.2.2 0, 3, .inl (fun _ => 0))), (s7, .inl (G.2.2 0, 3, .inl (fun _ => 0))), (s8, .inl (G.2.2 0, 3, .inl (fun _ => 0))), (tm, .inr (9, [.int 0, .int 0, .int 0, .int 0, .ref r0, .ref r1, .ref r2, .ref r3, .ref r4])), (r0, .inl (G.2.2 0, 5, .inl (fun _ => 0))), (r1, .inl (G.2.2 0, 5, .inl (fun _ => 0)))]) hx hb hK hP hD hS 2 rfl (fun _ => 0) (by unfold vp_in; decide +kernel) (up_z _ _) rfl dX7_open_30 (fun H locs hP hD hS => ?_)
  refine lv_aload_n hx hb dX7_open_31 rfl (lv_at hl 1 rfl) ?_
  refine gq_get hx hb ht hown hK hP i_X7 0 rfl rfl 2 (by decide) wd_239 rfl rfl dX7_open_32 ?_
  refine lv_iload_n hx hb dX7_open_35 rfl (lv_at hl 0 rfl) ?_
  refine lv_iconst (v := (-1)) hx hb dX7_open_36 (by decide) ?_
  obtain ⟨f_1, ef_1⟩ : ∃ z : Nat → Int32, upd (fun _ => 0) (Int32.toNatClampNeg 0) (-1) = z := ⟨_, rfl⟩
  refine gq_iast (ws' := [(t, .inr (7, [.ref s0, .ref s1, .ref s2, .ref s3, .ref s4, .ref s5, .ref s6, .ref s7, .ref s8, .int 0])), (s0, .inl (G.2.2 0, 5, .inl (fun _ => 0))), (s1, .inl (G.2.2 0, 5, .inl (fun _ => 0))), (s2, .inl (G.2.2 0, 5, .inl f_1)), (s3, .inl (G.2.2 0, 5, .inl (fun _ => 0))), (s4, .inl (G.2.2 0, 3, .inl (fun _ => 0))), (s5, .inl (G.2.2 0, 3, .inl (fun _ => 0))), (s6, .inl (G.2.2 0, 3, .inl (fun _ => 0))), (s7, .inl (G.2.2 0, 3, .inl (fun _ => 0))), (s8, .inl (G.2.2 0, 3, .inl (fun _ => 0))), (tm, .inr (9, [.int 0, .int 0, .int 0, .int 0, .ref r0, .ref r1, .ref r2, .ref r3, .ref r4])), (r0, .inl (G.2.2 0, 5, .inl (fun _ => 0))), (r1, .inl (G.2.2 0, 5, .inl (fun _ => 0)))]) hx hb hK hP hD hS 3 rfl f_1 (by unfold vp_in; decide +kernel) ef_1 rfl dX7_open_37 (fun H locs hP hD hS => ?_)
  refine lv_aload_n hx hb dX7_open_38 rfl (lv_at hl 1 rfl) ?_
  refine gq_get hx hb ht hown hK hP i_X7 0 rfl rfl 3 (by decide) wd_243 rfl rfl dX7_open_39 ?_
  refine lv_iload_n hx hb dX7_open_42 rfl (lv_at hl 0 rfl) ?_
  refine lv_iconst (v := 0) hx hb dX7_open_43 (by decide) ?_
  refine gq_iast (ws' := [(t, .inr (7, [.ref s0, .ref s1, .ref s2, .ref s3, .ref s4, .ref s5, .ref s6, .ref s7, .ref s8, .int 0])), (s0, .inl (G.2.2 0, 5, .inl (fun _ => 0))), (s1, .inl (G.2.2 0, 5, .inl (fun _ => 0))), (s2, .inl (G.2.2 0, 5, .inl f_1)), (s3, .inl (G.2.2 0, 5, .inl (fun _ => 0))), (s4, .inl (G.2.2 0, 3, .inl (fun _ => 0))), (s5, .inl (G.2.2 0, 3, .inl (fun _ => 0))), (s6, .inl (G.2.2 0, 3, .inl (fun _ => 0))), (s7, .inl (G.2.2 0, 3, .inl (fun _ => 0))), (s8, .inl (G.2.2 0, 3, .inl (fun _ => 0))), (tm, .inr (9, [.int 0, .int 0, .int 0, .int 0, .ref r0, .ref r1, .ref r2, .ref r3, .ref r4])), (r0, .inl (G.2.2 0, 5, .inl (fun _ => 0))), (r1, .inl (G.2.2 0, 5, .inl (fun _ => 0)))]) hx hb hK hP hD hS 4 rfl (fun _ => 0) (by unfold vp_in; decide +kernel) (up_z _ _) rfl dX7_open_44 (fun H locs hP hD hS => ?_)
  refine lv_iinc (v := 1) (lv' := [(2, .int 1), (0, .ref t), (1, .ref tm)]) hx hb dX7_open_45 hl (k := 0) rfl (by decide +kernel) (by decide) rfl (fun ls hl => ?_)
  refine lv_goto (tgt := 2) hx hb dX7_open_48 (by decide) ?_
  refine lv_iload_n hx hb dX7_open_2 rfl (lv_at hl 0 rfl) ?_
  refine lv_iconst (v := 5) hx hb dX7_open_3 (by decide) ?_
  refine lv_icmp_ge (tgt := 51) hx hb dX7_open_4 (by decide) (fun c0 => absurd c0 (by decide +kernel)) (fun _ => ?_)
  refine lv_aload_n hx hb dX7_open_7 rfl (lv_at hl 1 rfl) ?_
  refine gq_get hx hb ht hown hK hP i_X7 0 rfl rfl 0 (by decide) wd_231 rfl rfl dX7_open_8 ?_
  refine lv_iload_n hx hb dX7_open_11 rfl (lv_at hl 0 rfl) ?_
  refine lv_aload_n hx hb dX7_open_12 rfl (lv_at hl 2 rfl) ?_
  refine gq_get hx hb ht hown hK hP i_X9 10 rfl rfl 4 (by decide) wd_195 rfl rfl dX7_open_13 ?_
  refine lv_iload_n hx hb dX7_open_16 rfl (lv_at hl 0 rfl) ?_
  refine gq_iald hx hb hK hP 11 rfl 0 (by unfold vp_in; decide +kernel) rfl dX7_open_17 ?_
  refine gq_iast (ws' := [(t, .inr (7, [.ref s0, .ref s1, .ref s2, .ref s3, .ref s4, .ref s5, .ref s6, .ref s7, .ref s8, .int 0])), (s0, .inl (G.2.2 0, 5, .inl (fun _ => 0))), (s1, .inl (G.2.2 0, 5, .inl (fun _ => 0))), (s2, .inl (G.2.2 0, 5, .inl f_1)), (s3, .inl (G.2.2 0, 5, .inl (fun _ => 0))), (s4, .inl (G.2.2 0, 3, .inl (fun _ => 0))), (s5, .inl (G.2.2 0, 3, .inl (fun _ => 0))), (s6, .inl (G.2.2 0, 3, .inl (fun _ => 0))), (s7, .inl (G.2.2 0, 3, .inl (fun _ => 0))), (s8, .inl (G.2.2 0, 3, .inl (fun _ => 0))), (tm, .inr (9, [.int 0, .int 0, .int 0, .int 0, .ref r0, .ref r1, .ref r2, .ref r3, .ref r4])), (r0, .inl (G.2.2 0, 5, .inl (fun _ => 0))), (r1, .inl (G.2.2 0, 5, .inl (fun _ => 0)))]) hx hb hK hP hD hS 1 rfl (fun _ => 0) (by unfold vp_in; decide +kernel) (up_z _ _) rfl dX7_open_18 (fun H locs hP hD hS => ?_)
  refine lv_aload_n hx hb dX7_open_19 rfl (lv_at hl 1 rfl) ?_
  refine gq_get hx hb ht hown hK hP i_X7 0 rfl rfl 1 (by decide) wd_235 rfl rfl dX7_open_20 ?_
  refine lv_iload_n hx hb dX7_open_23 rfl (lv_at hl 0 rfl) ?_
  refine lv_aload_n hx hb dX7_open_24 rfl (lv_at hl 2 rfl) ?_
  refine gq_get hx hb ht hown hK hP i_X9 10 rfl rfl 5 (by decide) wd_197 rfl rfl dX7_open_25 ?_
  refine lv_iload_n hx hb dX7_open_28 rfl (lv_at hl 0 rfl) ?_
  refine gq_iald hx hb hK hP 12 rfl 0 (by unfold vp_in; decide +kernel) rfl dX7_open_29 ?_
  refine gq_iast (ws' := [(t, .inr (7, [.ref s0, .ref s1, .ref s2, .ref s3, .ref s4, .ref s5, .ref s6, .ref s7, .ref s8, .int 0])), (s0, .inl (G.2.2 0, 5, .inl (fun _ => 0))), (s1, .inl (G.2.2 0, 5, .inl (fun _ => 0))), (s2, .inl (G.2.2 0, 5, .inl f_1)), (s3, .inl (G.2.2 0, 5, .inl (fun _ => 0))), (s4, .inl (G.2.2 0, 3, .inl (fun _ => 0))), (s5, .inl (G.2.2 0, 3, .inl (fun _ => 0))), (s6, .inl (G.2.2 0, 3, .inl (fun _ => 0))), (s7, .inl (G.2.2 0, 3, .inl (fun _ => 0))), (s8, .inl (G.2.2 0, 3, .inl (fun _ => 0))), (tm, .inr (9, [.int 0, .int 0, .int 0, .int 0, .ref r0, .ref r1, .ref r2, .ref r3, .ref r4])), (r0, .inl (G.2.2 0, 5, .inl (fun _ => 0))), (r1, .inl (G.2.2 0, 5, .inl (fun _ => 0)))]) hx hb hK hP hD hS 2 rfl (fun _ => 0) (by unfold vp_in; decide +kernel) (up_z _ _) rfl dX7_open_30 (fun H locs hP hD hS => ?_)
  refine lv_aload_n hx hb dX7_open_31 rfl (lv_at hl 1 rfl) ?_
  refine gq_get hx hb ht hown hK hP i_X7 0 rfl rfl 2 (by decide) wd_239 rfl rfl dX7_open_32 ?_
  refine lv_iload_n hx hb dX7_open_35 rfl (lv_at hl 0 rfl) ?_
  refine lv_iconst (v := (-1)) hx hb dX7_open_36 (by decide) ?_
  obtain ⟨f_2, ef_2⟩ : ∃ z : Nat → Int32, upd f_1 (Int32.toNatClampNeg 1) (-1) = z := ⟨_, rfl⟩
  refine gq_iast (ws' := [(t, .inr (7, [.ref s0, .ref s1, .ref s2, .ref s3, .ref s4, .ref s5, .ref s6, .ref s7, .ref s8, .int 0])), (s0, .inl (G.2.2 0, 5, .inl (fun _ => 0))), (s1, .inl (G.2.2 0, 5, .inl (fun _ => 0))), (s2, .inl (G.2.2 0, 5, .inl f_2)), (s3, .inl (G.2.2 0, 5, .inl (fun _ => 0))), (s4, .inl (G.2.2 0, 3, .inl (fun _ => 0))), (s5, .inl (G.2.2 0, 3, .inl (fun _ => 0))), (s6, .inl (G.2.2 0, 3, .inl (fun _ => 0))), (s7, .inl (G.2.2 0, 3, .inl (fun _ => 0))), (s8, .inl (G.2.2 0, 3, .inl (fun _ => 0))), (tm, .inr (9, [.int 0, .int 0, .int 0, .int 0, .ref r0, .ref r1, .ref r2, .ref r3, .ref r4])), (r0, .inl (G.2.2 0, 5, .inl (fun _ => 0))), (r1, .inl (G.2.2 0, 5, .inl (fun _ => 0)))]) hx hb hK hP hD hS 3 rfl f_2 (by unfold vp_in; decide +kernel) ef_2 rfl dX7_open_37 (fun H locs hP hD hS => ?_)
  refine lv_aload_n hx hb dX7_open_38 rfl (lv_at hl 1 rfl) ?_
  refine gq_get hx hb ht hown hK hP i_X7 0 rfl rfl 3 (by decide) wd_243 rfl rfl dX7_open_39 ?_
  refine lv_iload_n hx hb dX7_open_42 rfl (lv_at hl 0 rfl) ?_
  refine lv_iconst (v := 0) hx hb dX7_open_43 (by decide) ?_
  refine gq_iast (ws' := [(t, .inr (7, [.ref s0, .ref s1, .ref s2, .ref s3, .ref s4, .ref s5, .ref s6, .ref s7, .ref s8, .int 0])), (s0, .inl (G.2.2 0, 5, .inl (fun _ => 0))), (s1, .inl (G.2.2 0, 5, .inl (fun _ => 0))), (s2, .inl (G.2.2 0, 5, .inl f_2)), (s3, .inl (G.2.2 0, 5, .inl (fun _ => 0))), (s4, .inl (G.2.2 0, 3, .inl (fun _ => 0))), (s5, .inl (G.2.2 0, 3, .inl (fun _ => 0))), (s6, .inl (G.2.2 0, 3, .inl (fun _ => 0))), (s7, .inl (G.2.2 0, 3, .inl (fun _ => 0))), (s8, .inl (G.2.2 0, 3, .inl (fun _ => 0))), (tm, .inr (9, [.int 0, .int 0, .int 0, .int 0, .ref r0, .ref r1, .ref r2, .ref r3, .ref r4])), (r0, .inl (G.2.2 0, 5, .inl (fun _ => 0))), (r1, .inl (G.2.2 0, 5, .inl (fun _ => 0)))]) hx hb hK hP hD hS 4 rfl (fun _ => 0) (by unfold vp_in; decide +kernel) (up_z _ _) rfl dX7_open_44 (fun H locs hP hD hS => ?_)
  refine lv_iinc (v := 2) (lv' := [(2, .int 2), (0, .ref t), (1, .ref tm)]) hx hb dX7_open_45 hl (k := 0) rfl (by decide +kernel) (by decide) rfl (fun ls hl => ?_)
  refine lv_goto (tgt := 2) hx hb dX7_open_48 (by decide) ?_
  refine lv_iload_n hx hb dX7_open_2 rfl (lv_at hl 0 rfl) ?_
  refine lv_iconst (v := 5) hx hb dX7_open_3 (by decide) ?_
  refine lv_icmp_ge (tgt := 51) hx hb dX7_open_4 (by decide) (fun c0 => absurd c0 (by decide +kernel)) (fun _ => ?_)
  refine lv_aload_n hx hb dX7_open_7 rfl (lv_at hl 1 rfl) ?_
  refine gq_get hx hb ht hown hK hP i_X7 0 rfl rfl 0 (by decide) wd_231 rfl rfl dX7_open_8 ?_
  refine lv_iload_n hx hb dX7_open_11 rfl (lv_at hl 0 rfl) ?_
  refine lv_aload_n hx hb dX7_open_12 rfl (lv_at hl 2 rfl) ?_
  refine gq_get hx hb ht hown hK hP i_X9 10 rfl rfl 4 (by decide) wd_195 rfl rfl dX7_open_13 ?_
  refine lv_iload_n hx hb dX7_open_16 rfl (lv_at hl 0 rfl) ?_
  refine gq_iald hx hb hK hP 11 rfl 0 (by unfold vp_in; decide +kernel) rfl dX7_open_17 ?_
  refine gq_iast (ws' := [(t, .inr (7, [.ref s0, .ref s1, .ref s2, .ref s3, .ref s4, .ref s5, .ref s6, .ref s7, .ref s8, .int 0])), (s0, .inl (G.2.2 0, 5, .inl (fun _ => 0))), (s1, .inl (G.2.2 0, 5, .inl (fun _ => 0))), (s2, .inl (G.2.2 0, 5, .inl f_2)), (s3, .inl (G.2.2 0, 5, .inl (fun _ => 0))), (s4, .inl (G.2.2 0, 3, .inl (fun _ => 0))), (s5, .inl (G.2.2 0, 3, .inl (fun _ => 0))), (s6, .inl (G.2.2 0, 3, .inl (fun _ => 0))), (s7, .inl (G.2.2 0, 3, .inl (fun _ => 0))), (s8, .inl (G.2.2 0, 3, .inl (fun _ => 0))), (tm, .inr (9, [.int 0, .int 0, .int 0, .int 0, .ref r0, .ref r1, .ref r2, .ref r3, .ref r4])), (r0, .inl (G.2.2 0, 5, .inl (fun _ => 0))), (r1, .inl (G.2.2 0, 5, .inl (fun _ => 0)))]) hx hb hK hP hD hS 1 rfl (fun _ => 0) (by unfold vp_in; decide +kernel) (up_z _ _) rfl dX7_open_18 (fun H locs hP hD hS => ?_)
  refine lv_aload_n hx hb dX7_open_19 rfl (lv_at hl 1 rfl) ?_
  refine gq_get hx hb ht hown hK hP i_X7 0 rfl rfl 1 (by decide) wd_235 rfl rfl dX7_open_20 ?_
  refine lv_iload_n hx hb dX7_open_23 rfl (lv_at hl 0 rfl) ?_
  refine lv_aload_n hx hb dX7_open_24 rfl (lv_at hl 2 rfl) ?_
  refine gq_get hx hb ht hown hK hP i_X9 10 rfl rfl 5 (by decide) wd_197 rfl rfl dX7_open_25 ?_
  refine lv_iload_n hx hb dX7_open_28 rfl (lv_at hl 0 rfl) ?_
  refine gq_iald hx hb hK hP 12 rfl 0 (by unfold vp_in; decide +kernel) rfl dX7_open_29 ?_
  refine gq_iast (ws' := [(t, .inr (7, [.ref s0, .ref s1, .ref s2, .ref s3, .ref s4, .ref s5, .ref s6, .ref s7, .ref s8, .int 0])), (s0, .inl (G.2.2 0, 5, .inl (fun _ => 0))), (s1, .inl (G.2.2 0, 5, .inl (fun _ => 0))), (s2, .inl (G.2.2 0, 5, .inl f_2)), (s3, .inl (G.2.2 0, 5, .inl (fun _ => 0))), (s4, .inl (G.2.2 0, 3, .inl (fun _ => 0))), (s5, .inl (G.2.2 0, 3, .inl (fun _ => 0))), (s6, .inl (G.2.2 0, 3, .inl (fun _ => 0))), (s7, .inl (G.2.2 0, 3, .inl (fun _ => 0))), (s8, .inl (G.2.2 0, 3, .inl (fun _ => 0))), (tm, .inr (9, [.int 0, .int 0, .int 0, .int 0, .ref r0, .ref r1, .ref r2, .ref r3, .ref r4])), (r0, .inl (G.2.2 0, 5, .inl (fun _ => 0))), (r1, .inl (G.2.2 0, 5, .inl (fun _ => 0)))]) hx hb hK hP hD hS 2 rfl (fun _ => 0) (by unfold vp_in; decide +kernel) (up_z _ _) rfl dX7_open_30 (fun H locs hP hD hS => ?_)
  refine lv_aload_n hx hb dX7_open_31 rfl (lv_at hl 1 rfl) ?_
  refine gq_get hx hb ht hown hK hP i_X7 0 rfl rfl 2 (by decide) wd_239 rfl rfl dX7_open_32 ?_
  refine lv_iload_n hx hb dX7_open_35 rfl (lv_at hl 0 rfl) ?_
  refine lv_iconst (v := (-1)) hx hb dX7_open_36 (by decide) ?_
  obtain ⟨f_3, ef_3⟩ : ∃ z : Nat → Int32, upd f_2 (Int32.toNatClampNeg 2) (-1) = z := ⟨_, rfl⟩
  refine gq_iast (ws' := [(t, .inr (7, [.ref s0, .ref s1, .ref s2, .ref s3, .ref s4, .ref s5, .ref s6, .ref s7, .ref s8, .int 0])), (s0, .inl (G.2.2 0, 5, .inl (fun _ => 0))), (s1, .inl (G.2.2 0, 5, .inl (fun _ => 0))), (s2, .inl (G.2.2 0, 5, .inl f_3)), (s3, .inl (G.2.2 0, 5, .inl (fun _ => 0))), (s4, .inl (G.2.2 0, 3, .inl (fun _ => 0))), (s5, .inl (G.2.2 0, 3, .inl (fun _ => 0))), (s6, .inl (G.2.2 0, 3, .inl (fun _ => 0))), (s7, .inl (G.2.2 0, 3, .inl (fun _ => 0))), (s8, .inl (G.2.2 0, 3, .inl (fun _ => 0))), (tm, .inr (9, [.int 0, .int 0, .int 0, .int 0, .ref r0, .ref r1, .ref r2, .ref r3, .ref r4])), (r0, .inl (G.2.2 0, 5, .inl (fun _ => 0))), (r1, .inl (G.2.2 0, 5, .inl (fun _ => 0)))]) hx hb hK hP hD hS 3 rfl f_3 (by unfold vp_in; decide +kernel) ef_3 rfl dX7_open_37 (fun H locs hP hD hS => ?_)
  refine lv_aload_n hx hb dX7_open_38 rfl (lv_at hl 1 rfl) ?_
  refine gq_get hx hb ht hown hK hP i_X7 0 rfl rfl 3 (by decide) wd_243 rfl rfl dX7_open_39 ?_
  refine lv_iload_n hx hb dX7_open_42 rfl (lv_at hl 0 rfl) ?_
  refine lv_iconst (v := 0) hx hb dX7_open_43 (by decide) ?_
  refine gq_iast (ws' := [(t, .inr (7, [.ref s0, .ref s1, .ref s2, .ref s3, .ref s4, .ref s5, .ref s6, .ref s7, .ref s8, .int 0])), (s0, .inl (G.2.2 0, 5, .inl (fun _ => 0))), (s1, .inl (G.2.2 0, 5, .inl (fun _ => 0))), (s2, .inl (G.2.2 0, 5, .inl f_3)), (s3, .inl (G.2.2 0, 5, .inl (fun _ => 0))), (s4, .inl (G.2.2 0, 3, .inl (fun _ => 0))), (s5, .inl (G.2.2 0, 3, .inl (fun _ => 0))), (s6, .inl (G.2.2 0, 3, .inl (fun _ => 0))), (s7, .inl (G.2.2 0, 3, .inl (fun _ => 0))), (s8, .inl (G.2.2 0, 3, .inl (fun _ => 0))), (tm, .inr (9, [.int 0, .int 0, .int 0, .int 0, .ref r0, .ref r1, .ref r2, .ref r3, .ref r4])), (r0, .inl (G.2.2 0, 5, .inl (fun _ => 0))), (r1, .inl (G.2.2 0, 5, .inl (fun _ => 0)))]) hx hb hK hP hD hS 4 rfl (fun _ => 0) (by unfold vp_in; decide +kernel) (up_z _ _) rfl dX7_open_44 (fun H locs hP hD hS => ?_)
  refine lv_iinc (v := 3) (lv' := [(2, .int 3), (0, .ref t), (1, .ref tm)]) hx hb dX7_open_45 hl (k := 0) rfl (by decide +kernel) (by decide) rfl (fun ls hl => ?_)
  refine lv_goto (tgt := 2) hx hb dX7_open_48 (by decide) ?_
  refine lv_iload_n hx hb dX7_open_2 rfl (lv_at hl 0 rfl) ?_
  refine lv_iconst (v := 5) hx hb dX7_open_3 (by decide) ?_
  refine lv_icmp_ge (tgt := 51) hx hb dX7_open_4 (by decide) (fun c0 => absurd c0 (by decide +kernel)) (fun _ => ?_)
  refine lv_aload_n hx hb dX7_open_7 rfl (lv_at hl 1 rfl) ?_
  refine gq_get hx hb ht hown hK hP i_X7 0 rfl rfl 0 (by decide) wd_231 rfl rfl dX7_open_8 ?_
  refine lv_iload_n hx hb dX7_open_11 rfl (lv_at hl 0 rfl) ?_
  refine lv_aload_n hx hb dX7_open_12 rfl (lv_at hl 2 rfl) ?_
  refine gq_get hx hb ht hown hK hP i_X9 10 rfl rfl 4 (by decide) wd_195 rfl rfl dX7_open_13 ?_
  refine lv_iload_n hx hb dX7_open_16 rfl (lv_at hl 0 rfl) ?_
  refine gq_iald hx hb hK hP 11 rfl 0 (by unfold vp_in; decide +kernel) rfl dX7_open_17 ?_
  refine gq_iast (ws' := [(t, .inr (7, [.ref s0, .ref s1, .ref s2, .ref s3, .ref s4, .ref s5, .ref s6, .ref s7, .ref s8, .int 0])), (s0, .inl (G.2.2 0, 5, .inl (fun _ => 0))), (s1, .inl (G.2.2 0, 5, .inl (fun _ => 0))), (s2, .inl (G.2.2 0, 5, .inl f_3)), (s3, .inl (G.2.2 0, 5, .inl (fun _ => 0))), (s4, .inl (G.2.2 0, 3, .inl (fun _ => 0))), (s5, .inl (G.2.2 0, 3, .inl (fun _ => 0))), (s6, .inl (G.2.2 0, 3, .inl (fun _ => 0))), (s7, .inl (G.2.2 0, 3, .inl (fun _ => 0))), (s8, .inl (G.2.2 0, 3, .inl (fun _ => 0))), (tm, .inr (9, [.int 0, .int 0, .int 0, .int 0, .ref r0, .ref r1, .ref r2, .ref r3, .ref r4])), (r0, .inl (G.2.2 0, 5, .inl (fun _ => 0))), (r1, .inl (G.2.2 0, 5, .inl (fun _ => 0)))]) hx hb hK hP hD hS 1 rfl (fun _ => 0) (by unfold vp_in; decide +kernel) (up_z _ _) rfl dX7_open_18 (fun H locs hP hD hS => ?_)
  refine lv_aload_n hx hb dX7_open_19 rfl (lv_at hl 1 rfl) ?_
  refine gq_get hx hb ht hown hK hP i_X7 0 rfl rfl 1 (by decide) wd_235 rfl rfl dX7_open_20 ?_
  refine lv_iload_n hx hb dX7_open_23 rfl (lv_at hl 0 rfl) ?_
  refine lv_aload_n hx hb dX7_open_24 rfl (lv_at hl 2 rfl) ?_
  refine gq_get hx hb ht hown hK hP i_X9 10 rfl rfl 5 (by decide) wd_197 rfl rfl dX7_open_25 ?_
  refine lv_iload_n hx hb dX7_open_28 rfl (lv_at hl 0 rfl) ?_
  refine gq_iald hx hb hK hP 12 rfl 0 (by unfold vp_in; decide +kernel) rfl dX7_open_29 ?_
  refine gq_iast (ws' := [(t, .inr (7, [.ref s0, .ref s1, .ref s2, .ref s3, .ref s4, .ref s5, .ref s6, .ref s7, .ref s8, .int 0])), (s0, .inl (G.2.2 0, 5, .inl (fun _ => 0))), (s1, .inl (G.2.2 0, 5, .inl (fun _ => 0))), (s2, .inl (G.2.2 0, 5, .inl f_3)), (s3, .inl (G.2.2 0, 5, .inl (fun _ => 0))), (s4, .inl (G.2.2 0, 3, .inl (fun _ => 0))), (s5, .inl (G.2.2 0, 3, .inl (fun _ => 0))), (s6, .inl (G.2.2 0, 3, .inl (fun _ => 0))), (s7, .inl (G.2.2 0, 3, .inl (fun _ => 0))), (s8, .inl (G.2.2 0, 3, .inl (fun _ => 0))), (tm, .inr (9, [.int 0, .int 0, .int 0, .int 0, .ref r0, .ref r1, .ref r2, .ref r3, .ref r4])), (r0, .inl (G.2.2 0, 5, .inl (fun _ => 0))), (r1, .inl (G.2.2 0, 5, .inl (fun _ => 0)))]) hx hb hK hP hD hS 2 rfl (fun _ => 0) (by unfold vp_in; decide +kernel) (up_z _ _) rfl dX7_open_30 (fun H locs hP hD hS => ?_)
  refine lv_aload_n hx hb dX7_open_31 rfl (lv_at hl 1 rfl) ?_
  refine gq_get hx hb ht hown hK hP i_X7 0 rfl rfl 2 (by decide) wd_239 rfl rfl dX7_open_32 ?_
  refine lv_iload_n hx hb dX7_open_35 rfl (lv_at hl 0 rfl) ?_
  refine lv_iconst (v := (-1)) hx hb dX7_open_36 (by decide) ?_
  obtain ⟨f_4, ef_4⟩ : ∃ z : Nat → Int32, upd f_3 (Int32.toNatClampNeg 3) (-1) = z := ⟨_, rfl⟩
  refine gq_iast (ws' := [(t, .inr (7, [.ref s0, .ref s1, .ref s2, .ref s3, .ref s4, .ref s5, .ref s6, .ref s7, .ref s8, .int 0])), (s0, .inl (G.2.2 0, 5, .inl (fun _ => 0))), (s1, .inl (G.2.2 0, 5, .inl (fun _ => 0))), (s2, .inl (G.2.2 0, 5, .inl f_4)), (s3, .inl (G.2.2 0, 5, .inl (fun _ => 0))), (s4, .inl (G.2.2 0, 3, .inl (fun _ => 0))), (s5, .inl (G.2.2 0, 3, .inl (fun _ => 0))), (s6, .inl (G.2.2 0, 3, .inl (fun _ => 0))), (s7, .inl (G.2.2 0, 3, .inl (fun _ => 0))), (s8, .inl (G.2.2 0, 3, .inl (fun _ => 0))), (tm, .inr (9, [.int 0, .int 0, .int 0, .int 0, .ref r0, .ref r1, .ref r2, .ref r3, .ref r4])), (r0, .inl (G.2.2 0, 5, .inl (fun _ => 0))), (r1, .inl (G.2.2 0, 5, .inl (fun _ => 0)))]) hx hb hK hP hD hS 3 rfl f_4 (by unfold vp_in; decide +kernel) ef_4 rfl dX7_open_37 (fun H locs hP hD hS => ?_)
  refine lv_aload_n hx hb dX7_open_38 rfl (lv_at hl 1 rfl) ?_
  refine gq_get hx hb ht hown hK hP i_X7 0 rfl rfl 3 (by decide) wd_243 rfl rfl dX7_open_39 ?_
  refine lv_iload_n hx hb dX7_open_42 rfl (lv_at hl 0 rfl) ?_
  refine lv_iconst (v := 0) hx hb dX7_open_43 (by decide) ?_
  refine gq_iast (ws' := [(t, .inr (7, [.ref s0, .ref s1, .ref s2, .ref s3, .ref s4, .ref s5, .ref s6, .ref s7, .ref s8, .int 0])), (s0, .inl (G.2.2 0, 5, .inl (fun _ => 0))), (s1, .inl (G.2.2 0, 5, .inl (fun _ => 0))), (s2, .inl (G.2.2 0, 5, .inl f_4)), (s3, .inl (G.2.2 0, 5, .inl (fun _ => 0))), (s4, .inl (G.2.2 0, 3, .inl (fun _ => 0))), (s5, .inl (G.2.2 0, 3, .inl (fun _ => 0))), (s6, .inl (G.2.2 0, 3, .inl (fun _ => 0))), (s7, .inl (G.2.2 0, 3, .inl (fun _ => 0))), (s8, .inl (G.2.2 0, 3, .inl (fun _ => 0))), (tm, .inr (9, [.int 0, .int 0, .int 0, .int 0, .ref r0, .ref r1, .ref r2, .ref r3, .ref r4])), (r0, .inl (G.2.2 0, 5, .inl (fun _ => 0))), (r1, .inl (G.2.2 0, 5, .inl (fun _ => 0)))]) hx hb hK hP hD hS 4 rfl (fun _ => 0) (by unfold vp_in; decide +kernel) (up_z _ _) rfl dX7_open_44 (fun H locs hP hD hS => ?_)
  refine lv_iinc (v := 4) (lv' := [(2, .int 4), (0, .ref t), (1, .ref tm)]) hx hb dX7_open_45 hl (k := 0) rfl (by decide +kernel) (by decide) rfl (fun ls hl => ?_)
  refine lv_goto (tgt := 2) hx hb dX7_open_48 (by decide) ?_
  refine lv_iload_n hx hb dX7_open_2 rfl (lv_at hl 0 rfl) ?_
  refine lv_iconst (v := 5) hx hb dX7_open_3 (by decide) ?_
  refine lv_icmp_ge (tgt := 51) hx hb dX7_open_4 (by decide) (fun c0 => absurd c0 (by decide +kernel)) (fun _ => ?_)
  refine lv_aload_n hx hb dX7_open_7 rfl (lv_at hl 1 rfl) ?_
  refine gq_get hx hb ht hown hK hP i_X7 0 rfl rfl 0 (by decide) wd_231 rfl rfl dX7_open_8 ?_
  refine lv_iload_n hx hb dX7_open_11 rfl (lv_at hl 0 rfl) ?_
  refine lv_aload_n hx hb dX7_open_12 rfl (lv_at hl 2 rfl) ?_
  refine gq_get hx hb ht hown hK hP i_X9 10 rfl rfl 4 (by decide) wd_195 rfl rfl dX7_open_13 ?_
  refine lv_iload_n hx hb dX7_open_16 rfl (lv_at hl 0 rfl) ?_
  refine gq_iald hx hb hK hP 11 rfl 0 (by unfold vp_in; decide +kernel) rfl dX7_open_17 ?_
  refine gq_iast (ws' := [(t, .inr (7, [.ref s0, .ref s1, .ref s2, .ref s3, .ref s4, .ref s5, .ref s6, .ref s7, .ref s8, .int 0])), (s0, .inl (G.2.2 0, 5, .inl (fun _ => 0))), (s1, .inl (G.2.2 0, 5, .inl (fun _ => 0))), (s2, .inl (G.2.2 0, 5, .inl f_4)), (s3, .inl (G.2.2 0, 5, .inl (fun _ => 0))), (s4, .inl (G.2.2 0, 3, .inl (fun _ => 0))), (s5, .inl (G.2.2 0, 3, .inl (fun _ => 0))), (s6, .inl (G.2.2 0, 3, .inl (fun _ => 0))), (s7, .inl (G.2.2 0, 3, .inl (fun _ => 0))), (s8, .inl (G.2.2 0, 3, .inl (fun _ => 0))), (tm, .inr (9, [.int 0, .int 0, .int 0, .int 0, .ref r0, .ref r1, .ref r2, .ref r3, .ref r4])), (r0, .inl (G.2.2 0, 5, .inl (fun _ => 0))), (r1, .inl (G.2.2 0, 5, .inl (fun _ => 0)))]) hx hb hK hP hD hS 1 rfl (fun _ => 0) (by unfold vp_in; decide +kernel) (up_z _ _) rfl dX7_open_18 (fun H locs hP hD hS => ?_)
  refine lv_aload_n hx hb dX7_open_19 rfl (lv_at hl 1 rfl) ?_
  refine gq_get hx hb ht hown hK hP i_X7 0 rfl rfl 1 (by decide) wd_235 rfl rfl dX7_open_20 ?_
  refine lv_iload_n hx hb dX7_open_23 rfl (lv_at hl 0 rfl) ?_
  refine lv_aload_n hx hb dX7_open_24 rfl (lv_at hl 2 rfl) ?_
  refine gq_get hx hb ht hown hK hP i_X9 10 rfl rfl 5 (by decide) wd_197 rfl rfl dX7_open_25 ?_
  refine lv_iload_n hx hb dX7_open_28 rfl (lv_at hl 0 rfl) ?_
  refine gq_iald hx hb hK hP 12 rfl 0 (by unfold vp_in; decide +kernel) rfl dX7_open_29 ?_
  refine gq_iast (ws' := [(t, .inr (7, [.ref s0, .ref s1, .ref s2, .ref s3, .ref s4, .ref s5, .ref s6, .ref s7, .ref s8, .int 0])), (s0, .inl (G.2.2 0, 5, .inl (fun _ => 0))), (s1, .inl (G.2.2 0, 5, .inl (fun _ => 0))), (s2, .inl (G.2.2 0, 5, .inl f_4)), (s3, .inl (G.2.2 0, 5, .inl (fun _ => 0))), (s4, .inl (G.2.2 0, 3, .inl (fun _ => 0))), (s5, .inl (G.2.2 0, 3, .inl (fun _ => 0))), (s6, .inl (G.2.2 0, 3, .inl (fun _ => 0))), (s7, .inl (G.2.2 0, 3, .inl (fun _ => 0))), (s8, .inl (G.2.2 0, 3, .inl (fun _ => 0))), (tm, .inr (9, [.int 0, .int 0, .int 0, .int 0, .ref r0, .ref r1, .ref r2, .ref r3, .ref r4])), (r0, .inl (G.2.2 0, 5, .inl (fun _ => 0))), (r1, .inl (G.2.2 0, 5, .inl (fun _ => 0)))]) hx hb hK hP hD hS 2 rfl (fun _ => 0) (by unfold vp_in; decide +kernel) (up_z _ _) rfl dX7_open_30 (fun H locs hP hD hS => ?_)
  refine lv_aload_n hx hb dX7_open_31 rfl (lv_at hl 1 rfl) ?_
  refine gq_get hx hb ht hown hK hP i_X7 0 rfl rfl 2 (by decide) wd_239 rfl rfl dX7_open_32 ?_
  refine lv_iload_n hx hb dX7_open_35 rfl (lv_at hl 0 rfl) ?_
  refine lv_iconst (v := (-1)) hx hb dX7_open_36 (by decide) ?_
  obtain ⟨f_5, ef_5⟩ : ∃ z : Nat → Int32, upd f_4 (Int32.toNatClampNeg 4) (-1) = z := ⟨_, rfl⟩
  refine gq_iast (ws' := [(t, .inr (7, [.ref s0, .ref s1, .ref s2, .ref s3, .ref s4, .ref s5, .ref s6, .ref s7, .ref s8, .int 0])), (s0, .inl (G.2.2 0, 5, .inl (fun _ => 0))), (s1, .inl (G.2.2 0, 5, .inl (fun _ => 0))), (s2, .inl (G.2.2 0, 5, .inl f_5)), (s3, .inl (G.2.2 0, 5, .inl (fun _ => 0))), (s4, .inl (G.2.2 0, 3, .inl (fun _ => 0))), (s5, .inl (G.2.2 0, 3, .inl (fun _ => 0))), (s6, .inl (G.2.2 0, 3, .inl (fun _ => 0))), (s7, .inl (G.2.2 0, 3, .inl (fun _ => 0))), (s8, .inl (G.2.2 0, 3, .inl (fun _ => 0))), (tm, .inr (9, [.int 0, .int 0, .int 0, .int 0, .ref r0, .ref r1, .ref r2, .ref r3, .ref r4])), (r0, .inl (G.2.2 0, 5, .inl (fun _ => 0))), (r1, .inl (G.2.2 0, 5, .inl (fun _ => 0)))]) hx hb hK hP hD hS 3 rfl f_5 (by unfold vp_in; decide +kernel) ef_5 rfl dX7_open_37 (fun H locs hP hD hS => ?_)
  refine lv_aload_n hx hb dX7_open_38 rfl (lv_at hl 1 rfl) ?_
  refine gq_get hx hb ht hown hK hP i_X7 0 rfl rfl 3 (by decide) wd_243 rfl rfl dX7_open_39 ?_
  refine lv_iload_n hx hb dX7_open_42 rfl (lv_at hl 0 rfl) ?_
  refine lv_iconst (v := 0) hx hb dX7_open_43 (by decide) ?_
  refine gq_iast (ws' := [(t, .inr (7, [.ref s0, .ref s1, .ref s2, .ref s3, .ref s4, .ref s5, .ref s6, .ref s7, .ref s8, .int 0])), (s0, .inl (G.2.2 0, 5, .inl (fun _ => 0))), (s1, .inl (G.2.2 0, 5, .inl (fun _ => 0))), (s2, .inl (G.2.2 0, 5, .inl f_5)), (s3, .inl (G.2.2 0, 5, .inl (fun _ => 0))), (s4, .inl (G.2.2 0, 3, .inl (fun _ => 0))), (s5, .inl (G.2.2 0, 3, .inl (fun _ => 0))), (s6, .inl (G.2.2 0, 3, .inl (fun _ => 0))), (s7, .inl (G.2.2 0, 3, .inl (fun _ => 0))), (s8, .inl (G.2.2 0, 3, .inl (fun _ => 0))), (tm, .inr (9, [.int 0, .int 0, .int 0, .int 0, .ref r0, .ref r1, .ref r2, .ref r3, .ref r4])), (r0, .inl (G.2.2 0, 5, .inl (fun _ => 0))), (r1, .inl (G.2.2 0, 5, .inl (fun _ => 0)))]) hx hb hK hP hD hS 4 rfl (fun _ => 0) (by unfold vp_in; decide +kernel) (up_z _ _) rfl dX7_open_44 (fun H locs hP hD hS => ?_)
  refine lv_iinc (v := 5) (lv' := [(2, .int 5), (0, .ref t), (1, .ref tm)]) hx hb dX7_open_45 hl (k := 0) rfl (by decide +kernel) (by decide) rfl (fun ls hl => ?_)
  refine lv_goto (tgt := 2) hx hb dX7_open_48 (by decide) ?_
  refine lv_iload_n hx hb dX7_open_2 rfl (lv_at hl 0 rfl) ?_
  refine lv_iconst (v := 5) hx hb dX7_open_3 (by decide) ?_
  refine lv_icmp_ge (tgt := 51) hx hb dX7_open_4 (by decide) (fun _ => ?_) (fun c0 => absurd (by decide +kernel) c0)
  refine lv_iconst (v := 0) hx hb dX7_open_51 (by decide) ?_
  refine lv_istore_n (lv' := [(2, .int 0), (0, .ref t), (1, .ref tm)]) hx hb dX7_open_52 rfl hl (by decide) rfl (fun ls hl => ?_)
  refine lv_iload_n hx hb dX7_open_53 rfl (lv_at hl 0 rfl) ?_
  refine lv_iconst (v := 3) hx hb dX7_open_54 (by decide) ?_
  refine lv_icmp_ge (tgt := 99) hx hb dX7_open_55 (by decide) (fun c0 => absurd c0 (by decide +kernel)) (fun _ => ?_)
  refine lv_aload_n hx hb dX7_open_58 rfl (lv_at hl 1 rfl) ?_
  refine gq_get hx hb ht hown hK hP i_X7 0 rfl rfl 4 (by decide) wd_246 rfl rfl dX7_open_59 ?_
  refine lv_iload_n hx hb dX7_open_62 rfl (lv_at hl 0 rfl) ?_
  refine lv_iconst (v := 0) hx hb dX7_open_63 (by decide) ?_
  refine gq_iast (ws' := [(t, .inr (7, [.ref s0, .ref s1, .ref s2, .ref s3, .ref s4, .ref s5, .ref s6, .ref s7, .ref s8, .int 0])), (s0, .inl (G.2.2 0, 5, .inl (fun _ => 0))), (s1, .inl (G.2.2 0, 5, .inl (fun _ => 0))), (s2, .inl (G.2.2 0, 5, .inl f_5)), (s3, .inl (G.2.2 0, 5, .inl (fun _ => 0))), (s4, .inl (G.2.2 0, 3, .inl (fun _ => 0))), (s5, .inl (G.2.2 0, 3, .inl (fun _ => 0))), (s6, .inl (G.2.2 0, 3, .inl (fun _ => 0))), (s7, .inl (G.2.2 0, 3, .inl (fun _ => 0))), (s8, .inl (G.2.2 0, 3, .inl (fun _ => 0))), (tm, .inr (9, [.int 0, .int 0, .int 0, .int 0, .ref r0, .ref r1, .ref r2, .ref r3, .ref r4])), (r0, .inl (G.2.2 0, 5, .inl (fun _ => 0))), (r1, .inl (G.2.2 0, 5, .inl (fun _ => 0)))]) hx hb hK hP hD hS 5 rfl (fun _ => 0) (by unfold vp_in; decide +kernel) (up_z _ _) rfl dX7_open_64 (fun H locs hP hD hS => ?_)
  refine lv_aload_n hx hb dX7_open_65 rfl (lv_at hl 1 rfl) ?_
  refine gq_get hx hb ht hown hK hP i_X7 0 rfl rfl 5 (by decide) wd_250 rfl rfl dX7_open_66 ?_
  refine lv_iload_n hx hb dX7_open_69 rfl (lv_at hl 0 rfl) ?_
  refine lv_iconst (v := 0) hx hb dX7_open_70 (by decide) ?_
  refine gq_iast (ws' := [(t, .inr (7, [.ref s0, .ref s1, .ref s2, .ref s3, .ref s4, .ref s5, .ref s6, .ref s7, .ref s8, .int 0])), (s0, .inl (G.2.2 0, 5, .inl (fun _ => 0))), (s1, .inl (G.2.2 0, 5, .inl (fun _ => 0))), (s2, .inl (G.2.2 0, 5, .inl f_5)), (s3, .inl (G.2.2 0, 5, .inl (fun _ => 0))), (s4, .inl (G.2.2 0, 3, .inl (fun _ => 0))), (s5, .inl (G.2.2 0, 3, .inl (fun _ => 0))), (s6, .inl (G.2.2 0, 3, .inl (fun _ => 0))), (s7, .inl (G.2.2 0, 3, .inl (fun _ => 0))), (s8, .inl (G.2.2 0, 3, .inl (fun _ => 0))), (tm, .inr (9, [.int 0, .int 0, .int 0, .int 0, .ref r0, .ref r1, .ref r2, .ref r3, .ref r4])), (r0, .inl (G.2.2 0, 5, .inl (fun _ => 0))), (r1, .inl (G.2.2 0, 5, .inl (fun _ => 0)))]) hx hb hK hP hD hS 6 rfl (fun _ => 0) (by unfold vp_in; decide +kernel) (up_z _ _) rfl dX7_open_71 (fun H locs hP hD hS => ?_)
  refine lv_aload_n hx hb dX7_open_72 rfl (lv_at hl 1 rfl) ?_
  refine gq_get hx hb ht hown hK hP i_X7 0 rfl rfl 6 (by decide) wd_254 rfl rfl dX7_open_73 ?_
  refine lv_iload_n hx hb dX7_open_76 rfl (lv_at hl 0 rfl) ?_
  refine lv_iconst (v := (-1)) hx hb dX7_open_77 (by decide) ?_
  obtain ⟨f_6, ef_6⟩ : ∃ z : Nat → Int32, upd (fun _ => 0) (Int32.toNatClampNeg 0) (-1) = z := ⟨_, rfl⟩
  refine gq_iast (ws' := [(t, .inr (7, [.ref s0, .ref s1, .ref s2, .ref s3, .ref s4, .ref s5, .ref s6, .ref s7, .ref s8, .int 0])), (s0, .inl (G.2.2 0, 5, .inl (fun _ => 0))), (s1, .inl (G.2.2 0, 5, .inl (fun _ => 0))), (s2, .inl (G.2.2 0, 5, .inl f_5)), (s3, .inl (G.2.2 0, 5, .inl (fun _ => 0))), (s4, .inl (G.2.2 0, 3, .inl (fun _ => 0))), (s5, .inl (G.2.2 0, 3, .inl (fun _ => 0))), (s6, .inl (G.2.2 0, 3, .inl f_6)), (s7, .inl (G.2.2 0, 3, .inl (fun _ => 0))), (s8, .inl (G.2.2 0, 3, .inl (fun _ => 0))), (tm, .inr (9, [.int 0, .int 0, .int 0, .int 0, .ref r0, .ref r1, .ref r2, .ref r3, .ref r4])), (r0, .inl (G.2.2 0, 5, .inl (fun _ => 0))), (r1, .inl (G.2.2 0, 5, .inl (fun _ => 0)))]) hx hb hK hP hD hS 7 rfl f_6 (by unfold vp_in; decide +kernel) ef_6 rfl dX7_open_78 (fun H locs hP hD hS => ?_)
  refine lv_aload_n hx hb dX7_open_79 rfl (lv_at hl 1 rfl) ?_
  refine gq_get hx hb ht hown hK hP i_X7 0 rfl rfl 7 (by decide) wd_258 rfl rfl dX7_open_80 ?_
  refine lv_iload_n hx hb dX7_open_83 rfl (lv_at hl 0 rfl) ?_
  refine lv_iconst (v := 0) hx hb dX7_open_84 (by decide) ?_
  refine gq_iast (ws' := [(t, .inr (7, [.ref s0, .ref s1, .ref s2, .ref s3, .ref s4, .ref s5, .ref s6, .ref s7, .ref s8, .int 0])), (s0, .inl (G.2.2 0, 5, .inl (fun _ => 0))), (s1, .inl (G.2.2 0, 5, .inl (fun _ => 0))), (s2, .inl (G.2.2 0, 5, .inl f_5)), (s3, .inl (G.2.2 0, 5, .inl (fun _ => 0))), (s4, .inl (G.2.2 0, 3, .inl (fun _ => 0))), (s5, .inl (G.2.2 0, 3, .inl (fun _ => 0))), (s6, .inl (G.2.2 0, 3, .inl f_6)), (s7, .inl (G.2.2 0, 3, .inl (fun _ => 0))), (s8, .inl (G.2.2 0, 3, .inl (fun _ => 0))), (tm, .inr (9, [.int 0, .int 0, .int 0, .int 0, .ref r0, .ref r1, .ref r2, .ref r3, .ref r4])), (r0, .inl (G.2.2 0, 5, .inl (fun _ => 0))), (r1, .inl (G.2.2 0, 5, .inl (fun _ => 0)))]) hx hb hK hP hD hS 8 rfl (fun _ => 0) (by unfold vp_in; decide +kernel) (up_z _ _) rfl dX7_open_85 (fun H locs hP hD hS => ?_)
  refine lv_aload_n hx hb dX7_open_86 rfl (lv_at hl 1 rfl) ?_
  refine gq_get hx hb ht hown hK hP i_X7 0 rfl rfl 8 (by decide) wd_261 rfl rfl dX7_open_87 ?_
  refine lv_iload_n hx hb dX7_open_90 rfl (lv_at hl 0 rfl) ?_
  refine lv_iconst (v := 0) hx hb dX7_open_91 (by decide) ?_
  refine gq_iast (ws' := [(t, .inr (7, [.ref s0, .ref s1, .ref s2, .ref s3, .ref s4, .ref s5, .ref s6, .ref s7, .ref s8, .int 0])), (s0, .inl (G.2.2 0, 5, .inl (fun _ => 0))), (s1, .inl (G.2.2 0, 5, .inl (fun _ => 0))), (s2, .inl (G.2.2 0, 5, .inl f_5)), (s3, .inl (G.2.2 0, 5, .inl (fun _ => 0))), (s4, .inl (G.2.2 0, 3, .inl (fun _ => 0))), (s5, .inl (G.2.2 0, 3, .inl (fun _ => 0))), (s6, .inl (G.2.2 0, 3, .inl f_6)), (s7, .inl (G.2.2 0, 3, .inl (fun _ => 0))), (s8, .inl (G.2.2 0, 3, .inl (fun _ => 0))), (tm, .inr (9, [.int 0, .int 0, .int 0, .int 0, .ref r0, .ref r1, .ref r2, .ref r3, .ref r4])), (r0, .inl (G.2.2 0, 5, .inl (fun _ => 0))), (r1, .inl (G.2.2 0, 5, .inl (fun _ => 0)))]) hx hb hK hP hD hS 9 rfl (fun _ => 0) (by unfold vp_in; decide +kernel) (up_z _ _) rfl dX7_open_92 (fun H locs hP hD hS => ?_)
  refine lv_iinc (v := 1) (lv' := [(2, .int 1), (0, .ref t), (1, .ref tm)]) hx hb dX7_open_93 hl (k := 0) rfl (by decide +kernel) (by decide) rfl (fun ls hl => ?_)
  refine lv_goto (tgt := 53) hx hb dX7_open_96 (by decide) ?_
  refine lv_iload_n hx hb dX7_open_53 rfl (lv_at hl 0 rfl) ?_
  refine lv_iconst (v := 3) hx hb dX7_open_54 (by decide) ?_
  refine lv_icmp_ge (tgt := 99) hx hb dX7_open_55 (by decide) (fun c0 => absurd c0 (by decide +kernel)) (fun _ => ?_)
  refine lv_aload_n hx hb dX7_open_58 rfl (lv_at hl 1 rfl) ?_
  refine gq_get hx hb ht hown hK hP i_X7 0 rfl rfl 4 (by decide) wd_246 rfl rfl dX7_open_59 ?_
  refine lv_iload_n hx hb dX7_open_62 rfl (lv_at hl 0 rfl) ?_
  refine lv_iconst (v := 0) hx hb dX7_open_63 (by decide) ?_
  refine gq_iast (ws' := [(t, .inr (7, [.ref s0, .ref s1, .ref s2, .ref s3, .ref s4, .ref s5, .ref s6, .ref s7, .ref s8, .int 0])), (s0, .inl (G.2.2 0, 5, .inl (fun _ => 0))), (s1, .inl (G.2.2 0, 5, .inl (fun _ => 0))), (s2, .inl (G.2.2 0, 5, .inl f_5)), (s3, .inl (G.2.2 0, 5, .inl (fun _ => 0))), (s4, .inl (G.2.2 0, 3, .inl (fun _ => 0))), (s5, .inl (G.2.2 0, 3, .inl (fun _ => 0))), (s6, .inl (G.2.2 0, 3, .inl f_6)), (s7, .inl (G.2.2 0, 3, .inl (fun _ => 0))), (s8, .inl (G.2.2 0, 3, .inl (fun _ => 0))), (tm, .inr (9, [.int 0, .int 0, .int 0, .int 0, .ref r0, .ref r1, .ref r2, .ref r3, .ref r4])), (r0, .inl (G.2.2 0, 5, .inl (fun _ => 0))), (r1, .inl (G.2.2 0, 5, .inl (fun _ => 0)))]) hx hb hK hP hD hS 5 rfl (fun _ => 0) (by unfold vp_in; decide +kernel) (up_z _ _) rfl dX7_open_64 (fun H locs hP hD hS => ?_)
  refine lv_aload_n hx hb dX7_open_65 rfl (lv_at hl 1 rfl) ?_
  refine gq_get hx hb ht hown hK hP i_X7 0 rfl rfl 5 (by decide) wd_250 rfl rfl dX7_open_66 ?_
  refine lv_iload_n hx hb dX7_open_69 rfl (lv_at hl 0 rfl) ?_
  refine lv_iconst (v := 0) hx hb dX7_open_70 (by decide) ?_
  refine gq_iast (ws' := [(t, .inr (7, [.ref s0, .ref s1, .ref s2, .ref s3, .ref s4, .ref s5, .ref s6, .ref s7, .ref s8, .int 0])), (s0, .inl (G.2.2 0, 5, .inl (fun _ => 0))), (s1, .inl (G.2.2 0, 5, .inl (fun _ => 0))), (s2, .inl (G.2.2 0, 5, .inl f_5)), (s3, .inl (G.2.2 0, 5, .inl (fun _ => 0))), (s4, .inl (G.2.2 0, 3, .inl (fun _ => 0))), (s5, .inl (G.2.2 0, 3, .inl (fun _ => 0))), (s6, .inl (G.2.2 0, 3, .inl f_6)), (s7, .inl (G.2.2 0, 3, .inl (fun _ => 0))), (s8, .inl (G.2.2 0, 3, .inl (fun _ => 0))), (tm, .inr (9, [.int 0, .int 0, .int 0, .int 0, .ref r0, .ref r1, .ref r2, .ref r3, .ref r4])), (r0, .inl (G.2.2 0, 5, .inl (fun _ => 0))), (r1, .inl (G.2.2 0, 5, .inl (fun _ => 0)))]) hx hb hK hP hD hS 6 rfl (fun _ => 0) (by unfold vp_in; decide +kernel) (up_z _ _) rfl dX7_open_71 (fun H locs hP hD hS => ?_)
  refine lv_aload_n hx hb dX7_open_72 rfl (lv_at hl 1 rfl) ?_
  refine gq_get hx hb ht hown hK hP i_X7 0 rfl rfl 6 (by decide) wd_254 rfl rfl dX7_open_73 ?_
  refine lv_iload_n hx hb dX7_open_76 rfl (lv_at hl 0 rfl) ?_
  refine lv_iconst (v := (-1)) hx hb dX7_open_77 (by decide) ?_
  obtain ⟨f_7, ef_7⟩ : ∃ z : Nat → Int32, upd f_6 (Int32.toNatClampNeg 1) (-1) = z := ⟨_, rfl⟩
  refine gq_iast (ws' := [(t, .inr (7, [.ref s0, .ref s1, .ref s2, .ref s3, .ref s4, .ref s5, .ref s6, .ref s7, .ref s8, .int 0])), (s0, .inl (G.2.2 0, 5, .inl (fun _ => 0))), (s1, .inl (G.2.2 0, 5, .inl (fun _ => 0))), (s2, .inl (G.2.2 0, 5, .inl f_5)), (s3, .inl (G.2.2 0, 5, .inl (fun _ => 0))), (s4, .inl (G.2.2 0, 3, .inl (fun _ => 0))), (s5, .inl (G.2.2 0, 3, .inl (fun _ => 0))), (s6, .inl (G.2.2 0, 3, .inl f_7)), (s7, .inl (G.2.2 0, 3, .inl (fun _ => 0))), (s8, .inl (G.2.2 0, 3, .inl (fun _ => 0))), (tm, .inr (9, [.int 0, .int 0, .int 0, .int 0, .ref r0, .ref r1, .ref r2, .ref r3, .ref r4])), (r0, .inl (G.2.2 0, 5, .inl (fun _ => 0))), (r1, .inl (G.2.2 0, 5, .inl (fun _ => 0)))]) hx hb hK hP hD hS 7 rfl f_7 (by unfold vp_in; decide +kernel) ef_7 rfl dX7_open_78 (fun H locs hP hD hS => ?_)
  refine lv_aload_n hx hb dX7_open_79 rfl (lv_at hl 1 rfl) ?_
  refine gq_get hx hb ht hown hK hP i_X7 0 rfl rfl 7 (by decide) wd_258 rfl rfl dX7_open_80 ?_
  refine lv_iload_n hx hb dX7_open_83 rfl (lv_at hl 0 rfl) ?_
  refine lv_iconst (v := 0) hx hb dX7_open_84 (by decide) ?_
  refine gq_iast (ws' := [(t, .inr (7, [.ref s0, .ref s1, .ref s2, .ref s3, .ref s4, .ref s5, .ref s6, .ref s7, .ref s8, .int 0])), (s0, .inl (G.2.2 0, 5, .inl (fun _ => 0))), (s1, .inl (G.2.2 0, 5, .inl (fun _ => 0))), (s2, .inl (G.2.2 0, 5, .inl f_5)), (s3, .inl (G.2.2 0, 5, .inl (fun _ => 0))), (s4, .inl (G.2.2 0, 3, .inl (fun _ => 0))), (s5, .inl (G.2.2 0, 3, .inl (fun _ => 0))), (s6, .inl (G.2.2 0, 3, .inl f_7)), (s7, .inl (G.2.2 0, 3, .inl (fun _ => 0))), (s8, .inl (G.2.2 0, 3, .inl (fun _ => 0))), (tm, .inr (9, [.int 0, .int 0, .int 0, .int 0, .ref r0, .ref r1, .ref r2, .ref r3, .ref r4])), (r0, .inl (G.2.2 0, 5, .inl (fun _ => 0))), (r1, .inl (G.2.2 0, 5, .inl (fun _ => 0)))]) hx hb hK hP hD hS 8 rfl (fun _ => 0) (by unfold vp_in; decide +kernel) (up_z _ _) rfl dX7_open_85 (fun H locs hP hD hS => ?_)
  refine lv_aload_n hx hb dX7_open_86 rfl (lv_at hl 1 rfl) ?_
  refine gq_get hx hb ht hown hK hP i_X7 0 rfl rfl 8 (by decide) wd_261 rfl rfl dX7_open_87 ?_
  refine lv_iload_n hx hb dX7_open_90 rfl (lv_at hl 0 rfl) ?_
  refine lv_iconst (v := 0) hx hb dX7_open_91 (by decide) ?_
  refine gq_iast (ws' := [(t, .inr (7, [.ref s0, .ref s1, .ref s2, .ref s3, .ref s4, .ref s5, .ref s6, .ref s7, .ref s8, .int 0])), (s0, .inl (G.2.2 0, 5, .inl (fun _ => 0))), (s1, .inl (G.2.2 0, 5, .inl (fun _ => 0))), (s2, .inl (G.2.2 0, 5, .inl f_5)), (s3, .inl (G.2.2 0, 5, .inl (fun _ => 0))), (s4, .inl (G.2.2 0, 3, .inl (fun _ => 0))), (s5, .inl (G.2.2 0, 3, .inl (fun _ => 0))), (s6, .inl (G.2.2 0, 3, .inl f_7)), (s7, .inl (G.2.2 0, 3, .inl (fun _ => 0))), (s8, .inl (G.2.2 0, 3, .inl (fun _ => 0))), (tm, .inr (9, [.int 0, .int 0, .int 0, .int 0, .ref r0, .ref r1, .ref r2, .ref r3, .ref r4])), (r0, .inl (G.2.2 0, 5, .inl (fun _ => 0))), (r1, .inl (G.2.2 0, 5, .inl (fun _ => 0)))]) hx hb hK hP hD hS 9 rfl (fun _ => 0) (by unfold vp_in; decide +kernel) (up_z _ _) rfl dX7_open_92 (fun H locs hP hD hS => ?_)
  refine lv_iinc (v := 2) (lv' := [(2, .int 2), (0, .ref t), (1, .ref tm)]) hx hb dX7_open_93 hl (k := 0) rfl (by decide +kernel) (by decide) rfl (fun ls hl => ?_)
  refine lv_goto (tgt := 53) hx hb dX7_open_96 (by decide) ?_
  refine lv_iload_n hx hb dX7_open_53 rfl (lv_at hl 0 rfl) ?_
  refine lv_iconst (v := 3) hx hb dX7_open_54 (by decide) ?_
  refine lv_icmp_ge (tgt := 99) hx hb dX7_open_55 (by decide) (fun c0 => absurd c0 (by decide +kernel)) (fun _ => ?_)
  refine lv_aload_n hx hb dX7_open_58 rfl (lv_at hl 1 rfl) ?_
  refine gq_get hx hb ht hown hK hP i_X7 0 rfl rfl 4 (by decide) wd_246 rfl rfl dX7_open_59 ?_
  refine lv_iload_n hx hb dX7_open_62 rfl (lv_at hl 0 rfl) ?_
  refine lv_iconst (v := 0) hx hb dX7_open_63 (by decide) ?_
  refine gq_iast (ws' := [(t, .inr (7, [.ref s0, .ref s1, .ref s2, .ref s3, .ref s4, .ref s5, .ref s6, .ref s7, .ref s8, .int 0])), (s0, .inl (G.2.2 0, 5, .inl (fun _ => 0))), (s1, .inl (G.2.2 0, 5, .inl (fun _ => 0))), (s2, .inl (G.2.2 0, 5, .inl f_5)), (s3, .inl (G.2.2 0, 5, .inl (fun _ => 0))), (s4, .inl (G.2.2 0, 3, .inl (fun _ => 0))), (s5, .inl (G.2.2 0, 3, .inl (fun _ => 0))), (s6, .inl (G.2.2 0, 3, .inl f_7)), (s7, .inl (G.2.2 0, 3, .inl (fun _ => 0))), (s8, .inl (G.2.2 0, 3, .inl (fun _ => 0))), (tm, .inr (9, [.int 0, .int 0, .int 0, .int 0, .ref r0, .ref r1, .ref r2, .ref r3, .ref r4])), (r0, .inl (G.2.2 0, 5, .inl (fun _ => 0))), (r1, .inl (G.2.2 0, 5, .inl (fun _ => 0)))]) hx hb hK hP hD hS 5 rfl (fun _ => 0) (by unfold vp_in; decide +kernel) (up_z _ _) rfl dX7_open_64 (fun H locs hP hD hS => ?_)
  refine lv_aload_n hx hb dX7_open_65 rfl (lv_at hl 1 rfl) ?_
  refine gq_get hx hb ht hown hK hP i_X7 0 rfl rfl 5 (by decide) wd_250 rfl rfl dX7_open_66 ?_
  refine lv_iload_n hx hb dX7_open_69 rfl (lv_at hl 0 rfl) ?_
  refine lv_iconst (v := 0) hx hb dX7_open_70 (by decide) ?_
  refine gq_iast (ws' := [(t, .inr (7, [.ref s0, .ref s1, .ref s2, .ref s3, .ref s4, .ref s5, .ref s6, .ref s7, .ref s8, .int 0])), (s0, .inl (G.2.2 0, 5, .inl (fun _ => 0))), (s1, .inl (G.2.2 0, 5, .inl (fun _ => 0))), (s2, .inl (G.2.2 0, 5, .inl f_5)), (s3, .inl (G.2.2 0, 5, .inl (fun _ => 0))), (s4, .inl (G.2.2 0, 3, .inl (fun _ => 0))), (s5, .inl (G.2.2 0, 3, .inl (fun _ => 0))), (s6, .inl (G.2.2 0, 3, .inl f_7)), (s7, .inl (G.2.2 0, 3, .inl (fun _ => 0))), (s8, .inl (G.2.2 0, 3, .inl (fun _ => 0))), (tm, .inr (9, [.int 0, .int 0, .int 0, .int 0, .ref r0, .ref r1, .ref r2, .ref r3, .ref r4])), (r0, .inl (G.2.2 0, 5, .inl (fun _ => 0))), (r1, .inl (G.2.2 0, 5, .inl (fun _ => 0)))]) hx hb hK hP hD hS 6 rfl (fun _ => 0) (by unfold vp_in; decide +kernel) (up_z _ _) rfl dX7_open_71 (fun H locs hP hD hS => ?_)
  refine lv_aload_n hx hb dX7_open_72 rfl (lv_at hl 1 rfl) ?_
  refine gq_get hx hb ht hown hK hP i_X7 0 rfl rfl 6 (by decide) wd_254 rfl rfl dX7_open_73 ?_
  refine lv_iload_n hx hb dX7_open_76 rfl (lv_at hl 0 rfl) ?_
  refine lv_iconst (v := (-1)) hx hb dX7_open_77 (by decide) ?_
  obtain ⟨f_8, ef_8⟩ : ∃ z : Nat → Int32, upd f_7 (Int32.toNatClampNeg 2) (-1) = z := ⟨_, rfl⟩
  refine gq_iast (ws' := [(t, .inr (7, [.ref s0, .ref s1, .ref s2, .ref s3, .ref s4, .ref s5, .ref s6, .ref s7, .ref s8, .int 0])), (s0, .inl (G.2.2 0, 5, .inl (fun _ => 0))), (s1, .inl (G.2.2 0, 5, .inl (fun _ => 0))), (s2, .inl (G.2.2 0, 5, .inl f_5)), (s3, .inl (G.2.2 0, 5, .inl (fun _ => 0))), (s4, .inl (G.2.2 0, 3, .inl (fun _ => 0))), (s5, .inl (G.2.2 0, 3, .inl (fun _ => 0))), (s6, .inl (G.2.2 0, 3, .inl f_8)), (s7, .inl (G.2.2 0, 3, .inl (fun _ => 0))), (s8, .inl (G.2.2 0, 3, .inl (fun _ => 0))), (tm, .inr (9, [.int 0, .int 0, .int 0, .int 0, .ref r0, .ref r1, .ref r2, .ref r3, .ref r4])), (r0, .inl (G.2.2 0, 5, .inl (fun _ => 0))), (r1, .inl (G.2.2 0, 5, .inl (fun _ => 0)))]) hx hb hK hP hD hS 7 rfl f_8 (by unfold vp_in; decide +kernel) ef_8 rfl dX7_open_78 (fun H locs hP hD hS => ?_)
  refine lv_aload_n hx hb dX7_open_79 rfl (lv_at hl 1 rfl) ?_
  refine gq_get hx hb ht hown hK hP i_X7 0 rfl rfl 7 (by decide) wd_258 rfl rfl dX7_open_80 ?_
  refine lv_iload_n hx hb dX7_open_83 rfl (lv_at hl 0 rfl) ?_
  refine lv_iconst (v := 0) hx hb dX7_open_84 (by decide) ?_
  refine gq_iast (ws' := [(t, .inr (7, [.ref s0, .ref s1, .ref s2, .ref s3, .ref s4, .ref s5, .ref s6, .ref s7, .ref s8, .int 0])), (s0, .inl (G.2.2 0, 5, .inl (fun _ => 0))), (s1, .inl (G.2.2 0, 5, .inl (fun _ => 0))), (s2, .inl (G.2.2 0, 5, .inl f_5)), (s3, .inl (G.2.2 0, 5, .inl (fun _ => 0))), (s4, .inl (G.2.2 0, 3, .inl (fun _ => 0))), (s5, .inl (G.2.2 0, 3, .inl (fun _ => 0))), (s6, .inl (G.2.2 0, 3, .inl f_8)), (s7, .inl (G.2.2 0, 3, .inl (fun _ => 0))), (s8, .inl (G.2.2 0, 3, .inl (fun _ => 0))), (tm, .inr (9, [.int 0, .int 0, .int 0, .int 0, .ref r0, .ref r1, .ref r2, .ref r3, .ref r4])), (r0, .inl (G.2.2 0, 5, .inl (fun _ => 0))), (r1, .inl (G.2.2 0, 5, .inl (fun _ => 0)))]) hx hb hK hP hD hS 8 rfl (fun _ => 0) (by unfold vp_in; decide +kernel) (up_z _ _) rfl dX7_open_85 (fun H locs hP hD hS => ?_)
  refine lv_aload_n hx hb dX7_open_86 rfl (lv_at hl 1 rfl) ?_
  refine gq_get hx hb ht hown hK hP i_X7 0 rfl rfl 8 (by decide) wd_261 rfl rfl dX7_open_87 ?_
  refine lv_iload_n hx hb dX7_open_90 rfl (lv_at hl 0 rfl) ?_
  refine lv_iconst (v := 0) hx hb dX7_open_91 (by decide) ?_
  refine gq_iast (ws' := [(t, .inr (7, [.ref s0, .ref s1, .ref s2, .ref s3, .ref s4, .ref s5, .ref s6, .ref s7, .ref s8, .int 0])), (s0, .inl (G.2.2 0, 5, .inl (fun _ => 0))), (s1, .inl (G.2.2 0, 5, .inl (fun _ => 0))), (s2, .inl (G.2.2 0, 5, .inl f_5)), (s3, .inl (G.2.2 0, 5, .inl (fun _ => 0))), (s4, .inl (G.2.2 0, 3, .inl (fun _ => 0))), (s5, .inl (G.2.2 0, 3, .inl (fun _ => 0))), (s6, .inl (G.2.2 0, 3, .inl f_8)), (s7, .inl (G.2.2 0, 3, .inl (fun _ => 0))), (s8, .inl (G.2.2 0, 3, .inl (fun _ => 0))), (tm, .inr (9, [.int 0, .int 0, .int 0, .int 0, .ref r0, .ref r1, .ref r2, .ref r3, .ref r4])), (r0, .inl (G.2.2 0, 5, .inl (fun _ => 0))), (r1, .inl (G.2.2 0, 5, .inl (fun _ => 0)))]) hx hb hK hP hD hS 9 rfl (fun _ => 0) (by unfold vp_in; decide +kernel) (up_z _ _) rfl dX7_open_92 (fun H locs hP hD hS => ?_)
  refine lv_iinc (v := 3) (lv' := [(2, .int 3), (0, .ref t), (1, .ref tm)]) hx hb dX7_open_93 hl (k := 0) rfl (by decide +kernel) (by decide) rfl (fun ls hl => ?_)
  refine lv_goto (tgt := 53) hx hb dX7_open_96 (by decide) ?_
  refine lv_iload_n hx hb dX7_open_53 rfl (lv_at hl 0 rfl) ?_
  refine lv_iconst (v := 3) hx hb dX7_open_54 (by decide) ?_
  refine lv_icmp_ge (tgt := 99) hx hb dX7_open_55 (by decide) (fun _ => ?_) (fun c0 => absurd (by decide +kernel) c0)
  refine lv_aload_n hx hb dX7_open_99 rfl (lv_at hl 1 rfl) ?_
  refine lv_iconst (v := 0) hx hb dX7_open_100 (by decide) ?_
  refine gq_put (ws' := [(t, .inr (7, [.ref s0, .ref s1, .ref s2, .ref s3, .ref s4, .ref s5, .ref s6, .ref s7, .ref s8, .int 0])), (s0, .inl (G.2.2 0, 5, .inl (fun _ => 0))), (s1, .inl (G.2.2 0, 5, .inl (fun _ => 0))), (s2, .inl (G.2.2 0, 5, .inl f_5)), (s3, .inl (G.2.2 0, 5, .inl (fun _ => 0))), (s4, .inl (G.2.2 0, 3, .inl (fun _ => 0))), (s5, .inl (G.2.2 0, 3, .inl (fun _ => 0))), (s6, .inl (G.2.2 0, 3, .inl f_8)), (s7, .inl (G.2.2 0, 3, .inl (fun _ => 0))), (s8, .inl (G.2.2 0, 3, .inl (fun _ => 0))), (tm, .inr (9, [.int 0, .int 0, .int 0, .int 0, .ref r0, .ref r1, .ref r2, .ref r3, .ref r4])), (r0, .inl (G.2.2 0, 5, .inl (fun _ => 0))), (r1, .inl (G.2.2 0, 5, .inl (fun _ => 0)))]) hx hb ht hown hK hP hD hS i_X7 tyX7 tyX7_ok nmX7 0 rfl rfl 9 (by decide) wd_266 rfl rfl rfl rfl (Nat.le_of_ble_eq_true rfl) rfl dX7_open_101 (fun H locs hP hD hS => ?_)
  have hP9 := hP.sub (ws' := [(t, .inr (7, [.ref s0, .ref s1, .ref s2, .ref s3, .ref s4, .ref s5, .ref s6, .ref s7, .ref s8, .int 0])), (s0, .inl (G.2.2 0, 5, .inl (fun _ => 0))), (s1, .inl (G.2.2 0, 5, .inl (fun _ => 0))), (s2, .inl (G.2.2 0, 5, .inl f_5)), (s3, .inl (G.2.2 0, 5, .inl (fun _ => 0))), (s4, .inl (G.2.2 0, 3, .inl (fun _ => 0))), (s5, .inl (G.2.2 0, 3, .inl (fun _ => 0))), (s6, .inl (G.2.2 0, 3, .inl f_8)), (s7, .inl (G.2.2 0, 3, .inl (fun _ => 0))), (s8, .inl (G.2.2 0, 3, .inl (fun _ => 0))), (tm, .inr (9, [.int 0, .int 0, .int 0, .int 0, .ref r0, .ref r1, .ref r2, .ref r3, .ref r4])), (r0, .inl (G.2.2 0, 5, .inl (fun _ => 0))), (r1, .inl (G.2.2 0, 5, .inl (fun _ => 0)))]) [0, 1, 2, 3, 4, 5, 6, 7, 8, 9, 10, 11, 12] rfl
  have hD9 := hD.sub (ws' := [(t, .inr (7, [.ref s0, .ref s1, .ref s2, .ref s3, .ref s4, .ref s5, .ref s6, .ref s7, .ref s8, .int 0])), (s0, .inl (G.2.2 0, 5, .inl (fun _ => 0))), (s1, .inl (G.2.2 0, 5, .inl (fun _ => 0))), (s2, .inl (G.2.2 0, 5, .inl f_5)), (s3, .inl (G.2.2 0, 5, .inl (fun _ => 0))), (s4, .inl (G.2.2 0, 3, .inl (fun _ => 0))), (s5, .inl (G.2.2 0, 3, .inl (fun _ => 0))), (s6, .inl (G.2.2 0, 3, .inl f_8)), (s7, .inl (G.2.2 0, 3, .inl (fun _ => 0))), (s8, .inl (G.2.2 0, 3, .inl (fun _ => 0))), (tm, .inr (9, [.int 0, .int 0, .int 0, .int 0, .ref r0, .ref r1, .ref r2, .ref r3, .ref r4])), (r0, .inl (G.2.2 0, 5, .inl (fun _ => 0))), (r1, .inl (G.2.2 0, 5, .inl (fun _ => 0)))]) [0, 1, 2, 3, 4, 5, 6, 7, 8, 9, 10, 11, 12] (by decide) rfl
  exact W.vret hx hb hr (gq_endV (f_5, f_8) trivial hP9 hD9 hS) hS.2.2 dX7_open_104
set_option maxHeartbeats 4000000 in
set_option maxRecDepth 100000 in
theorem c_State_lotsAt1 (l : Launch) (G : gg_T) (sz : Nat) (t : Nat) (s0 : Nat) (s1 : Nat) (s2 : Nat) (s3 : Nat) (s4 : Nat) (s5 : Nat) (s6 : Nat) (s7 : Nat) (s8 : Nat) : Met l yX7_lotsAt (ts_L yX7_lotsAt cX7_lotsAt 4 (some .int)) ({ frames := 0, cells := 0, slots := 0, locals := 0 }) (gc_P G [(t, .inr (7, [.ref s0, .ref s1, .ref s2, .ref s3, .ref s4, .ref s5, .ref s6, .ref s7, .ref s8, .int 0])), (s4, .inl (G.2.2 0, 3, .inl (fun _ => 0)))] sz [.ref t, .int 1]) (gc_I G (va_A [(t, .inr (7, [.ref s0, .ref s1, .ref s2, .ref s3, .ref s4, .ref s5, .ref s6, .ref s7, .ref s8, .int 0])), (s4, .inl (G.2.2 0, 3, .inl (fun _ => 0)))] sz) (fun r (_ : Unit) => r = 0) (fun _ => [(t, .inr (7, [.ref s0, .ref s1, .ref s2, .ref s3, .ref s4, .ref s5, .ref s6, .ref s7, .ref s8, .int 0])), (s4, .inl (G.2.2 0, 3, .inl (fun _ => 0)))])) 0 0 (va_A [(t, .inr (7, [.ref s0, .ref s1, .ref s2, .ref s3, .ref s4, .ref s5, .ref s6, .ref s7, .ref s8, .int 0])), (s4, .inl (G.2.2 0, 3, .inl (fun _ => 0)))] sz) := by
  refine Met.ofW (cc := cX7_lotsAt) (maxL := 4) (ret := (some .int)) (by decide) rfl ?_
  intro p e s m args below meth c s₁ B hml hv
  obtain ⟨rfl, hsz, hP, hK, hD0⟩ := hv
  have hx := B.exec
  have hb := B.bytes
  have hr := B.returns
  have ht := ts_ht (atoms_spec (ws := ts_L yX7_lotsAt cX7_lotsAt 4 (some .int)) B.pre)
  have hown : s.vm.findClass RX7 = some m.cls := findClass_of_methodNamed B.named
  have hlocks := B.notSynchronized
  subst hsz
  have hD := hD0.self (sz := s.heap.size)
  generalize hAe : va_A [(t, .inr (7, [.ref s0, .ref s1, .ref s2, .ref s3, .ref s4, .ref s5, .ref s6, .ref s7, .ref s8, .int 0])), (s4, .inl (G.2.2 0, 3, .inl (fun _ => 0)))] s.heap.size = A at hD ⊢
  have hA : ∀ q : Nat, s.heap.size ≤ q → A q := fun q h => by rw [← hAe]; exact Or.inr h
  have hS : va_S A s.heap s.heap [] := va_S.rf
  have hl := lv_entry ([.ref t, .int 1]) (n := 4) (Nat.le_of_ble_eq_true rfl)
  rw [lg_entry_eq]
  generalize (lg_sl ([.ref t, .int 1]) ++ List.replicate (4 - (lg_sl ([.ref t, .int 1])).length) Slot.unset).toArray = ls at hl ⊢
  have hl : lv_has ls 4 [(0, .ref t), (1, .int 1)] := hl
  refine lv_iconst (v := 0) hx hb dX7_lotsAt_0 (by decide) ?_
  refine lv_istore_n (lv' := [(2, .int 0), (0, .ref t), (1, .int 1)]) hx hb dX7_lotsAt_1 rfl hl (by decide) rfl (fun ls hl => ?_)
  refine lv_iconst (v := 0) hx hb dX7_lotsAt_2 (by decide) ?_
  refine lv_istore_n (lv' := [(3, .int 0), (2, .int 0), (0, .ref t), (1, .int 1)]) hx hb dX7_lotsAt_3 rfl hl (by decide) rfl (fun ls hl => ?_)
  refine lv_iload_n hx hb dX7_lotsAt_4 rfl (lv_at hl 0 rfl) ?_
  refine lv_iconst (v := 3) hx hb dX7_lotsAt_5 (by decide) ?_
  refine lv_icmp_ge (tgt := 35) hx hb dX7_lotsAt_6 (by decide) (fun c0 => absurd c0 (by decide +kernel)) (fun _ => ?_)
  refine lv_iload_n hx hb dX7_lotsAt_9 rfl (lv_at hl 1 rfl) ?_
  refine lv_aload_n hx hb dX7_lotsAt_10 rfl (lv_at hl 2 rfl) ?_
  refine gq_get hx hb ht hown hK hP i_X7 0 rfl rfl 4 (by decide) wd_246 rfl rfl dX7_lotsAt_11 ?_
  refine lv_iload_n hx hb dX7_lotsAt_14 rfl (lv_at hl 0 rfl) ?_
  refine gq_iald hx hb hK hP 1 rfl 0 (by unfold vp_in; decide +kernel) rfl dX7_lotsAt_15 ?_
  refine lv_iload_n hx hb dX7_lotsAt_16 rfl (lv_at hl 3 rfl) ?_
  refine lv_icmp_ne (tgt := 26) hx hb dX7_lotsAt_17 (by decide) (fun _ => ?_) (fun c0 => absurd c0 (by decide +kernel))
  refine lv_iconst (v := 0) hx hb dX7_lotsAt_26 (by decide) ?_
  refine gq_ior hx hb 0 (by decide +kernel) dX7_lotsAt_27 ?_
  refine lv_istore_n (lv' := [(2, .int 0), (3, .int 0), (0, .ref t), (1, .int 1)]) hx hb dX7_lotsAt_28 rfl hl (by decide) rfl (fun ls hl => ?_)
  refine lv_iinc (v := 1) (lv' := [(3, .int 1), (2, .int 0), (0, .ref t), (1, .int 1)]) hx hb dX7_lotsAt_29 hl (k := 1) rfl (by decide +kernel) (by decide) rfl (fun ls hl => ?_)
  refine lv_goto (tgt := 4) hx hb dX7_lotsAt_32 (by decide) ?_
  refine lv_iload_n hx hb dX7_lotsAt_4 rfl (lv_at hl 0 rfl) ?_
  refine lv_iconst (v := 3) hx hb dX7_lotsAt_5 (by decide) ?_
  refine lv_icmp_ge (tgt := 35) hx hb dX7_lotsAt_6 (by decide) (fun c0 => absurd c0 (by decide +kernel)) (fun _ => ?_)
  refine lv_iload_n hx hb dX7_lotsAt_9 rfl (lv_at hl 1 rfl) ?_
  refine lv_aload_n hx hb dX7_lotsAt_10 rfl (lv_at hl 2 rfl) ?_
  refine gq_get hx hb ht hown hK hP i_X7 0 rfl rfl 4 (by decide) wd_246 rfl rfl dX7_lotsAt_11 ?_
  refine lv_iload_n hx hb dX7_lotsAt_14 rfl (lv_at hl 0 rfl) ?_
  refine gq_iald hx hb hK hP 1 rfl 0 (by unfold vp_in; decide +kernel) rfl dX7_lotsAt_15 ?_
  refine lv_iload_n hx hb dX7_lotsAt_16 rfl (lv_at hl 3 rfl) ?_
  refine lv_icmp_ne (tgt := 26) hx hb dX7_lotsAt_17 (by decide) (fun _ => ?_) (fun c0 => absurd c0 (by decide +kernel))
  refine lv_iconst (v := 0) hx hb dX7_lotsAt_26 (by decide) ?_
  refine gq_ior hx hb 0 (by decide +kernel) dX7_lotsAt_27 ?_
  refine lv_istore_n (lv' := [(2, .int 0), (3, .int 1), (0, .ref t), (1, .int 1)]) hx hb dX7_lotsAt_28 rfl hl (by decide) rfl (fun ls hl => ?_)
  refine lv_iinc (v := 2) (lv' := [(3, .int 2), (2, .int 0), (0, .ref t), (1, .int 1)]) hx hb dX7_lotsAt_29 hl (k := 1) rfl (by decide +kernel) (by decide) rfl (fun ls hl => ?_)
  refine lv_goto (tgt := 4) hx hb dX7_lotsAt_32 (by decide) ?_
  refine lv_iload_n hx hb dX7_lotsAt_4 rfl (lv_at hl 0 rfl) ?_
  refine lv_iconst (v := 3) hx hb dX7_lotsAt_5 (by decide) ?_
  refine lv_icmp_ge (tgt := 35) hx hb dX7_lotsAt_6 (by decide) (fun c0 => absurd c0 (by decide +kernel)) (fun _ => ?_)
  refine lv_iload_n hx hb dX7_lotsAt_9 rfl (lv_at hl 1 rfl) ?_
  refine lv_aload_n hx hb dX7_lotsAt_10 rfl (lv_at hl 2 rfl) ?_
  refine gq_get hx hb ht hown hK hP i_X7 0 rfl rfl 4 (by decide) wd_246 rfl rfl dX7_lotsAt_11 ?_
  refine lv_iload_n hx hb dX7_lotsAt_14 rfl (lv_at hl 0 rfl) ?_
  refine gq_iald hx hb hK hP 1 rfl 0 (by unfold vp_in; decide +kernel) rfl dX7_lotsAt_15 ?_
  refine lv_iload_n hx hb dX7_lotsAt_16 rfl (lv_at hl 3 rfl) ?_
  refine lv_icmp_ne (tgt := 26) hx hb dX7_lotsAt_17 (by decide) (fun _ => ?_) (fun c0 => absurd c0 (by decide +kernel))
  refine lv_iconst (v := 0) hx hb dX7_lotsAt_26 (by decide) ?_
  refine gq_ior hx hb 0 (by decide +kernel) dX7_lotsAt_27 ?_
  refine lv_istore_n (lv' := [(2, .int 0), (3, .int 2), (0, .ref t), (1, .int 1)]) hx hb dX7_lotsAt_28 rfl hl (by decide) rfl (fun ls hl => ?_)
  refine lv_iinc (v := 3) (lv' := [(3, .int 3), (2, .int 0), (0, .ref t), (1, .int 1)]) hx hb dX7_lotsAt_29 hl (k := 1) rfl (by decide +kernel) (by decide) rfl (fun ls hl => ?_)
  refine lv_goto (tgt := 4) hx hb dX7_lotsAt_32 (by decide) ?_
  refine lv_iload_n hx hb dX7_lotsAt_4 rfl (lv_at hl 0 rfl) ?_
  refine lv_iconst (v := 3) hx hb dX7_lotsAt_5 (by decide) ?_
  refine lv_icmp_ge (tgt := 35) hx hb dX7_lotsAt_6 (by decide) (fun _ => ?_) (fun c0 => absurd (by decide +kernel) c0)
  refine lv_iload_n hx hb dX7_lotsAt_35 rfl (lv_at hl 1 rfl) ?_
  have hP9 := hP.sub (ws' := [(t, .inr (7, [.ref s0, .ref s1, .ref s2, .ref s3, .ref s4, .ref s5, .ref s6, .ref s7, .ref s8, .int 0])), (s4, .inl (G.2.2 0, 3, .inl (fun _ => 0)))]) [0, 1] rfl
  have hD9 := hD.sub (ws' := [(t, .inr (7, [.ref s0, .ref s1, .ref s2, .ref s3, .ref s4, .ref s5, .ref s6, .ref s7, .ref s8, .int 0])), (s4, .inl (G.2.2 0, 3, .inl (fun _ => 0)))]) [0, 1] (by decide) rfl
  exact W.iret (v := 0) hx hb hr (gq_endI () rfl hP9 hD9 hS) hS.2.2 dX7_lotsAt_36
set_option maxHeartbeats 4000000 in
set_option maxRecDepth 100000 in
theorem c_State_lotsAt2 (l : Launch) (G : gg_T) (sz : Nat) (t : Nat) (s0 : Nat) (s1 : Nat) (s2 : Nat) (s3 : Nat) (s4 : Nat) (s5 : Nat) (s6 : Nat) (s7 : Nat) (s8 : Nat) : Met l yX7_lotsAt (ts_L yX7_lotsAt cX7_lotsAt 4 (some .int)) ({ frames := 0, cells := 0, slots := 0, locals := 0 }) (gc_P G [(t, .inr (7, [.ref s0, .ref s1, .ref s2, .ref s3, .ref s4, .ref s5, .ref s6, .ref s7, .ref s8, .int 0])), (s4, .inl (G.2.2 0, 3, .inl (fun _ => 0)))] sz [.ref t, .int 2]) (gc_I G (va_A [(t, .inr (7, [.ref s0, .ref s1, .ref s2, .ref s3, .ref s4, .ref s5, .ref s6, .ref s7, .ref s8, .int 0])), (s4, .inl (G.2.2 0, 3, .inl (fun _ => 0)))] sz) (fun r (_ : Unit) => r = 0) (fun _ => [(t, .inr (7, [.ref s0, .ref s1, .ref s2, .ref s3, .ref s4, .ref s5, .ref s6, .ref s7, .ref s8, .int 0])), (s4, .inl (G.2.2 0, 3, .inl (fun _ => 0)))])) 0 0 (va_A [(t, .inr (7, [.ref s0, .ref s1, .ref s2, .ref s3, .ref s4, .ref s5, .ref s6, .ref s7, .ref s8, .int 0])), (s4, .inl (G.2.2 0, 3, .inl (fun _ => 0)))] sz) := by
  refine Met.ofW (cc := cX7_lotsAt) (maxL := 4) (ret := (some .int)) (by decide) rfl ?_
  intro p e s m args below meth c s₁ B hml hv
  obtain ⟨rfl, hsz, hP, hK, hD0⟩ := hv
  have hx := B.exec
  have hb := B.bytes
  have hr := B.returns
  have ht := ts_ht (atoms_spec (ws := ts_L yX7_lotsAt cX7_lotsAt 4 (some .int)) B.pre)
  have hown : s.vm.findClass RX7 = some m.cls := findClass_of_methodNamed B.named
  have hlocks := B.notSynchronized
  subst hsz
  have hD := hD0.self (sz := s.heap.size)
  generalize hAe : va_A [(t, .inr (7, [.ref s0, .ref s1, .ref s2, .ref s3, .ref s4, .ref s5, .ref s6, .ref s7, .ref s8, .int 0])), (s4, .inl (G.2.2 0, 3, .inl (fun _ => 0)))] s.heap.size = A at hD ⊢
  have hA : ∀ q : Nat, s.heap.size ≤ q → A q := fun q h => by rw [← hAe]; exact Or.inr h
  have hS : va_S A s.heap s.heap [] := va_S.rf
  have hl := lv_entry ([.ref t, .int 2]) (n := 4) (Nat.le_of_ble_eq_true rfl)
  rw [lg_entry_eq]
  generalize (lg_sl ([.ref t, .int 2]) ++ List.replicate (4 - (lg_sl ([.ref t, .int 2])).length) Slot.unset).toArray = ls at hl ⊢
  have hl : lv_has ls 4 [(0, .ref t), (1, .int 2)] := hl
  refine lv_iconst (v := 0) hx hb dX7_lotsAt_0 (by decide) ?_
  refine lv_istore_n (lv' := [(2, .int 0), (0, .ref t), (1, .int 2)]) hx hb dX7_lotsAt_1 rfl hl (by decide) rfl (fun ls hl => ?_)
  refine lv_iconst (v := 0) hx hb dX7_lotsAt_2 (by decide) ?_
  refine lv_istore_n (lv' := [(3, .int 0), (2, .int 0), (0, .ref t), (1, .int 2)]) hx hb dX7_lotsAt_3 rfl hl (by decide) rfl (fun ls hl => ?_)
  refine lv_iload_n hx hb dX7_lotsAt_4 rfl (lv_at hl 0 rfl) ?_
  refine lv_iconst (v := 3) hx hb dX7_lotsAt_5 (by decide) ?_
  refine lv_icmp_ge (tgt := 35) hx hb dX7_lotsAt_6 (by decide) (fun c0 => absurd c0 (by decide +kernel)) (fun _ => ?_)
  refine lv_iload_n hx hb dX7_lotsAt_9 rfl (lv_at hl 1 rfl) ?_
  refine lv_aload_n hx hb dX7_lotsAt_10 rfl (lv_at hl 2 rfl) ?_
  refine gq_get hx hb ht hown hK hP i_X7 0 rfl rfl 4 (by decide) wd_246 rfl rfl dX7_lotsAt_11 ?_
  refine lv_iload_n hx hb dX7_lotsAt_14 rfl (lv_at hl 0 rfl) ?_
  refine gq_iald hx hb hK hP 1 rfl 0 (by unfold vp_in; decide +kernel) rfl dX7_lotsAt_15 ?_
  refine lv_iload_n hx hb dX7_lotsAt_16 rfl (lv_at hl 3 rfl) ?_
  refine lv_icmp_ne (tgt := 26) hx hb dX7_lotsAt_17 (by decide) (fun _ => ?_) (fun c0 => absurd c0 (by decide +kernel))
  refine lv_iconst (v := 0) hx hb dX7_lotsAt_26 (by decide) ?_
  refine gq_ior hx hb 0 (by decide +kernel) dX7_lotsAt_27 ?_
  refine lv_istore_n (lv' := [(2, .int 0), (3, .int 0), (0, .ref t), (1, .int 2)]) hx hb dX7_lotsAt_28 rfl hl (by decide) rfl (fun ls hl => ?_)
  refine lv_iinc (v := 1) (lv' := [(3, .int 1), (2, .int 0), (0, .ref t), (1, .int 2)]) hx hb dX7_lotsAt_29 hl (k := 1) rfl (by decide +kernel) (by decide) rfl (fun ls hl => ?_)
  refine lv_goto (tgt := 4) hx hb dX7_lotsAt_32 (by decide) ?_
  refine lv_iload_n hx hb dX7_lotsAt_4 rfl (lv_at hl 0 rfl) ?_
  refine lv_iconst (v := 3) hx hb dX7_lotsAt_5 (by decide) ?_
  refine lv_icmp_ge (tgt := 35) hx hb dX7_lotsAt_6 (by decide) (fun c0 => absurd c0 (by decide +kernel)) (fun _ => ?_)
  refine lv_iload_n hx hb dX7_lotsAt_9 rfl (lv_at hl 1 rfl) ?_
  refine lv_aload_n hx hb dX7_lotsAt_10 rfl (lv_at hl 2 rfl) ?_
  refine gq_get hx hb ht hown hK hP i_X7 0 rfl rfl 4 (by decide) wd_246 rfl rfl dX7_lotsAt_11 ?_
  refine lv_iload_n hx hb dX7_lotsAt_14 rfl (lv_at hl 0 rfl) ?_
  refine gq_iald hx hb hK hP 1 rfl 0 (by unfold vp_in; decide +kernel) rfl dX7_lotsAt_15 ?_
  refine lv_iload_n hx hb dX7_lotsAt_16 rfl (lv_at hl 3 rfl) ?_
  refine lv_icmp_ne (tgt := 26) hx hb dX7_lotsAt_17 (by decide) (fun _ => ?_) (fun c0 => absurd c0 (by decide +kernel))
  refine lv_iconst (v := 0) hx hb dX7_lotsAt_26 (by decide) ?_
  refine gq_ior hx hb 0 (by decide +kernel) dX7_lotsAt_27 ?_
  refine lv_istore_n (lv' := [(2, .int 0), (3, .int 1), (0, .ref t), (1, .int 2)]) hx hb dX7_lotsAt_28 rfl hl (by decide) rfl (fun ls hl => ?_)
  refine lv_iinc (v := 2) (lv' := [(3, .int 2), (2, .int 0), (0, .ref t), (1, .int 2)]) hx hb dX7_lotsAt_29 hl (k := 1) rfl (by decide +kernel) (by decide) rfl (fun ls hl => ?_)
  refine lv_goto (tgt := 4) hx hb dX7_lotsAt_32 (by decide) ?_
  refine lv_iload_n hx hb dX7_lotsAt_4 rfl (lv_at hl 0 rfl) ?_
  refine lv_iconst (v := 3) hx hb dX7_lotsAt_5 (by decide) ?_
  refine lv_icmp_ge (tgt := 35) hx hb dX7_lotsAt_6 (by decide) (fun c0 => absurd c0 (by decide +kernel)) (fun _ => ?_)
  refine lv_iload_n hx hb dX7_lotsAt_9 rfl (lv_at hl 1 rfl) ?_
  refine lv_aload_n hx hb dX7_lotsAt_10 rfl (lv_at hl 2 rfl) ?_
  refine gq_get hx hb ht hown hK hP i_X7 0 rfl rfl 4 (by decide) wd_246 rfl rfl dX7_lotsAt_11 ?_
  refine lv_iload_n hx hb dX7_lotsAt_14 rfl (lv_at hl 0 rfl) ?_
  refine gq_iald hx hb hK hP 1 rfl 0 (by unfold vp_in; decide +kernel) rfl dX7_lotsAt_15 ?_
  refine lv_iload_n hx hb dX7_lotsAt_16 rfl (lv_at hl 3 rfl) ?_
  refine lv_icmp_ne (tgt := 26) hx hb dX7_lotsAt_17 (by decide) (fun _ => ?_) (fun c0 => absurd c0 (by decide +kernel))
  refine lv_iconst (v := 0) hx hb dX7_lotsAt_26 (by decide) ?_
  refine gq_ior hx hb 0 (by decide +kernel) dX7_lotsAt_27 ?_
  refine lv_istore_n (lv' := [(2, .int 0), (3, .int 2), (0, .ref t), (1, .int 2)]) hx hb dX7_lotsAt_28 rfl hl (by decide) rfl (fun ls hl => ?_)
  refine lv_iinc (v := 3) (lv' := [(3, .int 3), (2, .int 0), (0, .ref t), (1, .int 2)]) hx hb dX7_lotsAt_29 hl (k := 1) rfl (by decide +kernel) (by decide) rfl (fun ls hl => ?_)
  refine lv_goto (tgt := 4) hx hb dX7_lotsAt_32 (by decide) ?_
  refine lv_iload_n hx hb dX7_lotsAt_4 rfl (lv_at hl 0 rfl) ?_
  refine lv_iconst (v := 3) hx hb dX7_lotsAt_5 (by decide) ?_
  refine lv_icmp_ge (tgt := 35) hx hb dX7_lotsAt_6 (by decide) (fun _ => ?_) (fun c0 => absurd (by decide +kernel) c0)
  refine lv_iload_n hx hb dX7_lotsAt_35 rfl (lv_at hl 1 rfl) ?_
  have hP9 := hP.sub (ws' := [(t, .inr (7, [.ref s0, .ref s1, .ref s2, .ref s3, .ref s4, .ref s5, .ref s6, .ref s7, .ref s8, .int 0])), (s4, .inl (G.2.2 0, 3, .inl (fun _ => 0)))]) [0, 1] rfl
  have hD9 := hD.sub (ws' := [(t, .inr (7, [.ref s0, .ref s1, .ref s2, .ref s3, .ref s4, .ref s5, .ref s6, .ref s7, .ref s8, .int 0])), (s4, .inl (G.2.2 0, 3, .inl (fun _ => 0)))]) [0, 1] (by decide) rfl
  exact W.iret (v := 0) hx hb hr (gq_endI () rfl hP9 hD9 hS) hS.2.2 dX7_lotsAt_36
set_option maxHeartbeats 4000000 in
set_option maxRecDepth 100000 in
theorem c_State_silentOnes (l : Launch) (G : gg_T) (sz : Nat) (t : Nat) (s0 : Nat) (s1 : Nat) (s2 : Nat) (s3 : Nat) (s4 : Nat) (s5 : Nat) (s6 : Nat) (s7 : Nat) (s8 : Nat) : Met l yX7_silentOnes (ts_L yX7_silentOnes cX7_silentOnes 3 (some .int)) ({ frames := 0, cells := 0, slots := 0, locals := 0 }) (gc_P G [(t, .inr (7, [.ref s0, .ref s1, .ref s2, .ref s3, .ref s4, .ref s5, .ref s6, .ref s7, .ref s8, .int 0])), (s8, .inl (G.2.2 0, 3, .inl (fun _ => 0)))] sz [.ref t]) (gc_I G (va_A [(t, .inr (7, [.ref s0, .ref s1, .ref s2, .ref s3, .ref s4, .ref s5, .ref s6, .ref s7, .ref s8, .int 0])), (s8, .inl (G.2.2 0, 3, .inl (fun _ => 0)))] sz) (fun r (_ : Unit) => r = 0) (fun _ => [(t, .inr (7, [.ref s0, .ref s1, .ref s2, .ref s3, .ref s4, .ref s5, .ref s6, .ref s7, .ref s8, .int 0])), (s8, .inl (G.2.2 0, 3, .inl (fun _ => 0)))])) 0 0 (va_A [(t, .inr (7, [.ref s0, .ref s1, .ref s2, .ref s3, .ref s4, .ref s5, .ref s6, .ref s7, .ref s8, .int 0])), (s8, .inl (G.2.2 0, 3, .inl (fun _ => 0)))] sz) := by
  refine Met.ofW (cc := cX7_silentOnes) (maxL := 3) (ret := (some .int)) (by decide) rfl ?_
  intro p e s m args below meth c s₁ B hml hv
  obtain ⟨rfl, hsz, hP, hK, hD0⟩ := hv
  have hx := B.exec
  have hb := B.bytes
  have hr := B.returns
  have ht := ts_ht (atoms_spec (ws := ts_L yX7_silentOnes cX7_silentOnes 3 (some .int)) B.pre)
  have hown : s.vm.findClass RX7 = some m.cls := findClass_of_methodNamed B.named
  have hlocks := B.notSynchronized
  subst hsz
  have hD := hD0.self (sz := s.heap.size)
  generalize hAe : va_A [(t, .inr (7, [.ref s0, .ref s1, .ref s2, .ref s3, .ref s4, .ref s5, .ref s6, .ref s7, .ref s8, .int 0])), (s8, .inl (G.2.2 0, 3, .inl (fun _ => 0)))] s.heap.size = A at hD ⊢
  have hA : ∀ q : Nat, s.heap.size ≤ q → A q := fun q h => by rw [← hAe]; exact Or.inr h
  have hS : va_S A s.heap s.heap [] := va_S.rf
  have hl := lv_entry ([.ref t]) (n := 3) (Nat.le_of_ble_eq_true rfl)
  rw [lg_entry_eq]
  generalize (lg_sl ([.ref t]) ++ List.replicate (3 - (lg_sl ([.ref t])).length) Slot.unset).toArray = ls at hl ⊢
  have hl : lv_has ls 3 [(0, .ref t)] := hl
  refine lv_iconst (v := 0) hx hb dX7_silentOnes_0 (by decide) ?_
  refine lv_istore_n (lv' := [(1, .int 0), (0, .ref t)]) hx hb dX7_silentOnes_1 rfl hl (by decide) rfl (fun ls hl => ?_)
  refine lv_iconst (v := 0) hx hb dX7_silentOnes_2 (by decide) ?_
  refine lv_istore_n (lv' := [(2, .int 0), (1, .int 0), (0, .ref t)]) hx hb dX7_silentOnes_3 rfl hl (by decide) rfl (fun ls hl => ?_)
  refine lv_iload_n hx hb dX7_silentOnes_4 rfl (lv_at hl 0 rfl) ?_
  refine lv_iconst (v := 3) hx hb dX7_silentOnes_5 (by decide) ?_
  refine lv_icmp_ge (tgt := 24) hx hb dX7_silentOnes_6 (by decide) (fun c0 => absurd c0 (by decide +kernel)) (fun _ => ?_)
  refine lv_iload_n hx hb dX7_silentOnes_9 rfl (lv_at hl 1 rfl) ?_
  refine lv_aload_n hx hb dX7_silentOnes_10 rfl (lv_at hl 2 rfl) ?_
  refine gq_get hx hb ht hown hK hP i_X7 0 rfl rfl 8 (by decide) wd_261 rfl rfl dX7_silentOnes_11 ?_
  refine lv_iload_n hx hb dX7_silentOnes_14 rfl (lv_at hl 0 rfl) ?_
  refine gq_iald hx hb hK hP 1 rfl 0 (by unfold vp_in; decide +kernel) rfl dX7_silentOnes_15 ?_
  refine gq_ior hx hb 0 (by decide +kernel) dX7_silentOnes_16 ?_
  refine lv_istore_n (lv' := [(1, .int 0), (2, .int 0), (0, .ref t)]) hx hb dX7_silentOnes_17 rfl hl (by decide) rfl (fun ls hl => ?_)
  refine lv_iinc (v := 1) (lv' := [(2, .int 1), (1, .int 0), (0, .ref t)]) hx hb dX7_silentOnes_18 hl (k := 1) rfl (by decide +kernel) (by decide) rfl (fun ls hl => ?_)
  refine lv_goto (tgt := 4) hx hb dX7_silentOnes_21 (by decide) ?_
  refine lv_iload_n hx hb dX7_silentOnes_4 rfl (lv_at hl 0 rfl) ?_
  refine lv_iconst (v := 3) hx hb dX7_silentOnes_5 (by decide) ?_
  refine lv_icmp_ge (tgt := 24) hx hb dX7_silentOnes_6 (by decide) (fun c0 => absurd c0 (by decide +kernel)) (fun _ => ?_)
  refine lv_iload_n hx hb dX7_silentOnes_9 rfl (lv_at hl 1 rfl) ?_
  refine lv_aload_n hx hb dX7_silentOnes_10 rfl (lv_at hl 2 rfl) ?_
  refine gq_get hx hb ht hown hK hP i_X7 0 rfl rfl 8 (by decide) wd_261 rfl rfl dX7_silentOnes_11 ?_
  refine lv_iload_n hx hb dX7_silentOnes_14 rfl (lv_at hl 0 rfl) ?_
  refine gq_iald hx hb hK hP 1 rfl 0 (by unfold vp_in; decide +kernel) rfl dX7_silentOnes_15 ?_
  refine gq_ior hx hb 0 (by decide +kernel) dX7_silentOnes_16 ?_
  refine lv_istore_n (lv' := [(1, .int 0), (2, .int 1), (0, .ref t)]) hx hb dX7_silentOnes_17 rfl hl (by decide) rfl (fun ls hl => ?_)
  refine lv_iinc (v := 2) (lv' := [(2, .int 2), (1, .int 0), (0, .ref t)]) hx hb dX7_silentOnes_18 hl (k := 1) rfl (by decide +kernel) (by decide) rfl (fun ls hl => ?_)
  refine lv_goto (tgt := 4) hx hb dX7_silentOnes_21 (by decide) ?_
  refine lv_iload_n hx hb dX7_silentOnes_4 rfl (lv_at hl 0 rfl) ?_
  refine lv_iconst (v := 3) hx hb dX7_silentOnes_5 (by decide) ?_
  refine lv_icmp_ge (tgt := 24) hx hb dX7_silentOnes_6 (by decide) (fun c0 => absurd c0 (by decide +kernel)) (fun _ => ?_)
  refine lv_iload_n hx hb dX7_silentOnes_9 rfl (lv_at hl 1 rfl) ?_
  refine lv_aload_n hx hb dX7_silentOnes_10 rfl (lv_at hl 2 rfl) ?_
  refine gq_get hx hb ht hown hK hP i_X7 0 rfl rfl 8 (by decide) wd_261 rfl rfl dX7_silentOnes_11 ?_
  refine lv_iload_n hx hb dX7_silentOnes_14 rfl (lv_at hl 0 rfl) ?_
  refine gq_iald hx hb hK hP 1 rfl 0 (by unfold vp_in; decide +kernel) rfl dX7_silentOnes_15 ?_
  refine gq_ior hx hb 0 (by decide +kernel) dX7_silentOnes_16 ?_
  refine lv_istore_n (lv' := [(1, .int 0), (2, .int 2), (0, .ref t)]) hx hb dX7_silentOnes_17 rfl hl (by decide) rfl (fun ls hl => ?_)
  refine lv_iinc (v := 3) (lv' := [(2, .int 3), (1, .int 0), (0, .ref t)]) hx hb dX7_silentOnes_18 hl (k := 1) rfl (by decide +kernel) (by decide) rfl (fun ls hl => ?_)
  refine lv_goto (tgt := 4) hx hb dX7_silentOnes_21 (by decide) ?_
  refine lv_iload_n hx hb dX7_silentOnes_4 rfl (lv_at hl 0 rfl) ?_
  refine lv_iconst (v := 3) hx hb dX7_silentOnes_5 (by decide) ?_
  refine lv_icmp_ge (tgt := 24) hx hb dX7_silentOnes_6 (by decide) (fun _ => ?_) (fun c0 => absurd (by decide +kernel) c0)
  refine lv_iload_n hx hb dX7_silentOnes_24 rfl (lv_at hl 1 rfl) ?_
  have hP9 := hP.sub (ws' := [(t, .inr (7, [.ref s0, .ref s1, .ref s2, .ref s3, .ref s4, .ref s5, .ref s6, .ref s7, .ref s8, .int 0])), (s8, .inl (G.2.2 0, 3, .inl (fun _ => 0)))]) [0, 1] rfl
  have hD9 := hD.sub (ws' := [(t, .inr (7, [.ref s0, .ref s1, .ref s2, .ref s3, .ref s4, .ref s5, .ref s6, .ref s7, .ref s8, .int 0])), (s8, .inl (G.2.2 0, 3, .inl (fun _ => 0)))]) [0, 1] (by decide) rfl
  exact W.iret (v := 0) hx hb hr (gq_endI () rfl hP9 hD9 hS) hS.2.2 dX7_silentOnes_25
set_option maxHeartbeats 4000000 in
set_option maxRecDepth 100000 in
theorem c_State_allPaid (l : Launch) (G : gg_T) (sz : Nat) (t : Nat) (s0 : Nat) (s1 : Nat) (s2 : Nat) (s3 : Nat) (s4 : Nat) (s5 : Nat) (s6 : Nat) (s7 : Nat) (s8 : Nat) : Met l yX7_allPaid (ts_L yX7_allPaid cX7_allPaid 3 (some .int)) ({ frames := 0, cells := 0, slots := 0, locals := 0 }) (gc_P G [(t, .inr (7, [.ref s0, .ref s1, .ref s2, .ref s3, .ref s4, .ref s5, .ref s6, .ref s7, .ref s8, .int 0])), (s7, .inl (G.2.2 0, 3, .inl (fun _ => 0)))] sz [.ref t]) (gc_I G (va_A [(t, .inr (7, [.ref s0, .ref s1, .ref s2, .ref s3, .ref s4, .ref s5, .ref s6, .ref s7, .ref s8, .int 0])), (s7, .inl (G.2.2 0, 3, .inl (fun _ => 0)))] sz) (fun r (_ : Unit) => r = 0) (fun _ => [(t, .inr (7, [.ref s0, .ref s1, .ref s2, .ref s3, .ref s4, .ref s5, .ref s6, .ref s7, .ref s8, .int 0])), (s7, .inl (G.2.2 0, 3, .inl (fun _ => 0)))])) 0 0 (va_A [(t, .inr (7, [.ref s0, .ref s1, .ref s2, .ref s3, .ref s4, .ref s5, .ref s6, .ref s7, .ref s8, .int 0])), (s7, .inl (G.2.2 0, 3, .inl (fun _ => 0)))] sz) := by
  refine Met.ofW (cc := cX7_allPaid) (maxL := 3) (ret := (some .int)) (by decide) rfl ?_
  intro p e s m args below meth c s₁ B hml hv
  obtain ⟨rfl, hsz, hP, hK, hD0⟩ := hv
  have hx := B.exec
  have hb := B.bytes
  have hr := B.returns
  have ht := ts_ht (atoms_spec (ws := ts_L yX7_allPaid cX7_allPaid 3 (some .int)) B.pre)
  have hown : s.vm.findClass RX7 = some m.cls := findClass_of_methodNamed B.named
  have hlocks := B.notSynchronized
  subst hsz
  have hD := hD0.self (sz := s.heap.size)
  generalize hAe : va_A [(t, .inr (7, [.ref s0, .ref s1, .ref s2, .ref s3, .ref s4, .ref s5, .ref s6, .ref s7, .ref s8, .int 0])), (s7, .inl (G.2.2 0, 3, .inl (fun _ => 0)))] s.heap.size = A at hD ⊢
  have hA : ∀ q : Nat, s.heap.size ≤ q → A q := fun q h => by rw [← hAe]; exact Or.inr h
  have hS : va_S A s.heap s.heap [] := va_S.rf
  have hl := lv_entry ([.ref t]) (n := 3) (Nat.le_of_ble_eq_true rfl)
  rw [lg_entry_eq]
  generalize (lg_sl ([.ref t]) ++ List.replicate (3 - (lg_sl ([.ref t])).length) Slot.unset).toArray = ls at hl ⊢
  have hl : lv_has ls 3 [(0, .ref t)] := hl
  refine lv_iconst (v := 0) hx hb dX7_allPaid_0 (by decide) ?_
  refine lv_istore_n (lv' := [(1, .int 0), (0, .ref t)]) hx hb dX7_allPaid_1 rfl hl (by decide) rfl (fun ls hl => ?_)
  refine lv_iconst (v := 0) hx hb dX7_allPaid_2 (by decide) ?_
  refine lv_istore_n (lv' := [(2, .int 0), (1, .int 0), (0, .ref t)]) hx hb dX7_allPaid_3 rfl hl (by decide) rfl (fun ls hl => ?_)
  refine lv_iload_n hx hb dX7_allPaid_4 rfl (lv_at hl 0 rfl) ?_
  refine lv_iconst (v := 3) hx hb dX7_allPaid_5 (by decide) ?_
  refine lv_icmp_ge (tgt := 24) hx hb dX7_allPaid_6 (by decide) (fun c0 => absurd c0 (by decide +kernel)) (fun _ => ?_)
  refine lv_iload_n hx hb dX7_allPaid_9 rfl (lv_at hl 1 rfl) ?_
  refine lv_aload_n hx hb dX7_allPaid_10 rfl (lv_at hl 2 rfl) ?_
  refine gq_get hx hb ht hown hK hP i_X7 0 rfl rfl 7 (by decide) wd_258 rfl rfl dX7_allPaid_11 ?_
  refine lv_iload_n hx hb dX7_allPaid_14 rfl (lv_at hl 0 rfl) ?_
  refine gq_iald hx hb hK hP 1 rfl 0 (by unfold vp_in; decide +kernel) rfl dX7_allPaid_15 ?_
  refine gq_iadd hx hb 0 (by decide +kernel) dX7_allPaid_16 ?_
  refine lv_istore_n (lv' := [(1, .int 0), (2, .int 0), (0, .ref t)]) hx hb dX7_allPaid_17 rfl hl (by decide) rfl (fun ls hl => ?_)
  refine lv_iinc (v := 1) (lv' := [(2, .int 1), (1, .int 0), (0, .ref t)]) hx hb dX7_allPaid_18 hl (k := 1) rfl (by decide +kernel) (by decide) rfl (fun ls hl => ?_)
  refine lv_goto (tgt := 4) hx hb dX7_allPaid_21 (by decide) ?_
  refine lv_iload_n hx hb dX7_allPaid_4 rfl (lv_at hl 0 rfl) ?_
  refine lv_iconst (v := 3) hx hb dX7_allPaid_5 (by decide) ?_
  refine lv_icmp_ge (tgt := 24) hx hb dX7_allPaid_6 (by decide) (fun c0 => absurd c0 (by decide +kernel)) (fun _ => ?_)
  refine lv_iload_n hx hb dX7_allPaid_9 rfl (lv_at hl 1 rfl) ?_
  refine lv_aload_n hx hb dX7_allPaid_10 rfl (lv_at hl 2 rfl) ?_
  refine gq_get hx hb ht hown hK hP i_X7 0 rfl rfl 7 (by decide) wd_258 rfl rfl dX7_allPaid_11 ?_
  refine lv_iload_n hx hb dX7_allPaid_14 rfl (lv_at hl 0 rfl) ?_
  refine gq_iald hx hb hK hP 1 rfl 0 (by unfold vp_in; decide +kernel) rfl dX7_allPaid_15 ?_
  refine gq_iadd hx hb 0 (by decide +kernel) dX7_allPaid_16 ?_
  refine lv_istore_n (lv' := [(1, .int 0), (2, .int 1), (0, .ref t)]) hx hb dX7_allPaid_17 rfl hl (by decide) rfl (fun ls hl => ?_)
  refine lv_iinc (v := 2) (lv' := [(2, .int 2), (1, .int 0), (0, .ref t)]) hx hb dX7_allPaid_18 hl (k := 1) rfl (by decide +kernel) (by decide) rfl (fun ls hl => ?_)
  refine lv_goto (tgt := 4) hx hb dX7_allPaid_21 (by decide) ?_
  refine lv_iload_n hx hb dX7_allPaid_4 rfl (lv_at hl 0 rfl) ?_
  refine lv_iconst (v := 3) hx hb dX7_allPaid_5 (by decide) ?_
  refine lv_icmp_ge (tgt := 24) hx hb dX7_allPaid_6 (by decide) (fun c0 => absurd c0 (by decide +kernel)) (fun _ => ?_)
  refine lv_iload_n hx hb dX7_allPaid_9 rfl (lv_at hl 1 rfl) ?_
  refine lv_aload_n hx hb dX7_allPaid_10 rfl (lv_at hl 2 rfl) ?_
  refine gq_get hx hb ht hown hK hP i_X7 0 rfl rfl 7 (by decide) wd_258 rfl rfl dX7_allPaid_11 ?_
  refine lv_iload_n hx hb dX7_allPaid_14 rfl (lv_at hl 0 rfl) ?_
  refine gq_iald hx hb hK hP 1 rfl 0 (by unfold vp_in; decide +kernel) rfl dX7_allPaid_15 ?_
  refine gq_iadd hx hb 0 (by decide +kernel) dX7_allPaid_16 ?_
  refine lv_istore_n (lv' := [(1, .int 0), (2, .int 2), (0, .ref t)]) hx hb dX7_allPaid_17 rfl hl (by decide) rfl (fun ls hl => ?_)
  refine lv_iinc (v := 3) (lv' := [(2, .int 3), (1, .int 0), (0, .ref t)]) hx hb dX7_allPaid_18 hl (k := 1) rfl (by decide +kernel) (by decide) rfl (fun ls hl => ?_)
  refine lv_goto (tgt := 4) hx hb dX7_allPaid_21 (by decide) ?_
  refine lv_iload_n hx hb dX7_allPaid_4 rfl (lv_at hl 0 rfl) ?_
  refine lv_iconst (v := 3) hx hb dX7_allPaid_5 (by decide) ?_
  refine lv_icmp_ge (tgt := 24) hx hb dX7_allPaid_6 (by decide) (fun _ => ?_) (fun c0 => absurd (by decide +kernel) c0)
  refine lv_iload_n hx hb dX7_allPaid_24 rfl (lv_at hl 1 rfl) ?_
  have hP9 := hP.sub (ws' := [(t, .inr (7, [.ref s0, .ref s1, .ref s2, .ref s3, .ref s4, .ref s5, .ref s6, .ref s7, .ref s8, .int 0])), (s7, .inl (G.2.2 0, 3, .inl (fun _ => 0)))]) [0, 1] rfl
  have hD9 := hD.sub (ws' := [(t, .inr (7, [.ref s0, .ref s1, .ref s2, .ref s3, .ref s4, .ref s5, .ref s6, .ref s7, .ref s8, .int 0])), (s7, .inl (G.2.2 0, 3, .inl (fun _ => 0)))]) [0, 1] (by decide) rfl
  exact W.iret (v := 0) hx hb hr (gq_endI () rfl hP9 hD9 hS) hS.2.2 dX7_allPaid_25

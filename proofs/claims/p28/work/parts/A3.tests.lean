theorem wd_1265 : (Jvm.Cond.fieldLink "SilentSaleModel" (145 : Nat) "SilentSaleModel" "deep" "I") ∈ tb_L := tb_in (i := 1265) (by decide +kernel) (by decide +kernel)
theorem wd_1267 : (Jvm.Cond.fieldLink "SilentSaleModel" (29 : Nat) "SilentSaleModel" "open" "[I") ∈ tb_L := tb_in (i := 1267) (by decide +kernel) (by decide +kernel)
theorem wd_1268 : (Jvm.Cond.fieldLink "SilentSaleModel" (148 : Nat) "SilentSaleModel" "opened" "I") ∈ tb_L := tb_in (i := 1268) (by decide +kernel) (by decide +kernel)
theorem wd_1511 : (Jvm.Cond.code ({ cls := "SilentSaleModel", name := "opens", desc := "(I)Z" } : Jvm.MethodName) prog_14_method_19_code (2 : Nat) (Option.some Jvm.ClassFile.FieldType.boolean)) ∈ tb_L := tb_in (i := 1511) (by decide +kernel) (by decide +kernel)
theorem dX12_opens_0 : decode cX12_opens 0 = .ok (.aload_n 0, 1) := by decide +kernel
theorem dX12_opens_1 : decode cX12_opens 1 = .ok (.getfield 145, 3) := by decide +kernel
theorem dX12_opens_4 : decode cX12_opens 4 = .ok (.bipush 10, 2) := by decide +kernel
theorem dX12_opens_6 : decode cX12_opens 6 = .ok (.if_icmp .ne 13, 3) := by decide +kernel
theorem dX12_opens_9 : decode cX12_opens 9 = .ok (.aload_n 0, 1) := by decide +kernel
theorem dX12_opens_10 : decode cX12_opens 10 = .ok (.iconst 2, 1) := by decide +kernel
theorem dX12_opens_11 : decode cX12_opens 11 = .ok (.aload_n 0, 1) := by decide +kernel
theorem dX12_opens_12 : decode cX12_opens 12 = .ok (.getfield 87, 3) := by decide +kernel
theorem dX12_opens_15 : decode cX12_opens 15 = .ok (.invokevirtual 108, 3) := by decide +kernel
theorem dX12_opens_18 : decode cX12_opens 18 = .ok (.ireturn, 1) := by decide +kernel
theorem dX12_opens_19 : decode cX12_opens 19 = .ok (.aload_n 0, 1) := by decide +kernel
theorem dX12_opens_20 : decode cX12_opens 20 = .ok (.dup, 1) := by decide +kernel
theorem dX12_opens_21 : decode cX12_opens 21 = .ok (.getfield 145, 3) := by decide +kernel
theorem dX12_opens_24 : decode cX12_opens 24 = .ok (.iconst 1, 1) := by decide +kernel
theorem dX12_opens_25 : decode cX12_opens 25 = .ok (.iadd, 1) := by decide +kernel
theorem dX12_opens_26 : decode cX12_opens 26 = .ok (.putfield 145, 3) := by decide +kernel
theorem dX12_opens_29 : decode cX12_opens 29 = .ok (.aload_n 0, 1) := by decide +kernel
theorem dX12_opens_30 : decode cX12_opens 30 = .ok (.getfield 29, 3) := by decide +kernel
theorem dX12_opens_33 : decode cX12_opens 33 = .ok (.aload_n 0, 1) := by decide +kernel
theorem dX12_opens_34 : decode cX12_opens 34 = .ok (.getfield 148, 3) := by decide +kernel
theorem dX12_opens_37 : decode cX12_opens 37 = .ok (.iload_n 1, 1) := by decide +kernel
theorem dX12_opens_38 : decode cX12_opens 38 = .ok (.iastore, 1) := by decide +kernel
theorem dX12_opens_39 : decode cX12_opens 39 = .ok (.aload_n 0, 1) := by decide +kernel
theorem dX12_opens_40 : decode cX12_opens 40 = .ok (.dup, 1) := by decide +kernel
theorem dX12_opens_41 : decode cX12_opens 41 = .ok (.getfield 148, 3) := by decide +kernel
theorem dX12_opens_44 : decode cX12_opens 44 = .ok (.iconst 1, 1) := by decide +kernel
theorem dX12_opens_45 : decode cX12_opens 45 = .ok (.iadd, 1) := by decide +kernel
theorem dX12_opens_46 : decode cX12_opens 46 = .ok (.putfield 148, 3) := by decide +kernel
theorem dX12_opens_49 : decode cX12_opens 49 = .ok (.iconst 1, 1) := by decide +kernel
theorem dX12_opens_50 : decode cX12_opens 50 = .ok (.ireturn, 1) := by decide +kernel
theorem wd_1526 : (Jvm.Cond.code ({ cls := "SilentSaleModel", name := "strength", desc := "(I)I" } : Jvm.MethodName) prog_14_method_20_code (1 : Nat) (Option.some Jvm.ClassFile.FieldType.int)) ∈ tb_L := tb_in (i := 1526) (by decide +kernel) (by decide +kernel)
theorem dX12_strength_0 : decode cX12_strength 0 = .ok (.iload_n 0, 1) := by decide +kernel
theorem dX12_strength_1 : decode cX12_strength 1 = .ok (.bipush 13, 2) := by decide +kernel
theorem dX12_strength_3 : decode cX12_strength 3 = .ok (.if_icmp .ne 7, 3) := by decide +kernel
theorem dX12_strength_6 : decode cX12_strength 6 = .ok (.iconst 1, 1) := by decide +kernel
theorem dX12_strength_7 : decode cX12_strength 7 = .ok (.goto 24, 3) := by decide +kernel
theorem dX12_strength_10 : decode cX12_strength 10 = .ok (.iload_n 0, 1) := by decide +kernel
theorem dX12_strength_11 : decode cX12_strength 11 = .ok (.bipush 12, 2) := by decide +kernel
theorem dX12_strength_13 : decode cX12_strength 13 = .ok (.if_icmp .ne 7, 3) := by decide +kernel
theorem dX12_strength_16 : decode cX12_strength 16 = .ok (.iconst 2, 1) := by decide +kernel
theorem dX12_strength_17 : decode cX12_strength 17 = .ok (.goto 14, 3) := by decide +kernel
theorem dX12_strength_20 : decode cX12_strength 20 = .ok (.iload_n 0, 1) := by decide +kernel
theorem dX12_strength_21 : decode cX12_strength 21 = .ok (.bipush 11, 2) := by decide +kernel
theorem dX12_strength_23 : decode cX12_strength 23 = .ok (.if_icmp .ne 7, 3) := by decide +kernel
theorem dX12_strength_26 : decode cX12_strength 26 = .ok (.iconst 3, 1) := by decide +kernel
theorem dX12_strength_27 : decode cX12_strength 27 = .ok (.goto 4, 3) := by decide +kernel
theorem dX12_strength_30 : decode cX12_strength 30 = .ok (.iconst 0, 1) := by decide +kernel
theorem dX12_strength_31 : decode cX12_strength 31 = .ok (.ireturn, 1) := by decide +kernel
theorem wd_1523 : (Jvm.Cond.code ({ cls := "SilentSaleModel", name := "settles", desc := "(I)V" } : Jvm.MethodName) prog_14_method_21_code (2 : Nat) (Option.none : Option Jvm.ClassFile.FieldType)) ∈ tb_L := tb_in (i := 1523) (by decide +kernel) (by decide +kernel)
theorem wd_1524 : (Jvm.Cond.methodLink "SilentSaleModel" (151 : Nat) ({ cls := "SilentSaleModel", name := "strength", desc := "(I)I" } : Jvm.MethodName)) ∈ tb_L := tb_in (i := 1524) (by decide +kernel) (by decide +kernel)
theorem wd_1525 : (Jvm.Cond.static ({ cls := "SilentSaleModel", name := "strength", desc := "(I)I" } : Jvm.MethodName)) ∈ tb_L := tb_in (i := 1525) (by decide +kernel) (by decide +kernel)
theorem dX12_settles_0 : decode cX12_settles 0 = .ok (.aload_n 0, 1) := by decide +kernel
theorem dX12_settles_1 : decode cX12_settles 1 = .ok (.getfield 148, 3) := by decide +kernel
theorem dX12_settles_4 : decode cX12_settles 4 = .ok (.ifCond .le 72, 3) := by decide +kernel
theorem dX12_settles_7 : decode cX12_settles 7 = .ok (.aload_n 0, 1) := by decide +kernel
theorem dX12_settles_8 : decode cX12_settles 8 = .ok (.getfield 29, 3) := by decide +kernel
theorem dX12_settles_11 : decode cX12_settles 11 = .ok (.aload_n 0, 1) := by decide +kernel
theorem dX12_settles_12 : decode cX12_settles 12 = .ok (.getfield 148, 3) := by decide +kernel
theorem dX12_settles_15 : decode cX12_settles 15 = .ok (.iconst 1, 1) := by decide +kernel
theorem dX12_settles_16 : decode cX12_settles 16 = .ok (.isub, 1) := by decide +kernel
theorem dX12_settles_17 : decode cX12_settles 17 = .ok (.iaload, 1) := by decide +kernel
theorem dX12_settles_18 : decode cX12_settles 18 = .ok (.invokestatic 151, 3) := by decide +kernel
theorem dX12_settles_21 : decode cX12_settles 21 = .ok (.iload_n 1, 1) := by decide +kernel
theorem dX12_settles_22 : decode cX12_settles 22 = .ok (.if_icmp .lt 54, 3) := by decide +kernel
theorem dX12_settles_25 : decode cX12_settles 25 = .ok (.aload_n 0, 1) := by decide +kernel
theorem dX12_settles_26 : decode cX12_settles 26 = .ok (.dup, 1) := by decide +kernel
theorem dX12_settles_27 : decode cX12_settles 27 = .ok (.getfield 148, 3) := by decide +kernel
theorem dX12_settles_30 : decode cX12_settles 30 = .ok (.iconst 1, 1) := by decide +kernel
theorem dX12_settles_31 : decode cX12_settles 31 = .ok (.isub, 1) := by decide +kernel
theorem dX12_settles_32 : decode cX12_settles 32 = .ok (.putfield 148, 3) := by decide +kernel
theorem dX12_settles_35 : decode cX12_settles 35 = .ok (.aload_n 0, 1) := by decide +kernel
theorem dX12_settles_36 : decode cX12_settles 36 = .ok (.aload_n 0, 1) := by decide +kernel
theorem dX12_settles_37 : decode cX12_settles 37 = .ok (.getfield 29, 3) := by decide +kernel
theorem dX12_settles_40 : decode cX12_settles 40 = .ok (.aload_n 0, 1) := by decide +kernel
theorem dX12_settles_41 : decode cX12_settles 41 = .ok (.getfield 148, 3) := by decide +kernel
theorem dX12_settles_44 : decode cX12_settles 44 = .ok (.iaload, 1) := by decide +kernel
theorem dX12_settles_45 : decode cX12_settles 45 = .ok (.iconst 0, 1) := by decide +kernel
theorem dX12_settles_46 : decode cX12_settles 46 = .ok (.invokevirtual 155, 3) := by decide +kernel
theorem dX12_settles_49 : decode cX12_settles 49 = .ok (.aload_n 0, 1) := by decide +kernel
theorem dX12_settles_50 : decode cX12_settles 50 = .ok (.getfield 29, 3) := by decide +kernel
theorem dX12_settles_53 : decode cX12_settles 53 = .ok (.aload_n 0, 1) := by decide +kernel
theorem dX12_settles_54 : decode cX12_settles 54 = .ok (.getfield 148, 3) := by decide +kernel
theorem dX12_settles_57 : decode cX12_settles 57 = .ok (.iaload, 1) := by decide +kernel
theorem dX12_settles_58 : decode cX12_settles 58 = .ok (.bipush 11, 2) := by decide +kernel
theorem dX12_settles_60 : decode cX12_settles 60 = .ok (.if_icmp .ne (-60), 3) := by decide +kernel
theorem dX12_settles_63 : decode cX12_settles 63 = .ok (.aload_n 0, 1) := by decide +kernel
theorem dX12_settles_64 : decode cX12_settles 64 = .ok (.dup, 1) := by decide +kernel
theorem dX12_settles_65 : decode cX12_settles 65 = .ok (.getfield 145, 3) := by decide +kernel
theorem dX12_settles_68 : decode cX12_settles 68 = .ok (.iconst 1, 1) := by decide +kernel
theorem dX12_settles_69 : decode cX12_settles 69 = .ok (.isub, 1) := by decide +kernel
theorem dX12_settles_70 : decode cX12_settles 70 = .ok (.putfield 145, 3) := by decide +kernel
theorem dX12_settles_73 : decode cX12_settles 73 = .ok (.goto (-73), 3) := by decide +kernel
theorem dX12_settles_76 : decode cX12_settles 76 = .ok (.return_, 1) := by decide +kernel
theorem wd_1530 : (Jvm.Cond.code ({ cls := "SilentSaleModel", name := "isInside", desc := "()Z" } : Jvm.MethodName) prog_14_method_27_code (2 : Nat) (Option.some Jvm.ClassFile.FieldType.boolean)) ∈ tb_L := tb_in (i := 1530) (by decide +kernel) (by decide +kernel)
theorem dX12_isInside_0 : decode cX12_isInside 0 = .ok (.iconst 0, 1) := by decide +kernel
theorem dX12_isInside_1 : decode cX12_isInside 1 = .ok (.istore_n 1, 1) := by decide +kernel
theorem dX12_isInside_2 : decode cX12_isInside 2 = .ok (.iload_n 1, 1) := by decide +kernel
theorem dX12_isInside_3 : decode cX12_isInside 3 = .ok (.aload_n 0, 1) := by decide +kernel
theorem dX12_isInside_4 : decode cX12_isInside 4 = .ok (.getfield 148, 3) := by decide +kernel
theorem dX12_isInside_7 : decode cX12_isInside 7 = .ok (.if_icmp .ge 22, 3) := by decide +kernel
theorem dX12_isInside_10 : decode cX12_isInside 10 = .ok (.aload_n 0, 1) := by decide +kernel
theorem dX12_isInside_11 : decode cX12_isInside 11 = .ok (.getfield 29, 3) := by decide +kernel
theorem dX12_isInside_14 : decode cX12_isInside 14 = .ok (.iload_n 1, 1) := by decide +kernel
theorem dX12_isInside_15 : decode cX12_isInside 15 = .ok (.iaload, 1) := by decide +kernel
theorem dX12_isInside_16 : decode cX12_isInside 16 = .ok (.bipush 91, 2) := by decide +kernel
theorem dX12_isInside_18 : decode cX12_isInside 18 = .ok (.if_icmp .ne 5, 3) := by decide +kernel
theorem dX12_isInside_21 : decode cX12_isInside 21 = .ok (.iconst 1, 1) := by decide +kernel
theorem dX12_isInside_22 : decode cX12_isInside 22 = .ok (.ireturn, 1) := by decide +kernel
theorem dX12_isInside_23 : decode cX12_isInside 23 = .ok (.iinc 1 1, 3) := by decide +kernel
theorem dX12_isInside_26 : decode cX12_isInside 26 = .ok (.goto (-24), 3) := by decide +kernel
theorem dX12_isInside_29 : decode cX12_isInside 29 = .ok (.iconst 0, 1) := by decide +kernel
theorem dX12_isInside_30 : decode cX12_isInside 30 = .ok (.ireturn, 1) := by decide +kernel
set_option maxHeartbeats 4000000 in
set_option maxRecDepth 100000 in
theorem d_m_opens (l : Launch) (G : gg_T) (Γ : Nat → Nat) (sz : Nat) (wt : va_W) (hT : tk_ty G Γ wt) (b : Int32) (m0 : Nat) (am : Nat → Nat) (v1 : Int32) (v2 : Int32) (v8 : Int32) (v9 : Int32) (v10 : Int32) (v11 : Int32) (v12 : Int32) (v13 : Int32) (v14 : Int32) (v16 : Int32) (v18 : Int32) (v21 : Int32) (v22 : Int32) (v23 : Int32) (v24 : Int32) (v25 : Int32) (v27 : Int32) (v32 : Int64) (op : Nat → Int32) (lo_b : 11 ≤ b.toInt) (hi_b : b.toInt ≤ 91) (k17 : Γ (am 17) = 32) (k19 : Γ (am 19) = 30) (k30 : Γ (am 30) = 28) (k31 : Γ (am 31) = 28) (lo_v1 : 0 ≤ v1.toInt) (hi_v1 : v1.toInt ≤ 400) (lo_v2 : 0 ≤ v2.toInt) (hi_v2 : v2.toInt ≤ 6) (lo_v8 : 0 ≤ v8.toInt) (hi_v8 : v8.toInt ≤ 400) (lo_v11 : 0 ≤ v11.toInt) (hi_v11 : v11.toInt ≤ 6) (lo_v12 : 0 ≤ v12.toInt) (hi_v12 : v12.toInt ≤ 60) (lo_v16 : 0 ≤ v16.toInt) (hi_v16 : v16.toInt ≤ 400) (lo_v21 : -1 ≤ v21.toInt) (hi_v21 : v21.toInt ≤ 5) (lo_v23 : 0 ≤ v23.toInt) (hi_v23 : v23.toInt ≤ 31) (lo_v27 : 0 ≤ v27.toInt) (hi_v27 : v27.toInt ≤ 20) (xfr : v21.toInt < v2.toInt) (hop : v16.toInt < 400) : Met l yX12_opens (ts_L yX12_opens cX12_opens 2 (some .boolean)) ({ frames := 1, cells := 0, slots := 0, locals := 22 }) (gc_P G ([((am 15), .inl (G.2.2 0, 400, .inl op)), (m0, .inr (12, [.ref (am 0), .int v1, .int v2, .ref (am 3), .ref (am 4), .ref (am 5), .ref (am 6), .ref (am 7), .int v8, .int v9, .int v10, .int v11, .int v12, .int v13, .int v14, .ref (am 15), .int v16, .ref (am 17), .int v18, .ref (am 19), .ref (am 20), .int v21, .int v22, .int v23, .int v24, .int v25, .ref (am 26), .int v27, .ref (am 28), .ref (am 29), .ref (am 30), .ref (am 31), .long v32, .ref (am 33), .ref (am 34), .ref (am 35), .ref (am 36)]))] ++ wt) sz [.ref m0, .int b]) (gc_I G (va_A ([((am 15), .inl (G.2.2 0, 400, .inl op)), (m0, .inr (12, [.ref (am 0), .int v1, .int v2, .ref (am 3), .ref (am 4), .ref (am 5), .ref (am 6), .ref (am 7), .int v8, .int v9, .int v10, .int v11, .int v12, .int v13, .int v14, .ref (am 15), .int v16, .ref (am 17), .int v18, .ref (am 19), .ref (am 20), .int v21, .int v22, .int v23, .int v24, .int v25, .ref (am 26), .int v27, .ref (am 28), .ref (am 29), .ref (am 30), .ref (am 31), .long v32, .ref (am 33), .ref (am 34), .ref (am 35), .ref (am 36)]))] ++ wt) sz) (fun r (u : (Int32) × (Int32) × (Int32) × (Nat → Int32) × va_W) => match u with | (w9, w13, w16, op1, wt1) => tk_ty G Γ wt1 ∧ tk_kp [] wt wt1 ∧ (0 ≤ w16.toInt) ∧ (w16.toInt ≤ 400) ∧ 0 ≤ r.toInt ∧ r.toInt ≤ 1 ∧ ((r.toInt = 1 ∧ w16.toInt = v16.toInt + 1 ∧ upd op v16.toInt.toNat b = op1) ∨ (r.toInt = 0 ∧ w16.toInt = v16.toInt ∧ op1 = op))) (fun (u : (Int32) × (Int32) × (Int32) × (Nat → Int32) × va_W) => match u with | (w9, w13, w16, op1, wt1) => [((am 15), .inl (G.2.2 0, 400, .inl op1)), (m0, .inr (12, [.ref (am 0), .int v1, .int v2, .ref (am 3), .ref (am 4), .ref (am 5), .ref (am 6), .ref (am 7), .int v8, .int w9, .int v10, .int v11, .int v12, .int w13, .int v14, .ref (am 15), .int w16, .ref (am 17), .int v18, .ref (am 19), .ref (am 20), .int v21, .int v22, .int v23, .int v24, .int v25, .ref (am 26), .int v27, .ref (am 28), .ref (am 29), .ref (am 30), .ref (am 31), .long v32, .ref (am 33), .ref (am 34), .ref (am 35), .ref (am 36)]))] ++ wt1)) 0 0 (va_A ([((am 15), .inl (G.2.2 0, 400, .inl op)), (m0, .inr (12, [.ref (am 0), .int v1, .int v2, .ref (am 3), .ref (am 4), .ref (am 5), .ref (am 6), .ref (am 7), .int v8, .int v9, .int v10, .int v11, .int v12, .int v13, .int v14, .ref (am 15), .int v16, .ref (am 17), .int v18, .ref (am 19), .ref (am 20), .int v21, .int v22, .int v23, .int v24, .int v25, .ref (am 26), .int v27, .ref (am 28), .ref (am 29), .ref (am 30), .ref (am 31), .long v32, .ref (am 33), .ref (am 34), .ref (am 35), .ref (am 36)]))] ++ wt) sz) := by
  refine Met.ofW (cc := cX12_opens) (maxL := 2) (ret := (some .boolean)) (by decide) rfl ?_
  intro p e s m args below meth c s₁ B hml hv
  obtain ⟨rfl, hsz, hP, hK, hD0⟩ := hv
  have hx := B.exec
  have hb := B.bytes
  have hr := B.returns
  have ht := ts_ht (atoms_spec (ws := ts_L yX12_opens cX12_opens 2 (some .boolean)) B.pre)
  have hown : s.vm.findClass RX12 = some m.cls := findClass_of_methodNamed B.named
  have hlocks := B.notSynchronized
  subst hsz
  have hD := hD0.self (sz := s.heap.size)
  generalize hAe : va_A ([((am 15), .inl (G.2.2 0, 400, .inl op)), (m0, .inr (12, [.ref (am 0), .int v1, .int v2, .ref (am 3), .ref (am 4), .ref (am 5), .ref (am 6), .ref (am 7), .int v8, .int v9, .int v10, .int v11, .int v12, .int v13, .int v14, .ref (am 15), .int v16, .ref (am 17), .int v18, .ref (am 19), .ref (am 20), .int v21, .int v22, .int v23, .int v24, .int v25, .ref (am 26), .int v27, .ref (am 28), .ref (am 29), .ref (am 30), .ref (am 31), .long v32, .ref (am 33), .ref (am 34), .ref (am 35), .ref (am 36)]))] ++ wt) s.heap.size = A at hD ⊢
  have hA : ∀ q : Nat, s.heap.size ≤ q → A q := fun q h => by rw [← hAe]; exact Or.inr h
  clear hAe hD0
  have hS : va_S A s.heap s.heap [] := va_S.rf
  obtain ⟨w0, hw0⟩ : ∃ z, z = wt := ⟨_, rfl⟩
  have hW : tk_kp [] w0 wt := by rw [hw0]; exact tk_kp.rf
  rw [← hw0]
  clear hw0
  have hP : va_P (gg_D G) classes ([((am 15), .inl (G.2.2 0, 400, .inl op)), (m0, .inr (12, [.ref (am 0), .int v1, .int v2, .ref (am 3), .ref (am 4), .ref (am 5), .ref (am 6), .ref (am 7), .int v8, .int v9, .int v10, .int v11, .int v12, .int v13, .int v14, .ref (am 15), .int v16, .ref (am 17), .int v18, .ref (am 19), .ref (am 20), .int v21, .int v22, .int v23, .int v24, .int v25, .ref (am 26), .int v27, .ref (am 28), .ref (am 29), .ref (am 30), .ref (am 31), .long v32, .ref (am 33), .ref (am 34), .ref (am 35), .ref (am 36)]))] ++ wt) s.heap := hP
  have hD : va_D A ([((am 15), .inl (G.2.2 0, 400, .inl op)), (m0, .inr (12, [.ref (am 0), .int v1, .int v2, .ref (am 3), .ref (am 4), .ref (am 5), .ref (am 6), .ref (am 7), .int v8, .int v9, .int v10, .int v11, .int v12, .int v13, .int v14, .ref (am 15), .int v16, .ref (am 17), .int v18, .ref (am 19), .ref (am 20), .int v21, .int v22, .int v23, .int v24, .int v25, .ref (am 26), .int v27, .ref (am 28), .ref (am 29), .ref (am 30), .ref (am 31), .long v32, .ref (am 33), .ref (am 34), .ref (am 35), .ref (am 36)]))] ++ wt) := hD
  have hl := lv_entry ([.ref m0, .int b]) (n := 2) (Nat.le_of_ble_eq_true rfl)
  rw [lg_entry_eq]
  generalize (lg_sl ([.ref m0, .int b]) ++ List.replicate (2 - (lg_sl ([.ref m0, .int b])).length) Slot.unset).toArray = ls at hl ⊢
  have hl : lv_has ls 2 [(0, .ref m0), (1, .int b)] := hl
  have l0 : (0 : Int32).toInt = 0 := by decide +kernel
  have l1 : (1 : Int32).toInt = 1 := by decide +kernel
  have l2 : (2 : Int32).toInt = 2 := by decide +kernel
  have l10 : (10 : Int32).toInt = 10 := by decide +kernel
  refine lv_aload_n hx hb dX12_opens_0 rfl (lv_at hl 0 rfl) ?_
  refine gq_get hx hb ht hown hK hP i_X12 1 rfl rfl 13 (by decide) wd_1265 rfl rfl dX12_opens_1 ?_
  refine lv_bipush (v := 10) hx hb dX12_opens_4 (by decide +kernel) ?_
  refine lv_icmp_ne (tgt := 19) hx hb dX12_opens_6 (by decide) (fun c_1 => ?_) (fun c_1 => ?_)
  · rw [← Int32.toInt_inj] at c_1
    refine lv_aload_n hx hb dX12_opens_19 rfl (lv_at hl 0 rfl) ?_
    refine lv_dup hx hb dX12_opens_20 rfl ?_
    refine gq_get hx hb ht hown hK hP i_X12 1 rfl rfl 13 (by decide) wd_1265 rfl rfl dX12_opens_21 ?_
    refine lv_iconst (v := 1) hx hb dX12_opens_24 (by decide +kernel) ?_
    obtain ⟨t_2, et_2⟩ : ∃ zz_ : Int32, v13 + 1 = zz_ := ⟨_, rfl⟩
    refine gq_iadd hx hb t_2 et_2 dX12_opens_25 ?_
    refine gq_put (ws' := [((am 15), .inl (G.2.2 0, 400, .inl op)), (m0, .inr (12, [.ref (am 0), .int v1, .int v2, .ref (am 3), .ref (am 4), .ref (am 5), .ref (am 6), .ref (am 7), .int v8, .int v9, .int v10, .int v11, .int v12, .int t_2, .int v14, .ref (am 15), .int v16, .ref (am 17), .int v18, .ref (am 19), .ref (am 20), .int v21, .int v22, .int v23, .int v24, .int v25, .ref (am 26), .int v27, .ref (am 28), .ref (am 29), .ref (am 30), .ref (am 31), .long v32, .ref (am 33), .ref (am 34), .ref (am 35), .ref (am 36)]))] ++ wt) hx hb ht hown hK hP hD hS i_X12 tyX12 tyX12_ok nmX12 1 rfl rfl 13 (by decide) wd_1265 rfl rfl rfl rfl (Nat.le_of_ble_eq_true rfl) rfl dX12_opens_26 (fun H locs hP hD hS => ?_)
    refine lv_aload_n hx hb dX12_opens_29 rfl (lv_at hl 0 rfl) ?_
    refine gq_get hx hb ht hown hK hP i_X12 1 rfl rfl 15 (by decide) wd_1267 rfl rfl dX12_opens_30 ?_
    refine lv_aload_n hx hb dX12_opens_33 rfl (lv_at hl 0 rfl) ?_
    refine gq_get hx hb ht hown hK hP i_X12 1 rfl rfl 16 (by decide) wd_1268 rfl rfl dX12_opens_34 ?_
    refine lv_iload_n hx hb dX12_opens_37 rfl (lv_at hl 1 rfl) ?_
    obtain ⟨f_3, ef_3⟩ : ∃ zz_ : Nat → Int32, upd op (Int32.toNatClampNeg v16) b = zz_ := ⟨_, rfl⟩
    refine gq_iast (ws' := [((am 15), .inl (G.2.2 0, 400, .inl f_3)), (m0, .inr (12, [.ref (am 0), .int v1, .int v2, .ref (am 3), .ref (am 4), .ref (am 5), .ref (am 6), .ref (am 7), .int v8, .int v9, .int v10, .int v11, .int v12, .int t_2, .int v14, .ref (am 15), .int v16, .ref (am 17), .int v18, .ref (am 19), .ref (am 20), .int v21, .int v22, .int v23, .int v24, .int v25, .ref (am 26), .int v27, .ref (am 28), .ref (am 29), .ref (am 30), .ref (am 31), .long v32, .ref (am 33), .ref (am 34), .ref (am 35), .ref (am 36)]))] ++ wt) hx hb hK hP hD hS 0 rfl f_3 (ia_in (n := 400) (by omega) (by omega)) ef_3 rfl dX12_opens_38 (fun H locs hP hD hS => ?_)
    rw [show Int32.toNatClampNeg v16 = v16.toInt.toNat from ix_n (by omega)] at ef_3
    have hOPx := ef_3
    refine lv_aload_n hx hb dX12_opens_39 rfl (lv_at hl 0 rfl) ?_
    refine lv_dup hx hb dX12_opens_40 rfl ?_
    refine gq_get hx hb ht hown hK hP i_X12 1 rfl rfl 16 (by decide) wd_1268 rfl rfl dX12_opens_41 ?_
    refine lv_iconst (v := 1) hx hb dX12_opens_44 (by decide +kernel) ?_
    obtain ⟨t_4, et_4⟩ : ∃ zz_ : Int32, v16 + 1 = zz_ := ⟨_, rfl⟩
    refine gq_iadd hx hb t_4 et_4 dX12_opens_45 ?_
    have ft_4 := ia_add et_4 (by omega) (by omega)
    refine gq_put (ws' := [((am 15), .inl (G.2.2 0, 400, .inl f_3)), (m0, .inr (12, [.ref (am 0), .int v1, .int v2, .ref (am 3), .ref (am 4), .ref (am 5), .ref (am 6), .ref (am 7), .int v8, .int v9, .int v10, .int v11, .int v12, .int t_2, .int v14, .ref (am 15), .int t_4, .ref (am 17), .int v18, .ref (am 19), .ref (am 20), .int v21, .int v22, .int v23, .int v24, .int v25, .ref (am 26), .int v27, .ref (am 28), .ref (am 29), .ref (am 30), .ref (am 31), .long v32, .ref (am 33), .ref (am 34), .ref (am 35), .ref (am 36)]))] ++ wt) hx hb ht hown hK hP hD hS i_X12 tyX12 tyX12_ok nmX12 1 rfl rfl 16 (by decide) wd_1268 rfl rfl rfl rfl (Nat.le_of_ble_eq_true rfl) rfl dX12_opens_46 (fun H locs hP hD hS => ?_)
    refine lv_iconst (v := 1) hx hb dX12_opens_49 (by decide +kernel) ?_
    have hP9 : va_P (gg_D G) classes ([((am 15), .inl (G.2.2 0, 400, .inl f_3)), (m0, .inr (12, [.ref (am 0), .int v1, .int v2, .ref (am 3), .ref (am 4), .ref (am 5), .ref (am 6), .ref (am 7), .int v8, .int v9, .int v10, .int v11, .int v12, .int t_2, .int v14, .ref (am 15), .int t_4, .ref (am 17), .int v18, .ref (am 19), .ref (am 20), .int v21, .int v22, .int v23, .int v24, .int v25, .ref (am 26), .int v27, .ref (am 28), .ref (am 29), .ref (am 30), .ref (am 31), .long v32, .ref (am 33), .ref (am 34), .ref (am 35), .ref (am 36)]))] ++ wt) _ := hP
    have hD9 : va_D A ([((am 15), .inl (G.2.2 0, 400, .inl f_3)), (m0, .inr (12, [.ref (am 0), .int v1, .int v2, .ref (am 3), .ref (am 4), .ref (am 5), .ref (am 6), .ref (am 7), .int v8, .int v9, .int v10, .int v11, .int v12, .int t_2, .int v14, .ref (am 15), .int t_4, .ref (am 17), .int v18, .ref (am 19), .ref (am 20), .int v21, .int v22, .int v23, .int v24, .int v25, .ref (am 26), .int v27, .ref (am 28), .ref (am 29), .ref (am 30), .ref (am 31), .long v32, .ref (am 33), .ref (am 34), .ref (am 35), .ref (am 36)]))] ++ wt) := hD
    exact W.zret (v := 1) hx hb hr (by decide +kernel) (gq_endI (v9, t_2, t_4, f_3, wt) ⟨hT, hW, (by omega), (by omega), (by omega), (by omega), (Or.inl ⟨by omega, by omega, hOPx⟩)⟩ hP9 hD9 hS) hS.2.2 dX12_opens_50
  · rw [← Int32.toInt_inj] at c_1
    refine lv_aload_n hx hb dX12_opens_9 rfl (lv_at hl 0 rfl) ?_
    refine lv_iconst (v := 2) hx hb dX12_opens_10 (by decide +kernel) ?_
    refine lv_aload_n hx hb dX12_opens_11 rfl (lv_at hl 0 rfl) ?_
    refine gq_get hx hb ht hown hK hP i_X12 1 rfl rfl 8 (by decide) wd_1260 rfl rfl dX12_opens_12 ?_
    have hP : va_P (gg_D G) classes ([((am 15), .inl (G.2.2 0, 400, .inl op))] ++ ([(m0, .inr (12, [.ref (am 0), .int v1, .int v2, .ref (am 3), .ref (am 4), .ref (am 5), .ref (am 6), .ref (am 7), .int v8, .int v9, .int v10, .int v11, .int v12, .int v13, .int v14, .ref (am 15), .int v16, .ref (am 17), .int v18, .ref (am 19), .ref (am 20), .int v21, .int v22, .int v23, .int v24, .int v25, .ref (am 26), .int v27, .ref (am 28), .ref (am 29), .ref (am 30), .ref (am 31), .long v32, .ref (am 33), .ref (am 34), .ref (am 35), .ref (am 36)]))] ++ wt)) s.heap := hP
    have hD : va_D A ([((am 15), .inl (G.2.2 0, 400, .inl op))] ++ ([(m0, .inr (12, [.ref (am 0), .int v1, .int v2, .ref (am 3), .ref (am 4), .ref (am 5), .ref (am 6), .ref (am 7), .int v8, .int v9, .int v10, .int v11, .int v12, .int v13, .int v14, .ref (am 15), .int v16, .ref (am 17), .int v18, .ref (am 19), .ref (am 20), .int v21, .int v22, .int v23, .int v24, .int v25, .ref (am 26), .int v27, .ref (am 28), .ref (am 29), .ref (am 30), .ref (am 31), .long v32, .ref (am 33), .ref (am 34), .ref (am 35), .ref (am 36)]))] ++ wt)) := hD
    refine gt_callI (wr := [((am 15), .inl (G.2.2 0, 400, .inl op))]) (va_runV (As := [.int 2, .int v8]) (rest := []) ⟨hx, hb, hml, hown, ht⟩ (d_m_fails l G Γ s.heap.size wt hT 2 v8 m0 am v1 v2 v8 v9 v10 v11 v12 v13 v14 v16 v18 v21 v22 v23 v24 v25 v27 v32 (by first | assumption | exact hSD.1 | exact hSD.w _ | (rw [hKH 2 (by omega)]; exact hKP) | omega) (by first | assumption | exact hSD.1 | exact hSD.w _ | (rw [hKH 2 (by omega)]; exact hKP) | omega) (by first | assumption | exact hSD.1 | exact hSD.w _ | (rw [hKH 2 (by omega)]; exact hKP) | omega) (by first | assumption | exact hSD.1 | exact hSD.w _ | (rw [hKH 2 (by omega)]; exact hKP) | omega) (by first | assumption | exact hSD.1 | exact hSD.w _ | (rw [hKH 2 (by omega)]; exact hKP) | omega) (by first | assumption | exact hSD.1 | exact hSD.w _ | (rw [hKH 2 (by omega)]; exact hKP) | omega) (by first | assumption | exact hSD.1 | exact hSD.w _ | (rw [hKH 2 (by omega)]; exact hKP) | omega) (by first | assumption | exact hSD.1 | exact hSD.w _ | (rw [hKH 2 (by omega)]; exact hKP) | omega) (by first | assumption | exact hSD.1 | exact hSD.w _ | (rw [hKH 2 (by omega)]; exact hKP) | omega) (by first | assumption | exact hSD.1 | exact hSD.w _ | (rw [hKH 2 (by omega)]; exact hKP) | omega) (by first | assumption | exact hSD.1 | exact hSD.w _ | (rw [hKH 2 (by omega)]; exact hKP) | omega) (by first | assumption | exact hSD.1 | exact hSD.w _ | (rw [hKH 2 (by omega)]; exact hKP) | omega) (by first | assumption | exact hSD.1 | exact hSD.w _ | (rw [hKH 2 (by omega)]; exact hKP) | omega) (by first | assumption | exact hSD.1 | exact hSD.w _ | (rw [hKH 2 (by omega)]; exact hKP) | omega) (by first | assumption | exact hSD.1 | exact hSD.w _ | (rw [hKH 2 (by omega)]; exact hKP) | omega) (by first | assumption | exact hSD.1 | exact hSD.w _ | (rw [hKH 2 (by omega)]; exact hKP) | omega) (by first | assumption | exact hSD.1 | exact hSD.w _ | (rw [hKH 2 (by omega)]; exact hKP) | omega) (by first | assumption | exact hSD.1 | exact hSD.w _ | (rw [hKH 2 (by omega)]; exact hKP) | omega) (by first | assumption | exact hSD.1 | exact hSD.w _ | (rw [hKH 2 (by omega)]; exact hKP) | omega) (by first | assumption | exact hSD.1 | exact hSD.w _ | (rw [hKH 2 (by omega)]; exact hKP) | omega) (by first | assumption | exact hSD.1 | exact hSD.w _ | (rw [hKH 2 (by omega)]; exact hKP) | omega) (by first | assumption | exact hSD.1 | exact hSD.w _ | (rw [hKH 2 (by omega)]; exact hKP) | omega) (by first | assumption | exact hSD.1 | exact hSD.w _ | (rw [hKH 2 (by omega)]; exact hKP) | omega)) (cwV 2 ht (ts_gV wd_1411 wd_1413 wd_45 wd_134 wd_1414) rfl rfl rfl (by decide +kernel) ⟨Nat.le_of_ble_eq_true rfl, Nat.le_of_ble_eq_true rfl⟩) (gc_preV (ci := 12) (q0 := 0) hK (tw_right hP) (tw_rightD hD) rfl rfl) rfl rfl hl.1 rfl (lv_room (Nat.le_of_ble_eq_true rfl)) dX12_opens_15 ⟨Nat.le_of_ble_eq_true rfl, Nat.le_of_ble_eq_true rfl⟩) hP hD hS hA (fun r_5 u H locs hw hP hD hS => ?_)
    obtain ⟨y_6, wt⟩ := u
    obtain ⟨hT, hkp, lo_r_5, hi_r_5⟩ := hw
    have hW := hW.call (show ∀ x ∈ [], x ∈ [] by decide) hkp
    have hP : va_P (gg_D G) classes ([((am 15), .inl (G.2.2 0, 400, .inl op)), (m0, .inr (12, [.ref (am 0), .int v1, .int v2, .ref (am 3), .ref (am 4), .ref (am 5), .ref (am 6), .ref (am 7), .int v8, .int y_6, .int v10, .int v11, .int v12, .int v13, .int v14, .ref (am 15), .int v16, .ref (am 17), .int v18, .ref (am 19), .ref (am 20), .int v21, .int v22, .int v23, .int v24, .int v25, .ref (am 26), .int v27, .ref (am 28), .ref (am 29), .ref (am 30), .ref (am 31), .long v32, .ref (am 33), .ref (am 34), .ref (am 35), .ref (am 36)]))] ++ wt) H := hP
    have hD : va_D A ([((am 15), .inl (G.2.2 0, 400, .inl op)), (m0, .inr (12, [.ref (am 0), .int v1, .int v2, .ref (am 3), .ref (am 4), .ref (am 5), .ref (am 6), .ref (am 7), .int v8, .int y_6, .int v10, .int v11, .int v12, .int v13, .int v14, .ref (am 15), .int v16, .ref (am 17), .int v18, .ref (am 19), .ref (am 20), .int v21, .int v22, .int v23, .int v24, .int v25, .ref (am 26), .int v27, .ref (am 28), .ref (am 29), .ref (am 30), .ref (am 31), .long v32, .ref (am 33), .ref (am 34), .ref (am 35), .ref (am 36)]))] ++ wt) := hD
    have z_r_5 : r_5 = 0 := by rw [← Int32.toInt_inj]; omega
    subst z_r_5
    have hP9 : va_P (gg_D G) classes ([((am 15), .inl (G.2.2 0, 400, .inl op)), (m0, .inr (12, [.ref (am 0), .int v1, .int v2, .ref (am 3), .ref (am 4), .ref (am 5), .ref (am 6), .ref (am 7), .int v8, .int y_6, .int v10, .int v11, .int v12, .int v13, .int v14, .ref (am 15), .int v16, .ref (am 17), .int v18, .ref (am 19), .ref (am 20), .int v21, .int v22, .int v23, .int v24, .int v25, .ref (am 26), .int v27, .ref (am 28), .ref (am 29), .ref (am 30), .ref (am 31), .long v32, .ref (am 33), .ref (am 34), .ref (am 35), .ref (am 36)]))] ++ wt) _ := hP
    have hD9 : va_D A ([((am 15), .inl (G.2.2 0, 400, .inl op)), (m0, .inr (12, [.ref (am 0), .int v1, .int v2, .ref (am 3), .ref (am 4), .ref (am 5), .ref (am 6), .ref (am 7), .int v8, .int y_6, .int v10, .int v11, .int v12, .int v13, .int v14, .ref (am 15), .int v16, .ref (am 17), .int v18, .ref (am 19), .ref (am 20), .int v21, .int v22, .int v23, .int v24, .int v25, .ref (am 26), .int v27, .ref (am 28), .ref (am 29), .ref (am 30), .ref (am 31), .long v32, .ref (am 33), .ref (am 34), .ref (am 35), .ref (am 36)]))] ++ wt) := hD
    exact W.zret (v := 0) hx hb hr (by decide +kernel) (gq_endI (y_6, v13, v16, op, wt) ⟨hT, hW, (by omega), (by omega), (by omega), (by omega), (Or.inr ⟨by omega, rfl, rfl⟩)⟩ hP9 hD9 hS) hS.2.2 dX12_opens_18
set_option maxHeartbeats 4000000 in
set_option maxRecDepth 100000 in
theorem d_m_strength (l : Launch) (G : gg_T) (Γ : Nat → Nat) (sz : Nat) (wt : va_W) (hT : tk_ty G Γ wt) (b : Int32) : Met l yX12_strength (ts_L yX12_strength cX12_strength 1 (some .int)) ({ frames := 0, cells := 0, slots := 0, locals := 0 }) (gc_P G wt sz [.int b]) (gc_I G (va_A wt sz) (fun r (u : va_W) => tk_ty G Γ u ∧ tk_kp [] wt u ∧ 0 ≤ r.toInt ∧ r.toInt ≤ 3 ∧ ((b.toInt = 13 ∧ r.toInt = 1) ∨ (b.toInt = 12 ∧ r.toInt = 2) ∨ (b.toInt = 11 ∧ r.toInt = 3) ∨ (b.toInt ≠ 11 ∧ b.toInt ≠ 12 ∧ b.toInt ≠ 13 ∧ r.toInt = 0))) (fun u => u)) 0 0 (va_A wt sz) := by
  refine Met.ofW (cc := cX12_strength) (maxL := 1) (ret := (some .int)) (by decide) rfl ?_
  intro p e s m args below meth c s₁ B hml hv
  obtain ⟨rfl, hsz, hP, hK, hD0⟩ := hv
  have hx := B.exec
  have hb := B.bytes
  have hr := B.returns
  have ht := ts_ht (atoms_spec (ws := ts_L yX12_strength cX12_strength 1 (some .int)) B.pre)
  have hown : s.vm.findClass RX12 = some m.cls := findClass_of_methodNamed B.named
  have hlocks := B.notSynchronized
  subst hsz
  have hD := hD0.self (sz := s.heap.size)
  generalize hAe : va_A wt s.heap.size = A at hD ⊢
  have hA : ∀ q : Nat, s.heap.size ≤ q → A q := fun q h => by rw [← hAe]; exact Or.inr h
  clear hAe hD0
  have hS : va_S A s.heap s.heap [] := va_S.rf
  obtain ⟨w0, hw0⟩ : ∃ z, z = wt := ⟨_, rfl⟩
  have hW : tk_kp [] w0 wt := by rw [hw0]; exact tk_kp.rf
  rw [← hw0]
  clear hw0
  have hP : va_P (gg_D G) classes ([] ++ wt) s.heap := hP
  have hD : va_D A ([] ++ wt) := hD
  have hl := lv_entry ([.int b]) (n := 1) (Nat.le_of_ble_eq_true rfl)
  rw [lg_entry_eq]
  generalize (lg_sl ([.int b]) ++ List.replicate (1 - (lg_sl ([.int b])).length) Slot.unset).toArray = ls at hl ⊢
  have hl : lv_has ls 1 [(0, .int b)] := hl
  have l0 : (0 : Int32).toInt = 0 := by decide +kernel
  have l1 : (1 : Int32).toInt = 1 := by decide +kernel
  have l2 : (2 : Int32).toInt = 2 := by decide +kernel
  have l3 : (3 : Int32).toInt = 3 := by decide +kernel
  have l11 : (11 : Int32).toInt = 11 := by decide +kernel
  have l12 : (12 : Int32).toInt = 12 := by decide +kernel
  have l13 : (13 : Int32).toInt = 13 := by decide +kernel
  refine lv_iload_n hx hb dX12_strength_0 rfl (lv_at hl 0 rfl) ?_
  refine lv_bipush (v := 13) hx hb dX12_strength_1 (by decide +kernel) ?_
  refine lv_icmp_ne (tgt := 10) hx hb dX12_strength_3 (by decide) (fun c_1 => ?_) (fun c_1 => ?_)
  · rw [← Int32.toInt_inj] at c_1
    refine lv_iload_n hx hb dX12_strength_10 rfl (lv_at hl 0 rfl) ?_
    refine lv_bipush (v := 12) hx hb dX12_strength_11 (by decide +kernel) ?_
    refine lv_icmp_ne (tgt := 20) hx hb dX12_strength_13 (by decide) (fun c_2 => ?_) (fun c_2 => ?_)
    · rw [← Int32.toInt_inj] at c_2
      refine lv_iload_n hx hb dX12_strength_20 rfl (lv_at hl 0 rfl) ?_
      refine lv_bipush (v := 11) hx hb dX12_strength_21 (by decide +kernel) ?_
      refine lv_icmp_ne (tgt := 30) hx hb dX12_strength_23 (by decide) (fun c_3 => ?_) (fun c_3 => ?_)
      · rw [← Int32.toInt_inj] at c_3
        refine lv_iconst (v := 0) hx hb dX12_strength_30 (by decide +kernel) ?_
        have hP9 := tw_right hP
        have hD9 := tw_rightD hD
        exact W.iret (v := 0) hx hb hr (gq_endI wt ⟨hT, hW, (by omega), (by omega), (by omega)⟩ hP9 hD9 hS) hS.2.2 dX12_strength_31
      · rw [← Int32.toInt_inj] at c_3
        refine lv_iconst (v := 3) hx hb dX12_strength_26 (by decide +kernel) ?_
        refine lv_goto (tgt := 31) hx hb dX12_strength_27 (by decide) ?_
        have hP9 := tw_right hP
        have hD9 := tw_rightD hD
        exact W.iret (v := 3) hx hb hr (gq_endI wt ⟨hT, hW, (by omega), (by omega), (by omega)⟩ hP9 hD9 hS) hS.2.2 dX12_strength_31
    · rw [← Int32.toInt_inj] at c_2
      refine lv_iconst (v := 2) hx hb dX12_strength_16 (by decide +kernel) ?_
      refine lv_goto (tgt := 31) hx hb dX12_strength_17 (by decide) ?_
      have hP9 := tw_right hP
      have hD9 := tw_rightD hD
      exact W.iret (v := 2) hx hb hr (gq_endI wt ⟨hT, hW, (by omega), (by omega), (by omega)⟩ hP9 hD9 hS) hS.2.2 dX12_strength_31
  · rw [← Int32.toInt_inj] at c_1
    refine lv_iconst (v := 1) hx hb dX12_strength_6 (by decide +kernel) ?_
    refine lv_goto (tgt := 31) hx hb dX12_strength_7 (by decide) ?_
    have hP9 := tw_right hP
    have hD9 := tw_rightD hD
    exact W.iret (v := 1) hx hb hr (gq_endI wt ⟨hT, hW, (by omega), (by omega), (by omega)⟩ hP9 hD9 hS) hS.2.2 dX12_strength_31
set_option maxHeartbeats 4000000 in
set_option maxRecDepth 100000 in
theorem d_m_settles (l : Launch) (G : gg_T) (Γ : Nat → Nat) (sz : Nat) (wt : va_W) (hT : tk_ty G Γ wt) (b : Int32) (m0 : Nat) (am : Nat → Nat) (v1 : Int32) (v2 : Int32) (v8 : Int32) (v9 : Int32) (v10 : Int32) (v11 : Int32) (v12 : Int32) (v13 : Int32) (v14 : Int32) (v16 : Int32) (v18 : Int32) (v21 : Int32) (v22 : Int32) (v23 : Int32) (v24 : Int32) (v25 : Int32) (v27 : Int32) (v32 : Int64) (op : Nat → Int32) (ln : Nat → Int32) (sg : Nat → Int32) (lo_b : 1 ≤ b.toInt) (hi_b : b.toInt ≤ 3) (k17 : Γ (am 17) = 32) (k19 : Γ (am 19) = 30) (k30 : Γ (am 30) = 28) (k31 : Γ (am 31) = 28) (lo_v1 : 0 ≤ v1.toInt) (hi_v1 : v1.toInt ≤ 400) (lo_v2 : 0 ≤ v2.toInt) (hi_v2 : v2.toInt ≤ 6) (lo_v8 : 0 ≤ v8.toInt) (hi_v8 : v8.toInt ≤ 400) (lo_v11 : 0 ≤ v11.toInt) (hi_v11 : v11.toInt ≤ 6) (lo_v12 : 0 ≤ v12.toInt) (hi_v12 : v12.toInt ≤ 60) (lo_v16 : 0 ≤ v16.toInt) (hi_v16 : v16.toInt ≤ 400) (lo_v21 : -1 ≤ v21.toInt) (hi_v21 : v21.toInt ≤ 5) (lo_v23 : 0 ≤ v23.toInt) (hi_v23 : v23.toInt ≤ 31) (lo_v27 : 0 ≤ v27.toInt) (hi_v27 : v27.toInt ≤ 20) (xfr : v21.toInt < v2.toInt) (ht5 : v11.toInt ≤ 5) (hn0 : 0 ≤ (ln v11.toInt.toNat).toInt) (hbu : (ln v11.toInt.toNat).toInt + v16.toInt ≤ v8.toInt) : Met l yX12_settles (ts_L yX12_settles cX12_settles 2 none) ({ frames := 1, cells := 0, slots := 0, locals := 22 }) (gc_P G ([((am 15), .inl (G.2.2 0, 400, .inl op)), ((am 4), .inl (G.2.2 0, 7, .inl ln)), ((am 3), .inl (G.2.2 0, 2400, .inl sg)), (m0, .inr (12, [.ref (am 0), .int v1, .int v2, .ref (am 3), .ref (am 4), .ref (am 5), .ref (am 6), .ref (am 7), .int v8, .int v9, .int v10, .int v11, .int v12, .int v13, .int v14, .ref (am 15), .int v16, .ref (am 17), .int v18, .ref (am 19), .ref (am 20), .int v21, .int v22, .int v23, .int v24, .int v25, .ref (am 26), .int v27, .ref (am 28), .ref (am 29), .ref (am 30), .ref (am 31), .long v32, .ref (am 33), .ref (am 34), .ref (am 35), .ref (am 36)]))] ++ wt) sz [.ref m0, .int b]) (gc_V G (va_A ([((am 15), .inl (G.2.2 0, 400, .inl op)), ((am 4), .inl (G.2.2 0, 7, .inl ln)), ((am 3), .inl (G.2.2 0, 2400, .inl sg)), (m0, .inr (12, [.ref (am 0), .int v1, .int v2, .ref (am 3), .ref (am 4), .ref (am 5), .ref (am 6), .ref (am 7), .int v8, .int v9, .int v10, .int v11, .int v12, .int v13, .int v14, .ref (am 15), .int v16, .ref (am 17), .int v18, .ref (am 19), .ref (am 20), .int v21, .int v22, .int v23, .int v24, .int v25, .ref (am 26), .int v27, .ref (am 28), .ref (am 29), .ref (am 30), .ref (am 31), .long v32, .ref (am 33), .ref (am 34), .ref (am 35), .ref (am 36)]))] ++ wt) sz) (fun (u : (Int32) × (Int32) × (Nat → Int32) × (Nat → Int32) × va_W) => match u with | (w13, w16, ln1, sg1, wt1) => tk_ty G Γ wt1 ∧ tk_kp [] wt wt1 ∧ (0 ≤ w16.toInt) ∧ (w16.toInt ≤ 400) ∧ (w16.toInt ≤ v16.toInt) ∧ ((ln v11.toInt.toNat).toInt ≤ (ln1 v11.toInt.toNat).toInt) ∧ ((ln1 v11.toInt.toNat).toInt + w16.toInt = (ln v11.toInt.toNat).toInt + v16.toInt) ∧ (rQS v11.toInt.toNat ln sg ln1 sg1) ∧ (rTS v11.toInt.toNat op v16.toInt ln sg w16.toInt ln1 sg1 v12.toInt) ∧ (∀ k : Nat, (k : Int) < v16.toInt → (op k).toInt = 91 → (k : Int) < w16.toInt) ∧ (b.toInt = 1 → w16.toInt = 0 ∨ ((op (w16.toInt.toNat - 1)).toInt ≠ 11 ∧ (op (w16.toInt.toNat - 1)).toInt ≠ 12 ∧ (op (w16.toInt.toNat - 1)).toInt ≠ 13))) (fun (u : (Int32) × (Int32) × (Nat → Int32) × (Nat → Int32) × va_W) => match u with | (w13, w16, ln1, sg1, wt1) => [((am 15), .inl (G.2.2 0, 400, .inl op)), ((am 4), .inl (G.2.2 0, 7, .inl ln1)), ((am 3), .inl (G.2.2 0, 2400, .inl sg1)), (m0, .inr (12, [.ref (am 0), .int v1, .int v2, .ref (am 3), .ref (am 4), .ref (am 5), .ref (am 6), .ref (am 7), .int v8, .int v9, .int v10, .int v11, .int v12, .int w13, .int v14, .ref (am 15), .int w16, .ref (am 17), .int v18, .ref (am 19), .ref (am 20), .int v21, .int v22, .int v23, .int v24, .int v25, .ref (am 26), .int v27, .ref (am 28), .ref (am 29), .ref (am 30), .ref (am 31), .long v32, .ref (am 33), .ref (am 34), .ref (am 35), .ref (am 36)]))] ++ wt1)) 0 0 (va_A ([((am 15), .inl (G.2.2 0, 400, .inl op)), ((am 4), .inl (G.2.2 0, 7, .inl ln)), ((am 3), .inl (G.2.2 0, 2400, .inl sg)), (m0, .inr (12, [.ref (am 0), .int v1, .int v2, .ref (am 3), .ref (am 4), .ref (am 5), .ref (am 6), .ref (am 7), .int v8, .int v9, .int v10, .int v11, .int v12, .int v13, .int v14, .ref (am 15), .int v16, .ref (am 17), .int v18, .ref (am 19), .ref (am 20), .int v21, .int v22, .int v23, .int v24, .int v25, .ref (am 26), .int v27, .ref (am 28), .ref (am 29), .ref (am 30), .ref (am 31), .long v32, .ref (am 33), .ref (am 34), .ref (am 35), .ref (am 36)]))] ++ wt) sz) := by
  refine Met.ofW (cc := cX12_settles) (maxL := 2) (ret := none) (by decide) rfl ?_
  intro p e s m args below meth c s₁ B hml hv
  obtain ⟨rfl, hsz, hP, hK, hD0⟩ := hv
  have hx := B.exec
  have hb := B.bytes
  have hr := B.returns
  have ht := ts_ht (atoms_spec (ws := ts_L yX12_settles cX12_settles 2 none) B.pre)
  have hown : s.vm.findClass RX12 = some m.cls := findClass_of_methodNamed B.named
  have hlocks := B.notSynchronized
  subst hsz
  have hD := hD0.self (sz := s.heap.size)
  generalize hAe : va_A ([((am 15), .inl (G.2.2 0, 400, .inl op)), ((am 4), .inl (G.2.2 0, 7, .inl ln)), ((am 3), .inl (G.2.2 0, 2400, .inl sg)), (m0, .inr (12, [.ref (am 0), .int v1, .int v2, .ref (am 3), .ref (am 4), .ref (am 5), .ref (am 6), .ref (am 7), .int v8, .int v9, .int v10, .int v11, .int v12, .int v13, .int v14, .ref (am 15), .int v16, .ref (am 17), .int v18, .ref (am 19), .ref (am 20), .int v21, .int v22, .int v23, .int v24, .int v25, .ref (am 26), .int v27, .ref (am 28), .ref (am 29), .ref (am 30), .ref (am 31), .long v32, .ref (am 33), .ref (am 34), .ref (am 35), .ref (am 36)]))] ++ wt) s.heap.size = A at hD ⊢
  have hA : ∀ q : Nat, s.heap.size ≤ q → A q := fun q h => by rw [← hAe]; exact Or.inr h
  clear hAe hD0
  have hS : va_S A s.heap s.heap [] := va_S.rf
  obtain ⟨w0, hw0⟩ : ∃ z, z = wt := ⟨_, rfl⟩
  have hW : tk_kp [] w0 wt := by rw [hw0]; exact tk_kp.rf
  rw [← hw0]
  clear hw0
  have hP : va_P (gg_D G) classes ([((am 15), .inl (G.2.2 0, 400, .inl op)), ((am 4), .inl (G.2.2 0, 7, .inl ln)), ((am 3), .inl (G.2.2 0, 2400, .inl sg)), (m0, .inr (12, [.ref (am 0), .int v1, .int v2, .ref (am 3), .ref (am 4), .ref (am 5), .ref (am 6), .ref (am 7), .int v8, .int v9, .int v10, .int v11, .int v12, .int v13, .int v14, .ref (am 15), .int v16, .ref (am 17), .int v18, .ref (am 19), .ref (am 20), .int v21, .int v22, .int v23, .int v24, .int v25, .ref (am 26), .int v27, .ref (am 28), .ref (am 29), .ref (am 30), .ref (am 31), .long v32, .ref (am 33), .ref (am 34), .ref (am 35), .ref (am 36)]))] ++ wt) s.heap := hP
  have hD : va_D A ([((am 15), .inl (G.2.2 0, 400, .inl op)), ((am 4), .inl (G.2.2 0, 7, .inl ln)), ((am 3), .inl (G.2.2 0, 2400, .inl sg)), (m0, .inr (12, [.ref (am 0), .int v1, .int v2, .ref (am 3), .ref (am 4), .ref (am 5), .ref (am 6), .ref (am 7), .int v8, .int v9, .int v10, .int v11, .int v12, .int v13, .int v14, .ref (am 15), .int v16, .ref (am 17), .int v18, .ref (am 19), .ref (am 20), .int v21, .int v22, .int v23, .int v24, .int v25, .ref (am 26), .int v27, .ref (am 28), .ref (am 29), .ref (am 30), .ref (am 31), .long v32, .ref (am 33), .ref (am 34), .ref (am 35), .ref (am 36)]))] ++ wt) := hD
  have hl := lv_entry ([.ref m0, .int b]) (n := 2) (Nat.le_of_ble_eq_true rfl)
  rw [lg_entry_eq]
  generalize (lg_sl ([.ref m0, .int b]) ++ List.replicate (2 - (lg_sl ([.ref m0, .int b])).length) Slot.unset).toArray = ls at hl ⊢
  have hl : lv_has ls 2 [(0, .ref m0), (1, .int b)] := hl
  have hQS : rQS v11.toInt.toNat ln sg ln sg := rQS.rf
  have l0 : (0 : Int32).toInt = 0 := by decide +kernel
  have l1 : (1 : Int32).toInt = 1 := by decide +kernel
  have l11 : (11 : Int32).toInt = 11 := by decide +kernel
  have hTS : rTS v11.toInt.toNat op v16.toInt ln sg v16.toInt ln sg v12.toInt := rTS.rf
  have hKB : ∀ k : Nat, (k : Int) < v16.toInt → (op k).toInt = 91 → (k : Int) < v16.toInt := fun _ h _ => h
  refine tl_loopE (Γ := Γ) (nL := 2) (fun (zz_ : Int32 × Int32 × (Nat → Int32) × (Nat → Int32)) => match zz_ with | (x0_0, x0_1, g0_0, g0_1) => (0 ≤ x0_1.toInt) ∧ (x0_1.toInt ≤ 400) ∧ (x0_1.toInt ≤ v16.toInt) ∧ (0 ≤ (g0_0 v11.toInt.toNat).toInt) ∧ ((g0_0 v11.toInt.toNat).toInt + x0_1.toInt = (ln v11.toInt.toNat).toInt + v16.toInt) ∧ (rQS v11.toInt.toNat ln sg g0_0 g0_1) ∧ (rTS v11.toInt.toNat op v16.toInt ln sg x0_1.toInt g0_0 g0_1 v12.toInt) ∧ (∀ k : Nat, (k : Int) < v16.toInt → (op k).toInt = 91 → (k : Int) < x0_1.toInt)) (fun (zz_ : Int32 × Int32 × (Nat → Int32) × (Nat → Int32)) => match zz_ with | (x0_0, x0_1, g0_0, g0_1) => (x0_1.toInt).toNat) (fun (zz_ : Int32 × Int32 × (Nat → Int32) × (Nat → Int32)) => match zz_ with | (x0_0, x0_1, g0_0, g0_1) => [(0, .ref m0), (1, .int b)]) (fun (zz_ : Int32 × Int32 × (Nat → Int32) × (Nat → Int32)) => match zz_ with | (x0_0, x0_1, g0_0, g0_1) => [((am 15), .inl (G.2.2 0, 400, .inl op)), ((am 4), .inl (G.2.2 0, 7, .inl g0_0)), ((am 3), .inl (G.2.2 0, 2400, .inl g0_1)), (m0, .inr (12, [.ref (am 0), .int v1, .int v2, .ref (am 3), .ref (am 4), .ref (am 5), .ref (am 6), .ref (am 7), .int v8, .int v9, .int v10, .int v11, .int v12, .int x0_0, .int v14, .ref (am 15), .int x0_1, .ref (am 17), .int v18, .ref (am 19), .ref (am 20), .int v21, .int v22, .int v23, .int v24, .int v25, .ref (am 26), .int v27, .ref (am 28), .ref (am 29), .ref (am 30), .ref (am 31), .long v32, .ref (am 33), .ref (am 34), .ref (am 35), .ref (am 36)]))]) (fun (zz_ : Int32 × Int32 × (Nat → Int32) × (Nat → Int32)) (w : va_W) => match zz_ with | (x0_0, x0_1, g0_0, g0_1) => tk_kp [] w0 w) (fun zz_ hI H locs wt ls hT hW hP hD hS hl ih0 => ?_) (v13, v16, ln, sg) (show (0 ≤ v16.toInt) ∧ (v16.toInt ≤ 400) ∧ (v16.toInt ≤ v16.toInt) ∧ (0 ≤ (ln v11.toInt.toNat).toInt) ∧ ((ln v11.toInt.toNat).toInt + v16.toInt = (ln v11.toInt.toNat).toInt + v16.toInt) ∧ (rQS v11.toInt.toNat ln sg ln sg) ∧ (rTS v11.toInt.toNat op v16.toInt ln sg v16.toInt ln sg v12.toInt) ∧ (∀ k : Nat, (k : Int) < v16.toInt → (op k).toInt = 91 → (k : Int) < v16.toInt) from ⟨by omega, by omega, by omega, by omega, by omega, hQS, hTS, hKB⟩) _ _ wt ls hT hW hP hD hS hl
  obtain ⟨x0_0, x0_1, g0_0, g0_1⟩ := zz_
  have hW : tk_kp [] w0 wt := hW
  have hI : (0 ≤ x0_1.toInt) ∧ (x0_1.toInt ≤ 400) ∧ (x0_1.toInt ≤ v16.toInt) ∧ (0 ≤ (g0_0 v11.toInt.toNat).toInt) ∧ ((g0_0 v11.toInt.toNat).toInt + x0_1.toInt = (ln v11.toInt.toNat).toInt + v16.toInt) ∧ (rQS v11.toInt.toNat ln sg g0_0 g0_1) ∧ (rTS v11.toInt.toNat op v16.toInt ln sg x0_1.toInt g0_0 g0_1 v12.toInt) ∧ (∀ k : Nat, (k : Int) < v16.toInt → (op k).toInt = 91 → (k : Int) < x0_1.toInt) := hI
  obtain ⟨j0_0, j0_1, j0_2, j0_3, j0_4, hQS, hTS, hKB⟩ := hI
  have hl : lv_has ls 2 [(0, .ref m0), (1, .int b)] := hl
  have hP : va_P (gg_D G) classes ([((am 15), .inl (G.2.2 0, 400, .inl op)), ((am 4), .inl (G.2.2 0, 7, .inl g0_0)), ((am 3), .inl (G.2.2 0, 2400, .inl g0_1)), (m0, .inr (12, [.ref (am 0), .int v1, .int v2, .ref (am 3), .ref (am 4), .ref (am 5), .ref (am 6), .ref (am 7), .int v8, .int v9, .int v10, .int v11, .int v12, .int x0_0, .int v14, .ref (am 15), .int x0_1, .ref (am 17), .int v18, .ref (am 19), .ref (am 20), .int v21, .int v22, .int v23, .int v24, .int v25, .ref (am 26), .int v27, .ref (am 28), .ref (am 29), .ref (am 30), .ref (am 31), .long v32, .ref (am 33), .ref (am 34), .ref (am 35), .ref (am 36)]))] ++ wt) H := hP
  have hD : va_D A ([((am 15), .inl (G.2.2 0, 400, .inl op)), ((am 4), .inl (G.2.2 0, 7, .inl g0_0)), ((am 3), .inl (G.2.2 0, 2400, .inl g0_1)), (m0, .inr (12, [.ref (am 0), .int v1, .int v2, .ref (am 3), .ref (am 4), .ref (am 5), .ref (am 6), .ref (am 7), .int v8, .int v9, .int v10, .int v11, .int v12, .int x0_0, .int v14, .ref (am 15), .int x0_1, .ref (am 17), .int v18, .ref (am 19), .ref (am 20), .int v21, .int v22, .int v23, .int v24, .int v25, .ref (am 26), .int v27, .ref (am 28), .ref (am 29), .ref (am 30), .ref (am 31), .long v32, .ref (am 33), .ref (am 34), .ref (am 35), .ref (am 36)]))] ++ wt) := hD
  refine lv_aload_n hx hb dX12_settles_0 rfl (lv_at hl 0 rfl) ?_
  refine gq_get hx hb ht hown hK hP i_X12 3 rfl rfl 16 (by decide) wd_1268 rfl rfl dX12_settles_1 ?_
  refine lv_if_le (tgt := 76) hx hb dX12_settles_4 (by decide) (fun c_1 => ?_) (fun c_1 => ?_)
  · rw [Int32.le_iff_toInt_le] at c_1
    have hP9 : va_P (gg_D G) classes ([((am 15), .inl (G.2.2 0, 400, .inl op)), ((am 4), .inl (G.2.2 0, 7, .inl g0_0)), ((am 3), .inl (G.2.2 0, 2400, .inl g0_1)), (m0, .inr (12, [.ref (am 0), .int v1, .int v2, .ref (am 3), .ref (am 4), .ref (am 5), .ref (am 6), .ref (am 7), .int v8, .int v9, .int v10, .int v11, .int v12, .int x0_0, .int v14, .ref (am 15), .int x0_1, .ref (am 17), .int v18, .ref (am 19), .ref (am 20), .int v21, .int v22, .int v23, .int v24, .int v25, .ref (am 26), .int v27, .ref (am 28), .ref (am 29), .ref (am 30), .ref (am 31), .long v32, .ref (am 33), .ref (am 34), .ref (am 35), .ref (am 36)]))] ++ wt) _ := hP
    have hD9 : va_D A ([((am 15), .inl (G.2.2 0, 400, .inl op)), ((am 4), .inl (G.2.2 0, 7, .inl g0_0)), ((am 3), .inl (G.2.2 0, 2400, .inl g0_1)), (m0, .inr (12, [.ref (am 0), .int v1, .int v2, .ref (am 3), .ref (am 4), .ref (am 5), .ref (am 6), .ref (am 7), .int v8, .int v9, .int v10, .int v11, .int v12, .int x0_0, .int v14, .ref (am 15), .int x0_1, .ref (am 17), .int v18, .ref (am 19), .ref (am 20), .int v21, .int v22, .int v23, .int v24, .int v25, .ref (am 26), .int v27, .ref (am 28), .ref (am 29), .ref (am 30), .ref (am 31), .long v32, .ref (am 33), .ref (am 34), .ref (am 35), .ref (am 36)]))] ++ wt) := hD
    exact W.vret hx hb hr (gq_endV (x0_0, x0_1, g0_0, g0_1, wt) ⟨hT, hW, (by omega), (by omega), (by omega), (by omega), (by omega), hQS, hTS, hKB, (fun hb1 => by omega)⟩ hP9 hD9 hS) hS.2.2 dX12_settles_76
  · rw [Int32.le_iff_toInt_le] at c_1
    refine lv_aload_n hx hb dX12_settles_7 rfl (lv_at hl 0 rfl) ?_
    refine gq_get hx hb ht hown hK hP i_X12 3 rfl rfl 15 (by decide) wd_1267 rfl rfl dX12_settles_8 ?_
    refine lv_aload_n hx hb dX12_settles_11 rfl (lv_at hl 0 rfl) ?_
    refine gq_get hx hb ht hown hK hP i_X12 3 rfl rfl 16 (by decide) wd_1268 rfl rfl dX12_settles_12 ?_
    refine lv_iconst (v := 1) hx hb dX12_settles_15 (by decide +kernel) ?_
    obtain ⟨t_2, et_2⟩ : ∃ zz_ : Int32, x0_1 - 1 = zz_ := ⟨_, rfl⟩
    refine gq_isub hx hb t_2 et_2 dX12_settles_16 ?_
    have ft_2 := ia_sub et_2 (by omega) (by omega)
    obtain ⟨n_3, en_3⟩ : ∃ zz_ : Int32, op (Int32.toNatClampNeg t_2) = zz_ := ⟨_, rfl⟩
    refine gq_iald hx hb hK hP 0 rfl n_3 (ia_in (n := 400) (by omega) (by omega)) en_3 dX12_settles_17 ?_
    have En_3 : op (t_2.toInt.toNat) = n_3 := by rw [← show Int32.toNatClampNeg t_2 = t_2.toInt.toNat from ix_n (by omega)]; exact en_3
    have hn_3 : (op (t_2.toInt.toNat)).toInt = n_3.toInt := by rw [En_3]
    refine gt_callI (wr := [((am 15), .inl (G.2.2 0, 400, .inl op)), ((am 4), .inl (G.2.2 0, 7, .inl g0_0)), ((am 3), .inl (G.2.2 0, 2400, .inl g0_1)), (m0, .inr (12, [.ref (am 0), .int v1, .int v2, .ref (am 3), .ref (am 4), .ref (am 5), .ref (am 6), .ref (am 7), .int v8, .int v9, .int v10, .int v11, .int v12, .int x0_0, .int v14, .ref (am 15), .int x0_1, .ref (am 17), .int v18, .ref (am 19), .ref (am 20), .int v21, .int v22, .int v23, .int v24, .int v25, .ref (am 26), .int v27, .ref (am 28), .ref (am 29), .ref (am 30), .ref (am 31), .long v32, .ref (am 33), .ref (am 34), .ref (am 35), .ref (am 36)]))]) (va_runS (As := [.int n_3]) (rest := []) ⟨hx, hb, hml, hown, ht⟩ (d_m_strength l G Γ H.size wt hT n_3) (va_cwS 1 ht (ts_gS wd_1524 wd_1525 wd_134 wd_1526) rfl rfl rfl (by decide +kernel) ⟨Nat.le_of_ble_eq_true rfl, Nat.le_of_ble_eq_true rfl⟩) (gc_preS hK (tw_right hP) (tw_rightD hD)) rfl rfl hl.1 rfl (lv_room (Nat.le_of_ble_eq_true rfl)) dX12_settles_18 ⟨Nat.le_of_ble_eq_true rfl, Nat.le_of_ble_eq_true rfl⟩) hP hD hS hA (fun r_4 wt H locs hw hP hD hS => ?_)
    obtain ⟨hT, hkp, lo_r_4, hi_r_4, rp_r_4⟩ := hw
    have hW := hW.call (show ∀ x ∈ [], x ∈ [] by decide) hkp
    have hP : va_P (gg_D G) classes ([((am 15), .inl (G.2.2 0, 400, .inl op)), ((am 4), .inl (G.2.2 0, 7, .inl g0_0)), ((am 3), .inl (G.2.2 0, 2400, .inl g0_1)), (m0, .inr (12, [.ref (am 0), .int v1, .int v2, .ref (am 3), .ref (am 4), .ref (am 5), .ref (am 6), .ref (am 7), .int v8, .int v9, .int v10, .int v11, .int v12, .int x0_0, .int v14, .ref (am 15), .int x0_1, .ref (am 17), .int v18, .ref (am 19), .ref (am 20), .int v21, .int v22, .int v23, .int v24, .int v25, .ref (am 26), .int v27, .ref (am 28), .ref (am 29), .ref (am 30), .ref (am 31), .long v32, .ref (am 33), .ref (am 34), .ref (am 35), .ref (am 36)]))] ++ wt) H := hP
    have hD : va_D A ([((am 15), .inl (G.2.2 0, 400, .inl op)), ((am 4), .inl (G.2.2 0, 7, .inl g0_0)), ((am 3), .inl (G.2.2 0, 2400, .inl g0_1)), (m0, .inr (12, [.ref (am 0), .int v1, .int v2, .ref (am 3), .ref (am 4), .ref (am 5), .ref (am 6), .ref (am 7), .int v8, .int v9, .int v10, .int v11, .int v12, .int x0_0, .int v14, .ref (am 15), .int x0_1, .ref (am 17), .int v18, .ref (am 19), .ref (am 20), .int v21, .int v22, .int v23, .int v24, .int v25, .ref (am 26), .int v27, .ref (am 28), .ref (am 29), .ref (am 30), .ref (am 31), .long v32, .ref (am 33), .ref (am 34), .ref (am 35), .ref (am 36)]))] ++ wt) := hD
    refine lv_iload_n hx hb dX12_settles_21 rfl (lv_at hl 1 rfl) ?_
    refine lv_icmp_lt (tgt := 76) hx hb dX12_settles_22 (by decide) (fun c_5 => ?_) (fun c_5 => ?_)
    · rw [Int32.lt_iff_toInt_lt] at c_5
      have htp1 : (op (x0_1.toInt.toNat - 1)).toInt = n_3.toInt := by rw [show x0_1.toInt.toNat - 1 = t_2.toInt.toNat by omega]; exact hn_3
      have hP9 : va_P (gg_D G) classes ([((am 15), .inl (G.2.2 0, 400, .inl op)), ((am 4), .inl (G.2.2 0, 7, .inl g0_0)), ((am 3), .inl (G.2.2 0, 2400, .inl g0_1)), (m0, .inr (12, [.ref (am 0), .int v1, .int v2, .ref (am 3), .ref (am 4), .ref (am 5), .ref (am 6), .ref (am 7), .int v8, .int v9, .int v10, .int v11, .int v12, .int x0_0, .int v14, .ref (am 15), .int x0_1, .ref (am 17), .int v18, .ref (am 19), .ref (am 20), .int v21, .int v22, .int v23, .int v24, .int v25, .ref (am 26), .int v27, .ref (am 28), .ref (am 29), .ref (am 30), .ref (am 31), .long v32, .ref (am 33), .ref (am 34), .ref (am 35), .ref (am 36)]))] ++ wt) _ := hP
      have hD9 : va_D A ([((am 15), .inl (G.2.2 0, 400, .inl op)), ((am 4), .inl (G.2.2 0, 7, .inl g0_0)), ((am 3), .inl (G.2.2 0, 2400, .inl g0_1)), (m0, .inr (12, [.ref (am 0), .int v1, .int v2, .ref (am 3), .ref (am 4), .ref (am 5), .ref (am 6), .ref (am 7), .int v8, .int v9, .int v10, .int v11, .int v12, .int x0_0, .int v14, .ref (am 15), .int x0_1, .ref (am 17), .int v18, .ref (am 19), .ref (am 20), .int v21, .int v22, .int v23, .int v24, .int v25, .ref (am 26), .int v27, .ref (am 28), .ref (am 29), .ref (am 30), .ref (am 31), .long v32, .ref (am 33), .ref (am 34), .ref (am 35), .ref (am 36)]))] ++ wt) := hD
      exact W.vret hx hb hr (gq_endV (x0_0, x0_1, g0_0, g0_1, wt) ⟨hT, hW, (by omega), (by omega), (by omega), (by omega), (by omega), hQS, hTS, hKB, (fun hb1 => by omega)⟩ hP9 hD9 hS) hS.2.2 dX12_settles_76
    · rw [Int32.lt_iff_toInt_lt] at c_5
      refine lv_aload_n hx hb dX12_settles_25 rfl (lv_at hl 0 rfl) ?_
      refine lv_dup hx hb dX12_settles_26 rfl ?_
      refine gq_get hx hb ht hown hK hP i_X12 3 rfl rfl 16 (by decide) wd_1268 rfl rfl dX12_settles_27 ?_
      refine lv_iconst (v := 1) hx hb dX12_settles_30 (by decide +kernel) ?_
      refine gq_isub hx hb t_2 et_2 dX12_settles_31 ?_
      refine gq_put (ws' := [((am 15), .inl (G.2.2 0, 400, .inl op)), ((am 4), .inl (G.2.2 0, 7, .inl g0_0)), ((am 3), .inl (G.2.2 0, 2400, .inl g0_1)), (m0, .inr (12, [.ref (am 0), .int v1, .int v2, .ref (am 3), .ref (am 4), .ref (am 5), .ref (am 6), .ref (am 7), .int v8, .int v9, .int v10, .int v11, .int v12, .int x0_0, .int v14, .ref (am 15), .int t_2, .ref (am 17), .int v18, .ref (am 19), .ref (am 20), .int v21, .int v22, .int v23, .int v24, .int v25, .ref (am 26), .int v27, .ref (am 28), .ref (am 29), .ref (am 30), .ref (am 31), .long v32, .ref (am 33), .ref (am 34), .ref (am 35), .ref (am 36)]))] ++ wt) hx hb ht hown hK hP hD hS i_X12 tyX12 tyX12_ok nmX12 3 rfl rfl 16 (by decide) wd_1268 rfl rfl rfl rfl (Nat.le_of_ble_eq_true rfl) rfl dX12_settles_32 (fun H locs hP hD hS => ?_)
      refine lv_aload_n hx hb dX12_settles_35 rfl (lv_at hl 0 rfl) ?_
      refine lv_aload_n hx hb dX12_settles_36 rfl (lv_at hl 0 rfl) ?_
      refine gq_get hx hb ht hown hK hP i_X12 3 rfl rfl 15 (by decide) wd_1267 rfl rfl dX12_settles_37 ?_
      refine lv_aload_n hx hb dX12_settles_40 rfl (lv_at hl 0 rfl) ?_
      refine gq_get hx hb ht hown hK hP i_X12 3 rfl rfl 16 (by decide) wd_1268 rfl rfl dX12_settles_41 ?_
      obtain ⟨n_6, en_6⟩ : ∃ zz_ : Int32, op (Int32.toNatClampNeg t_2) = zz_ := ⟨_, rfl⟩
      refine gq_iald hx hb hK hP 0 rfl n_6 (ia_in (n := 400) (by omega) (by omega)) en_6 dX12_settles_44 ?_
      have En_6 : op (t_2.toInt.toNat) = n_6 := by rw [← show Int32.toNatClampNeg t_2 = t_2.toInt.toNat from ix_n (by omega)]; exact en_6
      have hn_6 : (op (t_2.toInt.toNat)).toInt = n_6.toInt := by rw [En_6]
      refine lv_iconst (v := 0) hx hb dX12_settles_45 (by decide +kernel) ?_
      have hP : va_P (gg_D G) classes ([((am 15), .inl (G.2.2 0, 400, .inl op))] ++ ([((am 4), .inl (G.2.2 0, 7, .inl g0_0)), ((am 3), .inl (G.2.2 0, 2400, .inl g0_1)), (m0, .inr (12, [.ref (am 0), .int v1, .int v2, .ref (am 3), .ref (am 4), .ref (am 5), .ref (am 6), .ref (am 7), .int v8, .int v9, .int v10, .int v11, .int v12, .int x0_0, .int v14, .ref (am 15), .int t_2, .ref (am 17), .int v18, .ref (am 19), .ref (am 20), .int v21, .int v22, .int v23, .int v24, .int v25, .ref (am 26), .int v27, .ref (am 28), .ref (am 29), .ref (am 30), .ref (am 31), .long v32, .ref (am 33), .ref (am 34), .ref (am 35), .ref (am 36)]))] ++ wt)) H := hP
      have hD : va_D A ([((am 15), .inl (G.2.2 0, 400, .inl op))] ++ ([((am 4), .inl (G.2.2 0, 7, .inl g0_0)), ((am 3), .inl (G.2.2 0, 2400, .inl g0_1)), (m0, .inr (12, [.ref (am 0), .int v1, .int v2, .ref (am 3), .ref (am 4), .ref (am 5), .ref (am 6), .ref (am 7), .int v8, .int v9, .int v10, .int v11, .int v12, .int x0_0, .int v14, .ref (am 15), .int t_2, .ref (am 17), .int v18, .ref (am 19), .ref (am 20), .int v21, .int v22, .int v23, .int v24, .int v25, .ref (am 26), .int v27, .ref (am 28), .ref (am 29), .ref (am 30), .ref (am 31), .long v32, .ref (am 33), .ref (am 34), .ref (am 35), .ref (am 36)]))] ++ wt)) := hD
      refine gt_callV (wr := [((am 15), .inl (G.2.2 0, 400, .inl op))]) (va_runV (As := [.int n_6, .int 0]) (rest := []) ⟨hx, hb, hml, hown, ht⟩ (d_m_puts l G Γ H.size wt hT n_6 0 m0 am v1 v2 v8 v9 v10 v11 v12 x0_0 v14 t_2 v18 v21 v22 v23 v24 v25 v27 v32 g0_0 g0_1 (by omega) (by omega) (by omega) (by omega) (by first | assumption | exact hSD.1 | exact hSD.w _ | (rw [hKH 2 (by omega)]; exact hKP) | omega) (by first | assumption | exact hSD.1 | exact hSD.w _ | (rw [hKH 2 (by omega)]; exact hKP) | omega) (by first | assumption | exact hSD.1 | exact hSD.w _ | (rw [hKH 2 (by omega)]; exact hKP) | omega) (by first | assumption | exact hSD.1 | exact hSD.w _ | (rw [hKH 2 (by omega)]; exact hKP) | omega) (by first | assumption | exact hSD.1 | exact hSD.w _ | (rw [hKH 2 (by omega)]; exact hKP) | omega) (by first | assumption | exact hSD.1 | exact hSD.w _ | (rw [hKH 2 (by omega)]; exact hKP) | omega) (by first | assumption | exact hSD.1 | exact hSD.w _ | (rw [hKH 2 (by omega)]; exact hKP) | omega) (by first | assumption | exact hSD.1 | exact hSD.w _ | (rw [hKH 2 (by omega)]; exact hKP) | omega) (by first | assumption | exact hSD.1 | exact hSD.w _ | (rw [hKH 2 (by omega)]; exact hKP) | omega) (by first | assumption | exact hSD.1 | exact hSD.w _ | (rw [hKH 2 (by omega)]; exact hKP) | omega) (by first | assumption | exact hSD.1 | exact hSD.w _ | (rw [hKH 2 (by omega)]; exact hKP) | omega) (by first | assumption | exact hSD.1 | exact hSD.w _ | (rw [hKH 2 (by omega)]; exact hKP) | omega) (by first | assumption | exact hSD.1 | exact hSD.w _ | (rw [hKH 2 (by omega)]; exact hKP) | omega) (by first | assumption | exact hSD.1 | exact hSD.w _ | (rw [hKH 2 (by omega)]; exact hKP) | omega) (by first | assumption | exact hSD.1 | exact hSD.w _ | (rw [hKH 2 (by omega)]; exact hKP) | omega) (by first | assumption | exact hSD.1 | exact hSD.w _ | (rw [hKH 2 (by omega)]; exact hKP) | omega) (by first | assumption | exact hSD.1 | exact hSD.w _ | (rw [hKH 2 (by omega)]; exact hKP) | omega) (by first | assumption | exact hSD.1 | exact hSD.w _ | (rw [hKH 2 (by omega)]; exact hKP) | omega) (by first | assumption | exact hSD.1 | exact hSD.w _ | (rw [hKH 2 (by omega)]; exact hKP) | omega) (by first | assumption | exact hSD.1 | exact hSD.w _ | (rw [hKH 2 (by omega)]; exact hKP) | omega) (by first | assumption | exact hSD.1 | exact hSD.w _ | (rw [hKH 2 (by omega)]; exact hKP) | omega) (by first | assumption | exact hSD.1 | exact hSD.w _ | (rw [hKH 2 (by omega)]; exact hKP) | omega) (by first | assumption | exact hSD.1 | exact hSD.w _ | (rw [hKH 2 (by omega)]; exact hKP) | omega) (by first | assumption | exact hSD.1 | exact hSD.w _ | (rw [hKH 2 (by omega)]; exact hKP) | omega) (by first | assumption | exact hSD.1 | exact hSD.w _ | (rw [hKH 2 (by omega)]; exact hKP) | omega) (by first | assumption | exact hSD.1 | exact hSD.w _ | (rw [hKH 2 (by omega)]; exact hKP) | omega)) (cwV 2 ht (ts_gV wd_1479 wd_1481 wd_61 wd_134 wd_1482) rfl rfl rfl (by decide +kernel) ⟨Nat.le_of_ble_eq_true rfl, Nat.le_of_ble_eq_true rfl⟩) (gc_preV (ci := 12) (q0 := 2) hK (tw_right hP) (tw_rightD hD) rfl rfl) rfl rfl hl.1 rfl (lv_room (Nat.le_of_ble_eq_true rfl)) dX12_settles_46 ⟨Nat.le_of_ble_eq_true rfl, Nat.le_of_ble_eq_true rfl⟩) hP hD hS hA (fun u H locs hw hP hD hS => ?_)
      obtain ⟨y_7, y_8, wt⟩ := u
      obtain ⟨hT, hkp, w_9, w_10, w_11⟩ := hw
      have hW := hW.call (show ∀ x ∈ [], x ∈ [] by decide) hkp
      have hP : va_P (gg_D G) classes ([((am 15), .inl (G.2.2 0, 400, .inl op)), ((am 4), .inl (G.2.2 0, 7, .inl y_7)), ((am 3), .inl (G.2.2 0, 2400, .inl y_8)), (m0, .inr (12, [.ref (am 0), .int v1, .int v2, .ref (am 3), .ref (am 4), .ref (am 5), .ref (am 6), .ref (am 7), .int v8, .int v9, .int v10, .int v11, .int v12, .int x0_0, .int v14, .ref (am 15), .int t_2, .ref (am 17), .int v18, .ref (am 19), .ref (am 20), .int v21, .int v22, .int v23, .int v24, .int v25, .ref (am 26), .int v27, .ref (am 28), .ref (am 29), .ref (am 30), .ref (am 31), .long v32, .ref (am 33), .ref (am 34), .ref (am 35), .ref (am 36)]))] ++ wt) H := hP
      have hD : va_D A ([((am 15), .inl (G.2.2 0, 400, .inl op)), ((am 4), .inl (G.2.2 0, 7, .inl y_7)), ((am 3), .inl (G.2.2 0, 2400, .inl y_8)), (m0, .inr (12, [.ref (am 0), .int v1, .int v2, .ref (am 3), .ref (am 4), .ref (am 5), .ref (am 6), .ref (am 7), .int v8, .int v9, .int v10, .int v11, .int v12, .int x0_0, .int v14, .ref (am 15), .int t_2, .ref (am 17), .int v18, .ref (am 19), .ref (am 20), .int v21, .int v22, .int v23, .int v24, .int v25, .ref (am 26), .int v27, .ref (am 28), .ref (am 29), .ref (am 30), .ref (am 31), .long v32, .ref (am 33), .ref (am 34), .ref (am 35), .ref (am 36)]))] ++ wt) := hD
      have c_PU := w_9
      have c_QS := w_11
      have hQS := hQS.tr w_11
      rw [l0] at c_PU
      have hTS := hTS.pop (o2 := t_2.toInt) (by omega) (by omega) c_PU (by omega) (by omega) (by omega) (by omega)
      have hKB : ∀ k : Nat, (k : Int) < v16.toInt → (op k).toInt = 91 → (k : Int) < t_2.toInt := fun k a q => by have := hKB k a q; by_cases hk : k = t_2.toInt.toNat; (subst hk; omega); omega
      refine lv_aload_n hx hb dX12_settles_49 rfl (lv_at hl 0 rfl) ?_
      refine gq_get hx hb ht hown hK hP i_X12 3 rfl rfl 15 (by decide) wd_1267 rfl rfl dX12_settles_50 ?_
      refine lv_aload_n hx hb dX12_settles_53 rfl (lv_at hl 0 rfl) ?_
      refine gq_get hx hb ht hown hK hP i_X12 3 rfl rfl 16 (by decide) wd_1268 rfl rfl dX12_settles_54 ?_
      obtain ⟨n_12, en_12⟩ : ∃ zz_ : Int32, op (Int32.toNatClampNeg t_2) = zz_ := ⟨_, rfl⟩
      refine gq_iald hx hb hK hP 0 rfl n_12 (ia_in (n := 400) (by omega) (by omega)) en_12 dX12_settles_57 ?_
      have En_12 : op (t_2.toInt.toNat) = n_12 := by rw [← show Int32.toNatClampNeg t_2 = t_2.toInt.toNat from ix_n (by omega)]; exact en_12
      have hn_12 : (op (t_2.toInt.toNat)).toInt = n_12.toInt := by rw [En_12]
      refine lv_bipush (v := 11) hx hb dX12_settles_58 (by decide +kernel) ?_
      refine lv_icmp_ne (tgt := 0) hx hb dX12_settles_60 (by decide) (fun c_13 => ?_) (fun c_13 => ?_)
      · rw [← Int32.toInt_inj] at c_13
        exact ih0 (x0_0, t_2, y_7, y_8) (show (0 ≤ t_2.toInt) ∧ (t_2.toInt ≤ 400) ∧ (t_2.toInt ≤ v16.toInt) ∧ (0 ≤ (y_7 v11.toInt.toNat).toInt) ∧ ((y_7 v11.toInt.toNat).toInt + t_2.toInt = (ln v11.toInt.toNat).toInt + v16.toInt) ∧ (rQS v11.toInt.toNat ln sg y_7 y_8) ∧ (rTS v11.toInt.toNat op v16.toInt ln sg t_2.toInt y_7 y_8 v12.toInt) ∧ (∀ k : Nat, (k : Int) < v16.toInt → (op k).toInt = 91 → (k : Int) < t_2.toInt) from ⟨by omega, by omega, by omega, by omega, by omega, hQS, hTS, hKB⟩) (show (t_2.toInt).toNat < (x0_1.toInt).toNat by omega) H locs wt ls hT hW hP hD hS (lv_sub hl [0, 1] rfl)
      · rw [← Int32.toInt_inj] at c_13
        refine lv_aload_n hx hb dX12_settles_63 rfl (lv_at hl 0 rfl) ?_
        refine lv_dup hx hb dX12_settles_64 rfl ?_
        refine gq_get hx hb ht hown hK hP i_X12 3 rfl rfl 13 (by decide) wd_1265 rfl rfl dX12_settles_65 ?_
        refine lv_iconst (v := 1) hx hb dX12_settles_68 (by decide +kernel) ?_
        obtain ⟨t_14, et_14⟩ : ∃ zz_ : Int32, x0_0 - 1 = zz_ := ⟨_, rfl⟩
        refine gq_isub hx hb t_14 et_14 dX12_settles_69 ?_
        refine gq_put (ws' := [((am 15), .inl (G.2.2 0, 400, .inl op)), ((am 4), .inl (G.2.2 0, 7, .inl y_7)), ((am 3), .inl (G.2.2 0, 2400, .inl y_8)), (m0, .inr (12, [.ref (am 0), .int v1, .int v2, .ref (am 3), .ref (am 4), .ref (am 5), .ref (am 6), .ref (am 7), .int v8, .int v9, .int v10, .int v11, .int v12, .int t_14, .int v14, .ref (am 15), .int t_2, .ref (am 17), .int v18, .ref (am 19), .ref (am 20), .int v21, .int v22, .int v23, .int v24, .int v25, .ref (am 26), .int v27, .ref (am 28), .ref (am 29), .ref (am 30), .ref (am 31), .long v32, .ref (am 33), .ref (am 34), .ref (am 35), .ref (am 36)]))] ++ wt) hx hb ht hown hK hP hD hS i_X12 tyX12 tyX12_ok nmX12 3 rfl rfl 13 (by decide) wd_1265 rfl rfl rfl rfl (Nat.le_of_ble_eq_true rfl) rfl dX12_settles_70 (fun H locs hP hD hS => ?_)
        refine lv_goto (tgt := 0) hx hb dX12_settles_73 (by decide) ?_
        exact ih0 (t_14, t_2, y_7, y_8) (show (0 ≤ t_2.toInt) ∧ (t_2.toInt ≤ 400) ∧ (t_2.toInt ≤ v16.toInt) ∧ (0 ≤ (y_7 v11.toInt.toNat).toInt) ∧ ((y_7 v11.toInt.toNat).toInt + t_2.toInt = (ln v11.toInt.toNat).toInt + v16.toInt) ∧ (rQS v11.toInt.toNat ln sg y_7 y_8) ∧ (rTS v11.toInt.toNat op v16.toInt ln sg t_2.toInt y_7 y_8 v12.toInt) ∧ (∀ k : Nat, (k : Int) < v16.toInt → (op k).toInt = 91 → (k : Int) < t_2.toInt) from ⟨by omega, by omega, by omega, by omega, by omega, hQS, hTS, hKB⟩) (show (t_2.toInt).toNat < (x0_1.toInt).toNat by omega) H locs wt ls hT hW hP hD hS (lv_sub hl [0, 1] rfl)
set_option maxHeartbeats 4000000 in
set_option maxRecDepth 100000 in
theorem d_m_isInside (l : Launch) (G : gg_T) (Γ : Nat → Nat) (sz : Nat) (wt : va_W) (hT : tk_ty G Γ wt) (m0 : Nat) (am : Nat → Nat) (v1 : Int32) (v2 : Int32) (v8 : Int32) (v9 : Int32) (v10 : Int32) (v11 : Int32) (v12 : Int32) (v13 : Int32) (v14 : Int32) (v16 : Int32) (v18 : Int32) (v21 : Int32) (v22 : Int32) (v23 : Int32) (v24 : Int32) (v25 : Int32) (v27 : Int32) (v32 : Int64) (op : Nat → Int32) (k17 : Γ (am 17) = 32) (k19 : Γ (am 19) = 30) (k30 : Γ (am 30) = 28) (k31 : Γ (am 31) = 28) (lo_v1 : 0 ≤ v1.toInt) (hi_v1 : v1.toInt ≤ 400) (lo_v2 : 0 ≤ v2.toInt) (hi_v2 : v2.toInt ≤ 6) (lo_v8 : 0 ≤ v8.toInt) (hi_v8 : v8.toInt ≤ 400) (lo_v11 : 0 ≤ v11.toInt) (hi_v11 : v11.toInt ≤ 6) (lo_v12 : 0 ≤ v12.toInt) (hi_v12 : v12.toInt ≤ 60) (lo_v16 : 0 ≤ v16.toInt) (hi_v16 : v16.toInt ≤ 400) (lo_v21 : -1 ≤ v21.toInt) (hi_v21 : v21.toInt ≤ 5) (lo_v23 : 0 ≤ v23.toInt) (hi_v23 : v23.toInt ≤ 31) (lo_v27 : 0 ≤ v27.toInt) (hi_v27 : v27.toInt ≤ 20) (xfr : v21.toInt < v2.toInt) : Met l yX12_isInside (ts_L yX12_isInside cX12_isInside 2 (some .boolean)) ({ frames := 0, cells := 0, slots := 0, locals := 0 }) (gc_P G ([((am 15), .inl (G.2.2 0, 400, .inl op)), (m0, .inr (12, [.ref (am 0), .int v1, .int v2, .ref (am 3), .ref (am 4), .ref (am 5), .ref (am 6), .ref (am 7), .int v8, .int v9, .int v10, .int v11, .int v12, .int v13, .int v14, .ref (am 15), .int v16, .ref (am 17), .int v18, .ref (am 19), .ref (am 20), .int v21, .int v22, .int v23, .int v24, .int v25, .ref (am 26), .int v27, .ref (am 28), .ref (am 29), .ref (am 30), .ref (am 31), .long v32, .ref (am 33), .ref (am 34), .ref (am 35), .ref (am 36)]))] ++ wt) sz [.ref m0]) (gc_I G (va_A ([((am 15), .inl (G.2.2 0, 400, .inl op)), (m0, .inr (12, [.ref (am 0), .int v1, .int v2, .ref (am 3), .ref (am 4), .ref (am 5), .ref (am 6), .ref (am 7), .int v8, .int v9, .int v10, .int v11, .int v12, .int v13, .int v14, .ref (am 15), .int v16, .ref (am 17), .int v18, .ref (am 19), .ref (am 20), .int v21, .int v22, .int v23, .int v24, .int v25, .ref (am 26), .int v27, .ref (am 28), .ref (am 29), .ref (am 30), .ref (am 31), .long v32, .ref (am 33), .ref (am 34), .ref (am 35), .ref (am 36)]))] ++ wt) sz) (fun r (u : va_W) => match u with | wt1 => tk_ty G Γ wt1 ∧ tk_kp [] wt wt1 ∧ 0 ≤ r.toInt ∧ r.toInt ≤ 1 ∧ ((r.toInt = 1 ∧ rIN op v16.toInt) ∨ (r.toInt = 0 ∧ ¬ rIN op v16.toInt))) (fun (u : va_W) => match u with | wt1 => [((am 15), .inl (G.2.2 0, 400, .inl op)), (m0, .inr (12, [.ref (am 0), .int v1, .int v2, .ref (am 3), .ref (am 4), .ref (am 5), .ref (am 6), .ref (am 7), .int v8, .int v9, .int v10, .int v11, .int v12, .int v13, .int v14, .ref (am 15), .int v16, .ref (am 17), .int v18, .ref (am 19), .ref (am 20), .int v21, .int v22, .int v23, .int v24, .int v25, .ref (am 26), .int v27, .ref (am 28), .ref (am 29), .ref (am 30), .ref (am 31), .long v32, .ref (am 33), .ref (am 34), .ref (am 35), .ref (am 36)]))] ++ wt1)) 0 0 (va_A ([((am 15), .inl (G.2.2 0, 400, .inl op)), (m0, .inr (12, [.ref (am 0), .int v1, .int v2, .ref (am 3), .ref (am 4), .ref (am 5), .ref (am 6), .ref (am 7), .int v8, .int v9, .int v10, .int v11, .int v12, .int v13, .int v14, .ref (am 15), .int v16, .ref (am 17), .int v18, .ref (am 19), .ref (am 20), .int v21, .int v22, .int v23, .int v24, .int v25, .ref (am 26), .int v27, .ref (am 28), .ref (am 29), .ref (am 30), .ref (am 31), .long v32, .ref (am 33), .ref (am 34), .ref (am 35), .ref (am 36)]))] ++ wt) sz) := by
  refine Met.ofW (cc := cX12_isInside) (maxL := 2) (ret := (some .boolean)) (by decide) rfl ?_
  intro p e s m args below meth c s₁ B hml hv
  obtain ⟨rfl, hsz, hP, hK, hD0⟩ := hv
  have hx := B.exec
  have hb := B.bytes
  have hr := B.returns
  have ht := ts_ht (atoms_spec (ws := ts_L yX12_isInside cX12_isInside 2 (some .boolean)) B.pre)
  have hown : s.vm.findClass RX12 = some m.cls := findClass_of_methodNamed B.named
  have hlocks := B.notSynchronized
  subst hsz
  have hD := hD0.self (sz := s.heap.size)
  generalize hAe : va_A ([((am 15), .inl (G.2.2 0, 400, .inl op)), (m0, .inr (12, [.ref (am 0), .int v1, .int v2, .ref (am 3), .ref (am 4), .ref (am 5), .ref (am 6), .ref (am 7), .int v8, .int v9, .int v10, .int v11, .int v12, .int v13, .int v14, .ref (am 15), .int v16, .ref (am 17), .int v18, .ref (am 19), .ref (am 20), .int v21, .int v22, .int v23, .int v24, .int v25, .ref (am 26), .int v27, .ref (am 28), .ref (am 29), .ref (am 30), .ref (am 31), .long v32, .ref (am 33), .ref (am 34), .ref (am 35), .ref (am 36)]))] ++ wt) s.heap.size = A at hD ⊢
  have hA : ∀ q : Nat, s.heap.size ≤ q → A q := fun q h => by rw [← hAe]; exact Or.inr h
  clear hAe hD0
  have hS : va_S A s.heap s.heap [] := va_S.rf
  obtain ⟨w0, hw0⟩ : ∃ z, z = wt := ⟨_, rfl⟩
  have hW : tk_kp [] w0 wt := by rw [hw0]; exact tk_kp.rf
  rw [← hw0]
  clear hw0
  have hP : va_P (gg_D G) classes ([((am 15), .inl (G.2.2 0, 400, .inl op)), (m0, .inr (12, [.ref (am 0), .int v1, .int v2, .ref (am 3), .ref (am 4), .ref (am 5), .ref (am 6), .ref (am 7), .int v8, .int v9, .int v10, .int v11, .int v12, .int v13, .int v14, .ref (am 15), .int v16, .ref (am 17), .int v18, .ref (am 19), .ref (am 20), .int v21, .int v22, .int v23, .int v24, .int v25, .ref (am 26), .int v27, .ref (am 28), .ref (am 29), .ref (am 30), .ref (am 31), .long v32, .ref (am 33), .ref (am 34), .ref (am 35), .ref (am 36)]))] ++ wt) s.heap := hP
  have hD : va_D A ([((am 15), .inl (G.2.2 0, 400, .inl op)), (m0, .inr (12, [.ref (am 0), .int v1, .int v2, .ref (am 3), .ref (am 4), .ref (am 5), .ref (am 6), .ref (am 7), .int v8, .int v9, .int v10, .int v11, .int v12, .int v13, .int v14, .ref (am 15), .int v16, .ref (am 17), .int v18, .ref (am 19), .ref (am 20), .int v21, .int v22, .int v23, .int v24, .int v25, .ref (am 26), .int v27, .ref (am 28), .ref (am 29), .ref (am 30), .ref (am 31), .long v32, .ref (am 33), .ref (am 34), .ref (am 35), .ref (am 36)]))] ++ wt) := hD
  have hl := lv_entry ([.ref m0]) (n := 2) (Nat.le_of_ble_eq_true rfl)
  rw [lg_entry_eq]
  generalize (lg_sl ([.ref m0]) ++ List.replicate (2 - (lg_sl ([.ref m0])).length) Slot.unset).toArray = ls at hl ⊢
  have hl : lv_has ls 2 [(0, .ref m0)] := hl
  have l0 : (0 : Int32).toInt = 0 := by decide +kernel
  have l1 : (1 : Int32).toInt = 1 := by decide +kernel
  have l91 : (91 : Int32).toInt = 91 := by decide +kernel
  refine lv_iconst (v := 0) hx hb dX12_isInside_0 (by decide +kernel) ?_
  refine lv_istore_n (lv' := [(1, .int 0), (0, .ref m0)]) hx hb dX12_isInside_1 rfl hl (by decide) rfl (fun ls hl => ?_)
  have hNI : ∀ k : Nat, (k : Int) < (0 : Int32).toInt → (op k).toInt ≠ 91 := fun k h => by omega
  refine tl_loopE (Γ := Γ) (nL := 2) (fun (zz_ : Int32) => match zz_ with | x2_0 => (0 ≤ x2_0.toInt) ∧ (x2_0.toInt ≤ 400) ∧ (∀ k : Nat, (k : Int) < x2_0.toInt → (op k).toInt ≠ 91)) (fun (zz_ : Int32) => match zz_ with | x2_0 => (400 - x2_0.toInt).toNat) (fun (zz_ : Int32) => match zz_ with | x2_0 => [(1, .int x2_0), (0, .ref m0)]) (fun (zz_ : Int32) => match zz_ with | x2_0 => [((am 15), .inl (G.2.2 0, 400, .inl op)), (m0, .inr (12, [.ref (am 0), .int v1, .int v2, .ref (am 3), .ref (am 4), .ref (am 5), .ref (am 6), .ref (am 7), .int v8, .int v9, .int v10, .int v11, .int v12, .int v13, .int v14, .ref (am 15), .int v16, .ref (am 17), .int v18, .ref (am 19), .ref (am 20), .int v21, .int v22, .int v23, .int v24, .int v25, .ref (am 26), .int v27, .ref (am 28), .ref (am 29), .ref (am 30), .ref (am 31), .long v32, .ref (am 33), .ref (am 34), .ref (am 35), .ref (am 36)]))]) (fun (zz_ : Int32) (w : va_W) => match zz_ with | x2_0 => tk_kp [] w0 w) (fun zz_ hI H locs wt ls hT hW hP hD hS hl ih2 => ?_) 0 (show (0 ≤ (0 : Int32).toInt) ∧ ((0 : Int32).toInt ≤ 400) ∧ (∀ k : Nat, (k : Int) < (0 : Int32).toInt → (op k).toInt ≠ 91) from ⟨by omega, by omega, hNI⟩) _ _ wt ls hT hW hP hD hS hl
  obtain ⟨x2_0, rfl⟩ : ∃ z2, z2 = zz_ := ⟨_, rfl⟩
  have hW : tk_kp [] w0 wt := hW
  have hI : (0 ≤ x2_0.toInt) ∧ (x2_0.toInt ≤ 400) ∧ (∀ k : Nat, (k : Int) < x2_0.toInt → (op k).toInt ≠ 91) := hI
  obtain ⟨j2_0, j2_1, hNI⟩ := hI
  have hl : lv_has ls 2 [(1, .int x2_0), (0, .ref m0)] := hl
  have hP : va_P (gg_D G) classes ([((am 15), .inl (G.2.2 0, 400, .inl op)), (m0, .inr (12, [.ref (am 0), .int v1, .int v2, .ref (am 3), .ref (am 4), .ref (am 5), .ref (am 6), .ref (am 7), .int v8, .int v9, .int v10, .int v11, .int v12, .int v13, .int v14, .ref (am 15), .int v16, .ref (am 17), .int v18, .ref (am 19), .ref (am 20), .int v21, .int v22, .int v23, .int v24, .int v25, .ref (am 26), .int v27, .ref (am 28), .ref (am 29), .ref (am 30), .ref (am 31), .long v32, .ref (am 33), .ref (am 34), .ref (am 35), .ref (am 36)]))] ++ wt) H := hP
  have hD : va_D A ([((am 15), .inl (G.2.2 0, 400, .inl op)), (m0, .inr (12, [.ref (am 0), .int v1, .int v2, .ref (am 3), .ref (am 4), .ref (am 5), .ref (am 6), .ref (am 7), .int v8, .int v9, .int v10, .int v11, .int v12, .int v13, .int v14, .ref (am 15), .int v16, .ref (am 17), .int v18, .ref (am 19), .ref (am 20), .int v21, .int v22, .int v23, .int v24, .int v25, .ref (am 26), .int v27, .ref (am 28), .ref (am 29), .ref (am 30), .ref (am 31), .long v32, .ref (am 33), .ref (am 34), .ref (am 35), .ref (am 36)]))] ++ wt) := hD
  refine lv_iload_n hx hb dX12_isInside_2 rfl (lv_at hl 0 rfl) ?_
  refine lv_aload_n hx hb dX12_isInside_3 rfl (lv_at hl 1 rfl) ?_
  refine gq_get hx hb ht hown hK hP i_X12 1 rfl rfl 16 (by decide) wd_1268 rfl rfl dX12_isInside_4 ?_
  refine lv_icmp_ge (tgt := 29) hx hb dX12_isInside_7 (by decide) (fun c_1 => ?_) (fun c_1 => ?_)
  · rw [Int32.le_iff_toInt_le] at c_1
    refine lv_iconst (v := 0) hx hb dX12_isInside_29 (by decide +kernel) ?_
    have hP9 : va_P (gg_D G) classes ([((am 15), .inl (G.2.2 0, 400, .inl op)), (m0, .inr (12, [.ref (am 0), .int v1, .int v2, .ref (am 3), .ref (am 4), .ref (am 5), .ref (am 6), .ref (am 7), .int v8, .int v9, .int v10, .int v11, .int v12, .int v13, .int v14, .ref (am 15), .int v16, .ref (am 17), .int v18, .ref (am 19), .ref (am 20), .int v21, .int v22, .int v23, .int v24, .int v25, .ref (am 26), .int v27, .ref (am 28), .ref (am 29), .ref (am 30), .ref (am 31), .long v32, .ref (am 33), .ref (am 34), .ref (am 35), .ref (am 36)]))] ++ wt) _ := hP
    have hD9 : va_D A ([((am 15), .inl (G.2.2 0, 400, .inl op)), (m0, .inr (12, [.ref (am 0), .int v1, .int v2, .ref (am 3), .ref (am 4), .ref (am 5), .ref (am 6), .ref (am 7), .int v8, .int v9, .int v10, .int v11, .int v12, .int v13, .int v14, .ref (am 15), .int v16, .ref (am 17), .int v18, .ref (am 19), .ref (am 20), .int v21, .int v22, .int v23, .int v24, .int v25, .ref (am 26), .int v27, .ref (am 28), .ref (am 29), .ref (am 30), .ref (am 31), .long v32, .ref (am 33), .ref (am 34), .ref (am 35), .ref (am 36)]))] ++ wt) := hD
    exact W.zret (v := 0) hx hb hr (by decide +kernel) (gq_endI wt ⟨hT, hW, (by omega), (by omega), (Or.inr ⟨by omega, fun q => by obtain ⟨k, q1, q2⟩ := q; exact hNI k (by omega) q2⟩)⟩ hP9 hD9 hS) hS.2.2 dX12_isInside_30
  · rw [Int32.le_iff_toInt_le] at c_1
    refine lv_aload_n hx hb dX12_isInside_10 rfl (lv_at hl 1 rfl) ?_
    refine gq_get hx hb ht hown hK hP i_X12 1 rfl rfl 15 (by decide) wd_1267 rfl rfl dX12_isInside_11 ?_
    refine lv_iload_n hx hb dX12_isInside_14 rfl (lv_at hl 0 rfl) ?_
    obtain ⟨n_2, en_2⟩ : ∃ zz_ : Int32, op (Int32.toNatClampNeg x2_0) = zz_ := ⟨_, rfl⟩
    refine gq_iald hx hb hK hP 0 rfl n_2 (ia_in (n := 400) (by omega) (by omega)) en_2 dX12_isInside_15 ?_
    have En_2 : op (x2_0.toInt.toNat) = n_2 := by rw [← show Int32.toNatClampNeg x2_0 = x2_0.toInt.toNat from ix_n (by omega)]; exact en_2
    have hn_2 : (op (x2_0.toInt.toNat)).toInt = n_2.toInt := by rw [En_2]
    refine lv_bipush (v := 91) hx hb dX12_isInside_16 (by decide +kernel) ?_
    refine lv_icmp_ne (tgt := 23) hx hb dX12_isInside_18 (by decide) (fun c_3 => ?_) (fun c_3 => ?_)
    · rw [← Int32.toInt_inj] at c_3
      obtain ⟨t_4, et_4⟩ : ∃ zz_ : Int32, x2_0 + Int32.ofInt (1) = zz_ := ⟨_, rfl⟩
      have ft_4 : t_4.toInt = x2_0.toInt + (1 : Int32).toInt := ia_add (y := 1) et_4 (by omega) (by omega)
      refine lv_iinc (v := t_4) (lv' := [(1, .int t_4), (0, .ref m0)]) hx hb dX12_isInside_23 hl (k := 0) rfl et_4 (by decide) rfl (fun ls hl => ?_)
      refine lv_goto (tgt := 2) hx hb dX12_isInside_26 (by decide) ?_
      have hNI : ∀ k : Nat, (k : Int) < t_4.toInt → (op k).toInt ≠ 91 := fun k h => by by_cases hk : k = x2_0.toInt.toNat; (subst hk; omega); exact hNI k (by omega)
      exact ih2 t_4 (show (0 ≤ t_4.toInt) ∧ (t_4.toInt ≤ 400) ∧ (∀ k : Nat, (k : Int) < t_4.toInt → (op k).toInt ≠ 91) from ⟨by omega, by omega, hNI⟩) (show (400 - t_4.toInt).toNat < (400 - x2_0.toInt).toNat by omega) H locs wt ls hT hW hP hD hS (lv_sub hl [0, 1] rfl)
    · rw [← Int32.toInt_inj] at c_3
      refine lv_iconst (v := 1) hx hb dX12_isInside_21 (by decide +kernel) ?_
      have hP9 : va_P (gg_D G) classes ([((am 15), .inl (G.2.2 0, 400, .inl op)), (m0, .inr (12, [.ref (am 0), .int v1, .int v2, .ref (am 3), .ref (am 4), .ref (am 5), .ref (am 6), .ref (am 7), .int v8, .int v9, .int v10, .int v11, .int v12, .int v13, .int v14, .ref (am 15), .int v16, .ref (am 17), .int v18, .ref (am 19), .ref (am 20), .int v21, .int v22, .int v23, .int v24, .int v25, .ref (am 26), .int v27, .ref (am 28), .ref (am 29), .ref (am 30), .ref (am 31), .long v32, .ref (am 33), .ref (am 34), .ref (am 35), .ref (am 36)]))] ++ wt) _ := hP
      have hD9 : va_D A ([((am 15), .inl (G.2.2 0, 400, .inl op)), (m0, .inr (12, [.ref (am 0), .int v1, .int v2, .ref (am 3), .ref (am 4), .ref (am 5), .ref (am 6), .ref (am 7), .int v8, .int v9, .int v10, .int v11, .int v12, .int v13, .int v14, .ref (am 15), .int v16, .ref (am 17), .int v18, .ref (am 19), .ref (am 20), .int v21, .int v22, .int v23, .int v24, .int v25, .ref (am 26), .int v27, .ref (am 28), .ref (am 29), .ref (am 30), .ref (am 31), .long v32, .ref (am 33), .ref (am 34), .ref (am 35), .ref (am 36)]))] ++ wt) := hD
      exact W.zret (v := 1) hx hb hr (by decide +kernel) (gq_endI wt ⟨hT, hW, (by omega), (by omega), (Or.inl ⟨by omega, x2_0.toInt.toNat, by omega, by omega⟩)⟩ hP9 hD9 hS) hS.2.2 dX12_isInside_22

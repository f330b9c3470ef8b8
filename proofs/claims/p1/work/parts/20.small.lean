theorem wd_185 : (Jvm.Cond.fieldLink "SilentSale" (201 : Nat) "SilentSale$Terms" "bidders" "I") ∈ tb_L := tb_in (i := 185) (by decide +kernel) (by decide +kernel)
theorem wd_792 : (Jvm.Cond.code ({ cls := "SilentSale", name := "isBidder", desc := "(I)Z" } : Jvm.MethodName) prog_1_method_34_code (2 : Nat) (Option.some Jvm.ClassFile.FieldType.boolean)) ∈ tb_L := tb_in (i := 792) (by decide +kernel) (by decide +kernel)
theorem dX11_isBidder_0 : decode cX11_isBidder 0 = .ok (.iload_n 1, 1) := by decide +kernel
theorem dX11_isBidder_1 : decode cX11_isBidder 1 = .ok (.ifCond .lt 18, 3) := by decide +kernel
theorem dX11_isBidder_4 : decode cX11_isBidder 4 = .ok (.iload_n 1, 1) := by decide +kernel
theorem dX11_isBidder_5 : decode cX11_isBidder 5 = .ok (.aload_n 0, 1) := by decide +kernel
theorem dX11_isBidder_6 : decode cX11_isBidder 6 = .ok (.getfield 19, 3) := by decide +kernel
theorem dX11_isBidder_9 : decode cX11_isBidder 9 = .ok (.getfield 201, 3) := by decide +kernel
theorem dX11_isBidder_12 : decode cX11_isBidder 12 = .ok (.if_icmp .ge 7, 3) := by decide +kernel
theorem dX11_isBidder_19 : decode cX11_isBidder 19 = .ok (.iconst 0, 1) := by decide +kernel
theorem dX11_isBidder_20 : decode cX11_isBidder 20 = .ok (.ireturn, 1) := by decide +kernel
theorem wd_190 : (Jvm.Cond.fieldLink "SilentSale" (130 : Nat) "SilentSale$Terms" "lots" "I") ∈ tb_L := tb_in (i := 190) (by decide +kernel) (by decide +kernel)
theorem wd_823 : (Jvm.Cond.code ({ cls := "SilentSale", name := "isLot", desc := "(I)Z" } : Jvm.MethodName) prog_1_method_35_code (2 : Nat) (Option.some Jvm.ClassFile.FieldType.boolean)) ∈ tb_L := tb_in (i := 823) (by decide +kernel) (by decide +kernel)
theorem dX11_isLot_0 : decode cX11_isLot 0 = .ok (.iload_n 1, 1) := by decide +kernel
theorem dX11_isLot_1 : decode cX11_isLot 1 = .ok (.ifCond .lt 18, 3) := by decide +kernel
theorem dX11_isLot_4 : decode cX11_isLot 4 = .ok (.iload_n 1, 1) := by decide +kernel
theorem dX11_isLot_5 : decode cX11_isLot 5 = .ok (.aload_n 0, 1) := by decide +kernel
theorem dX11_isLot_6 : decode cX11_isLot 6 = .ok (.getfield 19, 3) := by decide +kernel
theorem dX11_isLot_9 : decode cX11_isLot 9 = .ok (.getfield 130, 3) := by decide +kernel
theorem dX11_isLot_12 : decode cX11_isLot 12 = .ok (.if_icmp .ge 7, 3) := by decide +kernel
theorem dX11_isLot_19 : decode cX11_isLot 19 = .ok (.iconst 0, 1) := by decide +kernel
theorem dX11_isLot_20 : decode cX11_isLot 20 = .ok (.ireturn, 1) := by decide +kernel
theorem wd_193 : (Jvm.Cond.fieldLink "SilentSale" (204 : Nat) "SilentSale$Terms" "tricks" "I") ∈ tb_L := tb_in (i := 193) (by decide +kernel) (by decide +kernel)
theorem wd_840 : (Jvm.Cond.code ({ cls := "SilentSale", name := "isTrick", desc := "(I)Z" } : Jvm.MethodName) prog_1_method_36_code (2 : Nat) (Option.some Jvm.ClassFile.FieldType.boolean)) ∈ tb_L := tb_in (i := 840) (by decide +kernel) (by decide +kernel)
theorem dX11_isTrick_0 : decode cX11_isTrick 0 = .ok (.iload_n 1, 1) := by decide +kernel
theorem dX11_isTrick_1 : decode cX11_isTrick 1 = .ok (.ifCond .lt 18, 3) := by decide +kernel
theorem dX11_isTrick_4 : decode cX11_isTrick 4 = .ok (.iload_n 1, 1) := by decide +kernel
theorem dX11_isTrick_5 : decode cX11_isTrick 5 = .ok (.aload_n 0, 1) := by decide +kernel
theorem dX11_isTrick_6 : decode cX11_isTrick 6 = .ok (.getfield 19, 3) := by decide +kernel
theorem dX11_isTrick_9 : decode cX11_isTrick 9 = .ok (.getfield 204, 3) := by decide +kernel
theorem dX11_isTrick_12 : decode cX11_isTrick 12 = .ok (.if_icmp .ge 7, 3) := by decide +kernel
theorem dX11_isTrick_19 : decode cX11_isTrick 19 = .ok (.iconst 0, 1) := by decide +kernel
theorem dX11_isTrick_20 : decode cX11_isTrick 20 = .ok (.ireturn, 1) := by decide +kernel
theorem wd_180 : (Jvm.Cond.fieldLink "SilentSale" (198 : Nat) "SilentSale$Terms" "longest" "I") ∈ tb_L := tb_in (i := 180) (by decide +kernel) (by decide +kernel)
theorem wd_987 : (Jvm.Cond.code ({ cls := "SilentSale", name := "isTold", desc := "()Z" } : Jvm.MethodName) prog_1_method_33_code (1 : Nat) (Option.some Jvm.ClassFile.FieldType.boolean)) ∈ tb_L := tb_in (i := 987) (by decide +kernel) (by decide +kernel)
theorem dX11_isTold_0 : decode cX11_isTold 0 = .ok (.aload_n 0, 1) := by decide +kernel
theorem dX11_isTold_1 : decode cX11_isTold 1 = .ok (.getfield 19, 3) := by decide +kernel
theorem dX11_isTold_4 : decode cX11_isTold 4 = .ok (.getfield 198, 3) := by decide +kernel
theorem dX11_isTold_7 : decode cX11_isTold 7 = .ok (.ifCond .le 7, 3) := by decide +kernel
theorem dX11_isTold_14 : decode cX11_isTold 14 = .ok (.iconst 0, 1) := by decide +kernel
theorem dX11_isTold_15 : decode cX11_isTold 15 = .ok (.ireturn, 1) := by decide +kernel
theorem wd_14 : (Jvm.Cond.selects "SilentSale" ({ cls := "SilentSale", name := "isBidder", desc := "(I)Z" } : Jvm.MethodName) ({ cls := "SilentSale", name := "isBidder", desc := "(I)Z" } : Jvm.MethodName)) ∈ tb_L := tb_in (i := 14) (by decide +kernel) (by decide +kernel)
theorem wd_122 : (Jvm.Cond.initialized "SilentSale") ∈ tb_L := tb_in (i := 122) (by decide +kernel) (by decide +kernel)
theorem wd_789 : (Jvm.Cond.methodLink "SilentSale" (136 : Nat) ({ cls := "SilentSale", name := "isBidder", desc := "(I)Z" } : Jvm.MethodName)) ∈ tb_L := tb_in (i := 789) (by decide +kernel) (by decide +kernel)
theorem wd_791 : (Jvm.Cond.instanceMethod ({ cls := "SilentSale", name := "isBidder", desc := "(I)Z" } : Jvm.MethodName)) ∈ tb_L := tb_in (i := 791) (by decide +kernel) (by decide +kernel)
theorem wd_1014 : (Jvm.Cond.code ({ cls := "SilentSale", name := "roomOf", desc := "(I)I" } : Jvm.MethodName) prog_1_method_39_code (2 : Nat) (Option.some Jvm.ClassFile.FieldType.int)) ∈ tb_L := tb_in (i := 1014) (by decide +kernel) (by decide +kernel)
theorem dX11_roomOf_0 : decode cX11_roomOf 0 = .ok (.aload_n 0, 1) := by decide +kernel
theorem dX11_roomOf_1 : decode cX11_roomOf 1 = .ok (.iload_n 1, 1) := by decide +kernel
theorem dX11_roomOf_2 : decode cX11_roomOf 2 = .ok (.invokevirtual 136, 3) := by decide +kernel
theorem dX11_roomOf_5 : decode cX11_roomOf 5 = .ok (.ifCond .eq 13, 3) := by decide +kernel
theorem dX11_roomOf_18 : decode cX11_roomOf 18 = .ok (.iconst (-1), 1) := by decide +kernel
theorem dX11_roomOf_19 : decode cX11_roomOf 19 = .ok (.ireturn, 1) := by decide +kernel
theorem wd_1018 : (Jvm.Cond.code ({ cls := "SilentSale", name := "roomOfAll", desc := "(I)I" } : Jvm.MethodName) prog_1_method_40_code (3 : Nat) (Option.some Jvm.ClassFile.FieldType.int)) ∈ tb_L := tb_in (i := 1018) (by decide +kernel) (by decide +kernel)
theorem dX11_roomOfAll_0 : decode cX11_roomOfAll 0 = .ok (.iconst 0, 1) := by decide +kernel
theorem dX11_roomOfAll_1 : decode cX11_roomOfAll 1 = .ok (.istore_n 2, 1) := by decide +kernel
theorem dX11_roomOfAll_2 : decode cX11_roomOfAll 2 = .ok (.iload_n 2, 1) := by decide +kernel
theorem dX11_roomOfAll_3 : decode cX11_roomOfAll 3 = .ok (.aload_n 0, 1) := by decide +kernel
theorem dX11_roomOfAll_4 : decode cX11_roomOfAll 4 = .ok (.getfield 19, 3) := by decide +kernel
theorem dX11_roomOfAll_7 : decode cX11_roomOfAll 7 = .ok (.getfield 130, 3) := by decide +kernel
theorem dX11_roomOfAll_10 : decode cX11_roomOfAll 10 = .ok (.if_icmp .ge 27, 3) := by decide +kernel
theorem dX11_roomOfAll_37 : decode cX11_roomOfAll 37 = .ok (.iconst (-1), 1) := by decide +kernel
theorem dX11_roomOfAll_38 : decode cX11_roomOfAll 38 = .ok (.ireturn, 1) := by decide +kernel
theorem wd_896 : (Jvm.Cond.code ({ cls := "java/lang/Integer", name := "bitCount", desc := "(I)I" } : Jvm.MethodName) prog_15_method_49_code (1 : Nat) (Option.some Jvm.ClassFile.FieldType.int)) ∈ tb_L := tb_in (i := 896) (by decide +kernel) (by decide +kernel)
theorem wd_897 : (Jvm.Cond.constant "java/lang/Integer" (265 : Nat) (1431655765 : Int32)) ∈ tb_L := tb_in (i := 897) (by decide +kernel) (by decide +kernel)
theorem wd_898 : (Jvm.Cond.constant "java/lang/Integer" (266 : Nat) (858993459 : Int32)) ∈ tb_L := tb_in (i := 898) (by decide +kernel) (by decide +kernel)
theorem wd_899 : (Jvm.Cond.constant "java/lang/Integer" (267 : Nat) (252645135 : Int32)) ∈ tb_L := tb_in (i := 899) (by decide +kernel) (by decide +kernel)
theorem dJ6_bitCount_0f7a4_0 : decode cJ6_bitCount_0f7a4 0 = .ok (.iload_n 0, 1) := by decide +kernel
theorem dJ6_bitCount_0f7a4_1 : decode cJ6_bitCount_0f7a4 1 = .ok (.iload_n 0, 1) := by decide +kernel
theorem dJ6_bitCount_0f7a4_2 : decode cJ6_bitCount_0f7a4 2 = .ok (.iconst 1, 1) := by decide +kernel
theorem dJ6_bitCount_0f7a4_3 : decode cJ6_bitCount_0f7a4 3 = .ok (.iushr, 1) := by decide +kernel
theorem dJ6_bitCount_0f7a4_4 : decode cJ6_bitCount_0f7a4 4 = .ok (.ldc_w 265, 3) := by decide +kernel
theorem dJ6_bitCount_0f7a4_7 : decode cJ6_bitCount_0f7a4 7 = .ok (.iand, 1) := by decide +kernel
theorem dJ6_bitCount_0f7a4_8 : decode cJ6_bitCount_0f7a4 8 = .ok (.isub, 1) := by decide +kernel
theorem dJ6_bitCount_0f7a4_9 : decode cJ6_bitCount_0f7a4 9 = .ok (.istore_n 0, 1) := by decide +kernel
theorem dJ6_bitCount_0f7a4_10 : decode cJ6_bitCount_0f7a4 10 = .ok (.iload_n 0, 1) := by decide +kernel
theorem dJ6_bitCount_0f7a4_11 : decode cJ6_bitCount_0f7a4 11 = .ok (.ldc_w 266, 3) := by decide +kernel
theorem dJ6_bitCount_0f7a4_14 : decode cJ6_bitCount_0f7a4 14 = .ok (.iand, 1) := by decide +kernel
theorem dJ6_bitCount_0f7a4_15 : decode cJ6_bitCount_0f7a4 15 = .ok (.iload_n 0, 1) := by decide +kernel
theorem dJ6_bitCount_0f7a4_16 : decode cJ6_bitCount_0f7a4 16 = .ok (.iconst 2, 1) := by decide +kernel
theorem dJ6_bitCount_0f7a4_17 : decode cJ6_bitCount_0f7a4 17 = .ok (.iushr, 1) := by decide +kernel
theorem dJ6_bitCount_0f7a4_18 : decode cJ6_bitCount_0f7a4 18 = .ok (.ldc_w 266, 3) := by decide +kernel
theorem dJ6_bitCount_0f7a4_21 : decode cJ6_bitCount_0f7a4 21 = .ok (.iand, 1) := by decide +kernel
theorem dJ6_bitCount_0f7a4_22 : decode cJ6_bitCount_0f7a4 22 = .ok (.iadd, 1) := by decide +kernel
theorem dJ6_bitCount_0f7a4_23 : decode cJ6_bitCount_0f7a4 23 = .ok (.istore_n 0, 1) := by decide +kernel
theorem dJ6_bitCount_0f7a4_24 : decode cJ6_bitCount_0f7a4 24 = .ok (.iload_n 0, 1) := by decide +kernel
theorem dJ6_bitCount_0f7a4_25 : decode cJ6_bitCount_0f7a4 25 = .ok (.iload_n 0, 1) := by decide +kernel
theorem dJ6_bitCount_0f7a4_26 : decode cJ6_bitCount_0f7a4 26 = .ok (.iconst 4, 1) := by decide +kernel
theorem dJ6_bitCount_0f7a4_27 : decode cJ6_bitCount_0f7a4 27 = .ok (.iushr, 1) := by decide +kernel
theorem dJ6_bitCount_0f7a4_28 : decode cJ6_bitCount_0f7a4 28 = .ok (.iadd, 1) := by decide +kernel
theorem dJ6_bitCount_0f7a4_29 : decode cJ6_bitCount_0f7a4 29 = .ok (.ldc_w 267, 3) := by decide +kernel
theorem dJ6_bitCount_0f7a4_32 : decode cJ6_bitCount_0f7a4 32 = .ok (.iand, 1) := by decide +kernel
theorem dJ6_bitCount_0f7a4_33 : decode cJ6_bitCount_0f7a4 33 = .ok (.istore_n 0, 1) := by decide +kernel
theorem dJ6_bitCount_0f7a4_34 : decode cJ6_bitCount_0f7a4 34 = .ok (.iload_n 0, 1) := by decide +kernel
theorem dJ6_bitCount_0f7a4_35 : decode cJ6_bitCount_0f7a4 35 = .ok (.iload_n 0, 1) := by decide +kernel
theorem dJ6_bitCount_0f7a4_36 : decode cJ6_bitCount_0f7a4 36 = .ok (.bipush 8, 2) := by decide +kernel
theorem dJ6_bitCount_0f7a4_38 : decode cJ6_bitCount_0f7a4 38 = .ok (.iushr, 1) := by decide +kernel
theorem dJ6_bitCount_0f7a4_39 : decode cJ6_bitCount_0f7a4 39 = .ok (.iadd, 1) := by decide +kernel
theorem dJ6_bitCount_0f7a4_40 : decode cJ6_bitCount_0f7a4 40 = .ok (.istore_n 0, 1) := by decide +kernel
theorem dJ6_bitCount_0f7a4_41 : decode cJ6_bitCount_0f7a4 41 = .ok (.iload_n 0, 1) := by decide +kernel
theorem dJ6_bitCount_0f7a4_42 : decode cJ6_bitCount_0f7a4 42 = .ok (.iload_n 0, 1) := by decide +kernel
theorem dJ6_bitCount_0f7a4_43 : decode cJ6_bitCount_0f7a4 43 = .ok (.bipush 16, 2) := by decide +kernel
theorem dJ6_bitCount_0f7a4_45 : decode cJ6_bitCount_0f7a4 45 = .ok (.iushr, 1) := by decide +kernel
theorem dJ6_bitCount_0f7a4_46 : decode cJ6_bitCount_0f7a4 46 = .ok (.iadd, 1) := by decide +kernel
theorem dJ6_bitCount_0f7a4_47 : decode cJ6_bitCount_0f7a4 47 = .ok (.istore_n 0, 1) := by decide +kernel
theorem dJ6_bitCount_0f7a4_48 : decode cJ6_bitCount_0f7a4 48 = .ok (.iload_n 0, 1) := by decide +kernel
theorem dJ6_bitCount_0f7a4_49 : decode cJ6_bitCount_0f7a4 49 = .ok (.bipush 63, 2) := by decide +kernel
theorem dJ6_bitCount_0f7a4_51 : decode cJ6_bitCount_0f7a4 51 = .ok (.iand, 1) := by decide +kernel
theorem dJ6_bitCount_0f7a4_52 : decode cJ6_bitCount_0f7a4 52 = .ok (.ireturn, 1) := by decide +kernel
theorem wd_979 : (Jvm.Cond.code ({ cls := "SilentSale$Past", name := "takeBack", desc := "(LSilentSale$State;)Z" } : Jvm.MethodName) prog_5_method_4_code (2 : Nat) (Option.some Jvm.ClassFile.FieldType.boolean)) ∈ tb_L := tb_in (i := 979) (by decide +kernel) (by decide +kernel)
theorem dX3_takeBack_0 : decode cX3_takeBack 0 = .ok (.aload_n 0, 1) := by decide +kernel
theorem dX3_takeBack_1 : decode cX3_takeBack 1 = .ok (.getfield 21, 3) := by decide +kernel
theorem dX3_takeBack_4 : decode cX3_takeBack 4 = .ok (.ifCond .ne 5, 3) := by decide +kernel
theorem dX3_takeBack_7 : decode cX3_takeBack 7 = .ok (.iconst 0, 1) := by decide +kernel
theorem dX3_takeBack_8 : decode cX3_takeBack 8 = .ok (.ireturn, 1) := by decide +kernel
theorem wd_698 : (Jvm.Cond.code ({ cls := "SilentSale$Logs", name := "clear", desc := "()V" } : Jvm.MethodName) prog_4_method_2_code (1 : Nat) (Option.none : Option Jvm.ClassFile.FieldType)) ∈ tb_L := tb_in (i := 698) (by decide +kernel) (by decide +kernel)
theorem dX2_clear_0 : decode cX2_clear 0 = .ok (.aload_n 0, 1) := by decide +kernel
theorem dX2_clear_1 : decode cX2_clear 1 = .ok (.iconst 0, 1) := by decide +kernel
theorem dX2_clear_2 : decode cX2_clear 2 = .ok (.putfield 21, 3) := by decide +kernel
theorem dX2_clear_5 : decode cX2_clear 5 = .ok (.return_, 1) := by decide +kernel
set_option maxHeartbeats 4000000 in
set_option maxRecDepth 100000 in
theorem c_S_isBidder (l : Launch) (G : gg_T) (sz : Nat) (h0 : Nat) (ad : Nat → Nat) (b : Int32) : Met l yX11_isBidder (ts_L yX11_isBidder cX11_isBidder 2 (some .boolean)) ({ frames := 0, cells := 0, slots := 0, locals := 0 }) (gc_P G [(h0, .inr (11, [.ref (ad 0), .ref (ad 1), .ref (ad 2), .ref (ad 3), .ref (ad 4), .ref (ad 5), .ref (ad 6), .ref (ad 7), .ref (ad 8), .ref (ad 9), .ref (ad 10), .ref (ad 11), .ref (ad 12), .int 0, .int (-1), .int 0])), ((ad 1), .inr (9, [.int 0, .int 0, .int 0, .int 0, .ref (ad 14), .ref (ad 15), .ref (ad 16), .ref (ad 17), .ref (ad 18)]))] sz [.ref h0, .int b]) (gc_I G (va_A [(h0, .inr (11, [.ref (ad 0), .ref (ad 1), .ref (ad 2), .ref (ad 3), .ref (ad 4), .ref (ad 5), .ref (ad 6), .ref (ad 7), .ref (ad 8), .ref (ad 9), .ref (ad 10), .ref (ad 11), .ref (ad 12), .int 0, .int (-1), .int 0])), ((ad 1), .inr (9, [.int 0, .int 0, .int 0, .int 0, .ref (ad 14), .ref (ad 15), .ref (ad 16), .ref (ad 17), .ref (ad 18)]))] sz) (fun r (_ : Unit) => r = 0) (fun _ => [(h0, .inr (11, [.ref (ad 0), .ref (ad 1), .ref (ad 2), .ref (ad 3), .ref (ad 4), .ref (ad 5), .ref (ad 6), .ref (ad 7), .ref (ad 8), .ref (ad 9), .ref (ad 10), .ref (ad 11), .ref (ad 12), .int 0, .int (-1), .int 0])), ((ad 1), .inr (9, [.int 0, .int 0, .int 0, .int 0, .ref (ad 14), .ref (ad 15), .ref (ad 16), .ref (ad 17), .ref (ad 18)]))])) 0 0 (va_A [(h0, .inr (11, [.ref (ad 0), .ref (ad 1), .ref (ad 2), .ref (ad 3), .ref (ad 4), .ref (ad 5), .ref (ad 6), .ref (ad 7), .ref (ad 8), .ref (ad 9), .ref (ad 10), .ref (ad 11), .ref (ad 12), .int 0, .int (-1), .int 0])), ((ad 1), .inr (9, [.int 0, .int 0, .int 0, .int 0, .ref (ad 14), .ref (ad 15), .ref (ad 16), .ref (ad 17), .ref (ad 18)]))] sz) := by
  refine Met.ofW (cc := cX11_isBidder) (maxL := 2) (ret := (some .boolean)) (by decide) rfl ?_
  intro p e s m args below meth c s₁ B hml hv
  obtain ⟨rfl, hsz, hP, hK, hD0⟩ := hv
  have hx := B.exec
  have hb := B.bytes
  have hr := B.returns
  have ht := ts_ht (atoms_spec (ws := ts_L yX11_isBidder cX11_isBidder 2 (some .boolean)) B.pre)
  have hown : s.vm.findClass RX11 = some m.cls := findClass_of_methodNamed B.named
  have hlocks := B.notSynchronized
  subst hsz
  have hD := hD0.self (sz := s.heap.size)
  generalize hAe : va_A [(h0, .inr (11, [.ref (ad 0), .ref (ad 1), .ref (ad 2), .ref (ad 3), .ref (ad 4), .ref (ad 5), .ref (ad 6), .ref (ad 7), .ref (ad 8), .ref (ad 9), .ref (ad 10), .ref (ad 11), .ref (ad 12), .int 0, .int (-1), .int 0])), ((ad 1), .inr (9, [.int 0, .int 0, .int 0, .int 0, .ref (ad 14), .ref (ad 15), .ref (ad 16), .ref (ad 17), .ref (ad 18)]))] s.heap.size = A at hD ⊢
  have hA : ∀ q : Nat, s.heap.size ≤ q → A q := fun q h => by rw [← hAe]; exact Or.inr h
  have hS : va_S A s.heap s.heap [] := va_S.rf
  have hl := lv_entry ([.ref h0, .int b]) (n := 2) (Nat.le_of_ble_eq_true rfl)
  rw [lg_entry_eq]
  generalize (lg_sl ([.ref h0, .int b]) ++ List.replicate (2 - (lg_sl ([.ref h0, .int b])).length) Slot.unset).toArray = ls at hl ⊢
  have hl : lv_has ls 2 [(0, .ref h0), (1, .int b)] := hl
  refine lv_iload_n hx hb dX11_isBidder_0 rfl (lv_at hl 1 rfl) ?_
  refine lv_if_lt (tgt := 19) hx hb dX11_isBidder_1 (by decide) (fun c_1 => ?_) (fun c_1 => ?_)
  · refine lv_iconst (v := 0) hx hb dX11_isBidder_19 (by decide) ?_
    have hP9 := hP.sub (ws' := [(h0, .inr (11, [.ref (ad 0), .ref (ad 1), .ref (ad 2), .ref (ad 3), .ref (ad 4), .ref (ad 5), .ref (ad 6), .ref (ad 7), .ref (ad 8), .ref (ad 9), .ref (ad 10), .ref (ad 11), .ref (ad 12), .int 0, .int (-1), .int 0])), ((ad 1), .inr (9, [.int 0, .int 0, .int 0, .int 0, .ref (ad 14), .ref (ad 15), .ref (ad 16), .ref (ad 17), .ref (ad 18)]))]) [0, 1] rfl
    have hD9 := hD.sub (ws' := [(h0, .inr (11, [.ref (ad 0), .ref (ad 1), .ref (ad 2), .ref (ad 3), .ref (ad 4), .ref (ad 5), .ref (ad 6), .ref (ad 7), .ref (ad 8), .ref (ad 9), .ref (ad 10), .ref (ad 11), .ref (ad 12), .int 0, .int (-1), .int 0])), ((ad 1), .inr (9, [.int 0, .int 0, .int 0, .int 0, .ref (ad 14), .ref (ad 15), .ref (ad 16), .ref (ad 17), .ref (ad 18)]))]) [0, 1] (by decide) rfl
    exact W.zret (v := 0) hx hb hr (by decide +kernel) (gq_endI () rfl hP9 hD9 hS) hS.2.2 dX11_isBidder_20
  · refine lv_iload_n hx hb dX11_isBidder_4 rfl (lv_at hl 1 rfl) ?_
    refine lv_aload_n hx hb dX11_isBidder_5 rfl (lv_at hl 0 rfl) ?_
    refine gq_get hx hb ht hown hK hP i_X11 0 rfl rfl 1 (by decide) wd_498 rfl rfl dX11_isBidder_6 ?_
    refine gq_get hx hb ht hown hK hP i_X9 1 rfl rfl 1 (by decide) wd_185 rfl rfl dX11_isBidder_9 ?_
    refine lv_icmp_ge (tgt := 19) hx hb dX11_isBidder_12 (by decide) (fun _ => ?_) (fun c0 => False.elim (by have k0 : (0 : Int32).toInt = 0 := (by decide +kernel); simp only [Int32.lt_iff_toInt_lt, Int32.le_iff_toInt_le, ← Int32.toInt_inj] at c_1 c0; omega))
    refine lv_iconst (v := 0) hx hb dX11_isBidder_19 (by decide) ?_
    have hP9 := hP.sub (ws' := [(h0, .inr (11, [.ref (ad 0), .ref (ad 1), .ref (ad 2), .ref (ad 3), .ref (ad 4), .ref (ad 5), .ref (ad 6), .ref (ad 7), .ref (ad 8), .ref (ad 9), .ref (ad 10), .ref (ad 11), .ref (ad 12), .int 0, .int (-1), .int 0])), ((ad 1), .inr (9, [.int 0, .int 0, .int 0, .int 0, .ref (ad 14), .ref (ad 15), .ref (ad 16), .ref (ad 17), .ref (ad 18)]))]) [0, 1] rfl
    have hD9 := hD.sub (ws' := [(h0, .inr (11, [.ref (ad 0), .ref (ad 1), .ref (ad 2), .ref (ad 3), .ref (ad 4), .ref (ad 5), .ref (ad 6), .ref (ad 7), .ref (ad 8), .ref (ad 9), .ref (ad 10), .ref (ad 11), .ref (ad 12), .int 0, .int (-1), .int 0])), ((ad 1), .inr (9, [.int 0, .int 0, .int 0, .int 0, .ref (ad 14), .ref (ad 15), .ref (ad 16), .ref (ad 17), .ref (ad 18)]))]) [0, 1] (by decide) rfl
    exact W.zret (v := 0) hx hb hr (by decide +kernel) (gq_endI () rfl hP9 hD9 hS) hS.2.2 dX11_isBidder_20
set_option maxHeartbeats 4000000 in
set_option maxRecDepth 100000 in
theorem c_S_isLot (l : Launch) (G : gg_T) (sz : Nat) (h0 : Nat) (ad : Nat → Nat) (b : Int32) : Met l yX11_isLot (ts_L yX11_isLot cX11_isLot 2 (some .boolean)) ({ frames := 0, cells := 0, slots := 0, locals := 0 }) (gc_P G [(h0, .inr (11, [.ref (ad 0), .ref (ad 1), .ref (ad 2), .ref (ad 3), .ref (ad 4), .ref (ad 5), .ref (ad 6), .ref (ad 7), .ref (ad 8), .ref (ad 9), .ref (ad 10), .ref (ad 11), .ref (ad 12), .int 0, .int (-1), .int 0])), ((ad 1), .inr (9, [.int 0, .int 0, .int 0, .int 0, .ref (ad 14), .ref (ad 15), .ref (ad 16), .ref (ad 17), .ref (ad 18)]))] sz [.ref h0, .int b]) (gc_I G (va_A [(h0, .inr (11, [.ref (ad 0), .ref (ad 1), .ref (ad 2), .ref (ad 3), .ref (ad 4), .ref (ad 5), .ref (ad 6), .ref (ad 7), .ref (ad 8), .ref (ad 9), .ref (ad 10), .ref (ad 11), .ref (ad 12), .int 0, .int (-1), .int 0])), ((ad 1), .inr (9, [.int 0, .int 0, .int 0, .int 0, .ref (ad 14), .ref (ad 15), .ref (ad 16), .ref (ad 17), .ref (ad 18)]))] sz) (fun r (_ : Unit) => r = 0) (fun _ => [(h0, .inr (11, [.ref (ad 0), .ref (ad 1), .ref (ad 2), .ref (ad 3), .ref (ad 4), .ref (ad 5), .ref (ad 6), .ref (ad 7), .ref (ad 8), .ref (ad 9), .ref (ad 10), .ref (ad 11), .ref (ad 12), .int 0, .int (-1), .int 0])), ((ad 1), .inr (9, [.int 0, .int 0, .int 0, .int 0, .ref (ad 14), .ref (ad 15), .ref (ad 16), .ref (ad 17), .ref (ad 18)]))])) 0 0 (va_A [(h0, .inr (11, [.ref (ad 0), .ref (ad 1), .ref (ad 2), .ref (ad 3), .ref (ad 4), .ref (ad 5), .ref (ad 6), .ref (ad 7), .ref (ad 8), .ref (ad 9), .ref (ad 10), .ref (ad 11), .ref (ad 12), .int 0, .int (-1), .int 0])), ((ad 1), .inr (9, [.int 0, .int 0, .int 0, .int 0, .ref (ad 14), .ref (ad 15), .ref (ad 16), .ref (ad 17), .ref (ad 18)]))] sz) := by
  refine Met.ofW (cc := cX11_isLot) (maxL := 2) (ret := (some .boolean)) (by decide) rfl ?_
  intro p e s m args below meth c s₁ B hml hv
  obtain ⟨rfl, hsz, hP, hK, hD0⟩ := hv
  have hx := B.exec
  have hb := B.bytes
  have hr := B.returns
  have ht := ts_ht (atoms_spec (ws := ts_L yX11_isLot cX11_isLot 2 (some .boolean)) B.pre)
  have hown : s.vm.findClass RX11 = some m.cls := findClass_of_methodNamed B.named
  have hlocks := B.notSynchronized
  subst hsz
  have hD := hD0.self (sz := s.heap.size)
  generalize hAe : va_A [(h0, .inr (11, [.ref (ad 0), .ref (ad 1), .ref (ad 2), .ref (ad 3), .ref (ad 4), .ref (ad 5), .ref (ad 6), .ref (ad 7), .ref (ad 8), .ref (ad 9), .ref (ad 10), .ref (ad 11), .ref (ad 12), .int 0, .int (-1), .int 0])), ((ad 1), .inr (9, [.int 0, .int 0, .int 0, .int 0, .ref (ad 14), .ref (ad 15), .ref (ad 16), .ref (ad 17), .ref (ad 18)]))] s.heap.size = A at hD ⊢
  have hA : ∀ q : Nat, s.heap.size ≤ q → A q := fun q h => by rw [← hAe]; exact Or.inr h
  have hS : va_S A s.heap s.heap [] := va_S.rf
  have hl := lv_entry ([.ref h0, .int b]) (n := 2) (Nat.le_of_ble_eq_true rfl)
  rw [lg_entry_eq]
  generalize (lg_sl ([.ref h0, .int b]) ++ List.replicate (2 - (lg_sl ([.ref h0, .int b])).length) Slot.unset).toArray = ls at hl ⊢
  have hl : lv_has ls 2 [(0, .ref h0), (1, .int b)] := hl
  refine lv_iload_n hx hb dX11_isLot_0 rfl (lv_at hl 1 rfl) ?_
  refine lv_if_lt (tgt := 19) hx hb dX11_isLot_1 (by decide) (fun c_1 => ?_) (fun c_1 => ?_)
  · refine lv_iconst (v := 0) hx hb dX11_isLot_19 (by decide) ?_
    have hP9 := hP.sub (ws' := [(h0, .inr (11, [.ref (ad 0), .ref (ad 1), .ref (ad 2), .ref (ad 3), .ref (ad 4), .ref (ad 5), .ref (ad 6), .ref (ad 7), .ref (ad 8), .ref (ad 9), .ref (ad 10), .ref (ad 11), .ref (ad 12), .int 0, .int (-1), .int 0])), ((ad 1), .inr (9, [.int 0, .int 0, .int 0, .int 0, .ref (ad 14), .ref (ad 15), .ref (ad 16), .ref (ad 17), .ref (ad 18)]))]) [0, 1] rfl
    have hD9 := hD.sub (ws' := [(h0, .inr (11, [.ref (ad 0), .ref (ad 1), .ref (ad 2), .ref (ad 3), .ref (ad 4), .ref (ad 5), .ref (ad 6), .ref (ad 7), .ref (ad 8), .ref (ad 9), .ref (ad 10), .ref (ad 11), .ref (ad 12), .int 0, .int (-1), .int 0])), ((ad 1), .inr (9, [.int 0, .int 0, .int 0, .int 0, .ref (ad 14), .ref (ad 15), .ref (ad 16), .ref (ad 17), .ref (ad 18)]))]) [0, 1] (by decide) rfl
    exact W.zret (v := 0) hx hb hr (by decide +kernel) (gq_endI () rfl hP9 hD9 hS) hS.2.2 dX11_isLot_20
  · refine lv_iload_n hx hb dX11_isLot_4 rfl (lv_at hl 1 rfl) ?_
    refine lv_aload_n hx hb dX11_isLot_5 rfl (lv_at hl 0 rfl) ?_
    refine gq_get hx hb ht hown hK hP i_X11 0 rfl rfl 1 (by decide) wd_498 rfl rfl dX11_isLot_6 ?_
    refine gq_get hx hb ht hown hK hP i_X9 1 rfl rfl 2 (by decide) wd_190 rfl rfl dX11_isLot_9 ?_
    refine lv_icmp_ge (tgt := 19) hx hb dX11_isLot_12 (by decide) (fun _ => ?_) (fun c0 => False.elim (by have k0 : (0 : Int32).toInt = 0 := (by decide +kernel); simp only [Int32.lt_iff_toInt_lt, Int32.le_iff_toInt_le, ← Int32.toInt_inj] at c_1 c0; omega))
    refine lv_iconst (v := 0) hx hb dX11_isLot_19 (by decide) ?_
    have hP9 := hP.sub (ws' := [(h0, .inr (11, [.ref (ad 0), .ref (ad 1), .ref (ad 2), .ref (ad 3), .ref (ad 4), .ref (ad 5), .ref (ad 6), .ref (ad 7), .ref (ad 8), .ref (ad 9), .ref (ad 10), .ref (ad 11), .ref (ad 12), .int 0, .int (-1), .int 0])), ((ad 1), .inr (9, [.int 0, .int 0, .int 0, .int 0, .ref (ad 14), .ref (ad 15), .ref (ad 16), .ref (ad 17), .ref (ad 18)]))]) [0, 1] rfl
    have hD9 := hD.sub (ws' := [(h0, .inr (11, [.ref (ad 0), .ref (ad 1), .ref (ad 2), .ref (ad 3), .ref (ad 4), .ref (ad 5), .ref (ad 6), .ref (ad 7), .ref (ad 8), .ref (ad 9), .ref (ad 10), .ref (ad 11), .ref (ad 12), .int 0, .int (-1), .int 0])), ((ad 1), .inr (9, [.int 0, .int 0, .int 0, .int 0, .ref (ad 14), .ref (ad 15), .ref (ad 16), .ref (ad 17), .ref (ad 18)]))]) [0, 1] (by decide) rfl
    exact W.zret (v := 0) hx hb hr (by decide +kernel) (gq_endI () rfl hP9 hD9 hS) hS.2.2 dX11_isLot_20
set_option maxHeartbeats 4000000 in
set_option maxRecDepth 100000 in
theorem c_S_isTrick (l : Launch) (G : gg_T) (sz : Nat) (h0 : Nat) (ad : Nat → Nat) (b : Int32) : Met l yX11_isTrick (ts_L yX11_isTrick cX11_isTrick 2 (some .boolean)) ({ frames := 0, cells := 0, slots := 0, locals := 0 }) (gc_P G [(h0, .inr (11, [.ref (ad 0), .ref (ad 1), .ref (ad 2), .ref (ad 3), .ref (ad 4), .ref (ad 5), .ref (ad 6), .ref (ad 7), .ref (ad 8), .ref (ad 9), .ref (ad 10), .ref (ad 11), .ref (ad 12), .int 0, .int (-1), .int 0])), ((ad 1), .inr (9, [.int 0, .int 0, .int 0, .int 0, .ref (ad 14), .ref (ad 15), .ref (ad 16), .ref (ad 17), .ref (ad 18)]))] sz [.ref h0, .int b]) (gc_I G (va_A [(h0, .inr (11, [.ref (ad 0), .ref (ad 1), .ref (ad 2), .ref (ad 3), .ref (ad 4), .ref (ad 5), .ref (ad 6), .ref (ad 7), .ref (ad 8), .ref (ad 9), .ref (ad 10), .ref (ad 11), .ref (ad 12), .int 0, .int (-1), .int 0])), ((ad 1), .inr (9, [.int 0, .int 0, .int 0, .int 0, .ref (ad 14), .ref (ad 15), .ref (ad 16), .ref (ad 17), .ref (ad 18)]))] sz) (fun r (_ : Unit) => r = 0) (fun _ => [(h0, .inr (11, [.ref (ad 0), .ref (ad 1), .ref (ad 2), .ref (ad 3), .ref (ad 4), .ref (ad 5), .ref (ad 6), .ref (ad 7), .ref (ad 8), .ref (ad 9), .ref (ad 10), .ref (ad 11), .ref (ad 12), .int 0, .int (-1), .int 0])), ((ad 1), .inr (9, [.int 0, .int 0, .int 0, .int 0, .ref (ad 14), .ref (ad 15), .ref (ad 16), .ref (ad 17), .ref (ad 18)]))])) 0 0 (va_A [(h0, .inr (11, [.ref (ad 0), .ref (ad 1), .ref (ad 2), .ref (ad 3), .ref (ad 4), .ref (ad 5), .ref (ad 6), .ref (ad 7), .ref (ad 8), .ref (ad 9), .ref (ad 10), .ref (ad 11), .ref (ad 12), .int 0, .int (-1), .int 0])), ((ad 1), .inr (9, [.int 0, .int 0, .int 0, .int 0, .ref (ad 14), .ref (ad 15), .ref (ad 16), .ref (ad 17), .ref (ad 18)]))] sz) := by
  refine Met.ofW (cc := cX11_isTrick) (maxL := 2) (ret := (some .boolean)) (by decide) rfl ?_
  intro p e s m args below meth c s₁ B hml hv
  obtain ⟨rfl, hsz, hP, hK, hD0⟩ := hv
  have hx := B.exec
  have hb := B.bytes
  have hr := B.returns
  have ht := ts_ht (atoms_spec (ws := ts_L yX11_isTrick cX11_isTrick 2 (some .boolean)) B.pre)
  have hown : s.vm.findClass RX11 = some m.cls := findClass_of_methodNamed B.named
  have hlocks := B.notSynchronized
  subst hsz
  have hD := hD0.self (sz := s.heap.size)
  generalize hAe : va_A [(h0, .inr (11, [.ref (ad 0), .ref (ad 1), .ref (ad 2), .ref (ad 3), .ref (ad 4), .ref (ad 5), .ref (ad 6), .ref (ad 7), .ref (ad 8), .ref (ad 9), .ref (ad 10), .ref (ad 11), .ref (ad 12), .int 0, .int (-1), .int 0])), ((ad 1), .inr (9, [.int 0, .int 0, .int 0, .int 0, .ref (ad 14), .ref (ad 15), .ref (ad 16), .ref (ad 17), .ref (ad 18)]))] s.heap.size = A at hD ⊢
  have hA : ∀ q : Nat, s.heap.size ≤ q → A q := fun q h => by rw [← hAe]; exact Or.inr h
  have hS : va_S A s.heap s.heap [] := va_S.rf
  have hl := lv_entry ([.ref h0, .int b]) (n := 2) (Nat.le_of_ble_eq_true rfl)
  rw [lg_entry_eq]
  generalize (lg_sl ([.ref h0, .int b]) ++ List.replicate (2 - (lg_sl ([.ref h0, .int b])).length) Slot.unset).toArray = ls at hl ⊢
  have hl : lv_has ls 2 [(0, .ref h0), (1, .int b)] := hl
  refine lv_iload_n hx hb dX11_isTrick_0 rfl (lv_at hl 1 rfl) ?_
  refine lv_if_lt (tgt := 19) hx hb dX11_isTrick_1 (by decide) (fun c_1 => ?_) (fun c_1 => ?_)
  · refine lv_iconst (v := 0) hx hb dX11_isTrick_19 (by decide) ?_
    have hP9 := hP.sub (ws' := [(h0, .inr (11, [.ref (ad 0), .ref (ad 1), .ref (ad 2), .ref (ad 3), .ref (ad 4), .ref (ad 5), .ref (ad 6), .ref (ad 7), .ref (ad 8), .ref (ad 9), .ref (ad 10), .ref (ad 11), .ref (ad 12), .int 0, .int (-1), .int 0])), ((ad 1), .inr (9, [.int 0, .int 0, .int 0, .int 0, .ref (ad 14), .ref (ad 15), .ref (ad 16), .ref (ad 17), .ref (ad 18)]))]) [0, 1] rfl
    have hD9 := hD.sub (ws' := [(h0, .inr (11, [.ref (ad 0), .ref (ad 1), .ref (ad 2), .ref (ad 3), .ref (ad 4), .ref (ad 5), .ref (ad 6), .ref (ad 7), .ref (ad 8), .ref (ad 9), .ref (ad 10), .ref (ad 11), .ref (ad 12), .int 0, .int (-1), .int 0])), ((ad 1), .inr (9, [.int 0, .int 0, .int 0, .int 0, .ref (ad 14), .ref (ad 15), .ref (ad 16), .ref (ad 17), .ref (ad 18)]))]) [0, 1] (by decide) rfl
    exact W.zret (v := 0) hx hb hr (by decide +kernel) (gq_endI () rfl hP9 hD9 hS) hS.2.2 dX11_isTrick_20
  · refine lv_iload_n hx hb dX11_isTrick_4 rfl (lv_at hl 1 rfl) ?_
    refine lv_aload_n hx hb dX11_isTrick_5 rfl (lv_at hl 0 rfl) ?_
    refine gq_get hx hb ht hown hK hP i_X11 0 rfl rfl 1 (by decide) wd_498 rfl rfl dX11_isTrick_6 ?_
    refine gq_get hx hb ht hown hK hP i_X9 1 rfl rfl 3 (by decide) wd_193 rfl rfl dX11_isTrick_9 ?_
    refine lv_icmp_ge (tgt := 19) hx hb dX11_isTrick_12 (by decide) (fun _ => ?_) (fun c0 => False.elim (by have k0 : (0 : Int32).toInt = 0 := (by decide +kernel); simp only [Int32.lt_iff_toInt_lt, Int32.le_iff_toInt_le, ← Int32.toInt_inj] at c_1 c0; omega))
    refine lv_iconst (v := 0) hx hb dX11_isTrick_19 (by decide) ?_
    have hP9 := hP.sub (ws' := [(h0, .inr (11, [.ref (ad 0), .ref (ad 1), .ref (ad 2), .ref (ad 3), .ref (ad 4), .ref (ad 5), .ref (ad 6), .ref (ad 7), .ref (ad 8), .ref (ad 9), .ref (ad 10), .ref (ad 11), .ref (ad 12), .int 0, .int (-1), .int 0])), ((ad 1), .inr (9, [.int 0, .int 0, .int 0, .int 0, .ref (ad 14), .ref (ad 15), .ref (ad 16), .ref (ad 17), .ref (ad 18)]))]) [0, 1] rfl
    have hD9 := hD.sub (ws' := [(h0, .inr (11, [.ref (ad 0), .ref (ad 1), .ref (ad 2), .ref (ad 3), .ref (ad 4), .ref (ad 5), .ref (ad 6), .ref (ad 7), .ref (ad 8), .ref (ad 9), .ref (ad 10), .ref (ad 11), .ref (ad 12), .int 0, .int (-1), .int 0])), ((ad 1), .inr (9, [.int 0, .int 0, .int 0, .int 0, .ref (ad 14), .ref (ad 15), .ref (ad 16), .ref (ad 17), .ref (ad 18)]))]) [0, 1] (by decide) rfl
    exact W.zret (v := 0) hx hb hr (by decide +kernel) (gq_endI () rfl hP9 hD9 hS) hS.2.2 dX11_isTrick_20
set_option maxHeartbeats 4000000 in
set_option maxRecDepth 100000 in
theorem c_S_isTold (l : Launch) (G : gg_T) (sz : Nat) (h0 : Nat) (ad : Nat → Nat) : Met l yX11_isTold (ts_L yX11_isTold cX11_isTold 1 (some .boolean)) ({ frames := 0, cells := 0, slots := 0, locals := 0 }) (gc_P G [(h0, .inr (11, [.ref (ad 0), .ref (ad 1), .ref (ad 2), .ref (ad 3), .ref (ad 4), .ref (ad 5), .ref (ad 6), .ref (ad 7), .ref (ad 8), .ref (ad 9), .ref (ad 10), .ref (ad 11), .ref (ad 12), .int 0, .int (-1), .int 0])), ((ad 1), .inr (9, [.int 0, .int 0, .int 0, .int 0, .ref (ad 14), .ref (ad 15), .ref (ad 16), .ref (ad 17), .ref (ad 18)]))] sz [.ref h0]) (gc_I G (va_A [(h0, .inr (11, [.ref (ad 0), .ref (ad 1), .ref (ad 2), .ref (ad 3), .ref (ad 4), .ref (ad 5), .ref (ad 6), .ref (ad 7), .ref (ad 8), .ref (ad 9), .ref (ad 10), .ref (ad 11), .ref (ad 12), .int 0, .int (-1), .int 0])), ((ad 1), .inr (9, [.int 0, .int 0, .int 0, .int 0, .ref (ad 14), .ref (ad 15), .ref (ad 16), .ref (ad 17), .ref (ad 18)]))] sz) (fun r (_ : Unit) => r = 0) (fun _ => [(h0, .inr (11, [.ref (ad 0), .ref (ad 1), .ref (ad 2), .ref (ad 3), .ref (ad 4), .ref (ad 5), .ref (ad 6), .ref (ad 7), .ref (ad 8), .ref (ad 9), .ref (ad 10), .ref (ad 11), .ref (ad 12), .int 0, .int (-1), .int 0])), ((ad 1), .inr (9, [.int 0, .int 0, .int 0, .int 0, .ref (ad 14), .ref (ad 15), .ref (ad 16), .ref (ad 17), .ref (ad 18)]))])) 0 0 (va_A [(h0, .inr (11, [.ref (ad 0), .ref (ad 1), .ref (ad 2), .ref (ad 3), .ref (ad 4), .ref (ad 5), .ref (ad 6), .ref (ad 7), .ref (ad 8), .ref (ad 9), .ref (ad 10), .ref (ad 11), .ref (ad 12), .int 0, .int (-1), .int 0])), ((ad 1), .inr (9, [.int 0, .int 0, .int 0, .int 0, .ref (ad 14), .ref (ad 15), .ref (ad 16), .ref (ad 17), .ref (ad 18)]))] sz) := by
  refine Met.ofW (cc := cX11_isTold) (maxL := 1) (ret := (some .boolean)) (by decide) rfl ?_
  intro p e s m args below meth c s₁ B hml hv
  obtain ⟨rfl, hsz, hP, hK, hD0⟩ := hv
  have hx := B.exec
  have hb := B.bytes
  have hr := B.returns
  have ht := ts_ht (atoms_spec (ws := ts_L yX11_isTold cX11_isTold 1 (some .boolean)) B.pre)
  have hown : s.vm.findClass RX11 = some m.cls := findClass_of_methodNamed B.named
  have hlocks := B.notSynchronized
  subst hsz
  have hD := hD0.self (sz := s.heap.size)
  generalize hAe : va_A [(h0, .inr (11, [.ref (ad 0), .ref (ad 1), .ref (ad 2), .ref (ad 3), .ref (ad 4), .ref (ad 5), .ref (ad 6), .ref (ad 7), .ref (ad 8), .ref (ad 9), .ref (ad 10), .ref (ad 11), .ref (ad 12), .int 0, .int (-1), .int 0])), ((ad 1), .inr (9, [.int 0, .int 0, .int 0, .int 0, .ref (ad 14), .ref (ad 15), .ref (ad 16), .ref (ad 17), .ref (ad 18)]))] s.heap.size = A at hD ⊢
  have hA : ∀ q : Nat, s.heap.size ≤ q → A q := fun q h => by rw [← hAe]; exact Or.inr h
  have hS : va_S A s.heap s.heap [] := va_S.rf
  have hl := lv_entry ([.ref h0]) (n := 1) (Nat.le_of_ble_eq_true rfl)
  rw [lg_entry_eq]
  generalize (lg_sl ([.ref h0]) ++ List.replicate (1 - (lg_sl ([.ref h0])).length) Slot.unset).toArray = ls at hl ⊢
  have hl : lv_has ls 1 [(0, .ref h0)] := hl
  refine lv_aload_n hx hb dX11_isTold_0 rfl (lv_at hl 0 rfl) ?_
  refine gq_get hx hb ht hown hK hP i_X11 0 rfl rfl 1 (by decide) wd_498 rfl rfl dX11_isTold_1 ?_
  refine gq_get hx hb ht hown hK hP i_X9 1 rfl rfl 0 (by decide) wd_180 rfl rfl dX11_isTold_4 ?_
  refine lv_if_le (tgt := 14) hx hb dX11_isTold_7 (by decide) (fun _ => ?_) (fun c0 => absurd (by decide +kernel) c0)
  refine lv_iconst (v := 0) hx hb dX11_isTold_14 (by decide) ?_
  have hP9 := hP.sub (ws' := [(h0, .inr (11, [.ref (ad 0), .ref (ad 1), .ref (ad 2), .ref (ad 3), .ref (ad 4), .ref (ad 5), .ref (ad 6), .ref (ad 7), .ref (ad 8), .ref (ad 9), .ref (ad 10), .ref (ad 11), .ref (ad 12), .int 0, .int (-1), .int 0])), ((ad 1), .inr (9, [.int 0, .int 0, .int 0, .int 0, .ref (ad 14), .ref (ad 15), .ref (ad 16), .ref (ad 17), .ref (ad 18)]))]) [0, 1] rfl
  have hD9 := hD.sub (ws' := [(h0, .inr (11, [.ref (ad 0), .ref (ad 1), .ref (ad 2), .ref (ad 3), .ref (ad 4), .ref (ad 5), .ref (ad 6), .ref (ad 7), .ref (ad 8), .ref (ad 9), .ref (ad 10), .ref (ad 11), .ref (ad 12), .int 0, .int (-1), .int 0])), ((ad 1), .inr (9, [.int 0, .int 0, .int 0, .int 0, .ref (ad 14), .ref (ad 15), .ref (ad 16), .ref (ad 17), .ref (ad 18)]))]) [0, 1] (by decide) rfl
  exact W.zret (v := 0) hx hb hr (by decide +kernel) (gq_endI () rfl hP9 hD9 hS) hS.2.2 dX11_isTold_15
set_option maxHeartbeats 4000000 in
set_option maxRecDepth 100000 in
theorem c_S_roomOf (l : Launch) (G : gg_T) (sz : Nat) (h0 : Nat) (ad : Nat → Nat) (b : Int32) : Met l yX11_roomOf (ts_L yX11_roomOf cX11_roomOf 2 (some .int)) ({ frames := 1, cells := 0, slots := 0, locals := 21 }) (gc_P G [(h0, .inr (11, [.ref (ad 0), .ref (ad 1), .ref (ad 2), .ref (ad 3), .ref (ad 4), .ref (ad 5), .ref (ad 6), .ref (ad 7), .ref (ad 8), .ref (ad 9), .ref (ad 10), .ref (ad 11), .ref (ad 12), .int 0, .int (-1), .int 0])), ((ad 1), .inr (9, [.int 0, .int 0, .int 0, .int 0, .ref (ad 14), .ref (ad 15), .ref (ad 16), .ref (ad 17), .ref (ad 18)]))] sz [.ref h0, .int b]) (gc_I G (va_A [(h0, .inr (11, [.ref (ad 0), .ref (ad 1), .ref (ad 2), .ref (ad 3), .ref (ad 4), .ref (ad 5), .ref (ad 6), .ref (ad 7), .ref (ad 8), .ref (ad 9), .ref (ad 10), .ref (ad 11), .ref (ad 12), .int 0, .int (-1), .int 0])), ((ad 1), .inr (9, [.int 0, .int 0, .int 0, .int 0, .ref (ad 14), .ref (ad 15), .ref (ad 16), .ref (ad 17), .ref (ad 18)]))] sz) (fun r (_ : Unit) => r = (-1)) (fun _ => [(h0, .inr (11, [.ref (ad 0), .ref (ad 1), .ref (ad 2), .ref (ad 3), .ref (ad 4), .ref (ad 5), .ref (ad 6), .ref (ad 7), .ref (ad 8), .ref (ad 9), .ref (ad 10), .ref (ad 11), .ref (ad 12), .int 0, .int (-1), .int 0])), ((ad 1), .inr (9, [.int 0, .int 0, .int 0, .int 0, .ref (ad 14), .ref (ad 15), .ref (ad 16), .ref (ad 17), .ref (ad 18)]))])) 0 0 (va_A [(h0, .inr (11, [.ref (ad 0), .ref (ad 1), .ref (ad 2), .ref (ad 3), .ref (ad 4), .ref (ad 5), .ref (ad 6), .ref (ad 7), .ref (ad 8), .ref (ad 9), .ref (ad 10), .ref (ad 11), .ref (ad 12), .int 0, .int (-1), .int 0])), ((ad 1), .inr (9, [.int 0, .int 0, .int 0, .int 0, .ref (ad 14), .ref (ad 15), .ref (ad 16), .ref (ad 17), .ref (ad 18)]))] sz) := by
  refine Met.ofW (cc := cX11_roomOf) (maxL := 2) (ret := (some .int)) (by decide) rfl ?_
  intro p e s m args below meth c s₁ B hml hv
  obtain ⟨rfl, hsz, hP, hK, hD0⟩ := hv
  have hx := B.exec
  have hb := B.bytes
  have hr := B.returns
  have ht := ts_ht (atoms_spec (ws := ts_L yX11_roomOf cX11_roomOf 2 (some .int)) B.pre)
  have hown : s.vm.findClass RX11 = some m.cls := findClass_of_methodNamed B.named
  have hlocks := B.notSynchronized
  subst hsz
  have hD := hD0.self (sz := s.heap.size)
  generalize hAe : va_A [(h0, .inr (11, [.ref (ad 0), .ref (ad 1), .ref (ad 2), .ref (ad 3), .ref (ad 4), .ref (ad 5), .ref (ad 6), .ref (ad 7), .ref (ad 8), .ref (ad 9), .ref (ad 10), .ref (ad 11), .ref (ad 12), .int 0, .int (-1), .int 0])), ((ad 1), .inr (9, [.int 0, .int 0, .int 0, .int 0, .ref (ad 14), .ref (ad 15), .ref (ad 16), .ref (ad 17), .ref (ad 18)]))] s.heap.size = A at hD ⊢
  have hA : ∀ q : Nat, s.heap.size ≤ q → A q := fun q h => by rw [← hAe]; exact Or.inr h
  have hS : va_S A s.heap s.heap [] := va_S.rf
  have hl := lv_entry ([.ref h0, .int b]) (n := 2) (Nat.le_of_ble_eq_true rfl)
  rw [lg_entry_eq]
  generalize (lg_sl ([.ref h0, .int b]) ++ List.replicate (2 - (lg_sl ([.ref h0, .int b])).length) Slot.unset).toArray = ls at hl ⊢
  have hl : lv_has ls 2 [(0, .ref h0), (1, .int b)] := hl
  refine lv_aload_n hx hb dX11_roomOf_0 rfl (lv_at hl 0 rfl) ?_
  refine lv_iload_n hx hb dX11_roomOf_1 rfl (lv_at hl 1 rfl) ?_
  have hPc := hP.sub (ws' := [(h0, .inr (11, [.ref (ad 0), .ref (ad 1), .ref (ad 2), .ref (ad 3), .ref (ad 4), .ref (ad 5), .ref (ad 6), .ref (ad 7), .ref (ad 8), .ref (ad 9), .ref (ad 10), .ref (ad 11), .ref (ad 12), .int 0, .int (-1), .int 0])), ((ad 1), .inr (9, [.int 0, .int 0, .int 0, .int 0, .ref (ad 14), .ref (ad 15), .ref (ad 16), .ref (ad 17), .ref (ad 18)]))]) [0, 1] rfl
  have hDc := hD.sub (ws' := [(h0, .inr (11, [.ref (ad 0), .ref (ad 1), .ref (ad 2), .ref (ad 3), .ref (ad 4), .ref (ad 5), .ref (ad 6), .ref (ad 7), .ref (ad 8), .ref (ad 9), .ref (ad 10), .ref (ad 11), .ref (ad 12), .int 0, .int (-1), .int 0])), ((ad 1), .inr (9, [.int 0, .int 0, .int 0, .int 0, .ref (ad 14), .ref (ad 15), .ref (ad 16), .ref (ad 17), .ref (ad 18)]))]) [0, 1] (by decide) rfl
  refine gq_callI (wr := []) (va_runV (As := [.int b]) (rest := []) ⟨hx, hb, hml, hown, ht⟩ (c_S_isBidder l G s.heap.size h0 ad b) (cwV 1 ht (ts_gV wd_789 wd_791 wd_14 wd_122 wd_792) rfl rfl rfl (by decide +kernel) ⟨Nat.le_of_ble_eq_true rfl, Nat.le_of_ble_eq_true rfl⟩) (gc_preV (ci := 11) (q0 := 0) hK hPc hDc rfl rfl) rfl rfl hl.1 rfl (lv_room (Nat.le_of_ble_eq_true rfl)) dX11_roomOf_2 ⟨Nat.le_of_ble_eq_true rfl, Nat.le_of_ble_eq_true rfl⟩) hP hD hS hA [0, 1] [] rfl rfl (by decide) (by decide) (fun r u H locs hw hP hD hS => ?_)
  have hw : r = 0 := hw
  subst hw
  have hP : va_P (gg_D G) classes [(h0, .inr (11, [.ref (ad 0), .ref (ad 1), .ref (ad 2), .ref (ad 3), .ref (ad 4), .ref (ad 5), .ref (ad 6), .ref (ad 7), .ref (ad 8), .ref (ad 9), .ref (ad 10), .ref (ad 11), .ref (ad 12), .int 0, .int (-1), .int 0])), ((ad 1), .inr (9, [.int 0, .int 0, .int 0, .int 0, .ref (ad 14), .ref (ad 15), .ref (ad 16), .ref (ad 17), .ref (ad 18)]))] H := hP
  have hD : va_D A [(h0, .inr (11, [.ref (ad 0), .ref (ad 1), .ref (ad 2), .ref (ad 3), .ref (ad 4), .ref (ad 5), .ref (ad 6), .ref (ad 7), .ref (ad 8), .ref (ad 9), .ref (ad 10), .ref (ad 11), .ref (ad 12), .int 0, .int (-1), .int 0])), ((ad 1), .inr (9, [.int 0, .int 0, .int 0, .int 0, .ref (ad 14), .ref (ad 15), .ref (ad 16), .ref (ad 17), .ref (ad 18)]))] := hD
  refine lv_if_eq (tgt := 18) hx hb dX11_roomOf_5 (by decide) (fun _ => ?_) (fun c0 => absurd (by decide +kernel) c0)
  refine lv_iconst (v := (-1)) hx hb dX11_roomOf_18 (by decide) ?_
  have hP9 := hP.sub (ws' := [(h0, .inr (11, [.ref (ad 0), .ref (ad 1), .ref (ad 2), .ref (ad 3), .ref (ad 4), .ref (ad 5), .ref (ad 6), .ref (ad 7), .ref (ad 8), .ref (ad 9), .ref (ad 10), .ref (ad 11), .ref (ad 12), .int 0, .int (-1), .int 0])), ((ad 1), .inr (9, [.int 0, .int 0, .int 0, .int 0, .ref (ad 14), .ref (ad 15), .ref (ad 16), .ref (ad 17), .ref (ad 18)]))]) [0, 1] rfl
  have hD9 := hD.sub (ws' := [(h0, .inr (11, [.ref (ad 0), .ref (ad 1), .ref (ad 2), .ref (ad 3), .ref (ad 4), .ref (ad 5), .ref (ad 6), .ref (ad 7), .ref (ad 8), .ref (ad 9), .ref (ad 10), .ref (ad 11), .ref (ad 12), .int 0, .int (-1), .int 0])), ((ad 1), .inr (9, [.int 0, .int 0, .int 0, .int 0, .ref (ad 14), .ref (ad 15), .ref (ad 16), .ref (ad 17), .ref (ad 18)]))]) [0, 1] (by decide) rfl
  exact W.iret (v := (-1)) hx hb hr (gq_endI () rfl hP9 hD9 hS) hS.2.2 dX11_roomOf_19
set_option maxHeartbeats 4000000 in
set_option maxRecDepth 100000 in
theorem c_S_roomOfAll (l : Launch) (G : gg_T) (sz : Nat) (h0 : Nat) (ad : Nat → Nat) (b : Int32) : Met l yX11_roomOfAll (ts_L yX11_roomOfAll cX11_roomOfAll 3 (some .int)) ({ frames := 0, cells := 0, slots := 0, locals := 0 }) (gc_P G [(h0, .inr (11, [.ref (ad 0), .ref (ad 1), .ref (ad 2), .ref (ad 3), .ref (ad 4), .ref (ad 5), .ref (ad 6), .ref (ad 7), .ref (ad 8), .ref (ad 9), .ref (ad 10), .ref (ad 11), .ref (ad 12), .int 0, .int (-1), .int 0])), ((ad 1), .inr (9, [.int 0, .int 0, .int 0, .int 0, .ref (ad 14), .ref (ad 15), .ref (ad 16), .ref (ad 17), .ref (ad 18)]))] sz [.ref h0, .int b]) (gc_I G (va_A [(h0, .inr (11, [.ref (ad 0), .ref (ad 1), .ref (ad 2), .ref (ad 3), .ref (ad 4), .ref (ad 5), .ref (ad 6), .ref (ad 7), .ref (ad 8), .ref (ad 9), .ref (ad 10), .ref (ad 11), .ref (ad 12), .int 0, .int (-1), .int 0])), ((ad 1), .inr (9, [.int 0, .int 0, .int 0, .int 0, .ref (ad 14), .ref (ad 15), .ref (ad 16), .ref (ad 17), .ref (ad 18)]))] sz) (fun r (_ : Unit) => r = (-1)) (fun _ => [(h0, .inr (11, [.ref (ad 0), .ref (ad 1), .ref (ad 2), .ref (ad 3), .ref (ad 4), .ref (ad 5), .ref (ad 6), .ref (ad 7), .ref (ad 8), .ref (ad 9), .ref (ad 10), .ref (ad 11), .ref (ad 12), .int 0, .int (-1), .int 0])), ((ad 1), .inr (9, [.int 0, .int 0, .int 0, .int 0, .ref (ad 14), .ref (ad 15), .ref (ad 16), .ref (ad 17), .ref (ad 18)]))])) 0 0 (va_A [(h0, .inr (11, [.ref (ad 0), .ref (ad 1), .ref (ad 2), .ref (ad 3), .ref (ad 4), .ref (ad 5), .ref (ad 6), .ref (ad 7), .ref (ad 8), .ref (ad 9), .ref (ad 10), .ref (ad 11), .ref (ad 12), .int 0, .int (-1), .int 0])), ((ad 1), .inr (9, [.int 0, .int 0, .int 0, .int 0, .ref (ad 14), .ref (ad 15), .ref (ad 16), .ref (ad 17), .ref (ad 18)]))] sz) := by
  refine Met.ofW (cc := cX11_roomOfAll) (maxL := 3) (ret := (some .int)) (by decide) rfl ?_
  intro p e s m args below meth c s₁ B hml hv
  obtain ⟨rfl, hsz, hP, hK, hD0⟩ := hv
  have hx := B.exec
  have hb := B.bytes
  have hr := B.returns
  have ht := ts_ht (atoms_spec (ws := ts_L yX11_roomOfAll cX11_roomOfAll 3 (some .int)) B.pre)
  have hown : s.vm.findClass RX11 = some m.cls := findClass_of_methodNamed B.named
  have hlocks := B.notSynchronized
  subst hsz
  have hD := hD0.self (sz := s.heap.size)
  generalize hAe : va_A [(h0, .inr (11, [.ref (ad 0), .ref (ad 1), .ref (ad 2), .ref (ad 3), .ref (ad 4), .ref (ad 5), .ref (ad 6), .ref (ad 7), .ref (ad 8), .ref (ad 9), .ref (ad 10), .ref (ad 11), .ref (ad 12), .int 0, .int (-1), .int 0])), ((ad 1), .inr (9, [.int 0, .int 0, .int 0, .int 0, .ref (ad 14), .ref (ad 15), .ref (ad 16), .ref (ad 17), .ref (ad 18)]))] s.heap.size = A at hD ⊢
  have hA : ∀ q : Nat, s.heap.size ≤ q → A q := fun q h => by rw [← hAe]; exact Or.inr h
  have hS : va_S A s.heap s.heap [] := va_S.rf
  have hl := lv_entry ([.ref h0, .int b]) (n := 3) (Nat.le_of_ble_eq_true rfl)
  rw [lg_entry_eq]
  generalize (lg_sl ([.ref h0, .int b]) ++ List.replicate (3 - (lg_sl ([.ref h0, .int b])).length) Slot.unset).toArray = ls at hl ⊢
  have hl : lv_has ls 3 [(0, .ref h0), (1, .int b)] := hl
  refine lv_iconst (v := 0) hx hb dX11_roomOfAll_0 (by decide) ?_
  refine lv_istore_n (lv' := [(2, .int 0), (0, .ref h0), (1, .int b)]) hx hb dX11_roomOfAll_1 rfl hl (by decide) rfl (fun ls hl => ?_)
  refine lv_iload_n hx hb dX11_roomOfAll_2 rfl (lv_at hl 0 rfl) ?_
  refine lv_aload_n hx hb dX11_roomOfAll_3 rfl (lv_at hl 1 rfl) ?_
  refine gq_get hx hb ht hown hK hP i_X11 0 rfl rfl 1 (by decide) wd_498 rfl rfl dX11_roomOfAll_4 ?_
  refine gq_get hx hb ht hown hK hP i_X9 1 rfl rfl 2 (by decide) wd_190 rfl rfl dX11_roomOfAll_7 ?_
  refine lv_icmp_ge (tgt := 37) hx hb dX11_roomOfAll_10 (by decide) (fun _ => ?_) (fun c0 => absurd (by decide +kernel) c0)
  refine lv_iconst (v := (-1)) hx hb dX11_roomOfAll_37 (by decide) ?_
  have hP9 := hP.sub (ws' := [(h0, .inr (11, [.ref (ad 0), .ref (ad 1), .ref (ad 2), .ref (ad 3), .ref (ad 4), .ref (ad 5), .ref (ad 6), .ref (ad 7), .ref (ad 8), .ref (ad 9), .ref (ad 10), .ref (ad 11), .ref (ad 12), .int 0, .int (-1), .int 0])), ((ad 1), .inr (9, [.int 0, .int 0, .int 0, .int 0, .ref (ad 14), .ref (ad 15), .ref (ad 16), .ref (ad 17), .ref (ad 18)]))]) [0, 1] rfl
  have hD9 := hD.sub (ws' := [(h0, .inr (11, [.ref (ad 0), .ref (ad 1), .ref (ad 2), .ref (ad 3), .ref (ad 4), .ref (ad 5), .ref (ad 6), .ref (ad 7), .ref (ad 8), .ref (ad 9), .ref (ad 10), .ref (ad 11), .ref (ad 12), .int 0, .int (-1), .int 0])), ((ad 1), .inr (9, [.int 0, .int 0, .int 0, .int 0, .ref (ad 14), .ref (ad 15), .ref (ad 16), .ref (ad 17), .ref (ad 18)]))]) [0, 1] (by decide) rfl
  exact W.iret (v := (-1)) hx hb hr (gq_endI () rfl hP9 hD9 hS) hS.2.2 dX11_roomOfAll_38
set_option maxHeartbeats 4000000 in
set_option maxRecDepth 100000 in
theorem c_J_bitCount (l : Launch) (G : gg_T) (sz : Nat) (x : Int32) : Met l yJ6_bitCount_0f7a4 (ts_L yJ6_bitCount_0f7a4 cJ6_bitCount_0f7a4 1 (some .int)) ({ frames := 0, cells := 0, slots := 0, locals := 0 }) (gc_P G [] sz [.int x]) (gc_I G (va_A [] sz) (fun r (u : (Int32)) => match u with | rv => r = rv) (fun (u : (Int32)) => match u with | rv => [])) 0 0 (va_A [] sz) := by
  refine Met.ofW (cc := cJ6_bitCount_0f7a4) (maxL := 1) (ret := (some .int)) (by decide) rfl ?_
  intro p e s m args below meth c s₁ B hml hv
  obtain ⟨rfl, hsz, hP, hK, hD0⟩ := hv
  have hx := B.exec
  have hb := B.bytes
  have hr := B.returns
  have ht := ts_ht (atoms_spec (ws := ts_L yJ6_bitCount_0f7a4 cJ6_bitCount_0f7a4 1 (some .int)) B.pre)
  have hown : s.vm.findClass RJ6 = some m.cls := findClass_of_methodNamed B.named
  have hlocks := B.notSynchronized
  subst hsz
  have hD := hD0.self (sz := s.heap.size)
  generalize hAe : va_A [] s.heap.size = A at hD ⊢
  have hA : ∀ q : Nat, s.heap.size ≤ q → A q := fun q h => by rw [← hAe]; exact Or.inr h
  have hS : va_S A s.heap s.heap [] := va_S.rf
  have hl := lv_entry ([.int x]) (n := 1) (Nat.le_of_ble_eq_true rfl)
  rw [lg_entry_eq]
  generalize (lg_sl ([.int x]) ++ List.replicate (1 - (lg_sl ([.int x])).length) Slot.unset).toArray = ls at hl ⊢
  have hl : lv_has ls 1 [(0, .int x)] := hl
  refine lv_iload_n hx hb dJ6_bitCount_0f7a4_0 rfl (lv_at hl 0 rfl) ?_
  refine lv_iload_n hx hb dJ6_bitCount_0f7a4_1 rfl (lv_at hl 0 rfl) ?_
  refine lv_iconst (v := 1) hx hb dJ6_bitCount_0f7a4_2 (by decide) ?_
  refine lv_iushr hx hb dJ6_bitCount_0f7a4_3 rfl ?_
  refine lv_topi (fun t_1 et_1 => ?_)
  refine lv_ldcw hx hb hown (ht _ wd_897) dJ6_bitCount_0f7a4_4 ?_
  obtain ⟨t_2, et_2⟩ : ∃ z : Int32, (t_1 &&& 1431655765) = z := ⟨_, rfl⟩
  refine gq_iand hx hb t_2 et_2 dJ6_bitCount_0f7a4_7 ?_
  obtain ⟨t_3, et_3⟩ : ∃ z : Int32, (x - t_2) = z := ⟨_, rfl⟩
  refine gq_isub hx hb t_3 et_3 dJ6_bitCount_0f7a4_8 ?_
  refine lv_istore_n (lv' := [(0, .int t_3)]) hx hb dJ6_bitCount_0f7a4_9 rfl hl (by decide) rfl (fun ls hl => ?_)
  refine lv_iload_n hx hb dJ6_bitCount_0f7a4_10 rfl (lv_at hl 0 rfl) ?_
  refine lv_ldcw hx hb hown (ht _ wd_898) dJ6_bitCount_0f7a4_11 ?_
  obtain ⟨t_4, et_4⟩ : ∃ z : Int32, (t_3 &&& 858993459) = z := ⟨_, rfl⟩
  refine gq_iand hx hb t_4 et_4 dJ6_bitCount_0f7a4_14 ?_
  refine lv_iload_n hx hb dJ6_bitCount_0f7a4_15 rfl (lv_at hl 0 rfl) ?_
  refine lv_iconst (v := 2) hx hb dJ6_bitCount_0f7a4_16 (by decide) ?_
  refine lv_iushr hx hb dJ6_bitCount_0f7a4_17 rfl ?_
  refine lv_topi (fun t_5 et_5 => ?_)
  refine lv_ldcw hx hb hown (ht _ wd_898) dJ6_bitCount_0f7a4_18 ?_
  obtain ⟨t_6, et_6⟩ : ∃ z : Int32, (t_5 &&& 858993459) = z := ⟨_, rfl⟩
  refine gq_iand hx hb t_6 et_6 dJ6_bitCount_0f7a4_21 ?_
  obtain ⟨t_7, et_7⟩ : ∃ z : Int32, (t_4 + t_6) = z := ⟨_, rfl⟩
  refine gq_iadd hx hb t_7 et_7 dJ6_bitCount_0f7a4_22 ?_
  refine lv_istore_n (lv' := [(0, .int t_7)]) hx hb dJ6_bitCount_0f7a4_23 rfl hl (by decide) rfl (fun ls hl => ?_)
  refine lv_iload_n hx hb dJ6_bitCount_0f7a4_24 rfl (lv_at hl 0 rfl) ?_
  refine lv_iload_n hx hb dJ6_bitCount_0f7a4_25 rfl (lv_at hl 0 rfl) ?_
  refine lv_iconst (v := 4) hx hb dJ6_bitCount_0f7a4_26 (by decide) ?_
  refine lv_iushr hx hb dJ6_bitCount_0f7a4_27 rfl ?_
  refine lv_topi (fun t_8 et_8 => ?_)
  obtain ⟨t_9, et_9⟩ : ∃ z : Int32, (t_7 + t_8) = z := ⟨_, rfl⟩
  refine gq_iadd hx hb t_9 et_9 dJ6_bitCount_0f7a4_28 ?_
  refine lv_ldcw hx hb hown (ht _ wd_899) dJ6_bitCount_0f7a4_29 ?_
  obtain ⟨t_10, et_10⟩ : ∃ z : Int32, (t_9 &&& 252645135) = z := ⟨_, rfl⟩
  refine gq_iand hx hb t_10 et_10 dJ6_bitCount_0f7a4_32 ?_
  refine lv_istore_n (lv' := [(0, .int t_10)]) hx hb dJ6_bitCount_0f7a4_33 rfl hl (by decide) rfl (fun ls hl => ?_)
  refine lv_iload_n hx hb dJ6_bitCount_0f7a4_34 rfl (lv_at hl 0 rfl) ?_
  refine lv_iload_n hx hb dJ6_bitCount_0f7a4_35 rfl (lv_at hl 0 rfl) ?_
  refine lv_bipush (v := 8) hx hb dJ6_bitCount_0f7a4_36 (by decide +kernel) ?_
  refine lv_iushr hx hb dJ6_bitCount_0f7a4_38 rfl ?_
  refine lv_topi (fun t_11 et_11 => ?_)
  obtain ⟨t_12, et_12⟩ : ∃ z : Int32, (t_10 + t_11) = z := ⟨_, rfl⟩
  refine gq_iadd hx hb t_12 et_12 dJ6_bitCount_0f7a4_39 ?_
  refine lv_istore_n (lv' := [(0, .int t_12)]) hx hb dJ6_bitCount_0f7a4_40 rfl hl (by decide) rfl (fun ls hl => ?_)
  refine lv_iload_n hx hb dJ6_bitCount_0f7a4_41 rfl (lv_at hl 0 rfl) ?_
  refine lv_iload_n hx hb dJ6_bitCount_0f7a4_42 rfl (lv_at hl 0 rfl) ?_
  refine lv_bipush (v := 16) hx hb dJ6_bitCount_0f7a4_43 (by decide +kernel) ?_
  refine lv_iushr hx hb dJ6_bitCount_0f7a4_45 rfl ?_
  refine lv_topi (fun t_13 et_13 => ?_)
  obtain ⟨t_14, et_14⟩ : ∃ z : Int32, (t_12 + t_13) = z := ⟨_, rfl⟩
  refine gq_iadd hx hb t_14 et_14 dJ6_bitCount_0f7a4_46 ?_
  refine lv_istore_n (lv' := [(0, .int t_14)]) hx hb dJ6_bitCount_0f7a4_47 rfl hl (by decide) rfl (fun ls hl => ?_)
  refine lv_iload_n hx hb dJ6_bitCount_0f7a4_48 rfl (lv_at hl 0 rfl) ?_
  refine lv_bipush (v := 63) hx hb dJ6_bitCount_0f7a4_49 (by decide +kernel) ?_
  obtain ⟨t_15, et_15⟩ : ∃ z : Int32, (t_14 &&& 63) = z := ⟨_, rfl⟩
  refine gq_iand hx hb t_15 et_15 dJ6_bitCount_0f7a4_51 ?_
  have hP9 := hP.sub (ws' := []) [] rfl
  have hD9 := hD.sub (ws' := []) [] (by decide) rfl
  exact W.iret (v := t_15) hx hb hr (gq_endI (t_15) rfl hP9 hD9 hS) hS.2.2 dJ6_bitCount_0f7a4_52
set_option maxHeartbeats 4000000 in
set_option maxRecDepth 100000 in
theorem c_Past_takeBack (l : Launch) (G : gg_T) (sz : Nat) (t : Nat) (b : Nat) (sx : Nat) : Met l yX3_takeBack (ts_L yX3_takeBack cX3_takeBack 2 (some .boolean)) ({ frames := 0, cells := 0, slots := 0, locals := 0 }) (gc_P G [(t, .inr (3, [.ref b, .int 0, .int 0]))] sz [.ref t, .ref sx]) (gc_I G (va_A [(t, .inr (3, [.ref b, .int 0, .int 0]))] sz) (fun r (_ : Unit) => r = 0) (fun _ => [(t, .inr (3, [.ref b, .int 0, .int 0]))])) 0 0 (va_A [(t, .inr (3, [.ref b, .int 0, .int 0]))] sz) := by
  refine Met.ofW (cc := cX3_takeBack) (maxL := 2) (ret := (some .boolean)) (by decide) rfl ?_
  intro p e s m args below meth c s₁ B hml hv
  obtain ⟨rfl, hsz, hP, hK, hD0⟩ := hv
  have hx := B.exec
  have hb := B.bytes
  have hr := B.returns
  have ht := ts_ht (atoms_spec (ws := ts_L yX3_takeBack cX3_takeBack 2 (some .boolean)) B.pre)
  have hown : s.vm.findClass RX3 = some m.cls := findClass_of_methodNamed B.named
  have hlocks := B.notSynchronized
  subst hsz
  have hD := hD0.self (sz := s.heap.size)
  generalize hAe : va_A [(t, .inr (3, [.ref b, .int 0, .int 0]))] s.heap.size = A at hD ⊢
  have hA : ∀ q : Nat, s.heap.size ≤ q → A q := fun q h => by rw [← hAe]; exact Or.inr h
  have hS : va_S A s.heap s.heap [] := va_S.rf
  have hl := lv_entry ([.ref t, .ref sx]) (n := 2) (Nat.le_of_ble_eq_true rfl)
  rw [lg_entry_eq]
  generalize (lg_sl ([.ref t, .ref sx]) ++ List.replicate (2 - (lg_sl ([.ref t, .ref sx])).length) Slot.unset).toArray = ls at hl ⊢
  have hl : lv_has ls 2 [(0, .ref t), (1, .ref sx)] := hl
  refine lv_aload_n hx hb dX3_takeBack_0 rfl (lv_at hl 0 rfl) ?_
  refine gq_get hx hb ht hown hK hP i_X3 0 rfl rfl 2 (by decide) wd_301 rfl rfl dX3_takeBack_1 ?_
  refine lv_if_ne (tgt := 9) hx hb dX3_takeBack_4 (by decide) (fun c0 => absurd (by decide +kernel) c0) (fun _ => ?_)
  refine lv_iconst (v := 0) hx hb dX3_takeBack_7 (by decide) ?_
  have hP9 := hP.sub (ws' := [(t, .inr (3, [.ref b, .int 0, .int 0]))]) [0] rfl
  have hD9 := hD.sub (ws' := [(t, .inr (3, [.ref b, .int 0, .int 0]))]) [0] (by decide) rfl
  exact W.zret (v := 0) hx hb hr (by decide +kernel) (gq_endI () rfl hP9 hD9 hS) hS.2.2 dX3_takeBack_8
set_option maxHeartbeats 4000000 in
set_option maxRecDepth 100000 in
theorem c_Logs_clear (l : Launch) (G : gg_T) (sz : Nat) (t : Nat) (g0 : Nat) (g1 : Nat) (g2 : Nat) : Met l yX2_clear (ts_L yX2_clear cX2_clear 1 none) ({ frames := 0, cells := 0, slots := 0, locals := 0 }) (gc_P G [(t, .inr (2, [.ref g0, .ref g1, .ref g2, .int 0]))] sz [.ref t]) (gc_V G (va_A [(t, .inr (2, [.ref g0, .ref g1, .ref g2, .int 0]))] sz) (fun (_ : Unit) => True) (fun _ => [(t, .inr (2, [.ref g0, .ref g1, .ref g2, .int 0]))])) 0 0 (va_A [(t, .inr (2, [.ref g0, .ref g1, .ref g2, .int 0]))] sz) := by
  refine Met.ofW (cc := cX2_clear) (maxL := 1) (ret := none) (by decide) rfl ?_
  intro p e s m args below meth c s₁ B hml hv
  obtain ⟨rfl, hsz, hP, hK, hD0⟩ := hv
  have hx := B.exec
  have hb := B.bytes
  have hr := B.returns
  have ht := ts_ht (atoms_spec (ws := ts_L yX2_clear cX2_clear 1 none) B.pre)
  have hown : s.vm.findClass RX2 = some m.cls := findClass_of_methodNamed B.named
  have hlocks := B.notSynchronized
  subst hsz
  have hD := hD0.self (sz := s.heap.size)
  generalize hAe : va_A [(t, .inr (2, [.ref g0, .ref g1, .ref g2, .int 0]))] s.heap.size = A at hD ⊢
  have hA : ∀ q : Nat, s.heap.size ≤ q → A q := fun q h => by rw [← hAe]; exact Or.inr h
  have hS : va_S A s.heap s.heap [] := va_S.rf
  have hl := lv_entry ([.ref t]) (n := 1) (Nat.le_of_ble_eq_true rfl)
  rw [lg_entry_eq]
  generalize (lg_sl ([.ref t]) ++ List.replicate (1 - (lg_sl ([.ref t])).length) Slot.unset).toArray = ls at hl ⊢
  have hl : lv_has ls 1 [(0, .ref t)] := hl
  refine lv_aload_n hx hb dX2_clear_0 rfl (lv_at hl 0 rfl) ?_
  refine lv_iconst (v := 0) hx hb dX2_clear_1 (by decide) ?_
  refine gq_put (ws' := [(t, .inr (2, [.ref g0, .ref g1, .ref g2, .int 0]))]) hx hb ht hown hK hP hD hS i_X2 tyX2 tyX2_ok nmX2 0 rfl rfl 3 (by decide) wd_319 rfl rfl rfl rfl (Nat.le_of_ble_eq_true rfl) rfl dX2_clear_2 (fun H locs hP hD hS => ?_)
  have hP9 := hP.sub (ws' := [(t, .inr (2, [.ref g0, .ref g1, .ref g2, .int 0]))]) [0] rfl
  have hD9 := hD.sub (ws' := [(t, .inr (2, [.ref g0, .ref g1, .ref g2, .int 0]))]) [0] (by decide) rfl
  exact W.vret hx hb hr (gq_endV () trivial hP9 hD9 hS) hS.2.2 dX2_clear_5

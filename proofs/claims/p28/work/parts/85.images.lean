theorem wd_379 : (Jvm.Cond.fieldLink "SilentSale$Image" (12 : Nat) "SilentSale$Image" "terms" "LSilentSale$Terms;") ∈ tb_L := tb_in (i := 379) (by decide +kernel) (by decide +kernel)
theorem wd_380 : (Jvm.Cond.fieldLink "SilentSale$Image" (21 : Nat) "SilentSale$Image" "state" "LSilentSale$State;") ∈ tb_L := tb_in (i := 380) (by decide +kernel) (by decide +kernel)
theorem wd_381 : (Jvm.Cond.fieldLink "SilentSale$Image" (28 : Nat) "SilentSale$Image" "logs" "LSilentSale$Logs;") ∈ tb_L := tb_in (i := 381) (by decide +kernel) (by decide +kernel)
theorem wd_382 : (Jvm.Cond.fieldLink "SilentSale$Image" (32 : Nat) "SilentSale$Image" "made" "Z") ∈ tb_L := tb_in (i := 382) (by decide +kernel) (by decide +kernel)
theorem wd_1230 : (Jvm.Cond.code ({ cls := "SilentSale$Image", name := "takeFrom", desc := "(LSilentSale$Terms;LSilentSale$State;LSilentSale$Logs;)V" } : Jvm.MethodName) prog_3_method_2_code (4 : Nat) (Option.none : Option Jvm.ClassFile.FieldType)) ∈ tb_L := tb_in (i := 1230) (by decide +kernel) (by decide +kernel)
theorem wd_1231 : (Jvm.Cond.methodLink "SilentSale$Image" (43 : Nat) ({ cls := "SilentSale$Terms", name := "copyFrom", desc := "(LSilentSale$Terms;)V" } : Jvm.MethodName)) ∈ tb_L := tb_in (i := 1231) (by decide +kernel) (by decide +kernel)
theorem wd_1232 : (Jvm.Cond.methodLink "SilentSale$Image" (47 : Nat) ({ cls := "SilentSale$State", name := "copyFrom", desc := "(LSilentSale$State;)V" } : Jvm.MethodName)) ∈ tb_L := tb_in (i := 1232) (by decide +kernel) (by decide +kernel)
theorem wd_1233 : (Jvm.Cond.methodLink "SilentSale$Image" (50 : Nat) ({ cls := "SilentSale$Logs", name := "copyFrom", desc := "(LSilentSale$Logs;)V" } : Jvm.MethodName)) ∈ tb_L := tb_in (i := 1233) (by decide +kernel) (by decide +kernel)
theorem wd_1234 : (Jvm.Cond.instanceMethod ({ cls := "SilentSale$Logs", name := "copyFrom", desc := "(LSilentSale$Logs;)V" } : Jvm.MethodName)) ∈ tb_L := tb_in (i := 1234) (by decide +kernel) (by decide +kernel)
theorem wd_1235 : (Jvm.Cond.selects "SilentSale$Logs" ({ cls := "SilentSale$Logs", name := "copyFrom", desc := "(LSilentSale$Logs;)V" } : Jvm.MethodName) ({ cls := "SilentSale$Logs", name := "copyFrom", desc := "(LSilentSale$Logs;)V" } : Jvm.MethodName)) ∈ tb_L := tb_in (i := 1235) (by decide +kernel) (by decide +kernel)
theorem dX1_takeFrom_0 : decode cX1_takeFrom 0 = .ok (.aload_n 0, 1) := by decide +kernel
theorem dX1_takeFrom_1 : decode cX1_takeFrom 1 = .ok (.getfield 12, 3) := by decide +kernel
theorem dX1_takeFrom_4 : decode cX1_takeFrom 4 = .ok (.aload_n 1, 1) := by decide +kernel
theorem dX1_takeFrom_5 : decode cX1_takeFrom 5 = .ok (.invokevirtual 43, 3) := by decide +kernel
theorem dX1_takeFrom_8 : decode cX1_takeFrom 8 = .ok (.aload_n 0, 1) := by decide +kernel
theorem dX1_takeFrom_9 : decode cX1_takeFrom 9 = .ok (.getfield 21, 3) := by decide +kernel
theorem dX1_takeFrom_12 : decode cX1_takeFrom 12 = .ok (.aload_n 2, 1) := by decide +kernel
theorem dX1_takeFrom_13 : decode cX1_takeFrom 13 = .ok (.invokevirtual 47, 3) := by decide +kernel
theorem dX1_takeFrom_16 : decode cX1_takeFrom 16 = .ok (.aload_n 0, 1) := by decide +kernel
theorem dX1_takeFrom_17 : decode cX1_takeFrom 17 = .ok (.getfield 28, 3) := by decide +kernel
theorem dX1_takeFrom_20 : decode cX1_takeFrom 20 = .ok (.aload_n 3, 1) := by decide +kernel
theorem dX1_takeFrom_21 : decode cX1_takeFrom 21 = .ok (.invokevirtual 50, 3) := by decide +kernel
theorem dX1_takeFrom_24 : decode cX1_takeFrom 24 = .ok (.aload_n 0, 1) := by decide +kernel
theorem dX1_takeFrom_25 : decode cX1_takeFrom 25 = .ok (.iconst 1, 1) := by decide +kernel
theorem dX1_takeFrom_26 : decode cX1_takeFrom 26 = .ok (.putfield 32, 3) := by decide +kernel
theorem dX1_takeFrom_29 : decode cX1_takeFrom 29 = .ok (.return_, 1) := by decide +kernel
theorem wd_1245 : (Jvm.Cond.code ({ cls := "SilentSale$Image", name := "giveBack", desc := "(LSilentSale$Terms;LSilentSale$State;LSilentSale$Logs;)V" } : Jvm.MethodName) prog_3_method_3_code (4 : Nat) (Option.none : Option Jvm.ClassFile.FieldType)) ∈ tb_L := tb_in (i := 1245) (by decide +kernel) (by decide +kernel)
theorem dX1_giveBack_0 : decode cX1_giveBack 0 = .ok (.aload_n 1, 1) := by decide +kernel
theorem dX1_giveBack_1 : decode cX1_giveBack 1 = .ok (.aload_n 0, 1) := by decide +kernel
theorem dX1_giveBack_2 : decode cX1_giveBack 2 = .ok (.getfield 12, 3) := by decide +kernel
theorem dX1_giveBack_5 : decode cX1_giveBack 5 = .ok (.invokevirtual 43, 3) := by decide +kernel
theorem dX1_giveBack_8 : decode cX1_giveBack 8 = .ok (.aload_n 2, 1) := by decide +kernel
theorem dX1_giveBack_9 : decode cX1_giveBack 9 = .ok (.aload_n 0, 1) := by decide +kernel
theorem dX1_giveBack_10 : decode cX1_giveBack 10 = .ok (.getfield 21, 3) := by decide +kernel
theorem dX1_giveBack_13 : decode cX1_giveBack 13 = .ok (.invokevirtual 47, 3) := by decide +kernel
theorem dX1_giveBack_16 : decode cX1_giveBack 16 = .ok (.aload_n 3, 1) := by decide +kernel
theorem dX1_giveBack_17 : decode cX1_giveBack 17 = .ok (.aload_n 0, 1) := by decide +kernel
theorem dX1_giveBack_18 : decode cX1_giveBack 18 = .ok (.getfield 28, 3) := by decide +kernel
theorem dX1_giveBack_21 : decode cX1_giveBack 21 = .ok (.invokevirtual 50, 3) := by decide +kernel
theorem dX1_giveBack_24 : decode cX1_giveBack 24 = .ok (.return_, 1) := by decide +kernel
theorem wd_129 : (Jvm.Cond.initialized "SilentSale$Image") ∈ tb_L := tb_in (i := 129) (by decide +kernel) (by decide +kernel)
theorem wd_385 : (Jvm.Cond.fieldLink "SilentSale" (357 : Nat) "SilentSale$Image" "inForce" "I") ∈ tb_L := tb_in (i := 385) (by decide +kernel) (by decide +kernel)
theorem wd_387 : (Jvm.Cond.fieldLink "SilentSale" (358 : Nat) "SilentSale$Image" "x" "I") ∈ tb_L := tb_in (i := 387) (by decide +kernel) (by decide +kernel)
theorem wd_505 : (Jvm.Cond.fieldLink "SilentSale" (59 : Nat) "SilentSale" "images" "[LSilentSale$Image;") ∈ tb_L := tb_in (i := 505) (by decide +kernel) (by decide +kernel)
theorem wd_1226 : (Jvm.Cond.code ({ cls := "SilentSale", name := "image", desc := "(I)I" } : Jvm.MethodName) prog_1_method_31_code (2 : Nat) (Option.some Jvm.ClassFile.FieldType.int)) ∈ tb_L := tb_in (i := 1226) (by decide +kernel) (by decide +kernel)
theorem wd_1227 : (Jvm.Cond.methodLink "SilentSale" (353 : Nat) ({ cls := "SilentSale$Image", name := "takeFrom", desc := "(LSilentSale$Terms;LSilentSale$State;LSilentSale$Logs;)V" } : Jvm.MethodName)) ∈ tb_L := tb_in (i := 1227) (by decide +kernel) (by decide +kernel)
theorem wd_1228 : (Jvm.Cond.instanceMethod ({ cls := "SilentSale$Image", name := "takeFrom", desc := "(LSilentSale$Terms;LSilentSale$State;LSilentSale$Logs;)V" } : Jvm.MethodName)) ∈ tb_L := tb_in (i := 1228) (by decide +kernel) (by decide +kernel)
theorem wd_1229 : (Jvm.Cond.selects "SilentSale$Image" ({ cls := "SilentSale$Image", name := "takeFrom", desc := "(LSilentSale$Terms;LSilentSale$State;LSilentSale$Logs;)V" } : Jvm.MethodName) ({ cls := "SilentSale$Image", name := "takeFrom", desc := "(LSilentSale$Terms;LSilentSale$State;LSilentSale$Logs;)V" } : Jvm.MethodName)) ∈ tb_L := tb_in (i := 1229) (by decide +kernel) (by decide +kernel)
theorem dX11_image_0 : decode cX11_image 0 = .ok (.iload_n 1, 1) := by decide +kernel
theorem dX11_image_1 : decode cX11_image 1 = .ok (.ifCond .lt 8, 3) := by decide +kernel
theorem dX11_image_4 : decode cX11_image 4 = .ok (.iload_n 1, 1) := by decide +kernel
theorem dX11_image_5 : decode cX11_image 5 = .ok (.iconst 4, 1) := by decide +kernel
theorem dX11_image_6 : decode cX11_image 6 = .ok (.if_icmp .lt 5, 3) := by decide +kernel
theorem dX11_image_9 : decode cX11_image 9 = .ok (.iconst (-1), 1) := by decide +kernel
theorem dX11_image_10 : decode cX11_image 10 = .ok (.ireturn, 1) := by decide +kernel
theorem dX11_image_11 : decode cX11_image 11 = .ok (.aload_n 0, 1) := by decide +kernel
theorem dX11_image_12 : decode cX11_image 12 = .ok (.getfield 59, 3) := by decide +kernel
theorem dX11_image_15 : decode cX11_image 15 = .ok (.iload_n 1, 1) := by decide +kernel
theorem dX11_image_16 : decode cX11_image 16 = .ok (.aaload, 1) := by decide +kernel
theorem dX11_image_17 : decode cX11_image 17 = .ok (.aload_n 0, 1) := by decide +kernel
theorem dX11_image_18 : decode cX11_image 18 = .ok (.getfield 19, 3) := by decide +kernel
theorem dX11_image_21 : decode cX11_image 21 = .ok (.aload_n 0, 1) := by decide +kernel
theorem dX11_image_22 : decode cX11_image 22 = .ok (.getfield 29, 3) := by decide +kernel
theorem dX11_image_25 : decode cX11_image 25 = .ok (.aload_n 0, 1) := by decide +kernel
theorem dX11_image_26 : decode cX11_image 26 = .ok (.getfield 46, 3) := by decide +kernel
theorem dX11_image_29 : decode cX11_image 29 = .ok (.invokevirtual 353, 3) := by decide +kernel
theorem dX11_image_32 : decode cX11_image 32 = .ok (.aload_n 0, 1) := by decide +kernel
theorem dX11_image_33 : decode cX11_image 33 = .ok (.getfield 59, 3) := by decide +kernel
theorem dX11_image_36 : decode cX11_image 36 = .ok (.iload_n 1, 1) := by decide +kernel
theorem dX11_image_37 : decode cX11_image 37 = .ok (.aaload, 1) := by decide +kernel
theorem dX11_image_38 : decode cX11_image 38 = .ok (.aload_n 0, 1) := by decide +kernel
theorem dX11_image_39 : decode cX11_image 39 = .ok (.getfield 96, 3) := by decide +kernel
theorem dX11_image_42 : decode cX11_image 42 = .ok (.putfield 357, 3) := by decide +kernel
theorem dX11_image_45 : decode cX11_image 45 = .ok (.aload_n 0, 1) := by decide +kernel
theorem dX11_image_46 : decode cX11_image 46 = .ok (.getfield 59, 3) := by decide +kernel
theorem dX11_image_49 : decode cX11_image 49 = .ok (.iload_n 1, 1) := by decide +kernel
theorem dX11_image_50 : decode cX11_image 50 = .ok (.aaload, 1) := by decide +kernel
theorem dX11_image_51 : decode cX11_image 51 = .ok (.aload_n 0, 1) := by decide +kernel
theorem dX11_image_52 : decode cX11_image 52 = .ok (.getfield 99, 3) := by decide +kernel
theorem dX11_image_55 : decode cX11_image 55 = .ok (.putfield 358, 3) := by decide +kernel
theorem dX11_image_58 : decode cX11_image 58 = .ok (.aload_n 0, 1) := by decide +kernel
theorem dX11_image_59 : decode cX11_image 59 = .ok (.getfield 29, 3) := by decide +kernel
theorem dX11_image_62 : decode cX11_image 62 = .ok (.getfield 207, 3) := by decide +kernel
theorem dX11_image_65 : decode cX11_image 65 = .ok (.ireturn, 1) := by decide +kernel
theorem wd_383 : (Jvm.Cond.fieldLink "SilentSale" (359 : Nat) "SilentSale$Image" "made" "Z") ∈ tb_L := tb_in (i := 383) (by decide +kernel) (by decide +kernel)
theorem wd_1241 : (Jvm.Cond.code ({ cls := "SilentSale", name := "back", desc := "(I)I" } : Jvm.MethodName) prog_1_method_32_code (2 : Nat) (Option.some Jvm.ClassFile.FieldType.int)) ∈ tb_L := tb_in (i := 1241) (by decide +kernel) (by decide +kernel)
theorem wd_1242 : (Jvm.Cond.methodLink "SilentSale" (363 : Nat) ({ cls := "SilentSale$Image", name := "giveBack", desc := "(LSilentSale$Terms;LSilentSale$State;LSilentSale$Logs;)V" } : Jvm.MethodName)) ∈ tb_L := tb_in (i := 1242) (by decide +kernel) (by decide +kernel)
theorem wd_1243 : (Jvm.Cond.instanceMethod ({ cls := "SilentSale$Image", name := "giveBack", desc := "(LSilentSale$Terms;LSilentSale$State;LSilentSale$Logs;)V" } : Jvm.MethodName)) ∈ tb_L := tb_in (i := 1243) (by decide +kernel) (by decide +kernel)
theorem wd_1244 : (Jvm.Cond.selects "SilentSale$Image" ({ cls := "SilentSale$Image", name := "giveBack", desc := "(LSilentSale$Terms;LSilentSale$State;LSilentSale$Logs;)V" } : Jvm.MethodName) ({ cls := "SilentSale$Image", name := "giveBack", desc := "(LSilentSale$Terms;LSilentSale$State;LSilentSale$Logs;)V" } : Jvm.MethodName)) ∈ tb_L := tb_in (i := 1244) (by decide +kernel) (by decide +kernel)
theorem dX11_back_0 : decode cX11_back 0 = .ok (.iload_n 1, 1) := by decide +kernel
theorem dX11_back_1 : decode cX11_back 1 = .ok (.ifCond .lt 20, 3) := by decide +kernel
theorem dX11_back_4 : decode cX11_back 4 = .ok (.iload_n 1, 1) := by decide +kernel
theorem dX11_back_5 : decode cX11_back 5 = .ok (.iconst 4, 1) := by decide +kernel
theorem dX11_back_6 : decode cX11_back 6 = .ok (.if_icmp .ge 15, 3) := by decide +kernel
theorem dX11_back_9 : decode cX11_back 9 = .ok (.aload_n 0, 1) := by decide +kernel
theorem dX11_back_10 : decode cX11_back 10 = .ok (.getfield 59, 3) := by decide +kernel
theorem dX11_back_13 : decode cX11_back 13 = .ok (.iload_n 1, 1) := by decide +kernel
theorem dX11_back_14 : decode cX11_back 14 = .ok (.aaload, 1) := by decide +kernel
theorem dX11_back_15 : decode cX11_back 15 = .ok (.getfield 359, 3) := by decide +kernel
theorem dX11_back_18 : decode cX11_back 18 = .ok (.ifCond .ne 5, 3) := by decide +kernel
theorem dX11_back_21 : decode cX11_back 21 = .ok (.iconst (-1), 1) := by decide +kernel
theorem dX11_back_22 : decode cX11_back 22 = .ok (.ireturn, 1) := by decide +kernel
theorem dX11_back_23 : decode cX11_back 23 = .ok (.aload_n 0, 1) := by decide +kernel
theorem dX11_back_24 : decode cX11_back 24 = .ok (.getfield 59, 3) := by decide +kernel
theorem dX11_back_27 : decode cX11_back 27 = .ok (.iload_n 1, 1) := by decide +kernel
theorem dX11_back_28 : decode cX11_back 28 = .ok (.aaload, 1) := by decide +kernel
theorem dX11_back_29 : decode cX11_back 29 = .ok (.aload_n 0, 1) := by decide +kernel
theorem dX11_back_30 : decode cX11_back 30 = .ok (.getfield 19, 3) := by decide +kernel
theorem dX11_back_33 : decode cX11_back 33 = .ok (.aload_n 0, 1) := by decide +kernel
theorem dX11_back_34 : decode cX11_back 34 = .ok (.getfield 29, 3) := by decide +kernel
theorem dX11_back_37 : decode cX11_back 37 = .ok (.aload_n 0, 1) := by decide +kernel
theorem dX11_back_38 : decode cX11_back 38 = .ok (.getfield 46, 3) := by decide +kernel
theorem dX11_back_41 : decode cX11_back 41 = .ok (.invokevirtual 363, 3) := by decide +kernel
theorem dX11_back_44 : decode cX11_back 44 = .ok (.aload_n 0, 1) := by decide +kernel
theorem dX11_back_45 : decode cX11_back 45 = .ok (.aload_n 0, 1) := by decide +kernel
theorem dX11_back_46 : decode cX11_back 46 = .ok (.getfield 59, 3) := by decide +kernel
theorem dX11_back_49 : decode cX11_back 49 = .ok (.iload_n 1, 1) := by decide +kernel
theorem dX11_back_50 : decode cX11_back 50 = .ok (.aaload, 1) := by decide +kernel
theorem dX11_back_51 : decode cX11_back 51 = .ok (.getfield 357, 3) := by decide +kernel
theorem dX11_back_54 : decode cX11_back 54 = .ok (.putfield 96, 3) := by decide +kernel
theorem dX11_back_57 : decode cX11_back 57 = .ok (.aload_n 0, 1) := by decide +kernel
theorem dX11_back_58 : decode cX11_back 58 = .ok (.aload_n 0, 1) := by decide +kernel
theorem dX11_back_59 : decode cX11_back 59 = .ok (.getfield 59, 3) := by decide +kernel
theorem dX11_back_62 : decode cX11_back 62 = .ok (.iload_n 1, 1) := by decide +kernel
theorem dX11_back_63 : decode cX11_back 63 = .ok (.aaload, 1) := by decide +kernel
theorem dX11_back_64 : decode cX11_back 64 = .ok (.getfield 358, 3) := by decide +kernel
theorem dX11_back_67 : decode cX11_back 67 = .ok (.putfield 99, 3) := by decide +kernel
theorem dX11_back_70 : decode cX11_back 70 = .ok (.aload_n 0, 1) := by decide +kernel
theorem dX11_back_71 : decode cX11_back 71 = .ok (.getfield 39, 3) := by decide +kernel
theorem dX11_back_74 : decode cX11_back 74 = .ok (.invokevirtual 127, 3) := by decide +kernel
theorem dX11_back_77 : decode cX11_back 77 = .ok (.aload_n 0, 1) := by decide +kernel
theorem dX11_back_78 : decode cX11_back 78 = .ok (.getfield 29, 3) := by decide +kernel
theorem dX11_back_81 : decode cX11_back 81 = .ok (.getfield 207, 3) := by decide +kernel
theorem dX11_back_84 : decode cX11_back 84 = .ok (.ireturn, 1) := by decide +kernel
set_option maxHeartbeats 4000000 in
set_option maxRecDepth 100000 in
theorem d_takeFrom (l : Launch) (G : gg_T) (Γ : Nat → Nat) (sz : Nat) (wt : va_W) (hT : tk_ty G Γ wt) (t : Nat) (v : Nat) (w : Nat) (z : Nat) (ia : Nat → Nat) (md : Nat → Int32) (kk : Nat) (k_t : Γ t = 2) (k_v : Γ v = 10) (k_w : Γ w = 8) (k_z : Γ z = 3) (hne : ∀ j : Nat, j < 4 → j ≠ kk → ia j ≠ t) (hmd : ∀ j : Nat, j < 4 → j ≠ kk → tk_fl wt (ia j) 1 3 (.int (md j))) : Met l yX1_takeFrom (ts_L yX1_takeFrom cX1_takeFrom 4 none) ({ frames := 2, cells := 0, slots := 0, locals := 61 }) (gc_P G wt sz [.ref t, .ref v, .ref w, .ref z]) (gc_V G (va_A wt sz) (fun (u : va_W) => tk_ty G Γ u ∧ tk_kp [103, 203, 709, 900, 901, 902, 903] wt u ∧ (∀ j : Nat, j < 4 → j ≠ kk → tk_fl u (ia j) 1 3 (.int (md j))) ∧ (tk_fl u t 1 3 (.int 1))) (fun u => u)) 0 0 (va_A wt sz) := by
  refine Met.ofW (cc := cX1_takeFrom) (maxL := 4) (ret := none) (by decide) rfl ?_
  intro p e s m args below meth c s₁ B hml hv
  obtain ⟨rfl, hsz, hP, hK, hD0⟩ := hv
  have hx := B.exec
  have hb := B.bytes
  have hr := B.returns
  have ht := ts_ht (atoms_spec (ws := ts_L yX1_takeFrom cX1_takeFrom 4 none) B.pre)
  have hown : s.vm.findClass RX1 = some m.cls := findClass_of_methodNamed B.named
  have hlocks := B.notSynchronized
  subst hsz
  have hD := hD0.self (sz := s.heap.size)
  generalize hAe : va_A wt s.heap.size = A at hD ⊢
  have hA : ∀ q : Nat, s.heap.size ≤ q → A q := fun q h => by rw [← hAe]; exact Or.inr h
  clear hAe hD0
  have hS : va_S A s.heap s.heap [] := va_S.rf
  obtain ⟨w0, hw0⟩ : ∃ z, z = wt := ⟨_, rfl⟩
  have hW : tk_kp [103, 203, 709, 900, 901, 902, 903] w0 wt := by rw [hw0]; exact tk_kp.rf
  rw [← hw0]
  clear hw0
  have hP : va_P (gg_D G) classes ([] ++ wt) s.heap := hP
  have hD : va_D A ([] ++ wt) := hD
  have hl := lv_entry ([.ref t, .ref v, .ref w, .ref z]) (n := 4) (Nat.le_of_ble_eq_true rfl)
  rw [lg_entry_eq]
  generalize (lg_sl ([.ref t, .ref v, .ref w, .ref z]) ++ List.replicate (4 - (lg_sl ([.ref t, .ref v, .ref w, .ref z])).length) Slot.unset).toArray = ls at hl ⊢
  have hl : lv_has ls 4 [(0, .ref t), (1, .ref v), (2, .ref w), (3, .ref z)] := hl
  have l1 : (1 : Int32).toInt = 1 := by decide +kernel
  refine lv_aload_n hx hb dX1_takeFrom_0 rfl (lv_at hl 0 rfl) ?_
  refine tr_get (ci := 1) hx hb ht hown hK hT hP k_t (by decide) i_X1 rfl 0 (by decide) wd_379 rfl dX1_takeFrom_1 (fun v hv hf_1 => ?_)
  obtain ⟨q_2, rfl, hq_2⟩ := hv
  refine lv_aload_n hx hb dX1_takeFrom_4 rfl (lv_at hl 1 rfl) ?_
  refine gt_callV (wr := []) (va_runV (As := [.ref v]) (rest := []) ⟨hx, hb, hml, hown, ht⟩ (d_T_copyFrom l G Γ s.heap.size wt hT q_2 v hq_2 k_v) (cwV 1 ht (ts_gV wd_1231 wd_689 wd_690 wd_124 wd_691) rfl rfl rfl (by decide +kernel) ⟨Nat.le_of_ble_eq_true rfl, Nat.le_of_ble_eq_true rfl⟩) (gt_preW (ci := 9) hK hT (tw_right hP) (tw_rightD hD) hq_2 (by decide) rfl) rfl rfl hl.1 rfl (lv_room (Nat.le_of_ble_eq_true rfl)) dX1_takeFrom_5 ⟨Nat.le_of_ble_eq_true rfl, Nat.le_of_ble_eq_true rfl⟩) hP hD hS hA (fun wt H locs hw hP hD hS => ?_)
  obtain ⟨hT, hkp⟩ := hw
  have hW := hW.call (show ∀ x ∈ [900, 901, 902, 903], x ∈ [103, 203, 709, 900, 901, 902, 903] by decide) hkp
  have hmd := fun j hj hn => hkp _ _ _ _ (by decide) (by decide) (hmd j hj hn)
  refine lv_aload_n hx hb dX1_takeFrom_8 rfl (lv_at hl 0 rfl) ?_
  refine tr_get (ci := 1) hx hb ht hown hK hT hP k_t (by decide) i_X1 rfl 1 (by decide) wd_380 rfl dX1_takeFrom_9 (fun v hv hf_3 => ?_)
  obtain ⟨q_4, rfl, hq_4⟩ := hv
  refine lv_aload_n hx hb dX1_takeFrom_12 rfl (lv_at hl 2 rfl) ?_
  refine gt_callV (wr := []) (va_runV (As := [.ref w]) (rest := []) ⟨hx, hb, hml, hown, ht⟩ (d_S_copyFrom l G Γ H.size wt hT q_4 w hq_4 k_w) (cwV 1 ht (ts_gV wd_1232 wd_863 wd_864 wd_125 wd_865) rfl rfl rfl (by decide +kernel) ⟨Nat.le_of_ble_eq_true rfl, Nat.le_of_ble_eq_true rfl⟩) (gt_preW (ci := 7) hK hT (tw_right hP) (tw_rightD hD) hq_4 (by decide) rfl) rfl rfl hl.1 rfl (lv_room (Nat.le_of_ble_eq_true rfl)) dX1_takeFrom_13 ⟨Nat.le_of_ble_eq_true rfl, Nat.le_of_ble_eq_true rfl⟩) hP hD hS hA (fun wt H locs hw hP hD hS => ?_)
  obtain ⟨hT, hkp⟩ := hw
  have hW := hW.call (show ∀ x ∈ [709], x ∈ [103, 203, 709, 900, 901, 902, 903] by decide) hkp
  have hmd := fun j hj hn => hkp _ _ _ _ (by decide) (by decide) (hmd j hj hn)
  refine lv_aload_n hx hb dX1_takeFrom_16 rfl (lv_at hl 0 rfl) ?_
  refine tr_get (ci := 1) hx hb ht hown hK hT hP k_t (by decide) i_X1 rfl 2 (by decide) wd_381 rfl dX1_takeFrom_17 (fun v hv hf_5 => ?_)
  obtain ⟨q_6, rfl, hq_6⟩ := hv
  refine lv_aload_n hx hb dX1_takeFrom_20 rfl (lv_at hl 3 rfl) ?_
  refine gt_callV (wr := []) (va_runV (As := [.ref z]) (rest := []) ⟨hx, hb, hml, hown, ht⟩ (d_L_copyFrom l G Γ H.size wt hT q_6 z hq_6 k_z) (cwV 1 ht (ts_gV wd_1233 wd_1234 wd_1235 wd_127 wd_1236) rfl rfl rfl (by decide +kernel) ⟨Nat.le_of_ble_eq_true rfl, Nat.le_of_ble_eq_true rfl⟩) (gt_preW (ci := 2) hK hT (tw_right hP) (tw_rightD hD) hq_6 (by decide) rfl) rfl rfl hl.1 rfl (lv_room (Nat.le_of_ble_eq_true rfl)) dX1_takeFrom_21 ⟨Nat.le_of_ble_eq_true rfl, Nat.le_of_ble_eq_true rfl⟩) hP hD hS hA (fun wt H locs hw hP hD hS => ?_)
  obtain ⟨hT, hkp⟩ := hw
  have hW := hW.call (show ∀ x ∈ [203], x ∈ [103, 203, 709, 900, 901, 902, 903] by decide) hkp
  have hmd := fun j hj hn => hkp _ _ _ _ (by decide) (by decide) (hmd j hj hn)
  refine lv_aload_n hx hb dX1_takeFrom_24 rfl (lv_at hl 0 rfl) ?_
  refine lv_iconst (v := 1) hx hb dX1_takeFrom_25 (by decide +kernel) ?_
  refine tr_put (ci := 1) hx hb ht hown hK hT hP hD hS k_t (by decide) i_X1 tyX1 tyX1_ok nmX1 rfl 3 (by decide) wd_382 rfl rfl (by decide +kernel) (by decide +kernel) ⟨_, rfl, by omega, by omega⟩ dX1_takeFrom_26 (fun H locs wt hT hfl hfn hP hD hS => ?_)
  have hW := hW.obj (show 1 * 100 + 3 ∈ [103, 203, 709, 900, 901, 902, 903] by decide) hfl
  have hmd := fun j hj hn => hfl _ _ _ _ (Or.inr (Or.inl (hne j hj hn))) (hmd j hj hn)
  have hf_7 := hfn
  have hP9 : va_P (gg_D G) classes ([] ++ wt) _ := hP
  have hD9 : va_D A ([] ++ wt) := hD
  exact W.vret hx hb hr (gq_endV wt ⟨hT, hW, hmd, hf_7⟩ hP9 hD9 hS) hS.2.2 dX1_takeFrom_29
set_option maxHeartbeats 4000000 in
set_option maxRecDepth 100000 in
theorem d_giveBack (l : Launch) (G : gg_T) (Γ : Nat → Nat) (sz : Nat) (wt : va_W) (hT : tk_ty G Γ wt) (t : Nat) (v : Nat) (w : Nat) (z : Nat) (k_t : Γ t = 2) (k_v : Γ v = 10) (k_w : Γ w = 8) (k_z : Γ z = 3) : Met l yX1_giveBack (ts_L yX1_giveBack cX1_giveBack 4 none) ({ frames := 2, cells := 0, slots := 0, locals := 61 }) (gc_P G wt sz [.ref t, .ref v, .ref w, .ref z]) (gc_V G (va_A wt sz) (fun (u : va_W) => tk_ty G Γ u ∧ tk_kp [203, 709, 900, 901, 902, 903] wt u) (fun u => u)) 0 0 (va_A wt sz) := by
  refine Met.ofW (cc := cX1_giveBack) (maxL := 4) (ret := none) (by decide) rfl ?_
  intro p e s m args below meth c s₁ B hml hv
  obtain ⟨rfl, hsz, hP, hK, hD0⟩ := hv
  have hx := B.exec
  have hb := B.bytes
  have hr := B.returns
  have ht := ts_ht (atoms_spec (ws := ts_L yX1_giveBack cX1_giveBack 4 none) B.pre)
  have hown : s.vm.findClass RX1 = some m.cls := findClass_of_methodNamed B.named
  have hlocks := B.notSynchronized
  subst hsz
  have hD := hD0.self (sz := s.heap.size)
  generalize hAe : va_A wt s.heap.size = A at hD ⊢
  have hA : ∀ q : Nat, s.heap.size ≤ q → A q := fun q h => by rw [← hAe]; exact Or.inr h
  clear hAe hD0
  have hS : va_S A s.heap s.heap [] := va_S.rf
  obtain ⟨w0, hw0⟩ : ∃ z, z = wt := ⟨_, rfl⟩
  have hW : tk_kp [203, 709, 900, 901, 902, 903] w0 wt := by rw [hw0]; exact tk_kp.rf
  rw [← hw0]
  clear hw0
  have hP : va_P (gg_D G) classes ([] ++ wt) s.heap := hP
  have hD : va_D A ([] ++ wt) := hD
  have hl := lv_entry ([.ref t, .ref v, .ref w, .ref z]) (n := 4) (Nat.le_of_ble_eq_true rfl)
  rw [lg_entry_eq]
  generalize (lg_sl ([.ref t, .ref v, .ref w, .ref z]) ++ List.replicate (4 - (lg_sl ([.ref t, .ref v, .ref w, .ref z])).length) Slot.unset).toArray = ls at hl ⊢
  have hl : lv_has ls 4 [(0, .ref t), (1, .ref v), (2, .ref w), (3, .ref z)] := hl
  refine lv_aload_n hx hb dX1_giveBack_0 rfl (lv_at hl 1 rfl) ?_
  refine lv_aload_n hx hb dX1_giveBack_1 rfl (lv_at hl 0 rfl) ?_
  refine tr_get (ci := 1) hx hb ht hown hK hT hP k_t (by decide) i_X1 rfl 0 (by decide) wd_379 rfl dX1_giveBack_2 (fun v hv hf_1 => ?_)
  obtain ⟨q_2, rfl, hq_2⟩ := hv
  refine gt_callV (wr := []) (va_runV (As := [.ref q_2]) (rest := []) ⟨hx, hb, hml, hown, ht⟩ (d_T_copyFrom l G Γ s.heap.size wt hT v q_2 k_v hq_2) (cwV 1 ht (ts_gV wd_1231 wd_689 wd_690 wd_124 wd_691) rfl rfl rfl (by decide +kernel) ⟨Nat.le_of_ble_eq_true rfl, Nat.le_of_ble_eq_true rfl⟩) (gt_preW (ci := 9) hK hT (tw_right hP) (tw_rightD hD) k_v (by decide) rfl) rfl rfl hl.1 rfl (lv_room (Nat.le_of_ble_eq_true rfl)) dX1_giveBack_5 ⟨Nat.le_of_ble_eq_true rfl, Nat.le_of_ble_eq_true rfl⟩) hP hD hS hA (fun wt H locs hw hP hD hS => ?_)
  obtain ⟨hT, hkp⟩ := hw
  have hW := hW.call (show ∀ x ∈ [900, 901, 902, 903], x ∈ [203, 709, 900, 901, 902, 903] by decide) hkp
  refine lv_aload_n hx hb dX1_giveBack_8 rfl (lv_at hl 2 rfl) ?_
  refine lv_aload_n hx hb dX1_giveBack_9 rfl (lv_at hl 0 rfl) ?_
  refine tr_get (ci := 1) hx hb ht hown hK hT hP k_t (by decide) i_X1 rfl 1 (by decide) wd_380 rfl dX1_giveBack_10 (fun v hv hf_3 => ?_)
  obtain ⟨q_4, rfl, hq_4⟩ := hv
  refine gt_callV (wr := []) (va_runV (As := [.ref q_4]) (rest := []) ⟨hx, hb, hml, hown, ht⟩ (d_S_copyFrom l G Γ H.size wt hT w q_4 k_w hq_4) (cwV 1 ht (ts_gV wd_1232 wd_863 wd_864 wd_125 wd_865) rfl rfl rfl (by decide +kernel) ⟨Nat.le_of_ble_eq_true rfl, Nat.le_of_ble_eq_true rfl⟩) (gt_preW (ci := 7) hK hT (tw_right hP) (tw_rightD hD) k_w (by decide) rfl) rfl rfl hl.1 rfl (lv_room (Nat.le_of_ble_eq_true rfl)) dX1_giveBack_13 ⟨Nat.le_of_ble_eq_true rfl, Nat.le_of_ble_eq_true rfl⟩) hP hD hS hA (fun wt H locs hw hP hD hS => ?_)
  obtain ⟨hT, hkp⟩ := hw
  have hW := hW.call (show ∀ x ∈ [709], x ∈ [203, 709, 900, 901, 902, 903] by decide) hkp
  refine lv_aload_n hx hb dX1_giveBack_16 rfl (lv_at hl 3 rfl) ?_
  refine lv_aload_n hx hb dX1_giveBack_17 rfl (lv_at hl 0 rfl) ?_
  refine tr_get (ci := 1) hx hb ht hown hK hT hP k_t (by decide) i_X1 rfl 2 (by decide) wd_381 rfl dX1_giveBack_18 (fun v hv hf_5 => ?_)
  obtain ⟨q_6, rfl, hq_6⟩ := hv
  refine gt_callV (wr := []) (va_runV (As := [.ref q_6]) (rest := []) ⟨hx, hb, hml, hown, ht⟩ (d_L_copyFrom l G Γ H.size wt hT z q_6 k_z hq_6) (cwV 1 ht (ts_gV wd_1233 wd_1234 wd_1235 wd_127 wd_1236) rfl rfl rfl (by decide +kernel) ⟨Nat.le_of_ble_eq_true rfl, Nat.le_of_ble_eq_true rfl⟩) (gt_preW (ci := 2) hK hT (tw_right hP) (tw_rightD hD) k_z (by decide) rfl) rfl rfl hl.1 rfl (lv_room (Nat.le_of_ble_eq_true rfl)) dX1_giveBack_21 ⟨Nat.le_of_ble_eq_true rfl, Nat.le_of_ble_eq_true rfl⟩) hP hD hS hA (fun wt H locs hw hP hD hS => ?_)
  obtain ⟨hT, hkp⟩ := hw
  have hW := hW.call (show ∀ x ∈ [203], x ∈ [203, 709, 900, 901, 902, 903] by decide) hkp
  have hP9 := tw_right hP
  have hD9 := tw_rightD hD
  exact W.vret hx hb hr (gq_endV wt ⟨hT, hW⟩ hP9 hD9 hS) hS.2.2 dX1_giveBack_24
set_option maxHeartbeats 4000000 in
set_option maxRecDepth 100000 in
theorem d_image (l : Launch) (G : gg_T) (Γ : Nat → Nat) (sz : Nat) (wt : va_W) (hT : tk_ty G Γ wt) (b : Int32) (tp : Nat) (h0 : Nat) (ra1 : Nat) (ra2 : Nat) (ra3 : Nat) (ra4 : Nat) (ra5 : Nat) (ra6 : Nat) (ra7 : Nat) (ra8 : Nat) (ra9 : Nat) (ra10 : Nat) (ra11 : Nat) (ra12 : Nat) (rc : Int32) (fo : Int32) (xx : Int32) (ia : Nat → Nat) (md : Nat → Int32) (ix : Nat → Int32) (fi : Nat → Option Nat) (kr1 : Γ ra1 = 10) (kr2 : Γ ra2 = 10) (kr3 : Γ ra3 = 8) (kr4 : Γ ra4 = 8) (kr5 : Γ ra5 = 4) (kr6 : Γ ra6 = 3) (kr7 : Γ ra7 = 41) (kr9 : Γ ra9 = 1) (kr10 : Γ ra10 = 6) (kr11 : Γ ra11 = 11) (kr12 : Γ ra12 = 7) (xr1 : 0 ≤ rc.toInt) (xr2 : rc.toInt ≤ 6) (hfi : ∀ j : Nat, j < 4 → fi j = some (ia j)) (him : ∀ j : Nat, j < 4 → Γ (ia j) = 2) (hinj : ∀ i j : Nat, i < 4 → j < 4 → ia i = ia j → i = j) (hmd0 : ∀ j : Nat, j < 4 → tk_fl wt (ia j) 1 3 (.int (md j))) (hix0 : ∀ j : Nat, j < 4 → tk_fl wt (ia j) 1 5 (.int (ix j))) : Met l yX11_image (ts_L yX11_image cX11_image 2 (some .int)) ({ frames := 3, cells := 0, slots := 0, locals := 84 }) (gc_P G ([(h0, .inr (11, [.ref tp, .ref ra1, .ref ra2, .ref ra3, .ref ra4, .ref ra5, .ref ra6, .ref ra7, .ref ra8, .ref ra9, .ref ra10, .ref ra11, .ref ra12, .int rc, .int fo, .int xx])), (ra8, .inl (G.2.2 6, 4, .inr (.inr (.inr (.inr fi)))))] ++ wt) sz [.ref h0, .int b]) (gc_I G (va_A ([(h0, .inr (11, [.ref tp, .ref ra1, .ref ra2, .ref ra3, .ref ra4, .ref ra5, .ref ra6, .ref ra7, .ref ra8, .ref ra9, .ref ra10, .ref ra11, .ref ra12, .int rc, .int fo, .int xx])), (ra8, .inl (G.2.2 6, 4, .inr (.inr (.inr (.inr fi)))))] ++ wt) sz) (fun r (u : (Nat → Int32) × (Nat → Int32) × va_W) => match u with | (md1, ix1, wt1) => tk_ty G Γ wt1 ∧ tk_kp [103, 104, 105, 203, 709, 900, 901, 902, 903] wt wt1 ∧ (∀ j : Nat, j < 4 → tk_fl wt1 (ia j) 1 3 (.int (md1 j))) ∧ (∀ j : Nat, j < 4 → tk_fl wt1 (ia j) 1 5 (.int (ix1 j))) ∧ ((0 ≤ b.toInt ∧ b.toInt ≤ 3 ∧ md1 = upd md (Int32.toNatClampNeg b) 1 ∧ ix1 = upd ix (Int32.toNatClampNeg b) xx) ∨ ((b.toInt < 0 ∨ 3 < b.toInt) ∧ md1 = md ∧ ix1 = ix))) (fun (u : (Nat → Int32) × (Nat → Int32) × va_W) => match u with | (md1, ix1, wt1) => [(h0, .inr (11, [.ref tp, .ref ra1, .ref ra2, .ref ra3, .ref ra4, .ref ra5, .ref ra6, .ref ra7, .ref ra8, .ref ra9, .ref ra10, .ref ra11, .ref ra12, .int rc, .int fo, .int xx])), (ra8, .inl (G.2.2 6, 4, .inr (.inr (.inr (.inr fi)))))] ++ wt1)) 0 0 (va_A ([(h0, .inr (11, [.ref tp, .ref ra1, .ref ra2, .ref ra3, .ref ra4, .ref ra5, .ref ra6, .ref ra7, .ref ra8, .ref ra9, .ref ra10, .ref ra11, .ref ra12, .int rc, .int fo, .int xx])), (ra8, .inl (G.2.2 6, 4, .inr (.inr (.inr (.inr fi)))))] ++ wt) sz) := by
  refine Met.ofW (cc := cX11_image) (maxL := 2) (ret := (some .int)) (by decide) rfl ?_
  intro p e s m args below meth c s₁ B hml hv
  obtain ⟨rfl, hsz, hP, hK, hD0⟩ := hv
  have hx := B.exec
  have hb := B.bytes
  have hr := B.returns
  have ht := ts_ht (atoms_spec (ws := ts_L yX11_image cX11_image 2 (some .int)) B.pre)
  have hown : s.vm.findClass RX11 = some m.cls := findClass_of_methodNamed B.named
  have hlocks := B.notSynchronized
  subst hsz
  have hD := hD0.self (sz := s.heap.size)
  generalize hAe : va_A ([(h0, .inr (11, [.ref tp, .ref ra1, .ref ra2, .ref ra3, .ref ra4, .ref ra5, .ref ra6, .ref ra7, .ref ra8, .ref ra9, .ref ra10, .ref ra11, .ref ra12, .int rc, .int fo, .int xx])), (ra8, .inl (G.2.2 6, 4, .inr (.inr (.inr (.inr fi)))))] ++ wt) s.heap.size = A at hD ⊢
  have hA : ∀ q : Nat, s.heap.size ≤ q → A q := fun q h => by rw [← hAe]; exact Or.inr h
  clear hAe hD0
  have hS : va_S A s.heap s.heap [] := va_S.rf
  obtain ⟨w0, hw0⟩ : ∃ z, z = wt := ⟨_, rfl⟩
  have hW : tk_kp [103, 104, 105, 203, 709, 900, 901, 902, 903] w0 wt := by rw [hw0]; exact tk_kp.rf
  rw [← hw0]
  clear hw0
  have hP : va_P (gg_D G) classes ([(h0, .inr (11, [.ref tp, .ref ra1, .ref ra2, .ref ra3, .ref ra4, .ref ra5, .ref ra6, .ref ra7, .ref ra8, .ref ra9, .ref ra10, .ref ra11, .ref ra12, .int rc, .int fo, .int xx])), (ra8, .inl (G.2.2 6, 4, .inr (.inr (.inr (.inr fi)))))] ++ wt) s.heap := hP
  have hD : va_D A ([(h0, .inr (11, [.ref tp, .ref ra1, .ref ra2, .ref ra3, .ref ra4, .ref ra5, .ref ra6, .ref ra7, .ref ra8, .ref ra9, .ref ra10, .ref ra11, .ref ra12, .int rc, .int fo, .int xx])), (ra8, .inl (G.2.2 6, 4, .inr (.inr (.inr (.inr fi)))))] ++ wt) := hD
  have hl := lv_entry ([.ref h0, .int b]) (n := 2) (Nat.le_of_ble_eq_true rfl)
  rw [lg_entry_eq]
  generalize (lg_sl ([.ref h0, .int b]) ++ List.replicate (2 - (lg_sl ([.ref h0, .int b])).length) Slot.unset).toArray = ls at hl ⊢
  have hl : lv_has ls 2 [(0, .ref h0), (1, .int b)] := hl
  have lm1 : ((-1) : Int32).toInt = -1 := by decide +kernel
  have l0 : (0 : Int32).toInt = 0 := by decide +kernel
  have l4 : (4 : Int32).toInt = 4 := by decide +kernel
  refine lv_iload_n hx hb dX11_image_0 rfl (lv_at hl 1 rfl) ?_
  refine lv_if_lt (tgt := 9) hx hb dX11_image_1 (by decide) (fun c_1 => ?_) (fun c_1 => ?_)
  · rw [Int32.lt_iff_toInt_lt] at c_1
    refine lv_iconst (v := (-1)) hx hb dX11_image_9 (by decide +kernel) ?_
    have hP9 : va_P (gg_D G) classes ([(h0, .inr (11, [.ref tp, .ref ra1, .ref ra2, .ref ra3, .ref ra4, .ref ra5, .ref ra6, .ref ra7, .ref ra8, .ref ra9, .ref ra10, .ref ra11, .ref ra12, .int rc, .int fo, .int xx])), (ra8, .inl (G.2.2 6, 4, .inr (.inr (.inr (.inr fi)))))] ++ wt) _ := hP
    have hD9 : va_D A ([(h0, .inr (11, [.ref tp, .ref ra1, .ref ra2, .ref ra3, .ref ra4, .ref ra5, .ref ra6, .ref ra7, .ref ra8, .ref ra9, .ref ra10, .ref ra11, .ref ra12, .int rc, .int fo, .int xx])), (ra8, .inl (G.2.2 6, 4, .inr (.inr (.inr (.inr fi)))))] ++ wt) := hD
    exact W.iret (v := (-1)) hx hb hr (gq_endI (md, ix, wt) ⟨hT, hW, hmd0, hix0, Or.inr ⟨by omega, rfl, rfl⟩⟩ hP9 hD9 hS) hS.2.2 dX11_image_10
  · rw [Int32.lt_iff_toInt_lt] at c_1
    refine lv_iload_n hx hb dX11_image_4 rfl (lv_at hl 1 rfl) ?_
    refine lv_iconst (v := 4) hx hb dX11_image_5 (by decide +kernel) ?_
    refine lv_icmp_lt (tgt := 11) hx hb dX11_image_6 (by decide) (fun c_2 => ?_) (fun c_2 => ?_)
    · rw [Int32.lt_iff_toInt_lt] at c_2
      refine lv_aload_n hx hb dX11_image_11 rfl (lv_at hl 0 rfl) ?_
      refine gq_get hx hb ht hown hK hP i_X11 0 rfl rfl 8 (by decide) wd_505 rfl rfl dX11_image_12 ?_
      refine lv_iload_n hx hb dX11_image_15 rfl (lv_at hl 1 rfl) ?_
      obtain ⟨kk, ekk⟩ : ∃ zz_ : Nat, (Int32.toNatClampNeg b) = zz_ := ⟨_, rfl⟩
      have hkk : kk < 4 := by rw [← ekk]; exact ia_lt (by omega) (by omega)
      obtain ⟨io, eio⟩ : ∃ zz_ : Nat, ia (Int32.toNatClampNeg b) = zz_ := ⟨_, rfl⟩
      have ekio : ia kk = io := by rw [← ekk]; exact eio
      have hio : Γ io = 2 := by rw [← ekio]; exact him kk hkk
      have hne : ∀ j : Nat, j < 4 → j ≠ kk → ia j ≠ io := fun j hj hn h => hn (hinj j kk hj hkk (h.trans ekio.symm))
      have hmd : ∀ j : Nat, j < 4 → j ≠ kk → tk_fl wt (ia j) 1 3 (.int (md j)) := fun j hj _ => hmd0 j hj
      obtain ⟨mo, emo⟩ : ∃ zz_ : Int32, md kk = zz_ := ⟨_, rfl⟩
      have hfmo : tk_fl wt io 1 3 (.int mo) := by rw [← ekio, ← emo]; exact hmd0 kk hkk
      have hix : ∀ j : Nat, j < 4 → j ≠ kk → tk_fl wt (ia j) 1 5 (.int (ix j)) := fun j hj _ => hix0 j hj
      obtain ⟨xo, exo⟩ : ∃ zz_ : Int32, ix kk = zz_ := ⟨_, rfl⟩
      have hfxo : tk_fl wt io 1 5 (.int xo) := by rw [← ekio, ← exo]; exact hix0 kk hkk
      refine gq_aald hx hb hK hP 1 6 rfl rfl io (ia_in (n := 4) (by omega) (by omega)) (show fi (Int32.toNatClampNeg b) = some io by rw [ekk, hfi kk hkk, ekio]) dX11_image_16 ?_
      refine lv_aload_n hx hb dX11_image_17 rfl (lv_at hl 0 rfl) ?_
      refine gq_get hx hb ht hown hK hP i_X11 0 rfl rfl 1 (by decide) wd_498 rfl rfl dX11_image_18 ?_
      refine lv_aload_n hx hb dX11_image_21 rfl (lv_at hl 0 rfl) ?_
      refine gq_get hx hb ht hown hK hP i_X11 0 rfl rfl 3 (by decide) wd_500 rfl rfl dX11_image_22 ?_
      refine lv_aload_n hx hb dX11_image_25 rfl (lv_at hl 0 rfl) ?_
      refine gq_get hx hb ht hown hK hP i_X11 0 rfl rfl 6 (by decide) wd_503 rfl rfl dX11_image_26 ?_
      refine gt_callV (wr := [(h0, .inr (11, [.ref tp, .ref ra1, .ref ra2, .ref ra3, .ref ra4, .ref ra5, .ref ra6, .ref ra7, .ref ra8, .ref ra9, .ref ra10, .ref ra11, .ref ra12, .int rc, .int fo, .int xx])), (ra8, .inl (G.2.2 6, 4, .inr (.inr (.inr (.inr fi)))))]) (va_runV (As := [.ref ra1, .ref ra3, .ref ra6]) (rest := []) ⟨hx, hb, hml, hown, ht⟩ (d_takeFrom l G Γ s.heap.size wt hT io ra1 ra3 ra6 ia md kk hio kr1 kr3 kr6 (by first | assumption | omega) (by first | assumption | omega)) (cwV 3 ht (ts_gV wd_1227 wd_1228 wd_1229 wd_129 wd_1230) rfl rfl rfl (by decide +kernel) ⟨Nat.le_of_ble_eq_true rfl, Nat.le_of_ble_eq_true rfl⟩) (gt_preW (ci := 1) hK hT (tw_right hP) (tw_rightD hD) hio (by decide) rfl) rfl rfl hl.1 rfl (lv_room (Nat.le_of_ble_eq_true rfl)) dX11_image_29 ⟨Nat.le_of_ble_eq_true rfl, Nat.le_of_ble_eq_true rfl⟩) hP hD hS hA (fun wt H locs hw hP hD hS => ?_)
      obtain ⟨hT, hkp, w_3, w_4⟩ := hw
      have hW := hW.call (show ∀ x ∈ [103, 203, 709, 900, 901, 902, 903], x ∈ [103, 104, 105, 203, 709, 900, 901, 902, 903] by decide) hkp
      have hfxo := hkp _ _ _ _ (by decide) (by decide) hfxo
      have hix := fun j hj hn => hkp _ _ _ _ (by decide) (by decide) (hix j hj hn)
      have hP : va_P (gg_D G) classes ([(h0, .inr (11, [.ref tp, .ref ra1, .ref ra2, .ref ra3, .ref ra4, .ref ra5, .ref ra6, .ref ra7, .ref ra8, .ref ra9, .ref ra10, .ref ra11, .ref ra12, .int rc, .int fo, .int xx])), (ra8, .inl (G.2.2 6, 4, .inr (.inr (.inr (.inr fi)))))] ++ wt) H := hP
      have hD : va_D A ([(h0, .inr (11, [.ref tp, .ref ra1, .ref ra2, .ref ra3, .ref ra4, .ref ra5, .ref ra6, .ref ra7, .ref ra8, .ref ra9, .ref ra10, .ref ra11, .ref ra12, .int rc, .int fo, .int xx])), (ra8, .inl (G.2.2 6, 4, .inr (.inr (.inr (.inr fi)))))] ++ wt) := hD
      have hmd := w_3
      have hmade := w_4
      refine lv_aload_n hx hb dX11_image_32 rfl (lv_at hl 0 rfl) ?_
      refine gq_get hx hb ht hown hK hP i_X11 0 rfl rfl 8 (by decide) wd_505 rfl rfl dX11_image_33 ?_
      refine lv_iload_n hx hb dX11_image_36 rfl (lv_at hl 1 rfl) ?_
      refine gq_aald hx hb hK hP 1 6 rfl rfl io (ia_in (n := 4) (by omega) (by omega)) (show fi (Int32.toNatClampNeg b) = some io by rw [ekk, hfi kk hkk, ekio]) dX11_image_37 ?_
      refine lv_aload_n hx hb dX11_image_38 rfl (lv_at hl 0 rfl) ?_
      refine gq_get hx hb ht hown hK hP i_X11 0 rfl rfl 14 (by decide) wd_511 rfl rfl dX11_image_39 ?_
      refine tr_put (ci := 1) hx hb ht hown hK hT hP hD hS hio (by decide) i_X1 tyX1 tyX1_ok nmX1 rfl 4 (by decide) wd_385 rfl rfl rfl rfl ⟨_, rfl⟩ dX11_image_42 (fun H locs wt hT hfl hfn hP hD hS => ?_)
      have hW := hW.obj (show 1 * 100 + 4 ∈ [103, 104, 105, 203, 709, 900, 901, 902, 903] by decide) hfl
      have hfxo := hfl _ _ _ _ (Or.inr (Or.inr (by decide))) hfxo
      have hmade := hfl _ _ _ _ (Or.inr (Or.inr (by decide))) hmade
      have hmd := fun j hj hn => hfl _ _ _ _ (Or.inr (Or.inr (by decide))) (hmd j hj hn)
      have hix := fun j hj hn => hfl _ _ _ _ (Or.inr (Or.inr (by decide))) (hix j hj hn)
      have hf_5 := hfn
      refine lv_aload_n hx hb dX11_image_45 rfl (lv_at hl 0 rfl) ?_
      refine gq_get hx hb ht hown hK hP i_X11 0 rfl rfl 8 (by decide) wd_505 rfl rfl dX11_image_46 ?_
      refine lv_iload_n hx hb dX11_image_49 rfl (lv_at hl 1 rfl) ?_
      refine gq_aald hx hb hK hP 1 6 rfl rfl io (ia_in (n := 4) (by omega) (by omega)) (show fi (Int32.toNatClampNeg b) = some io by rw [ekk, hfi kk hkk, ekio]) dX11_image_50 ?_
      refine lv_aload_n hx hb dX11_image_51 rfl (lv_at hl 0 rfl) ?_
      refine gq_get hx hb ht hown hK hP i_X11 0 rfl rfl 15 (by decide) wd_512 rfl rfl dX11_image_52 ?_
      refine tr_put (ci := 1) hx hb ht hown hK hT hP hD hS hio (by decide) i_X1 tyX1 tyX1_ok nmX1 rfl 5 (by decide) wd_387 rfl rfl rfl rfl ⟨_, rfl⟩ dX11_image_55 (fun H locs wt hT hfl hfn hP hD hS => ?_)
      have hW := hW.obj (show 1 * 100 + 5 ∈ [103, 104, 105, 203, 709, 900, 901, 902, 903] by decide) hfl
      have hmade := hfl _ _ _ _ (Or.inr (Or.inr (by decide))) hmade
      have hf_5 := hfl _ _ _ _ (Or.inr (Or.inr (by decide))) hf_5
      have hmd := fun j hj hn => hfl _ _ _ _ (Or.inr (Or.inr (by decide))) (hmd j hj hn)
      have hix := fun j hj hn => hfl _ _ _ _ (Or.inr (Or.inl (hne j hj hn))) (hix j hj hn)
      have hf_6 := hfn
      refine lv_aload_n hx hb dX11_image_58 rfl (lv_at hl 0 rfl) ?_
      refine gq_get hx hb ht hown hK hP i_X11 0 rfl rfl 3 (by decide) wd_500 rfl rfl dX11_image_59 ?_
      refine tr_get (ci := 7) hx hb ht hown hK hT hP kr3 (by decide) i_X7 rfl 9 (by decide) wd_268 rfl dX11_image_62 (fun v hv hf_7 => ?_)
      obtain ⟨n_8, rfl⟩ := hv
      have hmd9 : ∀ j : Nat, j < 4 → tk_fl wt (ia j) 1 3 (.int (upd md (Int32.toNatClampNeg b) 1 j)) := fun j hj => by
        rw [ekk]; by_cases hn : j = kk
        · rw [hn, ekio]; simp only [upd, if_true]; exact hmade
        · simp only [upd, hn, if_false]; exact hmd j hj hn
      have hix9 : ∀ j : Nat, j < 4 → tk_fl wt (ia j) 1 5 (.int (upd ix (Int32.toNatClampNeg b) xx j)) := fun j hj => by
        rw [ekk]; by_cases hn : j = kk
        · rw [hn, ekio]; simp only [upd, if_true]; exact hf_6
        · simp only [upd, hn, if_false]; exact hix j hj hn
      have hP9 : va_P (gg_D G) classes ([(h0, .inr (11, [.ref tp, .ref ra1, .ref ra2, .ref ra3, .ref ra4, .ref ra5, .ref ra6, .ref ra7, .ref ra8, .ref ra9, .ref ra10, .ref ra11, .ref ra12, .int rc, .int fo, .int xx])), (ra8, .inl (G.2.2 6, 4, .inr (.inr (.inr (.inr fi)))))] ++ wt) _ := hP
      have hD9 : va_D A ([(h0, .inr (11, [.ref tp, .ref ra1, .ref ra2, .ref ra3, .ref ra4, .ref ra5, .ref ra6, .ref ra7, .ref ra8, .ref ra9, .ref ra10, .ref ra11, .ref ra12, .int rc, .int fo, .int xx])), (ra8, .inl (G.2.2 6, 4, .inr (.inr (.inr (.inr fi)))))] ++ wt) := hD
      exact W.iret (v := n_8) hx hb hr (gq_endI ((upd md (Int32.toNatClampNeg b) 1), (upd ix (Int32.toNatClampNeg b) xx), wt) ⟨hT, hW, hmd9, hix9, Or.inl ⟨by omega, by omega, rfl, rfl⟩⟩ hP9 hD9 hS) hS.2.2 dX11_image_65
    · rw [Int32.lt_iff_toInt_lt] at c_2
      refine lv_iconst (v := (-1)) hx hb dX11_image_9 (by decide +kernel) ?_
      have hP9 : va_P (gg_D G) classes ([(h0, .inr (11, [.ref tp, .ref ra1, .ref ra2, .ref ra3, .ref ra4, .ref ra5, .ref ra6, .ref ra7, .ref ra8, .ref ra9, .ref ra10, .ref ra11, .ref ra12, .int rc, .int fo, .int xx])), (ra8, .inl (G.2.2 6, 4, .inr (.inr (.inr (.inr fi)))))] ++ wt) _ := hP
      have hD9 : va_D A ([(h0, .inr (11, [.ref tp, .ref ra1, .ref ra2, .ref ra3, .ref ra4, .ref ra5, .ref ra6, .ref ra7, .ref ra8, .ref ra9, .ref ra10, .ref ra11, .ref ra12, .int rc, .int fo, .int xx])), (ra8, .inl (G.2.2 6, 4, .inr (.inr (.inr (.inr fi)))))] ++ wt) := hD
      exact W.iret (v := (-1)) hx hb hr (gq_endI (md, ix, wt) ⟨hT, hW, hmd0, hix0, Or.inr ⟨by omega, rfl, rfl⟩⟩ hP9 hD9 hS) hS.2.2 dX11_image_10
set_option maxHeartbeats 4000000 in
set_option maxRecDepth 100000 in
theorem d_back (l : Launch) (G : gg_T) (Γ : Nat → Nat) (sz : Nat) (wt : va_W) (hT : tk_ty G Γ wt) (b : Int32) (tp : Nat) (h0 : Nat) (ra1 : Nat) (ra2 : Nat) (ra3 : Nat) (ra4 : Nat) (ra5 : Nat) (ra6 : Nat) (ra7 : Nat) (ra8 : Nat) (ra9 : Nat) (ra10 : Nat) (ra11 : Nat) (ra12 : Nat) (rc : Int32) (fo : Int32) (xx : Int32) (ia : Nat → Nat) (md : Nat → Int32) (ix : Nat → Int32) (fi : Nat → Option Nat) (kr1 : Γ ra1 = 10) (kr2 : Γ ra2 = 10) (kr3 : Γ ra3 = 8) (kr4 : Γ ra4 = 8) (kr5 : Γ ra5 = 4) (kr6 : Γ ra6 = 3) (kr7 : Γ ra7 = 41) (kr9 : Γ ra9 = 1) (kr10 : Γ ra10 = 6) (kr11 : Γ ra11 = 11) (kr12 : Γ ra12 = 7) (xr1 : 0 ≤ rc.toInt) (xr2 : rc.toInt ≤ 6) (hfi : ∀ j : Nat, j < 4 → fi j = some (ia j)) (him : ∀ j : Nat, j < 4 → Γ (ia j) = 2) (hinj : ∀ i j : Nat, i < 4 → j < 4 → ia i = ia j → i = j) (hmd0 : ∀ j : Nat, j < 4 → tk_fl wt (ia j) 1 3 (.int (md j))) (hix0 : ∀ j : Nat, j < 4 → tk_fl wt (ia j) 1 5 (.int (ix j))) : Met l yX11_back (ts_L yX11_back cX11_back 2 (some .int)) ({ frames := 3, cells := 0, slots := 0, locals := 84 }) (gc_P G ([(h0, .inr (11, [.ref tp, .ref ra1, .ref ra2, .ref ra3, .ref ra4, .ref ra5, .ref ra6, .ref ra7, .ref ra8, .ref ra9, .ref ra10, .ref ra11, .ref ra12, .int rc, .int fo, .int xx])), (ra8, .inl (G.2.2 6, 4, .inr (.inr (.inr (.inr fi)))))] ++ wt) sz [.ref h0, .int b]) (gc_I G (va_A ([(h0, .inr (11, [.ref tp, .ref ra1, .ref ra2, .ref ra3, .ref ra4, .ref ra5, .ref ra6, .ref ra7, .ref ra8, .ref ra9, .ref ra10, .ref ra11, .ref ra12, .int rc, .int fo, .int xx])), (ra8, .inl (G.2.2 6, 4, .inr (.inr (.inr (.inr fi)))))] ++ wt) sz) (fun r (u : (Int32) × (Int32) × va_W) => match u with | (fo1, x1, wt1) => tk_ty G Γ wt1 ∧ tk_kp [203, 302, 709, 900, 901, 902, 903] wt wt1 ∧ (((b.toInt < 0 ∨ 3 < b.toInt ∨ (md (Int32.toNatClampNeg b)).toInt = 0) ∧ x1.toInt = xx.toInt) ∨ (0 ≤ b.toInt ∧ b.toInt ≤ 3 ∧ (md (Int32.toNatClampNeg b)).toInt ≠ 0 ∧ x1.toInt = (ix (Int32.toNatClampNeg b)).toInt))) (fun (u : (Int32) × (Int32) × va_W) => match u with | (fo1, x1, wt1) => [(h0, .inr (11, [.ref tp, .ref ra1, .ref ra2, .ref ra3, .ref ra4, .ref ra5, .ref ra6, .ref ra7, .ref ra8, .ref ra9, .ref ra10, .ref ra11, .ref ra12, .int rc, .int fo1, .int x1])), (ra8, .inl (G.2.2 6, 4, .inr (.inr (.inr (.inr fi)))))] ++ wt1)) 0 0 (va_A ([(h0, .inr (11, [.ref tp, .ref ra1, .ref ra2, .ref ra3, .ref ra4, .ref ra5, .ref ra6, .ref ra7, .ref ra8, .ref ra9, .ref ra10, .ref ra11, .ref ra12, .int rc, .int fo, .int xx])), (ra8, .inl (G.2.2 6, 4, .inr (.inr (.inr (.inr fi)))))] ++ wt) sz) := by
  refine Met.ofW (cc := cX11_back) (maxL := 2) (ret := (some .int)) (by decide) rfl ?_
  intro p e s m args below meth c s₁ B hml hv
  obtain ⟨rfl, hsz, hP, hK, hD0⟩ := hv
  have hx := B.exec
  have hb := B.bytes
  have hr := B.returns
  have ht := ts_ht (atoms_spec (ws := ts_L yX11_back cX11_back 2 (some .int)) B.pre)
  have hown : s.vm.findClass RX11 = some m.cls := findClass_of_methodNamed B.named
  have hlocks := B.notSynchronized
  subst hsz
  have hD := hD0.self (sz := s.heap.size)
  generalize hAe : va_A ([(h0, .inr (11, [.ref tp, .ref ra1, .ref ra2, .ref ra3, .ref ra4, .ref ra5, .ref ra6, .ref ra7, .ref ra8, .ref ra9, .ref ra10, .ref ra11, .ref ra12, .int rc, .int fo, .int xx])), (ra8, .inl (G.2.2 6, 4, .inr (.inr (.inr (.inr fi)))))] ++ wt) s.heap.size = A at hD ⊢
  have hA : ∀ q : Nat, s.heap.size ≤ q → A q := fun q h => by rw [← hAe]; exact Or.inr h
  clear hAe hD0
  have hS : va_S A s.heap s.heap [] := va_S.rf
  obtain ⟨w0, hw0⟩ : ∃ z, z = wt := ⟨_, rfl⟩
  have hW : tk_kp [203, 302, 709, 900, 901, 902, 903] w0 wt := by rw [hw0]; exact tk_kp.rf
  rw [← hw0]
  clear hw0
  have hP : va_P (gg_D G) classes ([(h0, .inr (11, [.ref tp, .ref ra1, .ref ra2, .ref ra3, .ref ra4, .ref ra5, .ref ra6, .ref ra7, .ref ra8, .ref ra9, .ref ra10, .ref ra11, .ref ra12, .int rc, .int fo, .int xx])), (ra8, .inl (G.2.2 6, 4, .inr (.inr (.inr (.inr fi)))))] ++ wt) s.heap := hP
  have hD : va_D A ([(h0, .inr (11, [.ref tp, .ref ra1, .ref ra2, .ref ra3, .ref ra4, .ref ra5, .ref ra6, .ref ra7, .ref ra8, .ref ra9, .ref ra10, .ref ra11, .ref ra12, .int rc, .int fo, .int xx])), (ra8, .inl (G.2.2 6, 4, .inr (.inr (.inr (.inr fi)))))] ++ wt) := hD
  have hl := lv_entry ([.ref h0, .int b]) (n := 2) (Nat.le_of_ble_eq_true rfl)
  rw [lg_entry_eq]
  generalize (lg_sl ([.ref h0, .int b]) ++ List.replicate (2 - (lg_sl ([.ref h0, .int b])).length) Slot.unset).toArray = ls at hl ⊢
  have hl : lv_has ls 2 [(0, .ref h0), (1, .int b)] := hl
  have lm1 : ((-1) : Int32).toInt = -1 := by decide +kernel
  have l0 : (0 : Int32).toInt = 0 := by decide +kernel
  have l4 : (4 : Int32).toInt = 4 := by decide +kernel
  refine lv_iload_n hx hb dX11_back_0 rfl (lv_at hl 1 rfl) ?_
  refine lv_if_lt (tgt := 21) hx hb dX11_back_1 (by decide) (fun c_1 => ?_) (fun c_1 => ?_)
  · rw [Int32.lt_iff_toInt_lt] at c_1
    refine lv_iconst (v := (-1)) hx hb dX11_back_21 (by decide +kernel) ?_
    have hP9 : va_P (gg_D G) classes ([(h0, .inr (11, [.ref tp, .ref ra1, .ref ra2, .ref ra3, .ref ra4, .ref ra5, .ref ra6, .ref ra7, .ref ra8, .ref ra9, .ref ra10, .ref ra11, .ref ra12, .int rc, .int fo, .int xx])), (ra8, .inl (G.2.2 6, 4, .inr (.inr (.inr (.inr fi)))))] ++ wt) _ := hP
    have hD9 : va_D A ([(h0, .inr (11, [.ref tp, .ref ra1, .ref ra2, .ref ra3, .ref ra4, .ref ra5, .ref ra6, .ref ra7, .ref ra8, .ref ra9, .ref ra10, .ref ra11, .ref ra12, .int rc, .int fo, .int xx])), (ra8, .inl (G.2.2 6, 4, .inr (.inr (.inr (.inr fi)))))] ++ wt) := hD
    exact W.iret (v := (-1)) hx hb hr (gq_endI (fo, xx, wt) ⟨hT, hW, (by omega)⟩ hP9 hD9 hS) hS.2.2 dX11_back_22
  · rw [Int32.lt_iff_toInt_lt] at c_1
    refine lv_iload_n hx hb dX11_back_4 rfl (lv_at hl 1 rfl) ?_
    refine lv_iconst (v := 4) hx hb dX11_back_5 (by decide +kernel) ?_
    refine lv_icmp_ge (tgt := 21) hx hb dX11_back_6 (by decide) (fun c_2 => ?_) (fun c_2 => ?_)
    · rw [Int32.le_iff_toInt_le] at c_2
      refine lv_iconst (v := (-1)) hx hb dX11_back_21 (by decide +kernel) ?_
      have hP9 : va_P (gg_D G) classes ([(h0, .inr (11, [.ref tp, .ref ra1, .ref ra2, .ref ra3, .ref ra4, .ref ra5, .ref ra6, .ref ra7, .ref ra8, .ref ra9, .ref ra10, .ref ra11, .ref ra12, .int rc, .int fo, .int xx])), (ra8, .inl (G.2.2 6, 4, .inr (.inr (.inr (.inr fi)))))] ++ wt) _ := hP
      have hD9 : va_D A ([(h0, .inr (11, [.ref tp, .ref ra1, .ref ra2, .ref ra3, .ref ra4, .ref ra5, .ref ra6, .ref ra7, .ref ra8, .ref ra9, .ref ra10, .ref ra11, .ref ra12, .int rc, .int fo, .int xx])), (ra8, .inl (G.2.2 6, 4, .inr (.inr (.inr (.inr fi)))))] ++ wt) := hD
      exact W.iret (v := (-1)) hx hb hr (gq_endI (fo, xx, wt) ⟨hT, hW, (by omega)⟩ hP9 hD9 hS) hS.2.2 dX11_back_22
    · rw [Int32.le_iff_toInt_le] at c_2
      refine lv_aload_n hx hb dX11_back_9 rfl (lv_at hl 0 rfl) ?_
      refine gq_get hx hb ht hown hK hP i_X11 0 rfl rfl 8 (by decide) wd_505 rfl rfl dX11_back_10 ?_
      refine lv_iload_n hx hb dX11_back_13 rfl (lv_at hl 1 rfl) ?_
      obtain ⟨kk, ekk⟩ : ∃ zz_ : Nat, (Int32.toNatClampNeg b) = zz_ := ⟨_, rfl⟩
      have hkk : kk < 4 := by rw [← ekk]; exact ia_lt (by omega) (by omega)
      obtain ⟨io, eio⟩ : ∃ zz_ : Nat, ia (Int32.toNatClampNeg b) = zz_ := ⟨_, rfl⟩
      have ekio : ia kk = io := by rw [← ekk]; exact eio
      have hio : Γ io = 2 := by rw [← ekio]; exact him kk hkk
      have hne : ∀ j : Nat, j < 4 → j ≠ kk → ia j ≠ io := fun j hj hn h => hn (hinj j kk hj hkk (h.trans ekio.symm))
      have hmd : ∀ j : Nat, j < 4 → j ≠ kk → tk_fl wt (ia j) 1 3 (.int (md j)) := fun j hj _ => hmd0 j hj
      obtain ⟨mo, emo⟩ : ∃ zz_ : Int32, md kk = zz_ := ⟨_, rfl⟩
      have hfmo : tk_fl wt io 1 3 (.int mo) := by rw [← ekio, ← emo]; exact hmd0 kk hkk
      have hix : ∀ j : Nat, j < 4 → j ≠ kk → tk_fl wt (ia j) 1 5 (.int (ix j)) := fun j hj _ => hix0 j hj
      obtain ⟨xo, exo⟩ : ∃ zz_ : Int32, ix kk = zz_ := ⟨_, rfl⟩
      have hfxo : tk_fl wt io 1 5 (.int xo) := by rw [← ekio, ← exo]; exact hix0 kk hkk
      refine gq_aald hx hb hK hP 1 6 rfl rfl io (ia_in (n := 4) (by omega) (by omega)) (show fi (Int32.toNatClampNeg b) = some io by rw [ekk, hfi kk hkk, ekio]) dX11_back_14 ?_
      refine tr_getK (ci := 1) hx hb ht hown hK hP i_X1 rfl 3 (by decide) wd_383 rfl hfmo dX11_back_15 ?_
      refine lv_if_ne (tgt := 23) hx hb dX11_back_18 (by decide) (fun c_3 => ?_) (fun c_3 => ?_)
      · rw [← Int32.toInt_inj] at c_3
        refine lv_aload_n hx hb dX11_back_23 rfl (lv_at hl 0 rfl) ?_
        refine gq_get hx hb ht hown hK hP i_X11 0 rfl rfl 8 (by decide) wd_505 rfl rfl dX11_back_24 ?_
        refine lv_iload_n hx hb dX11_back_27 rfl (lv_at hl 1 rfl) ?_
        refine gq_aald hx hb hK hP 1 6 rfl rfl io (ia_in (n := 4) (by omega) (by omega)) (show fi (Int32.toNatClampNeg b) = some io by rw [ekk, hfi kk hkk, ekio]) dX11_back_28 ?_
        refine lv_aload_n hx hb dX11_back_29 rfl (lv_at hl 0 rfl) ?_
        refine gq_get hx hb ht hown hK hP i_X11 0 rfl rfl 1 (by decide) wd_498 rfl rfl dX11_back_30 ?_
        refine lv_aload_n hx hb dX11_back_33 rfl (lv_at hl 0 rfl) ?_
        refine gq_get hx hb ht hown hK hP i_X11 0 rfl rfl 3 (by decide) wd_500 rfl rfl dX11_back_34 ?_
        refine lv_aload_n hx hb dX11_back_37 rfl (lv_at hl 0 rfl) ?_
        refine gq_get hx hb ht hown hK hP i_X11 0 rfl rfl 6 (by decide) wd_503 rfl rfl dX11_back_38 ?_
        refine gt_callV (wr := [(h0, .inr (11, [.ref tp, .ref ra1, .ref ra2, .ref ra3, .ref ra4, .ref ra5, .ref ra6, .ref ra7, .ref ra8, .ref ra9, .ref ra10, .ref ra11, .ref ra12, .int rc, .int fo, .int xx])), (ra8, .inl (G.2.2 6, 4, .inr (.inr (.inr (.inr fi)))))]) (va_runV (As := [.ref ra1, .ref ra3, .ref ra6]) (rest := []) ⟨hx, hb, hml, hown, ht⟩ (d_giveBack l G Γ s.heap.size wt hT io ra1 ra3 ra6 hio kr1 kr3 kr6) (cwV 3 ht (ts_gV wd_1242 wd_1243 wd_1244 wd_129 wd_1245) rfl rfl rfl (by decide +kernel) ⟨Nat.le_of_ble_eq_true rfl, Nat.le_of_ble_eq_true rfl⟩) (gt_preW (ci := 1) hK hT (tw_right hP) (tw_rightD hD) hio (by decide) rfl) rfl rfl hl.1 rfl (lv_room (Nat.le_of_ble_eq_true rfl)) dX11_back_41 ⟨Nat.le_of_ble_eq_true rfl, Nat.le_of_ble_eq_true rfl⟩) hP hD hS hA (fun wt H locs hw hP hD hS => ?_)
        obtain ⟨hT, hkp⟩ := hw
        have hW := hW.call (show ∀ x ∈ [203, 709, 900, 901, 902, 903], x ∈ [203, 302, 709, 900, 901, 902, 903] by decide) hkp
        have hfmo := hkp _ _ _ _ (by decide) (by decide) hfmo
        have hfxo := hkp _ _ _ _ (by decide) (by decide) hfxo
        have hmd := fun j hj hn => hkp _ _ _ _ (by decide) (by decide) (hmd j hj hn)
        have hix := fun j hj hn => hkp _ _ _ _ (by decide) (by decide) (hix j hj hn)
        have hP : va_P (gg_D G) classes ([(h0, .inr (11, [.ref tp, .ref ra1, .ref ra2, .ref ra3, .ref ra4, .ref ra5, .ref ra6, .ref ra7, .ref ra8, .ref ra9, .ref ra10, .ref ra11, .ref ra12, .int rc, .int fo, .int xx])), (ra8, .inl (G.2.2 6, 4, .inr (.inr (.inr (.inr fi)))))] ++ wt) H := hP
        have hD : va_D A ([(h0, .inr (11, [.ref tp, .ref ra1, .ref ra2, .ref ra3, .ref ra4, .ref ra5, .ref ra6, .ref ra7, .ref ra8, .ref ra9, .ref ra10, .ref ra11, .ref ra12, .int rc, .int fo, .int xx])), (ra8, .inl (G.2.2 6, 4, .inr (.inr (.inr (.inr fi)))))] ++ wt) := hD
        refine lv_aload_n hx hb dX11_back_44 rfl (lv_at hl 0 rfl) ?_
        refine lv_aload_n hx hb dX11_back_45 rfl (lv_at hl 0 rfl) ?_
        refine gq_get hx hb ht hown hK hP i_X11 0 rfl rfl 8 (by decide) wd_505 rfl rfl dX11_back_46 ?_
        refine lv_iload_n hx hb dX11_back_49 rfl (lv_at hl 1 rfl) ?_
        refine gq_aald hx hb hK hP 1 6 rfl rfl io (ia_in (n := 4) (by omega) (by omega)) (show fi (Int32.toNatClampNeg b) = some io by rw [ekk, hfi kk hkk, ekio]) dX11_back_50 ?_
        refine tr_get (ci := 1) hx hb ht hown hK hT hP hio (by decide) i_X1 rfl 4 (by decide) wd_385 rfl dX11_back_51 (fun v hv hf_4 => ?_)
        obtain ⟨n_5, rfl⟩ := hv
        refine gq_put (ws' := [(h0, .inr (11, [.ref tp, .ref ra1, .ref ra2, .ref ra3, .ref ra4, .ref ra5, .ref ra6, .ref ra7, .ref ra8, .ref ra9, .ref ra10, .ref ra11, .ref ra12, .int rc, .int n_5, .int xx])), (ra8, .inl (G.2.2 6, 4, .inr (.inr (.inr (.inr fi)))))] ++ wt) hx hb ht hown hK hP hD hS i_X11 tyX11 tyX11_ok nmX11 0 rfl rfl 14 (by decide) wd_511 rfl rfl rfl rfl (Nat.le_of_ble_eq_true rfl) rfl dX11_back_54 (fun H locs hP hD hS => ?_)
        refine lv_aload_n hx hb dX11_back_57 rfl (lv_at hl 0 rfl) ?_
        refine lv_aload_n hx hb dX11_back_58 rfl (lv_at hl 0 rfl) ?_
        refine gq_get hx hb ht hown hK hP i_X11 0 rfl rfl 8 (by decide) wd_505 rfl rfl dX11_back_59 ?_
        refine lv_iload_n hx hb dX11_back_62 rfl (lv_at hl 1 rfl) ?_
        refine gq_aald hx hb hK hP 1 6 rfl rfl io (ia_in (n := 4) (by omega) (by omega)) (show fi (Int32.toNatClampNeg b) = some io by rw [ekk, hfi kk hkk, ekio]) dX11_back_63 ?_
        refine tr_getK (ci := 1) hx hb ht hown hK hP i_X1 rfl 5 (by decide) wd_387 rfl hfxo dX11_back_64 ?_
        refine gq_put (ws' := [(h0, .inr (11, [.ref tp, .ref ra1, .ref ra2, .ref ra3, .ref ra4, .ref ra5, .ref ra6, .ref ra7, .ref ra8, .ref ra9, .ref ra10, .ref ra11, .ref ra12, .int rc, .int n_5, .int xo])), (ra8, .inl (G.2.2 6, 4, .inr (.inr (.inr (.inr fi)))))] ++ wt) hx hb ht hown hK hP hD hS i_X11 tyX11 tyX11_ok nmX11 0 rfl rfl 15 (by decide) wd_512 rfl rfl rfl rfl (Nat.le_of_ble_eq_true rfl) rfl dX11_back_67 (fun H locs hP hD hS => ?_)
        refine lv_aload_n hx hb dX11_back_70 rfl (lv_at hl 0 rfl) ?_
        refine gq_get hx hb ht hown hK hP i_X11 0 rfl rfl 5 (by decide) wd_502 rfl rfl dX11_back_71 ?_
        refine gt_callV (wr := [(h0, .inr (11, [.ref tp, .ref ra1, .ref ra2, .ref ra3, .ref ra4, .ref ra5, .ref ra6, .ref ra7, .ref ra8, .ref ra9, .ref ra10, .ref ra11, .ref ra12, .int rc, .int n_5, .int xo])), (ra8, .inl (G.2.2 6, 4, .inr (.inr (.inr (.inr fi)))))]) (va_runV (As := []) (rest := []) ⟨hx, hb, hml, hown, ht⟩ (d_P_forget l G Γ H.size wt hT ra5 kr5) (cwV 0 ht (ts_gV wd_699 wd_700 wd_701 wd_126 wd_702) rfl rfl rfl (by decide +kernel) ⟨Nat.le_of_ble_eq_true rfl, Nat.le_of_ble_eq_true rfl⟩) (gt_preW (ci := 3) hK hT (tw_right hP) (tw_rightD hD) kr5 (by decide) rfl) rfl rfl hl.1 rfl (lv_room (Nat.le_of_ble_eq_true rfl)) dX11_back_74 ⟨Nat.le_of_ble_eq_true rfl, Nat.le_of_ble_eq_true rfl⟩) hP hD hS hA (fun wt H locs hw hP hD hS => ?_)
        obtain ⟨hT, hkp⟩ := hw
        have hW := hW.call (show ∀ x ∈ [302], x ∈ [203, 302, 709, 900, 901, 902, 903] by decide) hkp
        have hfmo := hkp _ _ _ _ (by decide) (by decide) hfmo
        have hfxo := hkp _ _ _ _ (by decide) (by decide) hfxo
        have hf_4 := hkp _ _ _ _ (by decide) (by decide) hf_4
        have hmd := fun j hj hn => hkp _ _ _ _ (by decide) (by decide) (hmd j hj hn)
        have hix := fun j hj hn => hkp _ _ _ _ (by decide) (by decide) (hix j hj hn)
        have hP : va_P (gg_D G) classes ([(h0, .inr (11, [.ref tp, .ref ra1, .ref ra2, .ref ra3, .ref ra4, .ref ra5, .ref ra6, .ref ra7, .ref ra8, .ref ra9, .ref ra10, .ref ra11, .ref ra12, .int rc, .int n_5, .int xo])), (ra8, .inl (G.2.2 6, 4, .inr (.inr (.inr (.inr fi)))))] ++ wt) H := hP
        have hD : va_D A ([(h0, .inr (11, [.ref tp, .ref ra1, .ref ra2, .ref ra3, .ref ra4, .ref ra5, .ref ra6, .ref ra7, .ref ra8, .ref ra9, .ref ra10, .ref ra11, .ref ra12, .int rc, .int n_5, .int xo])), (ra8, .inl (G.2.2 6, 4, .inr (.inr (.inr (.inr fi)))))] ++ wt) := hD
        refine lv_aload_n hx hb dX11_back_77 rfl (lv_at hl 0 rfl) ?_
        refine gq_get hx hb ht hown hK hP i_X11 0 rfl rfl 3 (by decide) wd_500 rfl rfl dX11_back_78 ?_
        refine tr_get (ci := 7) hx hb ht hown hK hT hP kr3 (by decide) i_X7 rfl 9 (by decide) wd_268 rfl dX11_back_81 (fun v hv hf_6 => ?_)
        obtain ⟨n_7, rfl⟩ := hv
        have g1 : (md (Int32.toNatClampNeg b)).toInt = mo.toInt := by rw [ekk, emo]
        have g2 : (ix (Int32.toNatClampNeg b)).toInt = xo.toInt := by rw [ekk, exo]
        have hP9 : va_P (gg_D G) classes ([(h0, .inr (11, [.ref tp, .ref ra1, .ref ra2, .ref ra3, .ref ra4, .ref ra5, .ref ra6, .ref ra7, .ref ra8, .ref ra9, .ref ra10, .ref ra11, .ref ra12, .int rc, .int n_5, .int xo])), (ra8, .inl (G.2.2 6, 4, .inr (.inr (.inr (.inr fi)))))] ++ wt) _ := hP
        have hD9 : va_D A ([(h0, .inr (11, [.ref tp, .ref ra1, .ref ra2, .ref ra3, .ref ra4, .ref ra5, .ref ra6, .ref ra7, .ref ra8, .ref ra9, .ref ra10, .ref ra11, .ref ra12, .int rc, .int n_5, .int xo])), (ra8, .inl (G.2.2 6, 4, .inr (.inr (.inr (.inr fi)))))] ++ wt) := hD
        exact W.iret (v := n_7) hx hb hr (gq_endI (n_5, xo, wt) ⟨hT, hW, (by omega)⟩ hP9 hD9 hS) hS.2.2 dX11_back_84
      · rw [← Int32.toInt_inj] at c_3
        refine lv_iconst (v := (-1)) hx hb dX11_back_21 (by decide +kernel) ?_
        have g1 : (md (Int32.toNatClampNeg b)).toInt = mo.toInt := by rw [ekk, emo]
        have g2 : (ix (Int32.toNatClampNeg b)).toInt = xo.toInt := by rw [ekk, exo]
        have hP9 : va_P (gg_D G) classes ([(h0, .inr (11, [.ref tp, .ref ra1, .ref ra2, .ref ra3, .ref ra4, .ref ra5, .ref ra6, .ref ra7, .ref ra8, .ref ra9, .ref ra10, .ref ra11, .ref ra12, .int rc, .int fo, .int xx])), (ra8, .inl (G.2.2 6, 4, .inr (.inr (.inr (.inr fi)))))] ++ wt) _ := hP
        have hD9 : va_D A ([(h0, .inr (11, [.ref tp, .ref ra1, .ref ra2, .ref ra3, .ref ra4, .ref ra5, .ref ra6, .ref ra7, .ref ra8, .ref ra9, .ref ra10, .ref ra11, .ref ra12, .int rc, .int fo, .int xx])), (ra8, .inl (G.2.2 6, 4, .inr (.inr (.inr (.inr fi)))))] ++ wt) := hD
        exact W.iret (v := (-1)) hx hb hr (gq_endI (fo, xx, wt) ⟨hT, hW, (by omega)⟩ hP9 hD9 hS) hS.2.2 dX11_back_22

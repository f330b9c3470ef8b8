theorem wd_655 : (Jvm.Cond.methodLink "SilentSale$Terms" (92 : Nat) ({ cls := "SilentSale$Tape", name := "number", desc := "(II)I" } : Jvm.MethodName)) ∈ tb_L := tb_in (i := 655) (by decide +kernel) (by decide +kernel)
theorem wd_663 : (Jvm.Cond.code ({ cls := "SilentSale$Terms", name := "readBidder", desc := "(LSilentSale$Tape;)Z" } : Jvm.MethodName) prog_11_method_8_code (4 : Nat) (Option.some Jvm.ClassFile.FieldType.boolean)) ∈ tb_L := tb_in (i := 663) (by decide +kernel) (by decide +kernel)
theorem dX9_readBidder_0 : decode cX9_readBidder 0 = .ok (.aload_n 1, 1) := by decide +kernel
theorem dX9_readBidder_1 : decode cX9_readBidder 1 = .ok (.iconst 0, 1) := by decide +kernel
theorem dX9_readBidder_2 : decode cX9_readBidder 2 = .ok (.sipush 999, 3) := by decide +kernel
theorem dX9_readBidder_5 : decode cX9_readBidder 5 = .ok (.invokevirtual 92, 3) := by decide +kernel
theorem dX9_readBidder_8 : decode cX9_readBidder 8 = .ok (.istore_n 2, 1) := by decide +kernel
theorem dX9_readBidder_9 : decode cX9_readBidder 9 = .ok (.iload_n 2, 1) := by decide +kernel
theorem dX9_readBidder_10 : decode cX9_readBidder 10 = .ok (.iconst (-1), 1) := by decide +kernel
theorem dX9_readBidder_11 : decode cX9_readBidder 11 = .ok (.if_icmp .ne 7, 3) := by decide +kernel
theorem dX9_readBidder_14 : decode cX9_readBidder 14 = .ok (.iconst (-1), 1) := by decide +kernel
theorem dX9_readBidder_15 : decode cX9_readBidder 15 = .ok (.goto 11, 3) := by decide +kernel
theorem dX9_readBidder_18 : decode cX9_readBidder 18 = .ok (.aload_n 1, 1) := by decide +kernel
theorem dX9_readBidder_19 : decode cX9_readBidder 19 = .ok (.iconst 1, 1) := by decide +kernel
theorem dX9_readBidder_20 : decode cX9_readBidder 20 = .ok (.sipush 300, 3) := by decide +kernel
theorem dX9_readBidder_23 : decode cX9_readBidder 23 = .ok (.invokevirtual 92, 3) := by decide +kernel
theorem dX9_readBidder_26 : decode cX9_readBidder 26 = .ok (.istore_n 3, 1) := by decide +kernel
theorem dX9_readBidder_27 : decode cX9_readBidder 27 = .ok (.iload_n 3, 1) := by decide +kernel
theorem dX9_readBidder_28 : decode cX9_readBidder 28 = .ok (.iconst (-1), 1) := by decide +kernel
theorem dX9_readBidder_29 : decode cX9_readBidder 29 = .ok (.if_icmp .eq 11, 3) := by decide +kernel
theorem dX9_readBidder_32 : decode cX9_readBidder 32 = .ok (.aload_n 0, 1) := by decide +kernel
theorem dX9_readBidder_33 : decode cX9_readBidder 33 = .ok (.getfield 15, 3) := by decide +kernel
theorem dX9_readBidder_36 : decode cX9_readBidder 36 = .ok (.iconst 5, 1) := by decide +kernel
theorem dX9_readBidder_37 : decode cX9_readBidder 37 = .ok (.if_icmp .lt 5, 3) := by decide +kernel
theorem dX9_readBidder_40 : decode cX9_readBidder 40 = .ok (.iconst 0, 1) := by decide +kernel
theorem dX9_readBidder_41 : decode cX9_readBidder 41 = .ok (.ireturn, 1) := by decide +kernel
theorem dX9_readBidder_42 : decode cX9_readBidder 42 = .ok (.aload_n 0, 1) := by decide +kernel
theorem dX9_readBidder_43 : decode cX9_readBidder 43 = .ok (.getfield 24, 3) := by decide +kernel
theorem dX9_readBidder_46 : decode cX9_readBidder 46 = .ok (.aload_n 0, 1) := by decide +kernel
theorem dX9_readBidder_47 : decode cX9_readBidder 47 = .ok (.getfield 15, 3) := by decide +kernel
theorem dX9_readBidder_50 : decode cX9_readBidder 50 = .ok (.iload_n 2, 1) := by decide +kernel
theorem dX9_readBidder_51 : decode cX9_readBidder 51 = .ok (.iastore, 1) := by decide +kernel
theorem dX9_readBidder_52 : decode cX9_readBidder 52 = .ok (.aload_n 0, 1) := by decide +kernel
theorem dX9_readBidder_53 : decode cX9_readBidder 53 = .ok (.getfield 28, 3) := by decide +kernel
theorem dX9_readBidder_56 : decode cX9_readBidder 56 = .ok (.aload_n 0, 1) := by decide +kernel
theorem dX9_readBidder_57 : decode cX9_readBidder 57 = .ok (.getfield 15, 3) := by decide +kernel
theorem dX9_readBidder_60 : decode cX9_readBidder 60 = .ok (.iload_n 3, 1) := by decide +kernel
theorem dX9_readBidder_61 : decode cX9_readBidder 61 = .ok (.iastore, 1) := by decide +kernel
theorem dX9_readBidder_62 : decode cX9_readBidder 62 = .ok (.aload_n 0, 1) := by decide +kernel
theorem dX9_readBidder_63 : decode cX9_readBidder 63 = .ok (.dup, 1) := by decide +kernel
theorem dX9_readBidder_64 : decode cX9_readBidder 64 = .ok (.getfield 15, 3) := by decide +kernel
theorem dX9_readBidder_67 : decode cX9_readBidder 67 = .ok (.iconst 1, 1) := by decide +kernel
theorem dX9_readBidder_68 : decode cX9_readBidder 68 = .ok (.iadd, 1) := by decide +kernel
theorem dX9_readBidder_69 : decode cX9_readBidder 69 = .ok (.putfield 15, 3) := by decide +kernel
theorem dX9_readBidder_72 : decode cX9_readBidder 72 = .ok (.iconst 1, 1) := by decide +kernel
theorem dX9_readBidder_73 : decode cX9_readBidder 73 = .ok (.ireturn, 1) := by decide +kernel
theorem wd_667 : (Jvm.Cond.code ({ cls := "SilentSale$Terms", name := "readWorth", desc := "(LSilentSale$Tape;)Z" } : Jvm.MethodName) prog_11_method_9_code (5 : Nat) (Option.some Jvm.ClassFile.FieldType.boolean)) ∈ tb_L := tb_in (i := 667) (by decide +kernel) (by decide +kernel)
theorem dX9_readWorth_0 : decode cX9_readWorth 0 = .ok (.aload_n 1, 1) := by decide +kernel
theorem dX9_readWorth_1 : decode cX9_readWorth 1 = .ok (.iconst 0, 1) := by decide +kernel
theorem dX9_readWorth_2 : decode cX9_readWorth 2 = .ok (.aload_n 0, 1) := by decide +kernel
theorem dX9_readWorth_3 : decode cX9_readWorth 3 = .ok (.getfield 15, 3) := by decide +kernel
theorem dX9_readWorth_6 : decode cX9_readWorth 6 = .ok (.iconst 1, 1) := by decide +kernel
theorem dX9_readWorth_7 : decode cX9_readWorth 7 = .ok (.isub, 1) := by decide +kernel
theorem dX9_readWorth_8 : decode cX9_readWorth 8 = .ok (.invokevirtual 92, 3) := by decide +kernel
theorem dX9_readWorth_11 : decode cX9_readWorth 11 = .ok (.istore_n 2, 1) := by decide +kernel
theorem dX9_readWorth_12 : decode cX9_readWorth 12 = .ok (.iload_n 2, 1) := by decide +kernel
theorem dX9_readWorth_13 : decode cX9_readWorth 13 = .ok (.iconst (-1), 1) := by decide +kernel
theorem dX9_readWorth_14 : decode cX9_readWorth 14 = .ok (.if_icmp .ne 7, 3) := by decide +kernel
theorem dX9_readWorth_17 : decode cX9_readWorth 17 = .ok (.iconst (-1), 1) := by decide +kernel
theorem dX9_readWorth_18 : decode cX9_readWorth 18 = .ok (.goto 14, 3) := by decide +kernel
theorem dX9_readWorth_21 : decode cX9_readWorth 21 = .ok (.aload_n 1, 1) := by decide +kernel
theorem dX9_readWorth_22 : decode cX9_readWorth 22 = .ok (.iconst 0, 1) := by decide +kernel
theorem dX9_readWorth_23 : decode cX9_readWorth 23 = .ok (.aload_n 0, 1) := by decide +kernel
theorem dX9_readWorth_24 : decode cX9_readWorth 24 = .ok (.getfield 18, 3) := by decide +kernel
theorem dX9_readWorth_27 : decode cX9_readWorth 27 = .ok (.iconst 1, 1) := by decide +kernel
theorem dX9_readWorth_28 : decode cX9_readWorth 28 = .ok (.isub, 1) := by decide +kernel
theorem dX9_readWorth_29 : decode cX9_readWorth 29 = .ok (.invokevirtual 92, 3) := by decide +kernel
theorem dX9_readWorth_32 : decode cX9_readWorth 32 = .ok (.istore_n 3, 1) := by decide +kernel
theorem dX9_readWorth_33 : decode cX9_readWorth 33 = .ok (.iload_n 3, 1) := by decide +kernel
theorem dX9_readWorth_34 : decode cX9_readWorth 34 = .ok (.iconst (-1), 1) := by decide +kernel
theorem dX9_readWorth_35 : decode cX9_readWorth 35 = .ok (.if_icmp .ne 7, 3) := by decide +kernel
theorem dX9_readWorth_38 : decode cX9_readWorth 38 = .ok (.iconst (-1), 1) := by decide +kernel
theorem dX9_readWorth_39 : decode cX9_readWorth 39 = .ok (.goto 11, 3) := by decide +kernel
theorem dX9_readWorth_42 : decode cX9_readWorth 42 = .ok (.aload_n 1, 1) := by decide +kernel
theorem dX9_readWorth_43 : decode cX9_readWorth 43 = .ok (.iconst 0, 1) := by decide +kernel
theorem dX9_readWorth_44 : decode cX9_readWorth 44 = .ok (.sipush 300, 3) := by decide +kernel
theorem dX9_readWorth_47 : decode cX9_readWorth 47 = .ok (.invokevirtual 92, 3) := by decide +kernel
theorem dX9_readWorth_50 : decode cX9_readWorth 50 = .ok (.istore 4, 2) := by decide +kernel
theorem dX9_readWorth_52 : decode cX9_readWorth 52 = .ok (.iload 4, 2) := by decide +kernel
theorem dX9_readWorth_54 : decode cX9_readWorth 54 = .ok (.iconst (-1), 1) := by decide +kernel
theorem dX9_readWorth_55 : decode cX9_readWorth 55 = .ok (.if_icmp .ne 5, 3) := by decide +kernel
theorem dX9_readWorth_58 : decode cX9_readWorth 58 = .ok (.iconst 0, 1) := by decide +kernel
theorem dX9_readWorth_59 : decode cX9_readWorth 59 = .ok (.ireturn, 1) := by decide +kernel
theorem dX9_readWorth_60 : decode cX9_readWorth 60 = .ok (.aload_n 0, 1) := by decide +kernel
theorem dX9_readWorth_61 : decode cX9_readWorth 61 = .ok (.getfield 31, 3) := by decide +kernel
theorem dX9_readWorth_64 : decode cX9_readWorth 64 = .ok (.iload_n 2, 1) := by decide +kernel
theorem dX9_readWorth_65 : decode cX9_readWorth 65 = .ok (.iconst 3, 1) := by decide +kernel
theorem dX9_readWorth_66 : decode cX9_readWorth 66 = .ok (.imul, 1) := by decide +kernel
theorem dX9_readWorth_67 : decode cX9_readWorth 67 = .ok (.iload_n 3, 1) := by decide +kernel
theorem dX9_readWorth_68 : decode cX9_readWorth 68 = .ok (.iadd, 1) := by decide +kernel
theorem dX9_readWorth_69 : decode cX9_readWorth 69 = .ok (.iload 4, 2) := by decide +kernel
theorem dX9_readWorth_71 : decode cX9_readWorth 71 = .ok (.iastore, 1) := by decide +kernel
theorem dX9_readWorth_72 : decode cX9_readWorth 72 = .ok (.iconst 1, 1) := by decide +kernel
theorem dX9_readWorth_73 : decode cX9_readWorth 73 = .ok (.ireturn, 1) := by decide +kernel
theorem wd_671 : (Jvm.Cond.code ({ cls := "SilentSale$Terms", name := "readTrick", desc := "(LSilentSale$Tape;)Z" } : Jvm.MethodName) prog_11_method_10_code (4 : Nat) (Option.some Jvm.ClassFile.FieldType.boolean)) ∈ tb_L := tb_in (i := 671) (by decide +kernel) (by decide +kernel)
theorem dX9_readTrick_0 : decode cX9_readTrick 0 = .ok (.aload_n 1, 1) := by decide +kernel
theorem dX9_readTrick_1 : decode cX9_readTrick 1 = .ok (.iconst 0, 1) := by decide +kernel
theorem dX9_readTrick_2 : decode cX9_readTrick 2 = .ok (.bipush 99, 2) := by decide +kernel
theorem dX9_readTrick_4 : decode cX9_readTrick 4 = .ok (.invokevirtual 92, 3) := by decide +kernel
theorem dX9_readTrick_7 : decode cX9_readTrick 7 = .ok (.istore_n 2, 1) := by decide +kernel
theorem dX9_readTrick_8 : decode cX9_readTrick 8 = .ok (.iload_n 2, 1) := by decide +kernel
theorem dX9_readTrick_9 : decode cX9_readTrick 9 = .ok (.iconst (-1), 1) := by decide +kernel
theorem dX9_readTrick_10 : decode cX9_readTrick 10 = .ok (.if_icmp .ne 7, 3) := by decide +kernel
theorem dX9_readTrick_13 : decode cX9_readTrick 13 = .ok (.iconst (-1), 1) := by decide +kernel
theorem dX9_readTrick_14 : decode cX9_readTrick 14 = .ok (.goto 10, 3) := by decide +kernel
theorem dX9_readTrick_17 : decode cX9_readTrick 17 = .ok (.aload_n 1, 1) := by decide +kernel
theorem dX9_readTrick_18 : decode cX9_readTrick 18 = .ok (.iconst 1, 1) := by decide +kernel
theorem dX9_readTrick_19 : decode cX9_readTrick 19 = .ok (.bipush 99, 2) := by decide +kernel
theorem dX9_readTrick_21 : decode cX9_readTrick 21 = .ok (.invokevirtual 92, 3) := by decide +kernel
theorem dX9_readTrick_24 : decode cX9_readTrick 24 = .ok (.istore_n 3, 1) := by decide +kernel
theorem dX9_readTrick_25 : decode cX9_readTrick 25 = .ok (.iload_n 3, 1) := by decide +kernel
theorem dX9_readTrick_26 : decode cX9_readTrick 26 = .ok (.iconst (-1), 1) := by decide +kernel
theorem dX9_readTrick_27 : decode cX9_readTrick 27 = .ok (.if_icmp .eq 11, 3) := by decide +kernel
theorem dX9_readTrick_30 : decode cX9_readTrick 30 = .ok (.aload_n 0, 1) := by decide +kernel
theorem dX9_readTrick_31 : decode cX9_readTrick 31 = .ok (.getfield 21, 3) := by decide +kernel
theorem dX9_readTrick_34 : decode cX9_readTrick 34 = .ok (.iconst 3, 1) := by decide +kernel
theorem dX9_readTrick_35 : decode cX9_readTrick 35 = .ok (.if_icmp .lt 5, 3) := by decide +kernel
theorem dX9_readTrick_38 : decode cX9_readTrick 38 = .ok (.iconst 0, 1) := by decide +kernel
theorem dX9_readTrick_39 : decode cX9_readTrick 39 = .ok (.ireturn, 1) := by decide +kernel
theorem dX9_readTrick_40 : decode cX9_readTrick 40 = .ok (.aload_n 0, 1) := by decide +kernel
theorem dX9_readTrick_41 : decode cX9_readTrick 41 = .ok (.getfield 34, 3) := by decide +kernel
theorem dX9_readTrick_44 : decode cX9_readTrick 44 = .ok (.aload_n 0, 1) := by decide +kernel
theorem dX9_readTrick_45 : decode cX9_readTrick 45 = .ok (.getfield 21, 3) := by decide +kernel
theorem dX9_readTrick_48 : decode cX9_readTrick 48 = .ok (.iload_n 2, 1) := by decide +kernel
theorem dX9_readTrick_49 : decode cX9_readTrick 49 = .ok (.iastore, 1) := by decide +kernel
theorem dX9_readTrick_50 : decode cX9_readTrick 50 = .ok (.aload_n 0, 1) := by decide +kernel
theorem dX9_readTrick_51 : decode cX9_readTrick 51 = .ok (.getfield 37, 3) := by decide +kernel
theorem dX9_readTrick_54 : decode cX9_readTrick 54 = .ok (.aload_n 0, 1) := by decide +kernel
theorem dX9_readTrick_55 : decode cX9_readTrick 55 = .ok (.getfield 21, 3) := by decide +kernel
theorem dX9_readTrick_58 : decode cX9_readTrick 58 = .ok (.iload_n 3, 1) := by decide +kernel
theorem dX9_readTrick_59 : decode cX9_readTrick 59 = .ok (.iastore, 1) := by decide +kernel
theorem dX9_readTrick_60 : decode cX9_readTrick 60 = .ok (.aload_n 0, 1) := by decide +kernel
theorem dX9_readTrick_61 : decode cX9_readTrick 61 = .ok (.dup, 1) := by decide +kernel
theorem dX9_readTrick_62 : decode cX9_readTrick 62 = .ok (.getfield 21, 3) := by decide +kernel
theorem dX9_readTrick_65 : decode cX9_readTrick 65 = .ok (.iconst 1, 1) := by decide +kernel
theorem dX9_readTrick_66 : decode cX9_readTrick 66 = .ok (.iadd, 1) := by decide +kernel
theorem dX9_readTrick_67 : decode cX9_readTrick 67 = .ok (.putfield 21, 3) := by decide +kernel
theorem dX9_readTrick_70 : decode cX9_readTrick 70 = .ok (.iconst 1, 1) := by decide +kernel
theorem dX9_readTrick_71 : decode cX9_readTrick 71 = .ok (.ireturn, 1) := by decide +kernel
set_option maxHeartbeats 4000000 in
set_option maxRecDepth 100000 in
theorem d_readBidder (l : Launch) (G : gg_T) (Γ : Nat → Nat) (sz : Nat) (wt : va_W) (hT : tk_ty G Γ wt) (t : Nat) (tp : Nat) (bp : Nat) (n : Int32) (at_ : Int32) (w_ : Int32) (fl : Int32) (bf : Nat → Int32) (k_t : Γ t = 10) (xp1 : 0 ≤ n.toInt) (xp2 : n.toInt ≤ 400) (xp3 : 0 ≤ at_.toInt) (xp4 : 0 ≤ w_.toInt) (xp5 : at_.toInt + w_.toInt ≤ 400) : Met l yX9_readBidder (ts_L yX9_readBidder cX9_readBidder 4 (some .boolean)) ({ frames := 2, cells := 0, slots := 0, locals := 46 }) (gc_P G ([(tp, .inr (8, [.ref bp, .int n, .int at_, .int w_, .int fl])), (bp, .inl (G.2.2 0, 400, .inl bf))] ++ wt) sz [.ref t, .ref tp]) (gc_I G (va_A ([(tp, .inr (8, [.ref bp, .int n, .int at_, .int w_, .int fl])), (bp, .inl (G.2.2 0, 400, .inl bf))] ++ wt) sz) (fun r (u : (Int32) × (Int32) × (Int32) × va_W) => match u with | (a1, w1, f1, wt1) => tk_ty G Γ wt1 ∧ tk_kp [901] wt wt1 ∧ 0 ≤ a1.toInt ∧ 0 ≤ w1.toInt ∧ a1.toInt + w1.toInt ≤ 400 ∧ 0 ≤ r.toInt ∧ r.toInt ≤ 1) (fun (u : (Int32) × (Int32) × (Int32) × va_W) => match u with | (a1, w1, f1, wt1) => [(tp, .inr (8, [.ref bp, .int n, .int a1, .int w1, .int f1])), (bp, .inl (G.2.2 0, 400, .inl bf))] ++ wt1)) 0 0 (va_A ([(tp, .inr (8, [.ref bp, .int n, .int at_, .int w_, .int fl])), (bp, .inl (G.2.2 0, 400, .inl bf))] ++ wt) sz) := by
  refine Met.ofW (cc := cX9_readBidder) (maxL := 4) (ret := (some .boolean)) (by decide) rfl ?_
  intro p e s m args below meth c s₁ B hml hv
  obtain ⟨rfl, hsz, hP, hK, hD0⟩ := hv
  have hx := B.exec
  have hb := B.bytes
  have hr := B.returns
  have ht := ts_ht (atoms_spec (ws := ts_L yX9_readBidder cX9_readBidder 4 (some .boolean)) B.pre)
  have hown : s.vm.findClass RX9 = some m.cls := findClass_of_methodNamed B.named
  have hlocks := B.notSynchronized
  subst hsz
  have hD := hD0.self (sz := s.heap.size)
  generalize hAe : va_A ([(tp, .inr (8, [.ref bp, .int n, .int at_, .int w_, .int fl])), (bp, .inl (G.2.2 0, 400, .inl bf))] ++ wt) s.heap.size = A at hD ⊢
  have hA : ∀ q : Nat, s.heap.size ≤ q → A q := fun q h => by rw [← hAe]; exact Or.inr h
  clear hAe hD0
  have hS : va_S A s.heap s.heap [] := va_S.rf
  obtain ⟨w0, hw0⟩ : ∃ z, z = wt := ⟨_, rfl⟩
  have hW : tk_kp [901] w0 wt := by rw [hw0]; exact tk_kp.rf
  rw [← hw0]
  clear hw0
  have hP : va_P (gg_D G) classes ([(tp, .inr (8, [.ref bp, .int n, .int at_, .int w_, .int fl])), (bp, .inl (G.2.2 0, 400, .inl bf))] ++ wt) s.heap := hP
  have hD : va_D A ([(tp, .inr (8, [.ref bp, .int n, .int at_, .int w_, .int fl])), (bp, .inl (G.2.2 0, 400, .inl bf))] ++ wt) := hD
  have hl := lv_entry ([.ref t, .ref tp]) (n := 4) (Nat.le_of_ble_eq_true rfl)
  rw [lg_entry_eq]
  generalize (lg_sl ([.ref t, .ref tp]) ++ List.replicate (4 - (lg_sl ([.ref t, .ref tp])).length) Slot.unset).toArray = ls at hl ⊢
  have hl : lv_has ls 4 [(0, .ref t), (1, .ref tp)] := hl
  have lm1 : ((-1) : Int32).toInt = -1 := by decide +kernel
  have l0 : (0 : Int32).toInt = 0 := by decide +kernel
  have l1 : (1 : Int32).toInt = 1 := by decide +kernel
  have l5 : (5 : Int32).toInt = 5 := by decide +kernel
  have l300 : (300 : Int32).toInt = 300 := by decide +kernel
  have l999 : (999 : Int32).toInt = 999 := by decide +kernel
  refine lv_aload_n hx hb dX9_readBidder_0 rfl (lv_at hl 1 rfl) ?_
  refine lv_iconst (v := 0) hx hb dX9_readBidder_1 (by decide +kernel) ?_
  refine lv_sipush (v := 999) hx hb dX9_readBidder_2 (by decide +kernel) ?_
  have hP : va_P (gg_D G) classes ([] ++ ([(tp, .inr (8, [.ref bp, .int n, .int at_, .int w_, .int fl])), (bp, .inl (G.2.2 0, 400, .inl bf))] ++ wt)) s.heap := hP
  have hD : va_D A ([] ++ ([(tp, .inr (8, [.ref bp, .int n, .int at_, .int w_, .int fl])), (bp, .inl (G.2.2 0, 400, .inl bf))] ++ wt)) := hD
  refine gt_callI (wr := []) (va_runV (As := [.int 0, .int 999]) (rest := []) ⟨hx, hb, hml, hown, ht⟩ (d_number l G Γ s.heap.size wt hT 0 999 tp bp n at_ w_ fl bf (by omega) (by omega) (by omega) (by omega) (by omega)) (cwV 2 ht (ts_gV wd_655 wd_656 wd_657 wd_123 wd_658) rfl rfl rfl (by decide +kernel) ⟨Nat.le_of_ble_eq_true rfl, Nat.le_of_ble_eq_true rfl⟩) (gc_preV (ci := 8) (q0 := 0) hK (tw_right hP) (tw_rightD hD) rfl rfl) rfl rfl hl.1 rfl (lv_room (Nat.le_of_ble_eq_true rfl)) dX9_readBidder_5 ⟨Nat.le_of_ble_eq_true rfl, Nat.le_of_ble_eq_true rfl⟩) hP hD hS hA (fun r_1 u H locs hw hP hD hS => ?_)
  obtain ⟨y_2, y_3, y_4, wt⟩ := u
  obtain ⟨hT, hkp, w_5, w_6, w_7, rp_r_1⟩ := hw
  have hW := hW.call (show ∀ x ∈ [], x ∈ [901] by decide) hkp
  have hP : va_P (gg_D G) classes ([(tp, .inr (8, [.ref bp, .int n, .int y_2, .int y_3, .int y_4])), (bp, .inl (G.2.2 0, 400, .inl bf))] ++ wt) H := hP
  have hD : va_D A ([(tp, .inr (8, [.ref bp, .int n, .int y_2, .int y_3, .int y_4])), (bp, .inl (G.2.2 0, 400, .inl bf))] ++ wt) := hD
  refine lv_istore_n (lv' := [(2, .int r_1), (0, .ref t), (1, .ref tp)]) hx hb dX9_readBidder_8 rfl hl (by decide) rfl (fun ls hl => ?_)
  refine lv_iload_n hx hb dX9_readBidder_9 rfl (lv_at hl 0 rfl) ?_
  refine lv_iconst (v := (-1)) hx hb dX9_readBidder_10 (by decide +kernel) ?_
  refine lv_icmp_ne (tgt := 18) hx hb dX9_readBidder_11 (by decide) (fun c_8 => ?_) (fun c_8 => ?_)
  · rw [← Int32.toInt_inj] at c_8
    refine lv_aload_n hx hb dX9_readBidder_18 rfl (lv_at hl 2 rfl) ?_
    refine lv_iconst (v := 1) hx hb dX9_readBidder_19 (by decide +kernel) ?_
    refine lv_sipush (v := 300) hx hb dX9_readBidder_20 (by decide +kernel) ?_
    have hP : va_P (gg_D G) classes ([] ++ ([(tp, .inr (8, [.ref bp, .int n, .int y_2, .int y_3, .int y_4])), (bp, .inl (G.2.2 0, 400, .inl bf))] ++ wt)) H := hP
    have hD : va_D A ([] ++ ([(tp, .inr (8, [.ref bp, .int n, .int y_2, .int y_3, .int y_4])), (bp, .inl (G.2.2 0, 400, .inl bf))] ++ wt)) := hD
    refine gt_callI (wr := []) (va_runV (As := [.int 1, .int 300]) (rest := []) ⟨hx, hb, hml, hown, ht⟩ (d_number l G Γ H.size wt hT 1 300 tp bp n y_2 y_3 y_4 bf (by omega) (by omega) (by omega) (by omega) (by omega)) (cwV 2 ht (ts_gV wd_655 wd_656 wd_657 wd_123 wd_658) rfl rfl rfl (by decide +kernel) ⟨Nat.le_of_ble_eq_true rfl, Nat.le_of_ble_eq_true rfl⟩) (gc_preV (ci := 8) (q0 := 0) hK (tw_right hP) (tw_rightD hD) rfl rfl) rfl rfl hl.1 rfl (lv_room (Nat.le_of_ble_eq_true rfl)) dX9_readBidder_23 ⟨Nat.le_of_ble_eq_true rfl, Nat.le_of_ble_eq_true rfl⟩) hP hD hS hA (fun r_9 u H locs hw hP hD hS => ?_)
    obtain ⟨y_10, y_11, y_12, wt⟩ := u
    obtain ⟨hT, hkp, w_13, w_14, w_15, rp_r_9⟩ := hw
    have hW := hW.call (show ∀ x ∈ [], x ∈ [901] by decide) hkp
    have hP : va_P (gg_D G) classes ([(tp, .inr (8, [.ref bp, .int n, .int y_10, .int y_11, .int y_12])), (bp, .inl (G.2.2 0, 400, .inl bf))] ++ wt) H := hP
    have hD : va_D A ([(tp, .inr (8, [.ref bp, .int n, .int y_10, .int y_11, .int y_12])), (bp, .inl (G.2.2 0, 400, .inl bf))] ++ wt) := hD
    refine lv_istore_n (lv' := [(3, .int r_9), (2, .int r_1), (0, .ref t), (1, .ref tp)]) hx hb dX9_readBidder_26 rfl hl (by decide) rfl (fun ls hl => ?_)
    refine lv_iload_n hx hb dX9_readBidder_27 rfl (lv_at hl 0 rfl) ?_
    refine lv_iconst (v := (-1)) hx hb dX9_readBidder_28 (by decide +kernel) ?_
    refine lv_icmp_eq (tgt := 40) hx hb dX9_readBidder_29 (by decide) (fun c_16 => ?_) (fun c_16 => ?_)
    · rw [← Int32.toInt_inj] at c_16
      refine lv_iconst (v := 0) hx hb dX9_readBidder_40 (by decide +kernel) ?_
      have hP9 : va_P (gg_D G) classes ([(tp, .inr (8, [.ref bp, .int n, .int y_10, .int y_11, .int y_12])), (bp, .inl (G.2.2 0, 400, .inl bf))] ++ wt) _ := hP
      have hD9 : va_D A ([(tp, .inr (8, [.ref bp, .int n, .int y_10, .int y_11, .int y_12])), (bp, .inl (G.2.2 0, 400, .inl bf))] ++ wt) := hD
      exact W.zret (v := 0) hx hb hr (by decide +kernel) (gq_endI (y_10, y_11, y_12, wt) ⟨hT, hW, (by omega), (by omega), (by omega), (by omega), (by omega)⟩ hP9 hD9 hS) hS.2.2 dX9_readBidder_41
    · rw [← Int32.toInt_inj] at c_16
      refine lv_aload_n hx hb dX9_readBidder_32 rfl (lv_at hl 2 rfl) ?_
      refine tr_get (ci := 9) hx hb ht hown hK hT hP k_t (by decide) i_X9 rfl 1 (by decide) wd_182 rfl dX9_readBidder_33 (fun v hv hf_17 => ?_)
      obtain ⟨n_18, rfl, lo_n_18, hi_n_18⟩ := hv
      refine lv_iconst (v := 5) hx hb dX9_readBidder_36 (by decide +kernel) ?_
      refine lv_icmp_lt (tgt := 42) hx hb dX9_readBidder_37 (by decide) (fun c_19 => ?_) (fun c_19 => ?_)
      · rw [Int32.lt_iff_toInt_lt] at c_19
        refine lv_aload_n hx hb dX9_readBidder_42 rfl (lv_at hl 2 rfl) ?_
        refine tr_get (ci := 9) hx hb ht hown hK hT hP k_t (by decide) i_X9 rfl 4 (by decide) wd_194 rfl dX9_readBidder_43 (fun v hv hf_20 => ?_)
        obtain ⟨q_21, rfl, hq_21⟩ := hv
        refine lv_aload_n hx hb dX9_readBidder_46 rfl (lv_at hl 2 rfl) ?_
        refine tr_getK (ci := 9) hx hb ht hown hK hP i_X9 rfl 1 (by decide) wd_182 rfl hf_17 dX9_readBidder_47 ?_
        refine lv_iload_n hx hb dX9_readBidder_50 rfl (lv_at hl 1 rfl) ?_
        refine tr_iast hx hb hK hT hP hD hS 20 hq_21 (by decide) (by decide) (show vp_in _ (tk_len 20) from ia_in (n := 5) (by omega) (by omega)) (show tk_e 20 _ from trivial) dX9_readBidder_51 (fun H locs wt hT hfl hP hD hS => ?_)
        have hW := hW.arr hfl
        have hf_17 := hfl _ _ _ _ hf_17
        refine lv_aload_n hx hb dX9_readBidder_52 rfl (lv_at hl 2 rfl) ?_
        refine tr_get (ci := 9) hx hb ht hown hK hT hP k_t (by decide) i_X9 rfl 5 (by decide) wd_196 rfl dX9_readBidder_53 (fun v hv hf_22 => ?_)
        obtain ⟨q_23, rfl, hq_23⟩ := hv
        refine lv_aload_n hx hb dX9_readBidder_56 rfl (lv_at hl 2 rfl) ?_
        refine tr_getK (ci := 9) hx hb ht hown hK hP i_X9 rfl 1 (by decide) wd_182 rfl hf_17 dX9_readBidder_57 ?_
        refine lv_iload_n hx hb dX9_readBidder_60 rfl (lv_at hl 0 rfl) ?_
        refine tr_iast hx hb hK hT hP hD hS 20 hq_23 (by decide) (by decide) (show vp_in _ (tk_len 20) from ia_in (n := 5) (by omega) (by omega)) (show tk_e 20 _ from trivial) dX9_readBidder_61 (fun H locs wt hT hfl hP hD hS => ?_)
        have hW := hW.arr hfl
        have hf_17 := hfl _ _ _ _ hf_17
        refine lv_aload_n hx hb dX9_readBidder_62 rfl (lv_at hl 2 rfl) ?_
        refine lv_dup hx hb dX9_readBidder_63 rfl ?_
        refine tr_getK (ci := 9) hx hb ht hown hK hP i_X9 rfl 1 (by decide) wd_182 rfl hf_17 dX9_readBidder_64 ?_
        refine lv_iconst (v := 1) hx hb dX9_readBidder_67 (by decide +kernel) ?_
        obtain ⟨t_24, et_24⟩ : ∃ zz_ : Int32, n_18 + 1 = zz_ := ⟨_, rfl⟩
        refine gq_iadd hx hb t_24 et_24 dX9_readBidder_68 ?_
        have ft_24 := ia_add et_24 (by omega) (by omega)
        refine tr_put (ci := 9) hx hb ht hown hK hT hP hD hS k_t (by decide) i_X9 tyX9 tyX9_ok nmX9 rfl 1 (by decide) wd_182 rfl rfl rfl rfl ⟨_, rfl, by omega, by omega⟩ dX9_readBidder_69 (fun H locs wt hT hfl hfn hP hD hS => ?_)
        have hW := hW.obj (show 9 * 100 + 1 ∈ [901] by decide) hfl
        have hf_25 := hfn
        refine lv_iconst (v := 1) hx hb dX9_readBidder_72 (by decide +kernel) ?_
        have hP9 : va_P (gg_D G) classes ([(tp, .inr (8, [.ref bp, .int n, .int y_10, .int y_11, .int y_12])), (bp, .inl (G.2.2 0, 400, .inl bf))] ++ wt) _ := hP
        have hD9 : va_D A ([(tp, .inr (8, [.ref bp, .int n, .int y_10, .int y_11, .int y_12])), (bp, .inl (G.2.2 0, 400, .inl bf))] ++ wt) := hD
        exact W.zret (v := 1) hx hb hr (by decide +kernel) (gq_endI (y_10, y_11, y_12, wt) ⟨hT, hW, (by omega), (by omega), (by omega), (by omega), (by omega)⟩ hP9 hD9 hS) hS.2.2 dX9_readBidder_73
      · rw [Int32.lt_iff_toInt_lt] at c_19
        refine lv_iconst (v := 0) hx hb dX9_readBidder_40 (by decide +kernel) ?_
        have hP9 : va_P (gg_D G) classes ([(tp, .inr (8, [.ref bp, .int n, .int y_10, .int y_11, .int y_12])), (bp, .inl (G.2.2 0, 400, .inl bf))] ++ wt) _ := hP
        have hD9 : va_D A ([(tp, .inr (8, [.ref bp, .int n, .int y_10, .int y_11, .int y_12])), (bp, .inl (G.2.2 0, 400, .inl bf))] ++ wt) := hD
        exact W.zret (v := 0) hx hb hr (by decide +kernel) (gq_endI (y_10, y_11, y_12, wt) ⟨hT, hW, (by omega), (by omega), (by omega), (by omega), (by omega)⟩ hP9 hD9 hS) hS.2.2 dX9_readBidder_41
  · rw [← Int32.toInt_inj] at c_8
    refine lv_iconst (v := (-1)) hx hb dX9_readBidder_14 (by decide +kernel) ?_
    refine lv_goto (tgt := 26) hx hb dX9_readBidder_15 (by decide) ?_
    refine lv_istore_n (lv' := [(3, .int (-1)), (2, .int r_1), (0, .ref t), (1, .ref tp)]) hx hb dX9_readBidder_26 rfl hl (by decide) rfl (fun ls hl => ?_)
    refine lv_iload_n hx hb dX9_readBidder_27 rfl (lv_at hl 0 rfl) ?_
    refine lv_iconst (v := (-1)) hx hb dX9_readBidder_28 (by decide +kernel) ?_
    refine lv_icmp_eq (tgt := 40) hx hb dX9_readBidder_29 (by decide) (fun _ => ?_) (fun c0 => False.elim (by rw [← Int32.toInt_inj] at c0; omega))
    refine lv_iconst (v := 0) hx hb dX9_readBidder_40 (by decide +kernel) ?_
    have hP9 : va_P (gg_D G) classes ([(tp, .inr (8, [.ref bp, .int n, .int y_2, .int y_3, .int y_4])), (bp, .inl (G.2.2 0, 400, .inl bf))] ++ wt) _ := hP
    have hD9 : va_D A ([(tp, .inr (8, [.ref bp, .int n, .int y_2, .int y_3, .int y_4])), (bp, .inl (G.2.2 0, 400, .inl bf))] ++ wt) := hD
    exact W.zret (v := 0) hx hb hr (by decide +kernel) (gq_endI (y_2, y_3, y_4, wt) ⟨hT, hW, (by omega), (by omega), (by omega), (by omega), (by omega)⟩ hP9 hD9 hS) hS.2.2 dX9_readBidder_41
set_option maxHeartbeats 4000000 in
set_option maxRecDepth 100000 in
theorem d_readWorth (l : Launch) (G : gg_T) (Γ : Nat → Nat) (sz : Nat) (wt : va_W) (hT : tk_ty G Γ wt) (t : Nat) (tp : Nat) (bp : Nat) (n : Int32) (at_ : Int32) (w_ : Int32) (fl : Int32) (bf : Nat → Int32) (k_t : Γ t = 10) (xp1 : 0 ≤ n.toInt) (xp2 : n.toInt ≤ 400) (xp3 : 0 ≤ at_.toInt) (xp4 : 0 ≤ w_.toInt) (xp5 : at_.toInt + w_.toInt ≤ 400) : Met l yX9_readWorth (ts_L yX9_readWorth cX9_readWorth 5 (some .boolean)) ({ frames := 2, cells := 0, slots := 0, locals := 46 }) (gc_P G ([(tp, .inr (8, [.ref bp, .int n, .int at_, .int w_, .int fl])), (bp, .inl (G.2.2 0, 400, .inl bf))] ++ wt) sz [.ref t, .ref tp]) (gc_I G (va_A ([(tp, .inr (8, [.ref bp, .int n, .int at_, .int w_, .int fl])), (bp, .inl (G.2.2 0, 400, .inl bf))] ++ wt) sz) (fun r (u : (Int32) × (Int32) × (Int32) × va_W) => match u with | (a1, w1, f1, wt1) => tk_ty G Γ wt1 ∧ tk_kp [] wt wt1 ∧ 0 ≤ a1.toInt ∧ 0 ≤ w1.toInt ∧ a1.toInt + w1.toInt ≤ 400 ∧ 0 ≤ r.toInt ∧ r.toInt ≤ 1) (fun (u : (Int32) × (Int32) × (Int32) × va_W) => match u with | (a1, w1, f1, wt1) => [(tp, .inr (8, [.ref bp, .int n, .int a1, .int w1, .int f1])), (bp, .inl (G.2.2 0, 400, .inl bf))] ++ wt1)) 0 0 (va_A ([(tp, .inr (8, [.ref bp, .int n, .int at_, .int w_, .int fl])), (bp, .inl (G.2.2 0, 400, .inl bf))] ++ wt) sz) := by
  refine Met.ofW (cc := cX9_readWorth) (maxL := 5) (ret := (some .boolean)) (by decide) rfl ?_
  intro p e s m args below meth c s₁ B hml hv
  obtain ⟨rfl, hsz, hP, hK, hD0⟩ := hv
  have hx := B.exec
  have hb := B.bytes
  have hr := B.returns
  have ht := ts_ht (atoms_spec (ws := ts_L yX9_readWorth cX9_readWorth 5 (some .boolean)) B.pre)
  have hown : s.vm.findClass RX9 = some m.cls := findClass_of_methodNamed B.named
  have hlocks := B.notSynchronized
  subst hsz
  have hD := hD0.self (sz := s.heap.size)
  generalize hAe : va_A ([(tp, .inr (8, [.ref bp, .int n, .int at_, .int w_, .int fl])), (bp, .inl (G.2.2 0, 400, .inl bf))] ++ wt) s.heap.size = A at hD ⊢
  have hA : ∀ q : Nat, s.heap.size ≤ q → A q := fun q h => by rw [← hAe]; exact Or.inr h
  clear hAe hD0
  have hS : va_S A s.heap s.heap [] := va_S.rf
  obtain ⟨w0, hw0⟩ : ∃ z, z = wt := ⟨_, rfl⟩
  have hW : tk_kp [] w0 wt := by rw [hw0]; exact tk_kp.rf
  rw [← hw0]
  clear hw0
  have hP : va_P (gg_D G) classes ([(tp, .inr (8, [.ref bp, .int n, .int at_, .int w_, .int fl])), (bp, .inl (G.2.2 0, 400, .inl bf))] ++ wt) s.heap := hP
  have hD : va_D A ([(tp, .inr (8, [.ref bp, .int n, .int at_, .int w_, .int fl])), (bp, .inl (G.2.2 0, 400, .inl bf))] ++ wt) := hD
  have hl := lv_entry ([.ref t, .ref tp]) (n := 5) (Nat.le_of_ble_eq_true rfl)
  rw [lg_entry_eq]
  generalize (lg_sl ([.ref t, .ref tp]) ++ List.replicate (5 - (lg_sl ([.ref t, .ref tp])).length) Slot.unset).toArray = ls at hl ⊢
  have hl : lv_has ls 5 [(0, .ref t), (1, .ref tp)] := hl
  have lm1 : ((-1) : Int32).toInt = -1 := by decide +kernel
  have l0 : (0 : Int32).toInt = 0 := by decide +kernel
  have l1 : (1 : Int32).toInt = 1 := by decide +kernel
  have l3 : (3 : Int32).toInt = 3 := by decide +kernel
  have l300 : (300 : Int32).toInt = 300 := by decide +kernel
  refine lv_aload_n hx hb dX9_readWorth_0 rfl (lv_at hl 1 rfl) ?_
  refine lv_iconst (v := 0) hx hb dX9_readWorth_1 (by decide +kernel) ?_
  refine lv_aload_n hx hb dX9_readWorth_2 rfl (lv_at hl 0 rfl) ?_
  refine tr_get (ci := 9) hx hb ht hown hK hT hP k_t (by decide) i_X9 rfl 1 (by decide) wd_182 rfl dX9_readWorth_3 (fun v hv hf_1 => ?_)
  obtain ⟨n_2, rfl, lo_n_2, hi_n_2⟩ := hv
  refine lv_iconst (v := 1) hx hb dX9_readWorth_6 (by decide +kernel) ?_
  obtain ⟨t_3, et_3⟩ : ∃ zz_ : Int32, n_2 - 1 = zz_ := ⟨_, rfl⟩
  refine gq_isub hx hb t_3 et_3 dX9_readWorth_7 ?_
  have ft_3 := ia_sub et_3 (by omega) (by omega)
  have hP : va_P (gg_D G) classes ([] ++ ([(tp, .inr (8, [.ref bp, .int n, .int at_, .int w_, .int fl])), (bp, .inl (G.2.2 0, 400, .inl bf))] ++ wt)) s.heap := hP
  have hD : va_D A ([] ++ ([(tp, .inr (8, [.ref bp, .int n, .int at_, .int w_, .int fl])), (bp, .inl (G.2.2 0, 400, .inl bf))] ++ wt)) := hD
  refine gt_callI (wr := []) (va_runV (As := [.int 0, .int t_3]) (rest := []) ⟨hx, hb, hml, hown, ht⟩ (d_number l G Γ s.heap.size wt hT 0 t_3 tp bp n at_ w_ fl bf (by omega) (by omega) (by omega) (by omega) (by omega)) (cwV 2 ht (ts_gV wd_655 wd_656 wd_657 wd_123 wd_658) rfl rfl rfl (by decide +kernel) ⟨Nat.le_of_ble_eq_true rfl, Nat.le_of_ble_eq_true rfl⟩) (gc_preV (ci := 8) (q0 := 0) hK (tw_right hP) (tw_rightD hD) rfl rfl) rfl rfl hl.1 rfl (lv_room (Nat.le_of_ble_eq_true rfl)) dX9_readWorth_8 ⟨Nat.le_of_ble_eq_true rfl, Nat.le_of_ble_eq_true rfl⟩) hP hD hS hA (fun r_4 u H locs hw hP hD hS => ?_)
  obtain ⟨y_5, y_6, y_7, wt⟩ := u
  obtain ⟨hT, hkp, w_8, w_9, w_10, rp_r_4⟩ := hw
  have hW := hW.call (show ∀ x ∈ [], x ∈ [] by decide) hkp
  have hf_1 := hkp _ _ _ _ (by decide) (by decide) hf_1
  have hP : va_P (gg_D G) classes ([(tp, .inr (8, [.ref bp, .int n, .int y_5, .int y_6, .int y_7])), (bp, .inl (G.2.2 0, 400, .inl bf))] ++ wt) H := hP
  have hD : va_D A ([(tp, .inr (8, [.ref bp, .int n, .int y_5, .int y_6, .int y_7])), (bp, .inl (G.2.2 0, 400, .inl bf))] ++ wt) := hD
  refine lv_istore_n (lv' := [(2, .int r_4), (0, .ref t), (1, .ref tp)]) hx hb dX9_readWorth_11 rfl hl (by decide) rfl (fun ls hl => ?_)
  refine lv_iload_n hx hb dX9_readWorth_12 rfl (lv_at hl 0 rfl) ?_
  refine lv_iconst (v := (-1)) hx hb dX9_readWorth_13 (by decide +kernel) ?_
  refine lv_icmp_ne (tgt := 21) hx hb dX9_readWorth_14 (by decide) (fun c_11 => ?_) (fun c_11 => ?_)
  · rw [← Int32.toInt_inj] at c_11
    refine lv_aload_n hx hb dX9_readWorth_21 rfl (lv_at hl 2 rfl) ?_
    refine lv_iconst (v := 0) hx hb dX9_readWorth_22 (by decide +kernel) ?_
    refine lv_aload_n hx hb dX9_readWorth_23 rfl (lv_at hl 1 rfl) ?_
    refine tr_get (ci := 9) hx hb ht hown hK hT hP k_t (by decide) i_X9 rfl 2 (by decide) wd_187 rfl dX9_readWorth_24 (fun v hv hf_12 => ?_)
    obtain ⟨n_13, rfl, lo_n_13, hi_n_13⟩ := hv
    refine lv_iconst (v := 1) hx hb dX9_readWorth_27 (by decide +kernel) ?_
    obtain ⟨t_14, et_14⟩ : ∃ zz_ : Int32, n_13 - 1 = zz_ := ⟨_, rfl⟩
    refine gq_isub hx hb t_14 et_14 dX9_readWorth_28 ?_
    have ft_14 := ia_sub et_14 (by omega) (by omega)
    have hP : va_P (gg_D G) classes ([] ++ ([(tp, .inr (8, [.ref bp, .int n, .int y_5, .int y_6, .int y_7])), (bp, .inl (G.2.2 0, 400, .inl bf))] ++ wt)) H := hP
    have hD : va_D A ([] ++ ([(tp, .inr (8, [.ref bp, .int n, .int y_5, .int y_6, .int y_7])), (bp, .inl (G.2.2 0, 400, .inl bf))] ++ wt)) := hD
    refine gt_callI (wr := []) (va_runV (As := [.int 0, .int t_14]) (rest := []) ⟨hx, hb, hml, hown, ht⟩ (d_number l G Γ H.size wt hT 0 t_14 tp bp n y_5 y_6 y_7 bf (by omega) (by omega) (by omega) (by omega) (by omega)) (cwV 2 ht (ts_gV wd_655 wd_656 wd_657 wd_123 wd_658) rfl rfl rfl (by decide +kernel) ⟨Nat.le_of_ble_eq_true rfl, Nat.le_of_ble_eq_true rfl⟩) (gc_preV (ci := 8) (q0 := 0) hK (tw_right hP) (tw_rightD hD) rfl rfl) rfl rfl hl.1 rfl (lv_room (Nat.le_of_ble_eq_true rfl)) dX9_readWorth_29 ⟨Nat.le_of_ble_eq_true rfl, Nat.le_of_ble_eq_true rfl⟩) hP hD hS hA (fun r_15 u H locs hw hP hD hS => ?_)
    obtain ⟨y_16, y_17, y_18, wt⟩ := u
    obtain ⟨hT, hkp, w_19, w_20, w_21, rp_r_15⟩ := hw
    have hW := hW.call (show ∀ x ∈ [], x ∈ [] by decide) hkp
    have hf_1 := hkp _ _ _ _ (by decide) (by decide) hf_1
    have hf_12 := hkp _ _ _ _ (by decide) (by decide) hf_12
    have hP : va_P (gg_D G) classes ([(tp, .inr (8, [.ref bp, .int n, .int y_16, .int y_17, .int y_18])), (bp, .inl (G.2.2 0, 400, .inl bf))] ++ wt) H := hP
    have hD : va_D A ([(tp, .inr (8, [.ref bp, .int n, .int y_16, .int y_17, .int y_18])), (bp, .inl (G.2.2 0, 400, .inl bf))] ++ wt) := hD
    refine lv_istore_n (lv' := [(3, .int r_15), (2, .int r_4), (0, .ref t), (1, .ref tp)]) hx hb dX9_readWorth_32 rfl hl (by decide) rfl (fun ls hl => ?_)
    refine lv_iload_n hx hb dX9_readWorth_33 rfl (lv_at hl 0 rfl) ?_
    refine lv_iconst (v := (-1)) hx hb dX9_readWorth_34 (by decide +kernel) ?_
    refine lv_icmp_ne (tgt := 42) hx hb dX9_readWorth_35 (by decide) (fun c_22 => ?_) (fun c_22 => ?_)
    · rw [← Int32.toInt_inj] at c_22
      refine lv_aload_n hx hb dX9_readWorth_42 rfl (lv_at hl 3 rfl) ?_
      refine lv_iconst (v := 0) hx hb dX9_readWorth_43 (by decide +kernel) ?_
      refine lv_sipush (v := 300) hx hb dX9_readWorth_44 (by decide +kernel) ?_
      have hP : va_P (gg_D G) classes ([] ++ ([(tp, .inr (8, [.ref bp, .int n, .int y_16, .int y_17, .int y_18])), (bp, .inl (G.2.2 0, 400, .inl bf))] ++ wt)) H := hP
      have hD : va_D A ([] ++ ([(tp, .inr (8, [.ref bp, .int n, .int y_16, .int y_17, .int y_18])), (bp, .inl (G.2.2 0, 400, .inl bf))] ++ wt)) := hD
      refine gt_callI (wr := []) (va_runV (As := [.int 0, .int 300]) (rest := []) ⟨hx, hb, hml, hown, ht⟩ (d_number l G Γ H.size wt hT 0 300 tp bp n y_16 y_17 y_18 bf (by omega) (by omega) (by omega) (by omega) (by omega)) (cwV 2 ht (ts_gV wd_655 wd_656 wd_657 wd_123 wd_658) rfl rfl rfl (by decide +kernel) ⟨Nat.le_of_ble_eq_true rfl, Nat.le_of_ble_eq_true rfl⟩) (gc_preV (ci := 8) (q0 := 0) hK (tw_right hP) (tw_rightD hD) rfl rfl) rfl rfl hl.1 rfl (lv_room (Nat.le_of_ble_eq_true rfl)) dX9_readWorth_47 ⟨Nat.le_of_ble_eq_true rfl, Nat.le_of_ble_eq_true rfl⟩) hP hD hS hA (fun r_23 u H locs hw hP hD hS => ?_)
      obtain ⟨y_24, y_25, y_26, wt⟩ := u
      obtain ⟨hT, hkp, w_27, w_28, w_29, rp_r_23⟩ := hw
      have hW := hW.call (show ∀ x ∈ [], x ∈ [] by decide) hkp
      have hf_1 := hkp _ _ _ _ (by decide) (by decide) hf_1
      have hf_12 := hkp _ _ _ _ (by decide) (by decide) hf_12
      have hP : va_P (gg_D G) classes ([(tp, .inr (8, [.ref bp, .int n, .int y_24, .int y_25, .int y_26])), (bp, .inl (G.2.2 0, 400, .inl bf))] ++ wt) H := hP
      have hD : va_D A ([(tp, .inr (8, [.ref bp, .int n, .int y_24, .int y_25, .int y_26])), (bp, .inl (G.2.2 0, 400, .inl bf))] ++ wt) := hD
      refine lv_istore (lv' := [(4, .int r_23), (3, .int r_15), (2, .int r_4), (0, .ref t), (1, .ref tp)]) hx hb dX9_readWorth_50 hl (by decide) rfl (fun ls hl => ?_)
      refine lv_iload hx hb dX9_readWorth_52 (lv_at hl 0 rfl) ?_
      refine lv_iconst (v := (-1)) hx hb dX9_readWorth_54 (by decide +kernel) ?_
      refine lv_icmp_ne (tgt := 60) hx hb dX9_readWorth_55 (by decide) (fun c_30 => ?_) (fun c_30 => ?_)
      · rw [← Int32.toInt_inj] at c_30
        refine lv_aload_n hx hb dX9_readWorth_60 rfl (lv_at hl 3 rfl) ?_
        refine tr_get (ci := 9) hx hb ht hown hK hT hP k_t (by decide) i_X9 rfl 6 (by decide) wd_198 rfl dX9_readWorth_61 (fun v hv hf_31 => ?_)
        obtain ⟨q_32, rfl, hq_32⟩ := hv
        refine lv_iload_n hx hb dX9_readWorth_64 rfl (lv_at hl 2 rfl) ?_
        refine lv_iconst (v := 3) hx hb dX9_readWorth_65 (by decide +kernel) ?_
        obtain ⟨t_33, et_33⟩ : ∃ zz_ : Int32, r_4 * 3 = zz_ := ⟨_, rfl⟩
        refine gq_imul hx hb t_33 et_33 dX9_readWorth_66 ?_
        have ft_33 := ia_mul et_33 (by rw [l3]; omega) (by rw [l3]; omega)
        rw [l3] at ft_33
        refine lv_iload_n hx hb dX9_readWorth_67 rfl (lv_at hl 1 rfl) ?_
        obtain ⟨t_34, et_34⟩ : ∃ zz_ : Int32, t_33 + r_15 = zz_ := ⟨_, rfl⟩
        refine gq_iadd hx hb t_34 et_34 dX9_readWorth_68 ?_
        have ft_34 := ia_add et_34 (by omega) (by omega)
        refine lv_iload hx hb dX9_readWorth_69 (lv_at hl 0 rfl) ?_
        refine tr_iast hx hb hK hT hP hD hS 24 hq_32 (by decide) (by decide) (show vp_in _ (tk_len 24) from ia_in (n := 15) (by omega) (by omega)) (show tk_e 24 _ from trivial) dX9_readWorth_71 (fun H locs wt hT hfl hP hD hS => ?_)
        have hW := hW.arr hfl
        have hf_1 := hfl _ _ _ _ hf_1
        have hf_12 := hfl _ _ _ _ hf_12
        refine lv_iconst (v := 1) hx hb dX9_readWorth_72 (by decide +kernel) ?_
        have hP9 : va_P (gg_D G) classes ([(tp, .inr (8, [.ref bp, .int n, .int y_24, .int y_25, .int y_26])), (bp, .inl (G.2.2 0, 400, .inl bf))] ++ wt) _ := hP
        have hD9 : va_D A ([(tp, .inr (8, [.ref bp, .int n, .int y_24, .int y_25, .int y_26])), (bp, .inl (G.2.2 0, 400, .inl bf))] ++ wt) := hD
        exact W.zret (v := 1) hx hb hr (by decide +kernel) (gq_endI (y_24, y_25, y_26, wt) ⟨hT, hW, (by omega), (by omega), (by omega), (by omega), (by omega)⟩ hP9 hD9 hS) hS.2.2 dX9_readWorth_73
      · rw [← Int32.toInt_inj] at c_30
        refine lv_iconst (v := 0) hx hb dX9_readWorth_58 (by decide +kernel) ?_
        have hP9 : va_P (gg_D G) classes ([(tp, .inr (8, [.ref bp, .int n, .int y_24, .int y_25, .int y_26])), (bp, .inl (G.2.2 0, 400, .inl bf))] ++ wt) _ := hP
        have hD9 : va_D A ([(tp, .inr (8, [.ref bp, .int n, .int y_24, .int y_25, .int y_26])), (bp, .inl (G.2.2 0, 400, .inl bf))] ++ wt) := hD
        exact W.zret (v := 0) hx hb hr (by decide +kernel) (gq_endI (y_24, y_25, y_26, wt) ⟨hT, hW, (by omega), (by omega), (by omega), (by omega), (by omega)⟩ hP9 hD9 hS) hS.2.2 dX9_readWorth_59
    · rw [← Int32.toInt_inj] at c_22
      refine lv_iconst (v := (-1)) hx hb dX9_readWorth_38 (by decide +kernel) ?_
      refine lv_goto (tgt := 50) hx hb dX9_readWorth_39 (by decide) ?_
      refine lv_istore (lv' := [(4, .int (-1)), (3, .int r_15), (2, .int r_4), (0, .ref t), (1, .ref tp)]) hx hb dX9_readWorth_50 hl (by decide) rfl (fun ls hl => ?_)
      refine lv_iload hx hb dX9_readWorth_52 (lv_at hl 0 rfl) ?_
      refine lv_iconst (v := (-1)) hx hb dX9_readWorth_54 (by decide +kernel) ?_
      refine lv_icmp_ne (tgt := 60) hx hb dX9_readWorth_55 (by decide) (fun c0 => False.elim (by rw [← Int32.toInt_inj] at c0; omega)) (fun _ => ?_)
      refine lv_iconst (v := 0) hx hb dX9_readWorth_58 (by decide +kernel) ?_
      have hP9 : va_P (gg_D G) classes ([(tp, .inr (8, [.ref bp, .int n, .int y_16, .int y_17, .int y_18])), (bp, .inl (G.2.2 0, 400, .inl bf))] ++ wt) _ := hP
      have hD9 : va_D A ([(tp, .inr (8, [.ref bp, .int n, .int y_16, .int y_17, .int y_18])), (bp, .inl (G.2.2 0, 400, .inl bf))] ++ wt) := hD
      exact W.zret (v := 0) hx hb hr (by decide +kernel) (gq_endI (y_16, y_17, y_18, wt) ⟨hT, hW, (by omega), (by omega), (by omega), (by omega), (by omega)⟩ hP9 hD9 hS) hS.2.2 dX9_readWorth_59
  · rw [← Int32.toInt_inj] at c_11
    refine lv_iconst (v := (-1)) hx hb dX9_readWorth_17 (by decide +kernel) ?_
    refine lv_goto (tgt := 32) hx hb dX9_readWorth_18 (by decide) ?_
    refine lv_istore_n (lv' := [(3, .int (-1)), (2, .int r_4), (0, .ref t), (1, .ref tp)]) hx hb dX9_readWorth_32 rfl hl (by decide) rfl (fun ls hl => ?_)
    refine lv_iload_n hx hb dX9_readWorth_33 rfl (lv_at hl 0 rfl) ?_
    refine lv_iconst (v := (-1)) hx hb dX9_readWorth_34 (by decide +kernel) ?_
    refine lv_icmp_ne (tgt := 42) hx hb dX9_readWorth_35 (by decide) (fun c0 => False.elim (by rw [← Int32.toInt_inj] at c0; omega)) (fun _ => ?_)
    refine lv_iconst (v := (-1)) hx hb dX9_readWorth_38 (by decide +kernel) ?_
    refine lv_goto (tgt := 50) hx hb dX9_readWorth_39 (by decide) ?_
    refine lv_istore (lv' := [(4, .int (-1)), (3, .int (-1)), (2, .int r_4), (0, .ref t), (1, .ref tp)]) hx hb dX9_readWorth_50 hl (by decide) rfl (fun ls hl => ?_)
    refine lv_iload hx hb dX9_readWorth_52 (lv_at hl 0 rfl) ?_
    refine lv_iconst (v := (-1)) hx hb dX9_readWorth_54 (by decide +kernel) ?_
    refine lv_icmp_ne (tgt := 60) hx hb dX9_readWorth_55 (by decide) (fun c0 => False.elim (by rw [← Int32.toInt_inj] at c0; omega)) (fun _ => ?_)
    refine lv_iconst (v := 0) hx hb dX9_readWorth_58 (by decide +kernel) ?_
    have hP9 : va_P (gg_D G) classes ([(tp, .inr (8, [.ref bp, .int n, .int y_5, .int y_6, .int y_7])), (bp, .inl (G.2.2 0, 400, .inl bf))] ++ wt) _ := hP
    have hD9 : va_D A ([(tp, .inr (8, [.ref bp, .int n, .int y_5, .int y_6, .int y_7])), (bp, .inl (G.2.2 0, 400, .inl bf))] ++ wt) := hD
    exact W.zret (v := 0) hx hb hr (by decide +kernel) (gq_endI (y_5, y_6, y_7, wt) ⟨hT, hW, (by omega), (by omega), (by omega), (by omega), (by omega)⟩ hP9 hD9 hS) hS.2.2 dX9_readWorth_59
set_option maxHeartbeats 4000000 in
set_option maxRecDepth 100000 in
theorem d_readTrick (l : Launch) (G : gg_T) (Γ : Nat → Nat) (sz : Nat) (wt : va_W) (hT : tk_ty G Γ wt) (t : Nat) (tp : Nat) (bp : Nat) (n : Int32) (at_ : Int32) (w_ : Int32) (fl : Int32) (bf : Nat → Int32) (k_t : Γ t = 10) (xp1 : 0 ≤ n.toInt) (xp2 : n.toInt ≤ 400) (xp3 : 0 ≤ at_.toInt) (xp4 : 0 ≤ w_.toInt) (xp5 : at_.toInt + w_.toInt ≤ 400) : Met l yX9_readTrick (ts_L yX9_readTrick cX9_readTrick 4 (some .boolean)) ({ frames := 2, cells := 0, slots := 0, locals := 46 }) (gc_P G ([(tp, .inr (8, [.ref bp, .int n, .int at_, .int w_, .int fl])), (bp, .inl (G.2.2 0, 400, .inl bf))] ++ wt) sz [.ref t, .ref tp]) (gc_I G (va_A ([(tp, .inr (8, [.ref bp, .int n, .int at_, .int w_, .int fl])), (bp, .inl (G.2.2 0, 400, .inl bf))] ++ wt) sz) (fun r (u : (Int32) × (Int32) × (Int32) × va_W) => match u with | (a1, w1, f1, wt1) => tk_ty G Γ wt1 ∧ tk_kp [903] wt wt1 ∧ 0 ≤ a1.toInt ∧ 0 ≤ w1.toInt ∧ a1.toInt + w1.toInt ≤ 400 ∧ 0 ≤ r.toInt ∧ r.toInt ≤ 1) (fun (u : (Int32) × (Int32) × (Int32) × va_W) => match u with | (a1, w1, f1, wt1) => [(tp, .inr (8, [.ref bp, .int n, .int a1, .int w1, .int f1])), (bp, .inl (G.2.2 0, 400, .inl bf))] ++ wt1)) 0 0 (va_A ([(tp, .inr (8, [.ref bp, .int n, .int at_, .int w_, .int fl])), (bp, .inl (G.2.2 0, 400, .inl bf))] ++ wt) sz) := by
  refine Met.ofW (cc := cX9_readTrick) (maxL := 4) (ret := (some .boolean)) (by decide) rfl ?_
  intro p e s m args below meth c s₁ B hml hv
  obtain ⟨rfl, hsz, hP, hK, hD0⟩ := hv
  have hx := B.exec
  have hb := B.bytes
  have hr := B.returns
  have ht := ts_ht (atoms_spec (ws := ts_L yX9_readTrick cX9_readTrick 4 (some .boolean)) B.pre)
  have hown : s.vm.findClass RX9 = some m.cls := findClass_of_methodNamed B.named
  have hlocks := B.notSynchronized
  subst hsz
  have hD := hD0.self (sz := s.heap.size)
  generalize hAe : va_A ([(tp, .inr (8, [.ref bp, .int n, .int at_, .int w_, .int fl])), (bp, .inl (G.2.2 0, 400, .inl bf))] ++ wt) s.heap.size = A at hD ⊢
  have hA : ∀ q : Nat, s.heap.size ≤ q → A q := fun q h => by rw [← hAe]; exact Or.inr h
  clear hAe hD0
  have hS : va_S A s.heap s.heap [] := va_S.rf
  obtain ⟨w0, hw0⟩ : ∃ z, z = wt := ⟨_, rfl⟩
  have hW : tk_kp [903] w0 wt := by rw [hw0]; exact tk_kp.rf
  rw [← hw0]
  clear hw0
  have hP : va_P (gg_D G) classes ([(tp, .inr (8, [.ref bp, .int n, .int at_, .int w_, .int fl])), (bp, .inl (G.2.2 0, 400, .inl bf))] ++ wt) s.heap := hP
  have hD : va_D A ([(tp, .inr (8, [.ref bp, .int n, .int at_, .int w_, .int fl])), (bp, .inl (G.2.2 0, 400, .inl bf))] ++ wt) := hD
  have hl := lv_entry ([.ref t, .ref tp]) (n := 4) (Nat.le_of_ble_eq_true rfl)
  rw [lg_entry_eq]
  generalize (lg_sl ([.ref t, .ref tp]) ++ List.replicate (4 - (lg_sl ([.ref t, .ref tp])).length) Slot.unset).toArray = ls at hl ⊢
  have hl : lv_has ls 4 [(0, .ref t), (1, .ref tp)] := hl
  have lm1 : ((-1) : Int32).toInt = -1 := by decide +kernel
  have l0 : (0 : Int32).toInt = 0 := by decide +kernel
  have l1 : (1 : Int32).toInt = 1 := by decide +kernel
  have l3 : (3 : Int32).toInt = 3 := by decide +kernel
  have l99 : (99 : Int32).toInt = 99 := by decide +kernel
  refine lv_aload_n hx hb dX9_readTrick_0 rfl (lv_at hl 1 rfl) ?_
  refine lv_iconst (v := 0) hx hb dX9_readTrick_1 (by decide +kernel) ?_
  refine lv_bipush (v := 99) hx hb dX9_readTrick_2 (by decide +kernel) ?_
  have hP : va_P (gg_D G) classes ([] ++ ([(tp, .inr (8, [.ref bp, .int n, .int at_, .int w_, .int fl])), (bp, .inl (G.2.2 0, 400, .inl bf))] ++ wt)) s.heap := hP
  have hD : va_D A ([] ++ ([(tp, .inr (8, [.ref bp, .int n, .int at_, .int w_, .int fl])), (bp, .inl (G.2.2 0, 400, .inl bf))] ++ wt)) := hD
  refine gt_callI (wr := []) (va_runV (As := [.int 0, .int 99]) (rest := []) ⟨hx, hb, hml, hown, ht⟩ (d_number l G Γ s.heap.size wt hT 0 99 tp bp n at_ w_ fl bf (by omega) (by omega) (by omega) (by omega) (by omega)) (cwV 2 ht (ts_gV wd_655 wd_656 wd_657 wd_123 wd_658) rfl rfl rfl (by decide +kernel) ⟨Nat.le_of_ble_eq_true rfl, Nat.le_of_ble_eq_true rfl⟩) (gc_preV (ci := 8) (q0 := 0) hK (tw_right hP) (tw_rightD hD) rfl rfl) rfl rfl hl.1 rfl (lv_room (Nat.le_of_ble_eq_true rfl)) dX9_readTrick_4 ⟨Nat.le_of_ble_eq_true rfl, Nat.le_of_ble_eq_true rfl⟩) hP hD hS hA (fun r_1 u H locs hw hP hD hS => ?_)
  obtain ⟨y_2, y_3, y_4, wt⟩ := u
  obtain ⟨hT, hkp, w_5, w_6, w_7, rp_r_1⟩ := hw
  have hW := hW.call (show ∀ x ∈ [], x ∈ [903] by decide) hkp
  have hP : va_P (gg_D G) classes ([(tp, .inr (8, [.ref bp, .int n, .int y_2, .int y_3, .int y_4])), (bp, .inl (G.2.2 0, 400, .inl bf))] ++ wt) H := hP
  have hD : va_D A ([(tp, .inr (8, [.ref bp, .int n, .int y_2, .int y_3, .int y_4])), (bp, .inl (G.2.2 0, 400, .inl bf))] ++ wt) := hD
  refine lv_istore_n (lv' := [(2, .int r_1), (0, .ref t), (1, .ref tp)]) hx hb dX9_readTrick_7 rfl hl (by decide) rfl (fun ls hl => ?_)
  refine lv_iload_n hx hb dX9_readTrick_8 rfl (lv_at hl 0 rfl) ?_
  refine lv_iconst (v := (-1)) hx hb dX9_readTrick_9 (by decide +kernel) ?_
  refine lv_icmp_ne (tgt := 17) hx hb dX9_readTrick_10 (by decide) (fun c_8 => ?_) (fun c_8 => ?_)
  · rw [← Int32.toInt_inj] at c_8
    refine lv_aload_n hx hb dX9_readTrick_17 rfl (lv_at hl 2 rfl) ?_
    refine lv_iconst (v := 1) hx hb dX9_readTrick_18 (by decide +kernel) ?_
    refine lv_bipush (v := 99) hx hb dX9_readTrick_19 (by decide +kernel) ?_
    have hP : va_P (gg_D G) classes ([] ++ ([(tp, .inr (8, [.ref bp, .int n, .int y_2, .int y_3, .int y_4])), (bp, .inl (G.2.2 0, 400, .inl bf))] ++ wt)) H := hP
    have hD : va_D A ([] ++ ([(tp, .inr (8, [.ref bp, .int n, .int y_2, .int y_3, .int y_4])), (bp, .inl (G.2.2 0, 400, .inl bf))] ++ wt)) := hD
    refine gt_callI (wr := []) (va_runV (As := [.int 1, .int 99]) (rest := []) ⟨hx, hb, hml, hown, ht⟩ (d_number l G Γ H.size wt hT 1 99 tp bp n y_2 y_3 y_4 bf (by omega) (by omega) (by omega) (by omega) (by omega)) (cwV 2 ht (ts_gV wd_655 wd_656 wd_657 wd_123 wd_658) rfl rfl rfl (by decide +kernel) ⟨Nat.le_of_ble_eq_true rfl, Nat.le_of_ble_eq_true rfl⟩) (gc_preV (ci := 8) (q0 := 0) hK (tw_right hP) (tw_rightD hD) rfl rfl) rfl rfl hl.1 rfl (lv_room (Nat.le_of_ble_eq_true rfl)) dX9_readTrick_21 ⟨Nat.le_of_ble_eq_true rfl, Nat.le_of_ble_eq_true rfl⟩) hP hD hS hA (fun r_9 u H locs hw hP hD hS => ?_)
    obtain ⟨y_10, y_11, y_12, wt⟩ := u
    obtain ⟨hT, hkp, w_13, w_14, w_15, rp_r_9⟩ := hw
    have hW := hW.call (show ∀ x ∈ [], x ∈ [903] by decide) hkp
    have hP : va_P (gg_D G) classes ([(tp, .inr (8, [.ref bp, .int n, .int y_10, .int y_11, .int y_12])), (bp, .inl (G.2.2 0, 400, .inl bf))] ++ wt) H := hP
    have hD : va_D A ([(tp, .inr (8, [.ref bp, .int n, .int y_10, .int y_11, .int y_12])), (bp, .inl (G.2.2 0, 400, .inl bf))] ++ wt) := hD
    refine lv_istore_n (lv' := [(3, .int r_9), (2, .int r_1), (0, .ref t), (1, .ref tp)]) hx hb dX9_readTrick_24 rfl hl (by decide) rfl (fun ls hl => ?_)
    refine lv_iload_n hx hb dX9_readTrick_25 rfl (lv_at hl 0 rfl) ?_
    refine lv_iconst (v := (-1)) hx hb dX9_readTrick_26 (by decide +kernel) ?_
    refine lv_icmp_eq (tgt := 38) hx hb dX9_readTrick_27 (by decide) (fun c_16 => ?_) (fun c_16 => ?_)
    · rw [← Int32.toInt_inj] at c_16
      refine lv_iconst (v := 0) hx hb dX9_readTrick_38 (by decide +kernel) ?_
      have hP9 : va_P (gg_D G) classes ([(tp, .inr (8, [.ref bp, .int n, .int y_10, .int y_11, .int y_12])), (bp, .inl (G.2.2 0, 400, .inl bf))] ++ wt) _ := hP
      have hD9 : va_D A ([(tp, .inr (8, [.ref bp, .int n, .int y_10, .int y_11, .int y_12])), (bp, .inl (G.2.2 0, 400, .inl bf))] ++ wt) := hD
      exact W.zret (v := 0) hx hb hr (by decide +kernel) (gq_endI (y_10, y_11, y_12, wt) ⟨hT, hW, (by omega), (by omega), (by omega), (by omega), (by omega)⟩ hP9 hD9 hS) hS.2.2 dX9_readTrick_39
    · rw [← Int32.toInt_inj] at c_16
      refine lv_aload_n hx hb dX9_readTrick_30 rfl (lv_at hl 2 rfl) ?_
      refine tr_get (ci := 9) hx hb ht hown hK hT hP k_t (by decide) i_X9 rfl 3 (by decide) wd_191 rfl dX9_readTrick_31 (fun v hv hf_17 => ?_)
      obtain ⟨n_18, rfl, lo_n_18, hi_n_18⟩ := hv
      refine lv_iconst (v := 3) hx hb dX9_readTrick_34 (by decide +kernel) ?_
      refine lv_icmp_lt (tgt := 40) hx hb dX9_readTrick_35 (by decide) (fun c_19 => ?_) (fun c_19 => ?_)
      · rw [Int32.lt_iff_toInt_lt] at c_19
        refine lv_aload_n hx hb dX9_readTrick_40 rfl (lv_at hl 2 rfl) ?_
        refine tr_get (ci := 9) hx hb ht hown hK hT hP k_t (by decide) i_X9 rfl 7 (by decide) wd_199 rfl dX9_readTrick_41 (fun v hv hf_20 => ?_)
        obtain ⟨q_21, rfl, hq_21⟩ := hv
        refine lv_aload_n hx hb dX9_readTrick_44 rfl (lv_at hl 2 rfl) ?_
        refine tr_getK (ci := 9) hx hb ht hown hK hP i_X9 rfl 3 (by decide) wd_191 rfl hf_17 dX9_readTrick_45 ?_
        refine lv_iload_n hx hb dX9_readTrick_48 rfl (lv_at hl 1 rfl) ?_
        refine tr_iast hx hb hK hT hP hD hS 21 hq_21 (by decide) (by decide) (show vp_in _ (tk_len 21) from ia_in (n := 3) (by omega) (by omega)) (show tk_e 21 _ from trivial) dX9_readTrick_49 (fun H locs wt hT hfl hP hD hS => ?_)
        have hW := hW.arr hfl
        have hf_17 := hfl _ _ _ _ hf_17
        refine lv_aload_n hx hb dX9_readTrick_50 rfl (lv_at hl 2 rfl) ?_
        refine tr_get (ci := 9) hx hb ht hown hK hT hP k_t (by decide) i_X9 rfl 8 (by decide) wd_203 rfl dX9_readTrick_51 (fun v hv hf_22 => ?_)
        obtain ⟨q_23, rfl, hq_23⟩ := hv
        refine lv_aload_n hx hb dX9_readTrick_54 rfl (lv_at hl 2 rfl) ?_
        refine tr_getK (ci := 9) hx hb ht hown hK hP i_X9 rfl 3 (by decide) wd_191 rfl hf_17 dX9_readTrick_55 ?_
        refine lv_iload_n hx hb dX9_readTrick_58 rfl (lv_at hl 0 rfl) ?_
        refine tr_iast hx hb hK hT hP hD hS 21 hq_23 (by decide) (by decide) (show vp_in _ (tk_len 21) from ia_in (n := 3) (by omega) (by omega)) (show tk_e 21 _ from trivial) dX9_readTrick_59 (fun H locs wt hT hfl hP hD hS => ?_)
        have hW := hW.arr hfl
        have hf_17 := hfl _ _ _ _ hf_17
        refine lv_aload_n hx hb dX9_readTrick_60 rfl (lv_at hl 2 rfl) ?_
        refine lv_dup hx hb dX9_readTrick_61 rfl ?_
        refine tr_getK (ci := 9) hx hb ht hown hK hP i_X9 rfl 3 (by decide) wd_191 rfl hf_17 dX9_readTrick_62 ?_
        refine lv_iconst (v := 1) hx hb dX9_readTrick_65 (by decide +kernel) ?_
        obtain ⟨t_24, et_24⟩ : ∃ zz_ : Int32, n_18 + 1 = zz_ := ⟨_, rfl⟩
        refine gq_iadd hx hb t_24 et_24 dX9_readTrick_66 ?_
        have ft_24 := ia_add et_24 (by omega) (by omega)
        refine tr_put (ci := 9) hx hb ht hown hK hT hP hD hS k_t (by decide) i_X9 tyX9 tyX9_ok nmX9 rfl 3 (by decide) wd_191 rfl rfl rfl rfl ⟨_, rfl, by omega, by omega⟩ dX9_readTrick_67 (fun H locs wt hT hfl hfn hP hD hS => ?_)
        have hW := hW.obj (show 9 * 100 + 3 ∈ [903] by decide) hfl
        have hf_25 := hfn
        refine lv_iconst (v := 1) hx hb dX9_readTrick_70 (by decide +kernel) ?_
        have hP9 : va_P (gg_D G) classes ([(tp, .inr (8, [.ref bp, .int n, .int y_10, .int y_11, .int y_12])), (bp, .inl (G.2.2 0, 400, .inl bf))] ++ wt) _ := hP
        have hD9 : va_D A ([(tp, .inr (8, [.ref bp, .int n, .int y_10, .int y_11, .int y_12])), (bp, .inl (G.2.2 0, 400, .inl bf))] ++ wt) := hD
        exact W.zret (v := 1) hx hb hr (by decide +kernel) (gq_endI (y_10, y_11, y_12, wt) ⟨hT, hW, (by omega), (by omega), (by omega), (by omega), (by omega)⟩ hP9 hD9 hS) hS.2.2 dX9_readTrick_71
      · rw [Int32.lt_iff_toInt_lt] at c_19
        refine lv_iconst (v := 0) hx hb dX9_readTrick_38 (by decide +kernel) ?_
        have hP9 : va_P (gg_D G) classes ([(tp, .inr (8, [.ref bp, .int n, .int y_10, .int y_11, .int y_12])), (bp, .inl (G.2.2 0, 400, .inl bf))] ++ wt) _ := hP
        have hD9 : va_D A ([(tp, .inr (8, [.ref bp, .int n, .int y_10, .int y_11, .int y_12])), (bp, .inl (G.2.2 0, 400, .inl bf))] ++ wt) := hD
        exact W.zret (v := 0) hx hb hr (by decide +kernel) (gq_endI (y_10, y_11, y_12, wt) ⟨hT, hW, (by omega), (by omega), (by omega), (by omega), (by omega)⟩ hP9 hD9 hS) hS.2.2 dX9_readTrick_39
  · rw [← Int32.toInt_inj] at c_8
    refine lv_iconst (v := (-1)) hx hb dX9_readTrick_13 (by decide +kernel) ?_
    refine lv_goto (tgt := 24) hx hb dX9_readTrick_14 (by decide) ?_
    refine lv_istore_n (lv' := [(3, .int (-1)), (2, .int r_1), (0, .ref t), (1, .ref tp)]) hx hb dX9_readTrick_24 rfl hl (by decide) rfl (fun ls hl => ?_)
    refine lv_iload_n hx hb dX9_readTrick_25 rfl (lv_at hl 0 rfl) ?_
    refine lv_iconst (v := (-1)) hx hb dX9_readTrick_26 (by decide +kernel) ?_
    refine lv_icmp_eq (tgt := 38) hx hb dX9_readTrick_27 (by decide) (fun _ => ?_) (fun c0 => False.elim (by rw [← Int32.toInt_inj] at c0; omega))
    refine lv_iconst (v := 0) hx hb dX9_readTrick_38 (by decide +kernel) ?_
    have hP9 : va_P (gg_D G) classes ([(tp, .inr (8, [.ref bp, .int n, .int y_2, .int y_3, .int y_4])), (bp, .inl (G.2.2 0, 400, .inl bf))] ++ wt) _ := hP
    have hD9 : va_D A ([(tp, .inr (8, [.ref bp, .int n, .int y_2, .int y_3, .int y_4])), (bp, .inl (G.2.2 0, 400, .inl bf))] ++ wt) := hD
    exact W.zret (v := 0) hx hb hr (by decide +kernel) (gq_endI (y_2, y_3, y_4, wt) ⟨hT, hW, (by omega), (by omega), (by omega), (by omega), (by omega)⟩ hP9 hD9 hS) hS.2.2 dX9_readTrick_39

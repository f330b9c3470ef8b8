theorem wd_157 : (Jvm.Cond.fieldLink "SilentSale$Tape" (15 : Nat) "SilentSale$Tape" "length" "I") ∈ tb_L := tb_in (i := 157) (by decide +kernel) (by decide +kernel)
theorem wd_553 : (Jvm.Cond.code ({ cls := "SilentSale$Tape", name := "size", desc := "()I" } : Jvm.MethodName) prog_10_method_2_code (1 : Nat) (Option.some Jvm.ClassFile.FieldType.int)) ∈ tb_L := tb_in (i := 553) (by decide +kernel) (by decide +kernel)
theorem dX8_size_0 : decode cX8_size 0 = .ok (.aload_n 0, 1) := by decide +kernel
theorem dX8_size_1 : decode cX8_size 1 = .ok (.getfield 15, 3) := by decide +kernel
theorem dX8_size_4 : decode cX8_size 4 = .ok (.ireturn, 1) := by decide +kernel
theorem wd_158 : (Jvm.Cond.fieldLink "SilentSale$Tape" (19 : Nat) "SilentSale$Tape" "at" "I") ∈ tb_L := tb_in (i := 158) (by decide +kernel) (by decide +kernel)
theorem wd_642 : (Jvm.Cond.code ({ cls := "SilentSale$Tape", name := "place", desc := "()I" } : Jvm.MethodName) prog_10_method_7_code (1 : Nat) (Option.some Jvm.ClassFile.FieldType.int)) ∈ tb_L := tb_in (i := 642) (by decide +kernel) (by decide +kernel)
theorem dX8_place_0 : decode cX8_place 0 = .ok (.aload_n 0, 1) := by decide +kernel
theorem dX8_place_1 : decode cX8_place 1 = .ok (.getfield 19, 3) := by decide +kernel
theorem dX8_place_4 : decode cX8_place 4 = .ok (.ireturn, 1) := by decide +kernel
theorem wd_160 : (Jvm.Cond.fieldLink "SilentSale$Tape" (25 : Nat) "SilentSale$Tape" "fault" "I") ∈ tb_L := tb_in (i := 160) (by decide +kernel) (by decide +kernel)
theorem wd_687 : (Jvm.Cond.code ({ cls := "SilentSale$Tape", name := "firstFault", desc := "()I" } : Jvm.MethodName) prog_10_method_8_code (1 : Nat) (Option.some Jvm.ClassFile.FieldType.int)) ∈ tb_L := tb_in (i := 687) (by decide +kernel) (by decide +kernel)
theorem dX8_firstFault_0 : decode cX8_firstFault 0 = .ok (.aload_n 0, 1) := by decide +kernel
theorem dX8_firstFault_1 : decode cX8_firstFault 1 = .ok (.getfield 25, 3) := by decide +kernel
theorem dX8_firstFault_4 : decode cX8_firstFault 4 = .ok (.ireturn, 1) := by decide +kernel
theorem wd_565 : (Jvm.Cond.code ({ cls := "SilentSale$Tape", name := "cut", desc := "(I)V" } : Jvm.MethodName) prog_10_method_4_code (2 : Nat) (Option.none : Option Jvm.ClassFile.FieldType)) ∈ tb_L := tb_in (i := 565) (by decide +kernel) (by decide +kernel)
theorem dX8_cut_0 : decode cX8_cut 0 = .ok (.iload_n 1, 1) := by decide +kernel
theorem dX8_cut_1 : decode cX8_cut 1 = .ok (.ifCond .lt 16, 3) := by decide +kernel
theorem dX8_cut_4 : decode cX8_cut 4 = .ok (.iload_n 1, 1) := by decide +kernel
theorem dX8_cut_5 : decode cX8_cut 5 = .ok (.aload_n 0, 1) := by decide +kernel
theorem dX8_cut_6 : decode cX8_cut 6 = .ok (.getfield 15, 3) := by decide +kernel
theorem dX8_cut_9 : decode cX8_cut 9 = .ok (.if_icmp .gt 8, 3) := by decide +kernel
theorem dX8_cut_12 : decode cX8_cut 12 = .ok (.aload_n 0, 1) := by decide +kernel
theorem dX8_cut_13 : decode cX8_cut 13 = .ok (.iload_n 1, 1) := by decide +kernel
theorem dX8_cut_14 : decode cX8_cut 14 = .ok (.putfield 15, 3) := by decide +kernel
theorem dX8_cut_17 : decode cX8_cut 17 = .ok (.return_, 1) := by decide +kernel
theorem wd_159 : (Jvm.Cond.fieldLink "SilentSale$Tape" (22 : Nat) "SilentSale$Tape" "wordSize" "I") ∈ tb_L := tb_in (i := 159) (by decide +kernel) (by decide +kernel)
theorem wd_581 : (Jvm.Cond.code ({ cls := "SilentSale$Tape", name := "goTo", desc := "(I)V" } : Jvm.MethodName) prog_10_method_6_code (2 : Nat) (Option.none : Option Jvm.ClassFile.FieldType)) ∈ tb_L := tb_in (i := 581) (by decide +kernel) (by decide +kernel)
theorem dX8_goTo_0 : decode cX8_goTo 0 = .ok (.aload_n 0, 1) := by decide +kernel
theorem dX8_goTo_1 : decode cX8_goTo 1 = .ok (.iload_n 1, 1) := by decide +kernel
theorem dX8_goTo_2 : decode cX8_goTo 2 = .ok (.putfield 19, 3) := by decide +kernel
theorem dX8_goTo_5 : decode cX8_goTo 5 = .ok (.aload_n 0, 1) := by decide +kernel
theorem dX8_goTo_6 : decode cX8_goTo 6 = .ok (.getfield 19, 3) := by decide +kernel
theorem dX8_goTo_9 : decode cX8_goTo 9 = .ok (.aload_n 0, 1) := by decide +kernel
theorem dX8_goTo_10 : decode cX8_goTo 10 = .ok (.getfield 15, 3) := by decide +kernel
theorem dX8_goTo_13 : decode cX8_goTo 13 = .ok (.if_icmp .ge 30, 3) := by decide +kernel
theorem dX8_goTo_43 : decode cX8_goTo 43 = .ok (.aload_n 0, 1) := by decide +kernel
theorem dX8_goTo_44 : decode cX8_goTo 44 = .ok (.iconst 0, 1) := by decide +kernel
theorem dX8_goTo_45 : decode cX8_goTo 45 = .ok (.putfield 22, 3) := by decide +kernel
theorem dX8_goTo_48 : decode cX8_goTo 48 = .ok (.aload_n 0, 1) := by decide +kernel
theorem dX8_goTo_49 : decode cX8_goTo 49 = .ok (.getfield 19, 3) := by decide +kernel
theorem dX8_goTo_52 : decode cX8_goTo 52 = .ok (.aload_n 0, 1) := by decide +kernel
theorem dX8_goTo_53 : decode cX8_goTo 53 = .ok (.getfield 22, 3) := by decide +kernel
theorem dX8_goTo_56 : decode cX8_goTo 56 = .ok (.iadd, 1) := by decide +kernel
theorem dX8_goTo_57 : decode cX8_goTo 57 = .ok (.aload_n 0, 1) := by decide +kernel
theorem dX8_goTo_58 : decode cX8_goTo 58 = .ok (.getfield 15, 3) := by decide +kernel
theorem dX8_goTo_61 : decode cX8_goTo 61 = .ok (.if_icmp .ge 54, 3) := by decide +kernel
theorem dX8_goTo_115 : decode cX8_goTo 115 = .ok (.return_, 1) := by decide +kernel
theorem wd_0 : (Jvm.Cond.selects "SilentSale$Tape" ({ cls := "SilentSale$Tape", name := "goTo", desc := "(I)V" } : Jvm.MethodName) ({ cls := "SilentSale$Tape", name := "goTo", desc := "(I)V" } : Jvm.MethodName)) ∈ tb_L := tb_in (i := 0) (by decide +kernel) (by decide +kernel)
theorem wd_123 : (Jvm.Cond.initialized "SilentSale$Tape") ∈ tb_L := tb_in (i := 123) (by decide +kernel) (by decide +kernel)
theorem wd_577 : (Jvm.Cond.code ({ cls := "SilentSale$Tape", name := "rewind", desc := "()V" } : Jvm.MethodName) prog_10_method_5_code (1 : Nat) (Option.none : Option Jvm.ClassFile.FieldType)) ∈ tb_L := tb_in (i := 577) (by decide +kernel) (by decide +kernel)
theorem wd_578 : (Jvm.Cond.methodLink "SilentSale$Tape" (28 : Nat) ({ cls := "SilentSale$Tape", name := "goTo", desc := "(I)V" } : Jvm.MethodName)) ∈ tb_L := tb_in (i := 578) (by decide +kernel) (by decide +kernel)
theorem wd_580 : (Jvm.Cond.instanceMethod ({ cls := "SilentSale$Tape", name := "goTo", desc := "(I)V" } : Jvm.MethodName)) ∈ tb_L := tb_in (i := 580) (by decide +kernel) (by decide +kernel)
theorem dX8_rewind_0 : decode cX8_rewind 0 = .ok (.aload_n 0, 1) := by decide +kernel
theorem dX8_rewind_1 : decode cX8_rewind 1 = .ok (.iconst 0, 1) := by decide +kernel
theorem dX8_rewind_2 : decode cX8_rewind 2 = .ok (.putfield 25, 3) := by decide +kernel
theorem dX8_rewind_5 : decode cX8_rewind 5 = .ok (.aload_n 0, 1) := by decide +kernel
theorem dX8_rewind_6 : decode cX8_rewind 6 = .ok (.iconst 0, 1) := by decide +kernel
theorem dX8_rewind_7 : decode cX8_rewind 7 = .ok (.invokevirtual 28, 3) := by decide +kernel
theorem dX8_rewind_10 : decode cX8_rewind 10 = .ok (.return_, 1) := by decide +kernel
theorem wd_646 : (Jvm.Cond.code ({ cls := "SilentSale$Tape", name := "refuse", desc := "(II)Z" } : Jvm.MethodName) prog_10_method_9_code (3 : Nat) (Option.some Jvm.ClassFile.FieldType.boolean)) ∈ tb_L := tb_in (i := 646) (by decide +kernel) (by decide +kernel)
theorem dX8_refuse_0 : decode cX8_refuse 0 = .ok (.aload_n 0, 1) := by decide +kernel
theorem dX8_refuse_1 : decode cX8_refuse 1 = .ok (.getfield 25, 3) := by decide +kernel
theorem dX8_refuse_4 : decode cX8_refuse 4 = .ok (.ifCond .ne 15, 3) := by decide +kernel
theorem dX8_refuse_7 : decode cX8_refuse 7 = .ok (.aload_n 0, 1) := by decide +kernel
theorem dX8_refuse_8 : decode cX8_refuse 8 = .ok (.iconst 1, 1) := by decide +kernel
theorem dX8_refuse_9 : decode cX8_refuse 9 = .ok (.bipush 8, 2) := by decide +kernel
theorem dX8_refuse_11 : decode cX8_refuse 11 = .ok (.iload_n 1, 1) := by decide +kernel
theorem dX8_refuse_12 : decode cX8_refuse 12 = .ok (.imul, 1) := by decide +kernel
theorem dX8_refuse_13 : decode cX8_refuse 13 = .ok (.iadd, 1) := by decide +kernel
theorem dX8_refuse_14 : decode cX8_refuse 14 = .ok (.iload_n 2, 1) := by decide +kernel
theorem dX8_refuse_15 : decode cX8_refuse 15 = .ok (.iadd, 1) := by decide +kernel
theorem dX8_refuse_16 : decode cX8_refuse 16 = .ok (.putfield 25, 3) := by decide +kernel
theorem dX8_refuse_19 : decode cX8_refuse 19 = .ok (.iconst 0, 1) := by decide +kernel
theorem dX8_refuse_20 : decode cX8_refuse 20 = .ok (.ireturn, 1) := by decide +kernel
set_option maxHeartbeats 4000000 in
set_option maxRecDepth 100000 in
theorem c_Tape_size (l : Launch) (G : gg_T) (sz : Nat) (t : Nat) (b : Nat) (n : Int32) (at_ : Int32) (w : Int32) (fl : Int32) : Met l yX8_size (ts_L yX8_size cX8_size 1 (some .int)) ({ frames := 0, cells := 0, slots := 0, locals := 0 }) (gc_P G [(t, .inr (8, [.ref b, .int n, .int at_, .int w, .int fl]))] sz [.ref t]) (gc_I G (va_A [(t, .inr (8, [.ref b, .int n, .int at_, .int w, .int fl]))] sz) (fun r (_ : Unit) => r = n) (fun _ => [(t, .inr (8, [.ref b, .int n, .int at_, .int w, .int fl]))])) 0 0 (va_A [(t, .inr (8, [.ref b, .int n, .int at_, .int w, .int fl]))] sz) := by
  refine Met.ofW (cc := cX8_size) (maxL := 1) (ret := (some .int)) (by decide) rfl ?_
  intro p e s m args below meth c s₁ B hml hv
  obtain ⟨rfl, hsz, hP, hK, hD0⟩ := hv
  have hx := B.exec
  have hb := B.bytes
  have hr := B.returns
  have ht := ts_ht (atoms_spec (ws := ts_L yX8_size cX8_size 1 (some .int)) B.pre)
  have hown : s.vm.findClass RX8 = some m.cls := findClass_of_methodNamed B.named
  have hlocks := B.notSynchronized
  subst hsz
  have hD := hD0.self (sz := s.heap.size)
  generalize hAe : va_A [(t, .inr (8, [.ref b, .int n, .int at_, .int w, .int fl]))] s.heap.size = A at hD ⊢
  have hA : ∀ q : Nat, s.heap.size ≤ q → A q := fun q h => by rw [← hAe]; exact Or.inr h
  have hS : va_S A s.heap s.heap [] := va_S.rf
  have hl := lv_entry ([.ref t]) (n := 1) (Nat.le_of_ble_eq_true rfl)
  rw [lg_entry_eq]
  generalize (lg_sl ([.ref t]) ++ List.replicate (1 - (lg_sl ([.ref t])).length) Slot.unset).toArray = ls at hl ⊢
  have hl : lv_has ls 1 [(0, .ref t)] := hl
  refine lv_aload_n hx hb dX8_size_0 rfl (lv_at hl 0 rfl) ?_
  refine gq_get hx hb ht hown hK hP i_X8 0 rfl rfl 1 (by decide) wd_157 rfl rfl dX8_size_1 ?_
  have hP9 := hP.sub (ws' := [(t, .inr (8, [.ref b, .int n, .int at_, .int w, .int fl]))]) [0] rfl
  have hD9 := hD.sub (ws' := [(t, .inr (8, [.ref b, .int n, .int at_, .int w, .int fl]))]) [0] (by decide) rfl
  exact W.iret (v := n) hx hb hr (gq_endI () rfl hP9 hD9 hS) hS.2.2 dX8_size_4
set_option maxHeartbeats 4000000 in
set_option maxRecDepth 100000 in
theorem c_Tape_place (l : Launch) (G : gg_T) (sz : Nat) (t : Nat) (b : Nat) (n : Int32) (at_ : Int32) (w : Int32) (fl : Int32) : Met l yX8_place (ts_L yX8_place cX8_place 1 (some .int)) ({ frames := 0, cells := 0, slots := 0, locals := 0 }) (gc_P G [(t, .inr (8, [.ref b, .int n, .int at_, .int w, .int fl]))] sz [.ref t]) (gc_I G (va_A [(t, .inr (8, [.ref b, .int n, .int at_, .int w, .int fl]))] sz) (fun r (_ : Unit) => r = at_) (fun _ => [(t, .inr (8, [.ref b, .int n, .int at_, .int w, .int fl]))])) 0 0 (va_A [(t, .inr (8, [.ref b, .int n, .int at_, .int w, .int fl]))] sz) := by
  refine Met.ofW (cc := cX8_place) (maxL := 1) (ret := (some .int)) (by decide) rfl ?_
  intro p e s m args below meth c s₁ B hml hv
  obtain ⟨rfl, hsz, hP, hK, hD0⟩ := hv
  have hx := B.exec
  have hb := B.bytes
  have hr := B.returns
  have ht := ts_ht (atoms_spec (ws := ts_L yX8_place cX8_place 1 (some .int)) B.pre)
  have hown : s.vm.findClass RX8 = some m.cls := findClass_of_methodNamed B.named
  have hlocks := B.notSynchronized
  subst hsz
  have hD := hD0.self (sz := s.heap.size)
  generalize hAe : va_A [(t, .inr (8, [.ref b, .int n, .int at_, .int w, .int fl]))] s.heap.size = A at hD ⊢
  have hA : ∀ q : Nat, s.heap.size ≤ q → A q := fun q h => by rw [← hAe]; exact Or.inr h
  have hS : va_S A s.heap s.heap [] := va_S.rf
  have hl := lv_entry ([.ref t]) (n := 1) (Nat.le_of_ble_eq_true rfl)
  rw [lg_entry_eq]
  generalize (lg_sl ([.ref t]) ++ List.replicate (1 - (lg_sl ([.ref t])).length) Slot.unset).toArray = ls at hl ⊢
  have hl : lv_has ls 1 [(0, .ref t)] := hl
  refine lv_aload_n hx hb dX8_place_0 rfl (lv_at hl 0 rfl) ?_
  refine gq_get hx hb ht hown hK hP i_X8 0 rfl rfl 2 (by decide) wd_158 rfl rfl dX8_place_1 ?_
  have hP9 := hP.sub (ws' := [(t, .inr (8, [.ref b, .int n, .int at_, .int w, .int fl]))]) [0] rfl
  have hD9 := hD.sub (ws' := [(t, .inr (8, [.ref b, .int n, .int at_, .int w, .int fl]))]) [0] (by decide) rfl
  exact W.iret (v := at_) hx hb hr (gq_endI () rfl hP9 hD9 hS) hS.2.2 dX8_place_4
set_option maxHeartbeats 4000000 in
set_option maxRecDepth 100000 in
theorem c_Tape_firstFault (l : Launch) (G : gg_T) (sz : Nat) (t : Nat) (b : Nat) (n : Int32) (at_ : Int32) (w : Int32) (fl : Int32) : Met l yX8_firstFault (ts_L yX8_firstFault cX8_firstFault 1 (some .int)) ({ frames := 0, cells := 0, slots := 0, locals := 0 }) (gc_P G [(t, .inr (8, [.ref b, .int n, .int at_, .int w, .int fl]))] sz [.ref t]) (gc_I G (va_A [(t, .inr (8, [.ref b, .int n, .int at_, .int w, .int fl]))] sz) (fun r (_ : Unit) => r = fl) (fun _ => [(t, .inr (8, [.ref b, .int n, .int at_, .int w, .int fl]))])) 0 0 (va_A [(t, .inr (8, [.ref b, .int n, .int at_, .int w, .int fl]))] sz) := by
  refine Met.ofW (cc := cX8_firstFault) (maxL := 1) (ret := (some .int)) (by decide) rfl ?_
  intro p e s m args below meth c s₁ B hml hv
  obtain ⟨rfl, hsz, hP, hK, hD0⟩ := hv
  have hx := B.exec
  have hb := B.bytes
  have hr := B.returns
  have ht := ts_ht (atoms_spec (ws := ts_L yX8_firstFault cX8_firstFault 1 (some .int)) B.pre)
  have hown : s.vm.findClass RX8 = some m.cls := findClass_of_methodNamed B.named
  have hlocks := B.notSynchronized
  subst hsz
  have hD := hD0.self (sz := s.heap.size)
  generalize hAe : va_A [(t, .inr (8, [.ref b, .int n, .int at_, .int w, .int fl]))] s.heap.size = A at hD ⊢
  have hA : ∀ q : Nat, s.heap.size ≤ q → A q := fun q h => by rw [← hAe]; exact Or.inr h
  have hS : va_S A s.heap s.heap [] := va_S.rf
  have hl := lv_entry ([.ref t]) (n := 1) (Nat.le_of_ble_eq_true rfl)
  rw [lg_entry_eq]
  generalize (lg_sl ([.ref t]) ++ List.replicate (1 - (lg_sl ([.ref t])).length) Slot.unset).toArray = ls at hl ⊢
  have hl : lv_has ls 1 [(0, .ref t)] := hl
  refine lv_aload_n hx hb dX8_firstFault_0 rfl (lv_at hl 0 rfl) ?_
  refine gq_get hx hb ht hown hK hP i_X8 0 rfl rfl 4 (by decide) wd_160 rfl rfl dX8_firstFault_1 ?_
  have hP9 := hP.sub (ws' := [(t, .inr (8, [.ref b, .int n, .int at_, .int w, .int fl]))]) [0] rfl
  have hD9 := hD.sub (ws' := [(t, .inr (8, [.ref b, .int n, .int at_, .int w, .int fl]))]) [0] (by decide) rfl
  exact W.iret (v := fl) hx hb hr (gq_endI () rfl hP9 hD9 hS) hS.2.2 dX8_firstFault_4
set_option maxHeartbeats 4000000 in
set_option maxRecDepth 100000 in
theorem c_Tape_cut0 (l : Launch) (G : gg_T) (sz : Nat) (t : Nat) (b : Nat) (at_ : Int32) (w : Int32) (fl : Int32) : Met l yX8_cut (ts_L yX8_cut cX8_cut 2 none) ({ frames := 0, cells := 0, slots := 0, locals := 0 }) (gc_P G [(t, .inr (8, [.ref b, .int 0, .int at_, .int w, .int fl]))] sz [.ref t, .int 0]) (gc_V G (va_A [(t, .inr (8, [.ref b, .int 0, .int at_, .int w, .int fl]))] sz) (fun (_ : Unit) => True) (fun _ => [(t, .inr (8, [.ref b, .int 0, .int at_, .int w, .int fl]))])) 0 0 (va_A [(t, .inr (8, [.ref b, .int 0, .int at_, .int w, .int fl]))] sz) := by
  refine Met.ofW (cc := cX8_cut) (maxL := 2) (ret := none) (by decide) rfl ?_
  intro p e s m args below meth c s₁ B hml hv
  obtain ⟨rfl, hsz, hP, hK, hD0⟩ := hv
  have hx := B.exec
  have hb := B.bytes
  have hr := B.returns
  have ht := ts_ht (atoms_spec (ws := ts_L yX8_cut cX8_cut 2 none) B.pre)
  have hown : s.vm.findClass RX8 = some m.cls := findClass_of_methodNamed B.named
  have hlocks := B.notSynchronized
  subst hsz
  have hD := hD0.self (sz := s.heap.size)
  generalize hAe : va_A [(t, .inr (8, [.ref b, .int 0, .int at_, .int w, .int fl]))] s.heap.size = A at hD ⊢
  have hA : ∀ q : Nat, s.heap.size ≤ q → A q := fun q h => by rw [← hAe]; exact Or.inr h
  have hS : va_S A s.heap s.heap [] := va_S.rf
  have hl := lv_entry ([.ref t, .int 0]) (n := 2) (Nat.le_of_ble_eq_true rfl)
  rw [lg_entry_eq]
  generalize (lg_sl ([.ref t, .int 0]) ++ List.replicate (2 - (lg_sl ([.ref t, .int 0])).length) Slot.unset).toArray = ls at hl ⊢
  have hl : lv_has ls 2 [(0, .ref t), (1, .int 0)] := hl
  refine lv_iload_n hx hb dX8_cut_0 rfl (lv_at hl 1 rfl) ?_
  refine lv_if_lt (tgt := 17) hx hb dX8_cut_1 (by decide) (fun c0 => absurd c0 (by decide +kernel)) (fun _ => ?_)
  refine lv_iload_n hx hb dX8_cut_4 rfl (lv_at hl 1 rfl) ?_
  refine lv_aload_n hx hb dX8_cut_5 rfl (lv_at hl 0 rfl) ?_
  refine gq_get hx hb ht hown hK hP i_X8 0 rfl rfl 1 (by decide) wd_157 rfl rfl dX8_cut_6 ?_
  refine lv_icmp_gt (tgt := 17) hx hb dX8_cut_9 (by decide) (fun c0 => absurd c0 (by decide +kernel)) (fun _ => ?_)
  refine lv_aload_n hx hb dX8_cut_12 rfl (lv_at hl 0 rfl) ?_
  refine lv_iload_n hx hb dX8_cut_13 rfl (lv_at hl 1 rfl) ?_
  refine gq_put (ws' := [(t, .inr (8, [.ref b, .int 0, .int at_, .int w, .int fl]))]) hx hb ht hown hK hP hD hS i_X8 tyX8 tyX8_ok nmX8 0 rfl rfl 1 (by decide) wd_157 rfl rfl rfl rfl (Nat.le_of_ble_eq_true rfl) rfl dX8_cut_14 (fun H locs hP hD hS => ?_)
  have hP9 := hP.sub (ws' := [(t, .inr (8, [.ref b, .int 0, .int at_, .int w, .int fl]))]) [0] rfl
  have hD9 := hD.sub (ws' := [(t, .inr (8, [.ref b, .int 0, .int at_, .int w, .int fl]))]) [0] (by decide) rfl
  exact W.vret hx hb hr (gq_endV () trivial hP9 hD9 hS) hS.2.2 dX8_cut_17
set_option maxHeartbeats 4000000 in
set_option maxRecDepth 100000 in
theorem c_Tape_goTo0 (l : Launch) (G : gg_T) (sz : Nat) (t : Nat) (b : Nat) (at_ : Int32) (w : Int32) (fl : Int32) : Met l yX8_goTo (ts_L yX8_goTo cX8_goTo 2 none) ({ frames := 0, cells := 0, slots := 0, locals := 0 }) (gc_P G [(t, .inr (8, [.ref b, .int 0, .int at_, .int w, .int fl]))] sz [.ref t, .int 0]) (gc_V G (va_A [(t, .inr (8, [.ref b, .int 0, .int at_, .int w, .int fl]))] sz) (fun (_ : Unit) => True) (fun _ => [(t, .inr (8, [.ref b, .int 0, .int 0, .int 0, .int fl]))])) 0 0 (va_A [(t, .inr (8, [.ref b, .int 0, .int at_, .int w, .int fl]))] sz) := by
  refine Met.ofW (cc := cX8_goTo) (maxL := 2) (ret := none) (by decide) rfl ?_
  intro p e s m args below meth c s₁ B hml hv
  obtain ⟨rfl, hsz, hP, hK, hD0⟩ := hv
  have hx := B.exec
  have hb := B.bytes
  have hr := B.returns
  have ht := ts_ht (atoms_spec (ws := ts_L yX8_goTo cX8_goTo 2 none) B.pre)
  have hown : s.vm.findClass RX8 = some m.cls := findClass_of_methodNamed B.named
  have hlocks := B.notSynchronized
  subst hsz
  have hD := hD0.self (sz := s.heap.size)
  generalize hAe : va_A [(t, .inr (8, [.ref b, .int 0, .int at_, .int w, .int fl]))] s.heap.size = A at hD ⊢
  have hA : ∀ q : Nat, s.heap.size ≤ q → A q := fun q h => by rw [← hAe]; exact Or.inr h
  have hS : va_S A s.heap s.heap [] := va_S.rf
  have hl := lv_entry ([.ref t, .int 0]) (n := 2) (Nat.le_of_ble_eq_true rfl)
  rw [lg_entry_eq]
  generalize (lg_sl ([.ref t, .int 0]) ++ List.replicate (2 - (lg_sl ([.ref t, .int 0])).length) Slot.unset).toArray = ls at hl ⊢
  have hl : lv_has ls 2 [(0, .ref t), (1, .int 0)] := hl
  refine lv_aload_n hx hb dX8_goTo_0 rfl (lv_at hl 0 rfl) ?_
  refine lv_iload_n hx hb dX8_goTo_1 rfl (lv_at hl 1 rfl) ?_
  refine gq_put (ws' := [(t, .inr (8, [.ref b, .int 0, .int 0, .int w, .int fl]))]) hx hb ht hown hK hP hD hS i_X8 tyX8 tyX8_ok nmX8 0 rfl rfl 2 (by decide) wd_158 rfl rfl rfl rfl (Nat.le_of_ble_eq_true rfl) rfl dX8_goTo_2 (fun H locs hP hD hS => ?_)
  refine lv_aload_n hx hb dX8_goTo_5 rfl (lv_at hl 0 rfl) ?_
  refine gq_get hx hb ht hown hK hP i_X8 0 rfl rfl 2 (by decide) wd_158 rfl rfl dX8_goTo_6 ?_
  refine lv_aload_n hx hb dX8_goTo_9 rfl (lv_at hl 0 rfl) ?_
  refine gq_get hx hb ht hown hK hP i_X8 0 rfl rfl 1 (by decide) wd_157 rfl rfl dX8_goTo_10 ?_
  refine lv_icmp_ge (tgt := 43) hx hb dX8_goTo_13 (by decide) (fun _ => ?_) (fun c0 => absurd (by decide +kernel) c0)
  refine lv_aload_n hx hb dX8_goTo_43 rfl (lv_at hl 0 rfl) ?_
  refine lv_iconst (v := 0) hx hb dX8_goTo_44 (by decide) ?_
  refine gq_put (ws' := [(t, .inr (8, [.ref b, .int 0, .int 0, .int 0, .int fl]))]) hx hb ht hown hK hP hD hS i_X8 tyX8 tyX8_ok nmX8 0 rfl rfl 3 (by decide) wd_159 rfl rfl rfl rfl (Nat.le_of_ble_eq_true rfl) rfl dX8_goTo_45 (fun H locs hP hD hS => ?_)
  refine lv_aload_n hx hb dX8_goTo_48 rfl (lv_at hl 0 rfl) ?_
  refine gq_get hx hb ht hown hK hP i_X8 0 rfl rfl 2 (by decide) wd_158 rfl rfl dX8_goTo_49 ?_
  refine lv_aload_n hx hb dX8_goTo_52 rfl (lv_at hl 0 rfl) ?_
  refine gq_get hx hb ht hown hK hP i_X8 0 rfl rfl 3 (by decide) wd_159 rfl rfl dX8_goTo_53 ?_
  refine gq_iadd hx hb 0 (by decide +kernel) dX8_goTo_56 ?_
  refine lv_aload_n hx hb dX8_goTo_57 rfl (lv_at hl 0 rfl) ?_
  refine gq_get hx hb ht hown hK hP i_X8 0 rfl rfl 1 (by decide) wd_157 rfl rfl dX8_goTo_58 ?_
  refine lv_icmp_ge (tgt := 115) hx hb dX8_goTo_61 (by decide) (fun _ => ?_) (fun c0 => absurd (by decide +kernel) c0)
  have hP9 := hP.sub (ws' := [(t, .inr (8, [.ref b, .int 0, .int 0, .int 0, .int fl]))]) [0] rfl
  have hD9 := hD.sub (ws' := [(t, .inr (8, [.ref b, .int 0, .int 0, .int 0, .int fl]))]) [0] (by decide) rfl
  exact W.vret hx hb hr (gq_endV () trivial hP9 hD9 hS) hS.2.2 dX8_goTo_115
set_option maxHeartbeats 4000000 in
set_option maxRecDepth 100000 in
theorem c_Tape_rewind (l : Launch) (G : gg_T) (sz : Nat) (t : Nat) (b : Nat) (at_ : Int32) (w : Int32) (fl : Int32) : Met l yX8_rewind (ts_L yX8_rewind cX8_rewind 1 none) ({ frames := 1, cells := 0, slots := 0, locals := 21 }) (gc_P G [(t, .inr (8, [.ref b, .int 0, .int at_, .int w, .int fl]))] sz [.ref t]) (gc_V G (va_A [(t, .inr (8, [.ref b, .int 0, .int at_, .int w, .int fl]))] sz) (fun (_ : Unit) => True) (fun _ => [(t, .inr (8, [.ref b, .int 0, .int 0, .int 0, .int 0]))])) 0 0 (va_A [(t, .inr (8, [.ref b, .int 0, .int at_, .int w, .int fl]))] sz) := by
  refine Met.ofW (cc := cX8_rewind) (maxL := 1) (ret := none) (by decide) rfl ?_
  intro p e s m args below meth c s₁ B hml hv
  obtain ⟨rfl, hsz, hP, hK, hD0⟩ := hv
  have hx := B.exec
  have hb := B.bytes
  have hr := B.returns
  have ht := ts_ht (atoms_spec (ws := ts_L yX8_rewind cX8_rewind 1 none) B.pre)
  have hown : s.vm.findClass RX8 = some m.cls := findClass_of_methodNamed B.named
  have hlocks := B.notSynchronized
  subst hsz
  have hD := hD0.self (sz := s.heap.size)
  generalize hAe : va_A [(t, .inr (8, [.ref b, .int 0, .int at_, .int w, .int fl]))] s.heap.size = A at hD ⊢
  have hA : ∀ q : Nat, s.heap.size ≤ q → A q := fun q h => by rw [← hAe]; exact Or.inr h
  have hS : va_S A s.heap s.heap [] := va_S.rf
  have hl := lv_entry ([.ref t]) (n := 1) (Nat.le_of_ble_eq_true rfl)
  rw [lg_entry_eq]
  generalize (lg_sl ([.ref t]) ++ List.replicate (1 - (lg_sl ([.ref t])).length) Slot.unset).toArray = ls at hl ⊢
  have hl : lv_has ls 1 [(0, .ref t)] := hl
  refine lv_aload_n hx hb dX8_rewind_0 rfl (lv_at hl 0 rfl) ?_
  refine lv_iconst (v := 0) hx hb dX8_rewind_1 (by decide) ?_
  refine gq_put (ws' := [(t, .inr (8, [.ref b, .int 0, .int at_, .int w, .int 0]))]) hx hb ht hown hK hP hD hS i_X8 tyX8 tyX8_ok nmX8 0 rfl rfl 4 (by decide) wd_160 rfl rfl rfl rfl (Nat.le_of_ble_eq_true rfl) rfl dX8_rewind_2 (fun H locs hP hD hS => ?_)
  refine lv_aload_n hx hb dX8_rewind_5 rfl (lv_at hl 0 rfl) ?_
  refine lv_iconst (v := 0) hx hb dX8_rewind_6 (by decide) ?_
  have hPc := hP.sub (ws' := [(t, .inr (8, [.ref b, .int 0, .int at_, .int w, .int 0]))]) [0] rfl
  have hDc := hD.sub (ws' := [(t, .inr (8, [.ref b, .int 0, .int at_, .int w, .int 0]))]) [0] (by decide) rfl
  refine gq_callV (wr := []) (va_runV (As := [.int 0]) (rest := []) ⟨hx, hb, hml, hown, ht⟩ (c_Tape_goTo0 l G H.size t b at_ w 0) (cwV 1 ht (ts_gV wd_578 wd_580 wd_0 wd_123 wd_581) rfl rfl rfl (by decide +kernel) ⟨Nat.le_of_ble_eq_true rfl, Nat.le_of_ble_eq_true rfl⟩) (gc_preV (ci := 8) (q0 := 0) hK hPc hDc rfl rfl) rfl rfl hl.1 rfl (lv_room (Nat.le_of_ble_eq_true rfl)) dX8_rewind_7 ⟨Nat.le_of_ble_eq_true rfl, Nat.le_of_ble_eq_true rfl⟩) hP hD hS hA [0] [] rfl rfl (by decide) (by decide) (fun u H locs hw hP hD hS => ?_)
  have hP : va_P (gg_D G) classes [(t, .inr (8, [.ref b, .int 0, .int 0, .int 0, .int 0]))] H := hP
  have hD : va_D A [(t, .inr (8, [.ref b, .int 0, .int 0, .int 0, .int 0]))] := hD
  have hP9 := hP.sub (ws' := [(t, .inr (8, [.ref b, .int 0, .int 0, .int 0, .int 0]))]) [0] rfl
  have hD9 := hD.sub (ws' := [(t, .inr (8, [.ref b, .int 0, .int 0, .int 0, .int 0]))]) [0] (by decide) rfl
  exact W.vret hx hb hr (gq_endV () trivial hP9 hD9 hS) hS.2.2 dX8_rewind_10
set_option maxHeartbeats 4000000 in
set_option maxRecDepth 100000 in
theorem c_Tape_refuse0 (l : Launch) (G : gg_T) (sz : Nat) (t : Nat) (b : Nat) : Met l yX8_refuse (ts_L yX8_refuse cX8_refuse 3 (some .boolean)) ({ frames := 0, cells := 0, slots := 0, locals := 0 }) (gc_P G [(t, .inr (8, [.ref b, .int 0, .int 0, .int 0, .int 0]))] sz [.ref t, .int 0, .int 0]) (gc_I G (va_A [(t, .inr (8, [.ref b, .int 0, .int 0, .int 0, .int 0]))] sz) (fun r (_ : Unit) => r = 0) (fun _ => [(t, .inr (8, [.ref b, .int 0, .int 0, .int 0, .int 1]))])) 0 0 (va_A [(t, .inr (8, [.ref b, .int 0, .int 0, .int 0, .int 0]))] sz) := by
  refine Met.ofW (cc := cX8_refuse) (maxL := 3) (ret := (some .boolean)) (by decide) rfl ?_
  intro p e s m args below meth c s₁ B hml hv
  obtain ⟨rfl, hsz, hP, hK, hD0⟩ := hv
  have hx := B.exec
  have hb := B.bytes
  have hr := B.returns
  have ht := ts_ht (atoms_spec (ws := ts_L yX8_refuse cX8_refuse 3 (some .boolean)) B.pre)
  have hown : s.vm.findClass RX8 = some m.cls := findClass_of_methodNamed B.named
  have hlocks := B.notSynchronized
  subst hsz
  have hD := hD0.self (sz := s.heap.size)
  generalize hAe : va_A [(t, .inr (8, [.ref b, .int 0, .int 0, .int 0, .int 0]))] s.heap.size = A at hD ⊢
  have hA : ∀ q : Nat, s.heap.size ≤ q → A q := fun q h => by rw [← hAe]; exact Or.inr h
  have hS : va_S A s.heap s.heap [] := va_S.rf
  have hl := lv_entry ([.ref t, .int 0, .int 0]) (n := 3) (Nat.le_of_ble_eq_true rfl)
  rw [lg_entry_eq]
  generalize (lg_sl ([.ref t, .int 0, .int 0]) ++ List.replicate (3 - (lg_sl ([.ref t, .int 0, .int 0])).length) Slot.unset).toArray = ls at hl ⊢
  have hl : lv_has ls 3 [(0, .ref t), (1, .int 0), (2, .int 0)] := hl
  refine lv_aload_n hx hb dX8_refuse_0 rfl (lv_at hl 0 rfl) ?_
  refine gq_get hx hb ht hown hK hP i_X8 0 rfl rfl 4 (by decide) wd_160 rfl rfl dX8_refuse_1 ?_
  refine lv_if_ne (tgt := 19) hx hb dX8_refuse_4 (by decide) (fun c0 => absurd (by decide +kernel) c0) (fun _ => ?_)
  refine lv_aload_n hx hb dX8_refuse_7 rfl (lv_at hl 0 rfl) ?_
  refine lv_iconst (v := 1) hx hb dX8_refuse_8 (by decide) ?_
  refine lv_bipush (v := 8) hx hb dX8_refuse_9 (by decide +kernel) ?_
  refine lv_iload_n hx hb dX8_refuse_11 rfl (lv_at hl 1 rfl) ?_
  refine gq_imul hx hb 0 (by decide +kernel) dX8_refuse_12 ?_
  refine gq_iadd hx hb 1 (by decide +kernel) dX8_refuse_13 ?_
  refine lv_iload_n hx hb dX8_refuse_14 rfl (lv_at hl 2 rfl) ?_
  refine gq_iadd hx hb 1 (by decide +kernel) dX8_refuse_15 ?_
  refine gq_put (ws' := [(t, .inr (8, [.ref b, .int 0, .int 0, .int 0, .int 1]))]) hx hb ht hown hK hP hD hS i_X8 tyX8 tyX8_ok nmX8 0 rfl rfl 4 (by decide) wd_160 rfl rfl rfl rfl (Nat.le_of_ble_eq_true rfl) rfl dX8_refuse_16 (fun H locs hP hD hS => ?_)
  refine lv_iconst (v := 0) hx hb dX8_refuse_19 (by decide) ?_
  have hP9 := hP.sub (ws' := [(t, .inr (8, [.ref b, .int 0, .int 0, .int 0, .int 1]))]) [0] rfl
  have hD9 := hD.sub (ws' := [(t, .inr (8, [.ref b, .int 0, .int 0, .int 0, .int 1]))]) [0] (by decide) rfl
  exact W.zret (v := 0) hx hb hr (by decide +kernel) (gq_endI () rfl hP9 hD9 hS) hS.2.2 dX8_refuse_20

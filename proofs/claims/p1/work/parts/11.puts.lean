theorem wd_156 : (Jvm.Cond.fieldLink "SilentSale$Tape" (9 : Nat) "SilentSale$Tape" "bytes" "[I") ∈ tb_L := tb_in (i := 156) (by decide +kernel) (by decide +kernel)
theorem wd_557 : (Jvm.Cond.code ({ cls := "SilentSale$Tape", name := "put", desc := "(I)V" } : Jvm.MethodName) prog_10_method_3_code (3 : Nat) (Option.none : Option Jvm.ClassFile.FieldType)) ∈ tb_L := tb_in (i := 557) (by decide +kernel) (by decide +kernel)
theorem dX8_put_0 : decode cX8_put 0 = .ok (.bipush 24, 2) := by decide +kernel
theorem dX8_put_2 : decode cX8_put 2 = .ok (.istore_n 2, 1) := by decide +kernel
theorem dX8_put_3 : decode cX8_put 3 = .ok (.iload_n 2, 1) := by decide +kernel
theorem dX8_put_4 : decode cX8_put 4 = .ok (.ifCond .lt 45, 3) := by decide +kernel
theorem dX8_put_7 : decode cX8_put 7 = .ok (.aload_n 0, 1) := by decide +kernel
theorem dX8_put_8 : decode cX8_put 8 = .ok (.getfield 15, 3) := by decide +kernel
theorem dX8_put_11 : decode cX8_put 11 = .ok (.sipush 400, 3) := by decide +kernel
theorem dX8_put_14 : decode cX8_put 14 = .ok (.if_icmp .ge 29, 3) := by decide +kernel
theorem dX8_put_17 : decode cX8_put 17 = .ok (.aload_n 0, 1) := by decide +kernel
theorem dX8_put_18 : decode cX8_put 18 = .ok (.getfield 9, 3) := by decide +kernel
theorem dX8_put_21 : decode cX8_put 21 = .ok (.aload_n 0, 1) := by decide +kernel
theorem dX8_put_22 : decode cX8_put 22 = .ok (.getfield 15, 3) := by decide +kernel
theorem dX8_put_25 : decode cX8_put 25 = .ok (.iload_n 1, 1) := by decide +kernel
theorem dX8_put_26 : decode cX8_put 26 = .ok (.iload_n 2, 1) := by decide +kernel
theorem dX8_put_27 : decode cX8_put 27 = .ok (.ishr, 1) := by decide +kernel
theorem dX8_put_28 : decode cX8_put 28 = .ok (.sipush 255, 3) := by decide +kernel
theorem dX8_put_31 : decode cX8_put 31 = .ok (.iand, 1) := by decide +kernel
theorem dX8_put_32 : decode cX8_put 32 = .ok (.iastore, 1) := by decide +kernel
theorem dX8_put_33 : decode cX8_put 33 = .ok (.aload_n 0, 1) := by decide +kernel
theorem dX8_put_34 : decode cX8_put 34 = .ok (.dup, 1) := by decide +kernel
theorem dX8_put_35 : decode cX8_put 35 = .ok (.getfield 15, 3) := by decide +kernel
theorem dX8_put_38 : decode cX8_put 38 = .ok (.iconst 1, 1) := by decide +kernel
theorem dX8_put_39 : decode cX8_put 39 = .ok (.iadd, 1) := by decide +kernel
theorem dX8_put_40 : decode cX8_put 40 = .ok (.putfield 15, 3) := by decide +kernel
theorem dX8_put_43 : decode cX8_put 43 = .ok (.iinc 2 (-8), 3) := by decide +kernel
theorem dX8_put_46 : decode cX8_put 46 = .ok (.goto (-43), 3) := by decide +kernel
theorem dX8_put_49 : decode cX8_put 49 = .ok (.return_, 1) := by decide +kernel
set_option maxHeartbeats 4000000 in
set_option maxRecDepth 100000 in
theorem c_Tape_put0 (l : Launch) (G : gg_T) (sz : Nat) (t : Nat) (b : Nat) (at_ : Int32) (w : Int32) (fl : Int32) (x : Int32) (f : Nat → Int32) : Met l yX8_put (ts_L yX8_put cX8_put 3 none) ({ frames := 0, cells := 0, slots := 0, locals := 0 }) (gc_P G [(t, .inr (8, [.ref b, .int 0, .int at_, .int w, .int fl])), (b, .inl (G.2.2 0, 400, .inl f))] sz [.ref t, .int x]) (gc_V G (va_A [(t, .inr (8, [.ref b, .int 0, .int at_, .int w, .int fl])), (b, .inl (G.2.2 0, 400, .inl f))] sz) (fun (_ : (Nat → Int32)) => True) (fun (u : (Nat → Int32)) => match u with | g => [(t, .inr (8, [.ref b, .int 4, .int at_, .int w, .int fl])), (b, .inl (G.2.2 0, 400, .inl g))])) 0 0 (va_A [(t, .inr (8, [.ref b, .int 0, .int at_, .int w, .int fl])), (b, .inl (G.2.2 0, 400, .inl f))] sz) := by
  refine Met.ofW (cc := cX8_put) (maxL := 3) (ret := none) (by decide) rfl ?_
  intro p e s m args below meth c s₁ B hml hv
  obtain ⟨rfl, hsz, hP, hK, hD0⟩ := hv
  have hx := B.exec
  have hb := B.bytes
  have hr := B.returns
  have ht := ts_ht (atoms_spec (ws := ts_L yX8_put cX8_put 3 none) B.pre)
  have hown : s.vm.findClass RX8 = some m.cls := findClass_of_methodNamed B.named
  have hlocks := B.notSynchronized
  subst hsz
  have hD := hD0.self (sz := s.heap.size)
  generalize hAe : va_A [(t, .inr (8, [.ref b, .int 0, .int at_, .int w, .int fl])), (b, .inl (G.2.2 0, 400, .inl f))] s.heap.size = A at hD ⊢
  have hA : ∀ q : Nat, s.heap.size ≤ q → A q := fun q h => by rw [← hAe]; exact Or.inr h
  have hS : va_S A s.heap s.heap [] := va_S.rf
  have hl := lv_entry ([.ref t, .int x]) (n := 3) (Nat.le_of_ble_eq_true rfl)
  rw [lg_entry_eq]
  generalize (lg_sl ([.ref t, .int x]) ++ List.replicate (3 - (lg_sl ([.ref t, .int x])).length) Slot.unset).toArray = ls at hl ⊢
  have hl : lv_has ls 3 [(0, .ref t), (1, .int x)] := hl
  refine lv_bipush (v := 24) hx hb dX8_put_0 (by decide +kernel) ?_
  refine lv_istore_n (lv' := [(2, .int 24), (0, .ref t), (1, .int x)]) hx hb dX8_put_2 rfl hl (by decide) rfl (fun ls hl => ?_)
  refine lv_iload_n hx hb dX8_put_3 rfl (lv_at hl 0 rfl) ?_
  refine lv_if_lt (tgt := 49) hx hb dX8_put_4 (by decide) (fun c0 => absurd c0 (by decide +kernel)) (fun _ => ?_)
  refine lv_aload_n hx hb dX8_put_7 rfl (lv_at hl 1 rfl) ?_
  refine gq_get hx hb ht hown hK hP i_X8 0 rfl rfl 1 (by decide) wd_157 rfl rfl dX8_put_8 ?_
  refine lv_sipush (v := 400) hx hb dX8_put_11 (by decide +kernel) ?_
  refine lv_icmp_ge (tgt := 43) hx hb dX8_put_14 (by decide) (fun c0 => absurd c0 (by decide +kernel)) (fun _ => ?_)
  refine lv_aload_n hx hb dX8_put_17 rfl (lv_at hl 1 rfl) ?_
  refine gq_get hx hb ht hown hK hP i_X8 0 rfl rfl 0 (by decide) wd_156 rfl rfl dX8_put_18 ?_
  refine lv_aload_n hx hb dX8_put_21 rfl (lv_at hl 1 rfl) ?_
  refine gq_get hx hb ht hown hK hP i_X8 0 rfl rfl 1 (by decide) wd_157 rfl rfl dX8_put_22 ?_
  refine lv_iload_n hx hb dX8_put_25 rfl (lv_at hl 2 rfl) ?_
  refine lv_iload_n hx hb dX8_put_26 rfl (lv_at hl 0 rfl) ?_
  obtain ⟨t_1, et_1⟩ : ∃ z : Int32, (x >>> (24 &&& 31)) = z := ⟨_, rfl⟩
  refine gq_ishr hx hb t_1 et_1 dX8_put_27 ?_
  refine lv_sipush (v := 255) hx hb dX8_put_28 (by decide +kernel) ?_
  obtain ⟨t_2, et_2⟩ : ∃ z : Int32, (t_1 &&& 255) = z := ⟨_, rfl⟩
  refine gq_iand hx hb t_2 et_2 dX8_put_31 ?_
  obtain ⟨f_3, ef_3⟩ : ∃ z : Nat → Int32, upd f (Int32.toNatClampNeg 0) t_2 = z := ⟨_, rfl⟩
  refine gq_iast (ws' := [(t, .inr (8, [.ref b, .int 0, .int at_, .int w, .int fl])), (b, .inl (G.2.2 0, 400, .inl f_3))]) hx hb hK hP hD hS 1 rfl f_3 (by unfold vp_in; decide +kernel) ef_3 rfl dX8_put_32 (fun H locs hP hD hS => ?_)
  refine lv_aload_n hx hb dX8_put_33 rfl (lv_at hl 1 rfl) ?_
  refine lv_dup hx hb dX8_put_34 rfl ?_
  refine gq_get hx hb ht hown hK hP i_X8 0 rfl rfl 1 (by decide) wd_157 rfl rfl dX8_put_35 ?_
  refine lv_iconst (v := 1) hx hb dX8_put_38 (by decide) ?_
  refine gq_iadd hx hb 1 (by decide +kernel) dX8_put_39 ?_
  refine gq_put (ws' := [(t, .inr (8, [.ref b, .int 1, .int at_, .int w, .int fl])), (b, .inl (G.2.2 0, 400, .inl f_3))]) hx hb ht hown hK hP hD hS i_X8 tyX8 tyX8_ok nmX8 0 rfl rfl 1 (by decide) wd_157 rfl rfl rfl rfl (Nat.le_of_ble_eq_true rfl) rfl dX8_put_40 (fun H locs hP hD hS => ?_)
  refine lv_iinc (v := 16) (lv' := [(2, .int 16), (0, .ref t), (1, .int x)]) hx hb dX8_put_43 hl (k := 0) rfl (by decide +kernel) (by decide) rfl (fun ls hl => ?_)
  refine lv_goto (tgt := 3) hx hb dX8_put_46 (by decide) ?_
  refine lv_iload_n hx hb dX8_put_3 rfl (lv_at hl 0 rfl) ?_
  refine lv_if_lt (tgt := 49) hx hb dX8_put_4 (by decide) (fun c0 => absurd c0 (by decide +kernel)) (fun _ => ?_)
  refine lv_aload_n hx hb dX8_put_7 rfl (lv_at hl 1 rfl) ?_
  refine gq_get hx hb ht hown hK hP i_X8 0 rfl rfl 1 (by decide) wd_157 rfl rfl dX8_put_8 ?_
  refine lv_sipush (v := 400) hx hb dX8_put_11 (by decide +kernel) ?_
  refine lv_icmp_ge (tgt := 43) hx hb dX8_put_14 (by decide) (fun c0 => absurd c0 (by decide +kernel)) (fun _ => ?_)
  refine lv_aload_n hx hb dX8_put_17 rfl (lv_at hl 1 rfl) ?_
  refine gq_get hx hb ht hown hK hP i_X8 0 rfl rfl 0 (by decide) wd_156 rfl rfl dX8_put_18 ?_
  refine lv_aload_n hx hb dX8_put_21 rfl (lv_at hl 1 rfl) ?_
  refine gq_get hx hb ht hown hK hP i_X8 0 rfl rfl 1 (by decide) wd_157 rfl rfl dX8_put_22 ?_
  refine lv_iload_n hx hb dX8_put_25 rfl (lv_at hl 2 rfl) ?_
  refine lv_iload_n hx hb dX8_put_26 rfl (lv_at hl 0 rfl) ?_
  obtain ⟨t_4, et_4⟩ : ∃ z : Int32, (x >>> (16 &&& 31)) = z := ⟨_, rfl⟩
  refine gq_ishr hx hb t_4 et_4 dX8_put_27 ?_
  refine lv_sipush (v := 255) hx hb dX8_put_28 (by decide +kernel) ?_
  obtain ⟨t_5, et_5⟩ : ∃ z : Int32, (t_4 &&& 255) = z := ⟨_, rfl⟩
  refine gq_iand hx hb t_5 et_5 dX8_put_31 ?_
  obtain ⟨f_6, ef_6⟩ : ∃ z : Nat → Int32, upd f_3 (Int32.toNatClampNeg 1) t_5 = z := ⟨_, rfl⟩
  refine gq_iast (ws' := [(t, .inr (8, [.ref b, .int 1, .int at_, .int w, .int fl])), (b, .inl (G.2.2 0, 400, .inl f_6))]) hx hb hK hP hD hS 1 rfl f_6 (by unfold vp_in; decide +kernel) ef_6 rfl dX8_put_32 (fun H locs hP hD hS => ?_)
  refine lv_aload_n hx hb dX8_put_33 rfl (lv_at hl 1 rfl) ?_
  refine lv_dup hx hb dX8_put_34 rfl ?_
  refine gq_get hx hb ht hown hK hP i_X8 0 rfl rfl 1 (by decide) wd_157 rfl rfl dX8_put_35 ?_
  refine lv_iconst (v := 1) hx hb dX8_put_38 (by decide) ?_
  refine gq_iadd hx hb 2 (by decide +kernel) dX8_put_39 ?_
  refine gq_put (ws' := [(t, .inr (8, [.ref b, .int 2, .int at_, .int w, .int fl])), (b, .inl (G.2.2 0, 400, .inl f_6))]) hx hb ht hown hK hP hD hS i_X8 tyX8 tyX8_ok nmX8 0 rfl rfl 1 (by decide) wd_157 rfl rfl rfl rfl (Nat.le_of_ble_eq_true rfl) rfl dX8_put_40 (fun H locs hP hD hS => ?_)
  refine lv_iinc (v := 8) (lv' := [(2, .int 8), (0, .ref t), (1, .int x)]) hx hb dX8_put_43 hl (k := 0) rfl (by decide +kernel) (by decide) rfl (fun ls hl => ?_)
  refine lv_goto (tgt := 3) hx hb dX8_put_46 (by decide) ?_
  refine lv_iload_n hx hb dX8_put_3 rfl (lv_at hl 0 rfl) ?_
  refine lv_if_lt (tgt := 49) hx hb dX8_put_4 (by decide) (fun c0 => absurd c0 (by decide +kernel)) (fun _ => ?_)
  refine lv_aload_n hx hb dX8_put_7 rfl (lv_at hl 1 rfl) ?_
  refine gq_get hx hb ht hown hK hP i_X8 0 rfl rfl 1 (by decide) wd_157 rfl rfl dX8_put_8 ?_
  refine lv_sipush (v := 400) hx hb dX8_put_11 (by decide +kernel) ?_
  refine lv_icmp_ge (tgt := 43) hx hb dX8_put_14 (by decide) (fun c0 => absurd c0 (by decide +kernel)) (fun _ => ?_)
  refine lv_aload_n hx hb dX8_put_17 rfl (lv_at hl 1 rfl) ?_
  refine gq_get hx hb ht hown hK hP i_X8 0 rfl rfl 0 (by decide) wd_156 rfl rfl dX8_put_18 ?_
  refine lv_aload_n hx hb dX8_put_21 rfl (lv_at hl 1 rfl) ?_
  refine gq_get hx hb ht hown hK hP i_X8 0 rfl rfl 1 (by decide) wd_157 rfl rfl dX8_put_22 ?_
  refine lv_iload_n hx hb dX8_put_25 rfl (lv_at hl 2 rfl) ?_
  refine lv_iload_n hx hb dX8_put_26 rfl (lv_at hl 0 rfl) ?_
  obtain ⟨t_7, et_7⟩ : ∃ z : Int32, (x >>> (8 &&& 31)) = z := ⟨_, rfl⟩
  refine gq_ishr hx hb t_7 et_7 dX8_put_27 ?_
  refine lv_sipush (v := 255) hx hb dX8_put_28 (by decide +kernel) ?_
  obtain ⟨t_8, et_8⟩ : ∃ z : Int32, (t_7 &&& 255) = z := ⟨_, rfl⟩
  refine gq_iand hx hb t_8 et_8 dX8_put_31 ?_
  obtain ⟨f_9, ef_9⟩ : ∃ z : Nat → Int32, upd f_6 (Int32.toNatClampNeg 2) t_8 = z := ⟨_, rfl⟩
  refine gq_iast (ws' := [(t, .inr (8, [.ref b, .int 2, .int at_, .int w, .int fl])), (b, .inl (G.2.2 0, 400, .inl f_9))]) hx hb hK hP hD hS 1 rfl f_9 (by unfold vp_in; decide +kernel) ef_9 rfl dX8_put_32 (fun H locs hP hD hS => ?_)
  refine lv_aload_n hx hb dX8_put_33 rfl (lv_at hl 1 rfl) ?_
  refine lv_dup hx hb dX8_put_34 rfl ?_
  refine gq_get hx hb ht hown hK hP i_X8 0 rfl rfl 1 (by decide) wd_157 rfl rfl dX8_put_35 ?_
  refine lv_iconst (v := 1) hx hb dX8_put_38 (by decide) ?_
  refine gq_iadd hx hb 3 (by decide +kernel) dX8_put_39 ?_
  refine gq_put (ws' := [(t, .inr (8, [.ref b, .int 3, .int at_, .int w, .int fl])), (b, .inl (G.2.2 0, 400, .inl f_9))]) hx hb ht hown hK hP hD hS i_X8 tyX8 tyX8_ok nmX8 0 rfl rfl 1 (by decide) wd_157 rfl rfl rfl rfl (Nat.le_of_ble_eq_true rfl) rfl dX8_put_40 (fun H locs hP hD hS => ?_)
  refine lv_iinc (v := 0) (lv' := [(2, .int 0), (0, .ref t), (1, .int x)]) hx hb dX8_put_43 hl (k := 0) rfl (by decide +kernel) (by decide) rfl (fun ls hl => ?_)
  refine lv_goto (tgt := 3) hx hb dX8_put_46 (by decide) ?_
  refine lv_iload_n hx hb dX8_put_3 rfl (lv_at hl 0 rfl) ?_
  refine lv_if_lt (tgt := 49) hx hb dX8_put_4 (by decide) (fun c0 => absurd c0 (by decide +kernel)) (fun _ => ?_)
  refine lv_aload_n hx hb dX8_put_7 rfl (lv_at hl 1 rfl) ?_
  refine gq_get hx hb ht hown hK hP i_X8 0 rfl rfl 1 (by decide) wd_157 rfl rfl dX8_put_8 ?_
  refine lv_sipush (v := 400) hx hb dX8_put_11 (by decide +kernel) ?_
  refine lv_icmp_ge (tgt := 43) hx hb dX8_put_14 (by decide) (fun c0 => absurd c0 (by decide +kernel)) (fun _ => ?_)
  refine lv_aload_n hx hb dX8_put_17 rfl (lv_at hl 1 rfl) ?_
  refine gq_get hx hb ht hown hK hP i_X8 0 rfl rfl 0 (by decide) wd_156 rfl rfl dX8_put_18 ?_
  refine lv_aload_n hx hb dX8_put_21 rfl (lv_at hl 1 rfl) ?_
  refine gq_get hx hb ht hown hK hP i_X8 0 rfl rfl 1 (by decide) wd_157 rfl rfl dX8_put_22 ?_
  refine lv_iload_n hx hb dX8_put_25 rfl (lv_at hl 2 rfl) ?_
  refine lv_iload_n hx hb dX8_put_26 rfl (lv_at hl 0 rfl) ?_
  obtain ⟨t_10, et_10⟩ : ∃ z : Int32, (x >>> (0 &&& 31)) = z := ⟨_, rfl⟩
  refine gq_ishr hx hb t_10 et_10 dX8_put_27 ?_
  refine lv_sipush (v := 255) hx hb dX8_put_28 (by decide +kernel) ?_
  obtain ⟨t_11, et_11⟩ : ∃ z : Int32, (t_10 &&& 255) = z := ⟨_, rfl⟩
  refine gq_iand hx hb t_11 et_11 dX8_put_31 ?_
  obtain ⟨f_12, ef_12⟩ : ∃ z : Nat → Int32, upd f_9 (Int32.toNatClampNeg 3) t_11 = z := ⟨_, rfl⟩
  refine gq_iast (ws' := [(t, .inr (8, [.ref b, .int 3, .int at_, .int w, .int fl])), (b, .inl (G.2.2 0, 400, .inl f_12))]) hx hb hK hP hD hS 1 rfl f_12 (by unfold vp_in; decide +kernel) ef_12 rfl dX8_put_32 (fun H locs hP hD hS => ?_)
  refine lv_aload_n hx hb dX8_put_33 rfl (lv_at hl 1 rfl) ?_
  refine lv_dup hx hb dX8_put_34 rfl ?_
  refine gq_get hx hb ht hown hK hP i_X8 0 rfl rfl 1 (by decide) wd_157 rfl rfl dX8_put_35 ?_
  refine lv_iconst (v := 1) hx hb dX8_put_38 (by decide) ?_
  refine gq_iadd hx hb 4 (by decide +kernel) dX8_put_39 ?_
  refine gq_put (ws' := [(t, .inr (8, [.ref b, .int 4, .int at_, .int w, .int fl])), (b, .inl (G.2.2 0, 400, .inl f_12))]) hx hb ht hown hK hP hD hS i_X8 tyX8 tyX8_ok nmX8 0 rfl rfl 1 (by decide) wd_157 rfl rfl rfl rfl (Nat.le_of_ble_eq_true rfl) rfl dX8_put_40 (fun H locs hP hD hS => ?_)
  refine lv_iinc (v := (-8)) (lv' := [(2, .int (-8)), (0, .ref t), (1, .int x)]) hx hb dX8_put_43 hl (k := 0) rfl (by decide +kernel) (by decide) rfl (fun ls hl => ?_)
  refine lv_goto (tgt := 3) hx hb dX8_put_46 (by decide) ?_
  refine lv_iload_n hx hb dX8_put_3 rfl (lv_at hl 0 rfl) ?_
  refine lv_if_lt (tgt := 49) hx hb dX8_put_4 (by decide) (fun _ => ?_) (fun c0 => absurd (by decide +kernel) c0)
  have hP9 := hP.sub (ws' := [(t, .inr (8, [.ref b, .int 4, .int at_, .int w, .int fl])), (b, .inl (G.2.2 0, 400, .inl f_12))]) [0, 1] rfl
  have hD9 := hD.sub (ws' := [(t, .inr (8, [.ref b, .int 4, .int at_, .int w, .int fl])), (b, .inl (G.2.2 0, 400, .inl f_12))]) [0, 1] (by decide) rfl
  exact W.vret hx hb hr (gq_endV (f_12) trivial hP9 hD9 hS) hS.2.2 dX8_put_49
set_option maxHeartbeats 4000000 in
set_option maxRecDepth 100000 in
theorem c_Tape_put4 (l : Launch) (G : gg_T) (sz : Nat) (t : Nat) (b : Nat) (at_ : Int32) (w : Int32) (fl : Int32) (x : Int32) (f : Nat → Int32) : Met l yX8_put (ts_L yX8_put cX8_put 3 none) ({ frames := 0, cells := 0, slots := 0, locals := 0 }) (gc_P G [(t, .inr (8, [.ref b, .int 4, .int at_, .int w, .int fl])), (b, .inl (G.2.2 0, 400, .inl f))] sz [.ref t, .int x]) (gc_V G (va_A [(t, .inr (8, [.ref b, .int 4, .int at_, .int w, .int fl])), (b, .inl (G.2.2 0, 400, .inl f))] sz) (fun (_ : (Nat → Int32)) => True) (fun (u : (Nat → Int32)) => match u with | g => [(t, .inr (8, [.ref b, .int 8, .int at_, .int w, .int fl])), (b, .inl (G.2.2 0, 400, .inl g))])) 0 0 (va_A [(t, .inr (8, [.ref b, .int 4, .int at_, .int w, .int fl])), (b, .inl (G.2.2 0, 400, .inl f))] sz) := by
  refine Met.ofW (cc := cX8_put) (maxL := 3) (ret := none) (by decide) rfl ?_
  intro p e s m args below meth c s₁ B hml hv
  obtain ⟨rfl, hsz, hP, hK, hD0⟩ := hv
  have hx := B.exec
  have hb := B.bytes
  have hr := B.returns
  have ht := ts_ht (atoms_spec (ws := ts_L yX8_put cX8_put 3 none) B.pre)
  have hown : s.vm.findClass RX8 = some m.cls := findClass_of_methodNamed B.named
  have hlocks := B.notSynchronized
  subst hsz
  have hD := hD0.self (sz := s.heap.size)
  generalize hAe : va_A [(t, .inr (8, [.ref b, .int 4, .int at_, .int w, .int fl])), (b, .inl (G.2.2 0, 400, .inl f))] s.heap.size = A at hD ⊢
  have hA : ∀ q : Nat, s.heap.size ≤ q → A q := fun q h => by rw [← hAe]; exact Or.inr h
  have hS : va_S A s.heap s.heap [] := va_S.rf
  have hl := lv_entry ([.ref t, .int x]) (n := 3) (Nat.le_of_ble_eq_true rfl)
  rw [lg_entry_eq]
  generalize (lg_sl ([.ref t, .int x]) ++ List.replicate (3 - (lg_sl ([.ref t, .int x])).length) Slot.unset).toArray = ls at hl ⊢
  have hl : lv_has ls 3 [(0, .ref t), (1, .int x)] := hl
  refine lv_bipush (v := 24) hx hb dX8_put_0 (by decide +kernel) ?_
  refine lv_istore_n (lv' := [(2, .int 24), (0, .ref t), (1, .int x)]) hx hb dX8_put_2 rfl hl (by decide) rfl (fun ls hl => ?_)
  refine lv_iload_n hx hb dX8_put_3 rfl (lv_at hl 0 rfl) ?_
  refine lv_if_lt (tgt := 49) hx hb dX8_put_4 (by decide) (fun c0 => absurd c0 (by decide +kernel)) (fun _ => ?_)
  refine lv_aload_n hx hb dX8_put_7 rfl (lv_at hl 1 rfl) ?_
  refine gq_get hx hb ht hown hK hP i_X8 0 rfl rfl 1 (by decide) wd_157 rfl rfl dX8_put_8 ?_
  refine lv_sipush (v := 400) hx hb dX8_put_11 (by decide +kernel) ?_
  refine lv_icmp_ge (tgt := 43) hx hb dX8_put_14 (by decide) (fun c0 => absurd c0 (by decide +kernel)) (fun _ => ?_)
  refine lv_aload_n hx hb dX8_put_17 rfl (lv_at hl 1 rfl) ?_
  refine gq_get hx hb ht hown hK hP i_X8 0 rfl rfl 0 (by decide) wd_156 rfl rfl dX8_put_18 ?_
  refine lv_aload_n hx hb dX8_put_21 rfl (lv_at hl 1 rfl) ?_
  refine gq_get hx hb ht hown hK hP i_X8 0 rfl rfl 1 (by decide) wd_157 rfl rfl dX8_put_22 ?_
  refine lv_iload_n hx hb dX8_put_25 rfl (lv_at hl 2 rfl) ?_
  refine lv_iload_n hx hb dX8_put_26 rfl (lv_at hl 0 rfl) ?_
  obtain ⟨t_1, et_1⟩ : ∃ z : Int32, (x >>> (24 &&& 31)) = z := ⟨_, rfl⟩
  refine gq_ishr hx hb t_1 et_1 dX8_put_27 ?_
  refine lv_sipush (v := 255) hx hb dX8_put_28 (by decide +kernel) ?_
  obtain ⟨t_2, et_2⟩ : ∃ z : Int32, (t_1 &&& 255) = z := ⟨_, rfl⟩
  refine gq_iand hx hb t_2 et_2 dX8_put_31 ?_
  obtain ⟨f_3, ef_3⟩ : ∃ z : Nat → Int32, upd f (Int32.toNatClampNeg 4) t_2 = z := ⟨_, rfl⟩
  refine gq_iast (ws' := [(t, .inr (8, [.ref b, .int 4, .int at_, .int w, .int fl])), (b, .inl (G.2.2 0, 400, .inl f_3))]) hx hb hK hP hD hS 1 rfl f_3 (by unfold vp_in; decide +kernel) ef_3 rfl dX8_put_32 (fun H locs hP hD hS => ?_)
  refine lv_aload_n hx hb dX8_put_33 rfl (lv_at hl 1 rfl) ?_
  refine lv_dup hx hb dX8_put_34 rfl ?_
  refine gq_get hx hb ht hown hK hP i_X8 0 rfl rfl 1 (by decide) wd_157 rfl rfl dX8_put_35 ?_
  refine lv_iconst (v := 1) hx hb dX8_put_38 (by decide) ?_
  refine gq_iadd hx hb 5 (by decide +kernel) dX8_put_39 ?_
  refine gq_put (ws' := [(t, .inr (8, [.ref b, .int 5, .int at_, .int w, .int fl])), (b, .inl (G.2.2 0, 400, .inl f_3))]) hx hb ht hown hK hP hD hS i_X8 tyX8 tyX8_ok nmX8 0 rfl rfl 1 (by decide) wd_157 rfl rfl rfl rfl (Nat.le_of_ble_eq_true rfl) rfl dX8_put_40 (fun H locs hP hD hS => ?_)
  refine lv_iinc (v := 16) (lv' := [(2, .int 16), (0, .ref t), (1, .int x)]) hx hb dX8_put_43 hl (k := 0) rfl (by decide +kernel) (by decide) rfl (fun ls hl => ?_)
  refine lv_goto (tgt := 3) hx hb dX8_put_46 (by decide) ?_
  refine lv_iload_n hx hb dX8_put_3 rfl (lv_at hl 0 rfl) ?_
  refine lv_if_lt (tgt := 49) hx hb dX8_put_4 (by decide) (fun c0 => absurd c0 (by decide +kernel)) (fun _ => ?_)
  refine lv_aload_n hx hb dX8_put_7 rfl (lv_at hl 1 rfl) ?_
  refine gq_get hx hb ht hown hK hP i_X8 0 rfl rfl 1 (by decide) wd_157 rfl rfl dX8_put_8 ?_
  refine lv_sipush (v := 400) hx hb dX8_put_11 (by decide +kernel) ?_
  refine lv_icmp_ge (tgt := 43) hx hb dX8_put_14 (by decide) (fun c0 => absurd c0 (by decide +kernel)) (fun _ => ?_)
  refine lv_aload_n hx hb dX8_put_17 rfl (lv_at hl 1 rfl) ?_
  refine gq_get hx hb ht hown hK hP i_X8 0 rfl rfl 0 (by decide) wd_156 rfl rfl dX8_put_18 ?_
  refine lv_aload_n hx hb dX8_put_21 rfl (lv_at hl 1 rfl) ?_
  refine gq_get hx hb ht hown hK hP i_X8 0 rfl rfl 1 (by decide) wd_157 rfl rfl dX8_put_22 ?_
  refine lv_iload_n hx hb dX8_put_25 rfl (lv_at hl 2 rfl) ?_
  refine lv_iload_n hx hb dX8_put_26 rfl (lv_at hl 0 rfl) ?_
  obtain ⟨t_4, et_4⟩ : ∃ z : Int32, (x >>> (16 &&& 31)) = z := ⟨_, rfl⟩
  refine gq_ishr hx hb t_4 et_4 dX8_put_27 ?_
  refine lv_sipush (v := 255) hx hb dX8_put_28 (by decide +kernel) ?_
  obtain ⟨t_5, et_5⟩ : ∃ z : Int32, (t_4 &&& 255) = z := ⟨_, rfl⟩
  refine gq_iand hx hb t_5 et_5 dX8_put_31 ?_
  obtain ⟨f_6, ef_6⟩ : ∃ z : Nat → Int32, upd f_3 (Int32.toNatClampNeg 5) t_5 = z := ⟨_, rfl⟩
  refine gq_iast (ws' := [(t, .inr (8, [.ref b, .int 5, .int at_, .int w, .int fl])), (b, .inl (G.2.2 0, 400, .inl f_6))]) hx hb hK hP hD hS 1 rfl f_6 (by unfold vp_in; decide +kernel) ef_6 rfl dX8_put_32 (fun H locs hP hD hS => ?_)
  refine lv_aload_n hx hb dX8_put_33 rfl (lv_at hl 1 rfl) ?_
  refine lv_dup hx hb dX8_put_34 rfl ?_
  refine gq_get hx hb ht hown hK hP i_X8 0 rfl rfl 1 (by decide) wd_157 rfl rfl dX8_put_35 ?_
  refine lv_iconst (v := 1) hx hb dX8_put_38 (by decide) ?_
  refine gq_iadd hx hb 6 (by decide +kernel) dX8_put_39 ?_
  refine gq_put (ws' := [(t, .inr (8, [.ref b, .int 6, .int at_, .int w, .int fl])), (b, .inl (G.2.2 0, 400, .inl f_6))]) hx hb ht hown hK hP hD hS i_X8 tyX8 tyX8_ok nmX8 0 rfl rfl 1 (by decide) wd_157 rfl rfl rfl rfl (Nat.le_of_ble_eq_true rfl) rfl dX8_put_40 (fun H locs hP hD hS => ?_)
  refine lv_iinc (v := 8) (lv' := [(2, .int 8), (0, .ref t), (1, .int x)]) hx hb dX8_put_43 hl (k := 0) rfl (by decide +kernel) (by decide) rfl (fun ls hl => ?_)
  refine lv_goto (tgt := 3) hx hb dX8_put_46 (by decide) ?_
  refine lv_iload_n hx hb dX8_put_3 rfl (lv_at hl 0 rfl) ?_
  refine lv_if_lt (tgt := 49) hx hb dX8_put_4 (by decide) (fun c0 => absurd c0 (by decide +kernel)) (fun _ => ?_)
  refine lv_aload_n hx hb dX8_put_7 rfl (lv_at hl 1 rfl) ?_
  refine gq_get hx hb ht hown hK hP i_X8 0 rfl rfl 1 (by decide) wd_157 rfl rfl dX8_put_8 ?_
  refine lv_sipush (v := 400) hx hb dX8_put_11 (by decide +kernel) ?_
  refine lv_icmp_ge (tgt := 43) hx hb dX8_put_14 (by decide) (fun c0 => absurd c0 (by decide +kernel)) (fun _ => ?_)
  refine lv_aload_n hx hb dX8_put_17 rfl (lv_at hl 1 rfl) ?_
  refine gq_get hx hb ht hown hK hP i_X8 0 rfl rfl 0 (by decide) wd_156 rfl rfl dX8_put_18 ?_
  refine lv_aload_n hx hb dX8_put_21 rfl (lv_at hl 1 rfl) ?_
  refine gq_get hx hb ht hown hK hP i_X8 0 rfl rfl 1 (by decide) wd_157 rfl rfl dX8_put_22 ?_
  refine lv_iload_n hx hb dX8_put_25 rfl (lv_at hl 2 rfl) ?_
  refine lv_iload_n hx hb dX8_put_26 rfl (lv_at hl 0 rfl) ?_
  obtain ⟨t_7, et_7⟩ : ∃ z : Int32, (x >>> (8 &&& 31)) = z := ⟨_, rfl⟩
  refine gq_ishr hx hb t_7 et_7 dX8_put_27 ?_
  refine lv_sipush (v := 255) hx hb dX8_put_28 (by decide +kernel) ?_
  obtain ⟨t_8, et_8⟩ : ∃ z : Int32, (t_7 &&& 255) = z := ⟨_, rfl⟩
  refine gq_iand hx hb t_8 et_8 dX8_put_31 ?_
  obtain ⟨f_9, ef_9⟩ : ∃ z : Nat → Int32, upd f_6 (Int32.toNatClampNeg 6) t_8 = z := ⟨_, rfl⟩
  refine gq_iast (ws' := [(t, .inr (8, [.ref b, .int 6, .int at_, .int w, .int fl])), (b, .inl (G.2.2 0, 400, .inl f_9))]) hx hb hK hP hD hS 1 rfl f_9 (by unfold vp_in; decide +kernel) ef_9 rfl dX8_put_32 (fun H locs hP hD hS => ?_)
  refine lv_aload_n hx hb dX8_put_33 rfl (lv_at hl 1 rfl) ?_
  refine lv_dup hx hb dX8_put_34 rfl ?_
  refine gq_get hx hb ht hown hK hP i_X8 0 rfl rfl 1 (by decide) wd_157 rfl rfl dX8_put_35 ?_
  refine lv_iconst (v := 1) hx hb dX8_put_38 (by decide) ?_
  refine gq_iadd hx hb 7 (by decide +kernel) dX8_put_39 ?_
  refine gq_put (ws' := [(t, .inr (8, [.ref b, .int 7, .int at_, .int w, .int fl])), (b, .inl (G.2.2 0, 400, .inl f_9))]) hx hb ht hown hK hP hD hS i_X8 tyX8 tyX8_ok nmX8 0 rfl rfl 1 (by decide) wd_157 rfl rfl rfl rfl (Nat.le_of_ble_eq_true rfl) rfl dX8_put_40 (fun H locs hP hD hS => ?_)
  refine lv_iinc (v := 0) (lv' := [(2, .int 0), (0, .ref t), (1, .int x)]) hx hb dX8_put_43 hl (k := 0) rfl (by decide +kernel) (by decide) rfl (fun ls hl => ?_)
  refine lv_goto (tgt := 3) hx hb dX8_put_46 (by decide) ?_
  refine lv_iload_n hx hb dX8_put_3 rfl (lv_at hl 0 rfl) ?_
  refine lv_if_lt (tgt := 49) hx hb dX8_put_4 (by decide) (fun c0 => absurd c0 (by decide +kernel)) (fun _ => ?_)
  refine lv_aload_n hx hb dX8_put_7 rfl (lv_at hl 1 rfl) ?_
  refine gq_get hx hb ht hown hK hP i_X8 0 rfl rfl 1 (by decide) wd_157 rfl rfl dX8_put_8 ?_
  refine lv_sipush (v := 400) hx hb dX8_put_11 (by decide +kernel) ?_
  refine lv_icmp_ge (tgt := 43) hx hb dX8_put_14 (by decide) (fun c0 => absurd c0 (by decide +kernel)) (fun _ => ?_)
  refine lv_aload_n hx hb dX8_put_17 rfl (lv_at hl 1 rfl) ?_
  refine gq_get hx hb ht hown hK hP i_X8 0 rfl rfl 0 (by decide) wd_156 rfl rfl dX8_put_18 ?_
  refine lv_aload_n hx hb dX8_put_21 rfl (lv_at hl 1 rfl) ?_
  refine gq_get hx hb ht hown hK hP i_X8 0 rfl rfl 1 (by decide) wd_157 rfl rfl dX8_put_22 ?_
  refine lv_iload_n hx hb dX8_put_25 rfl (lv_at hl 2 rfl) ?_
  refine lv_iload_n hx hb dX8_put_26 rfl (lv_at hl 0 rfl) ?_
  obtain ⟨t_10, et_10⟩ : ∃ z : Int32, (x >>> (0 &&& 31)) = z := ⟨_, rfl⟩
  refine gq_ishr hx hb t_10 et_10 dX8_put_27 ?_
  refine lv_sipush (v := 255) hx hb dX8_put_28 (by decide +kernel) ?_
  obtain ⟨t_11, et_11⟩ : ∃ z : Int32, (t_10 &&& 255) = z := ⟨_, rfl⟩
  refine gq_iand hx hb t_11 et_11 dX8_put_31 ?_
  obtain ⟨f_12, ef_12⟩ : ∃ z : Nat → Int32, upd f_9 (Int32.toNatClampNeg 7) t_11 = z := ⟨_, rfl⟩
  refine gq_iast (ws' := [(t, .inr (8, [.ref b, .int 7, .int at_, .int w, .int fl])), (b, .inl (G.2.2 0, 400, .inl f_12))]) hx hb hK hP hD hS 1 rfl f_12 (by unfold vp_in; decide +kernel) ef_12 rfl dX8_put_32 (fun H locs hP hD hS => ?_)
  refine lv_aload_n hx hb dX8_put_33 rfl (lv_at hl 1 rfl) ?_
  refine lv_dup hx hb dX8_put_34 rfl ?_
  refine gq_get hx hb ht hown hK hP i_X8 0 rfl rfl 1 (by decide) wd_157 rfl rfl dX8_put_35 ?_
  refine lv_iconst (v := 1) hx hb dX8_put_38 (by decide) ?_
  refine gq_iadd hx hb 8 (by decide +kernel) dX8_put_39 ?_
  refine gq_put (ws' := [(t, .inr (8, [.ref b, .int 8, .int at_, .int w, .int fl])), (b, .inl (G.2.2 0, 400, .inl f_12))]) hx hb ht hown hK hP hD hS i_X8 tyX8 tyX8_ok nmX8 0 rfl rfl 1 (by decide) wd_157 rfl rfl rfl rfl (Nat.le_of_ble_eq_true rfl) rfl dX8_put_40 (fun H locs hP hD hS => ?_)
  refine lv_iinc (v := (-8)) (lv' := [(2, .int (-8)), (0, .ref t), (1, .int x)]) hx hb dX8_put_43 hl (k := 0) rfl (by decide +kernel) (by decide) rfl (fun ls hl => ?_)
  refine lv_goto (tgt := 3) hx hb dX8_put_46 (by decide) ?_
  refine lv_iload_n hx hb dX8_put_3 rfl (lv_at hl 0 rfl) ?_
  refine lv_if_lt (tgt := 49) hx hb dX8_put_4 (by decide) (fun _ => ?_) (fun c0 => absurd (by decide +kernel) c0)
  have hP9 := hP.sub (ws' := [(t, .inr (8, [.ref b, .int 8, .int at_, .int w, .int fl])), (b, .inl (G.2.2 0, 400, .inl f_12))]) [0, 1] rfl
  have hD9 := hD.sub (ws' := [(t, .inr (8, [.ref b, .int 8, .int at_, .int w, .int fl])), (b, .inl (G.2.2 0, 400, .inl f_12))]) [0, 1] (by decide) rfl
  exact W.vret hx hb hr (gq_endV (f_12) trivial hP9 hD9 hS) hS.2.2 dX8_put_49
set_option maxHeartbeats 4000000 in
set_option maxRecDepth 100000 in
theorem c_Tape_put8 (l : Launch) (G : gg_T) (sz : Nat) (t : Nat) (b : Nat) (at_ : Int32) (w : Int32) (fl : Int32) (x : Int32) (f : Nat → Int32) : Met l yX8_put (ts_L yX8_put cX8_put 3 none) ({ frames := 0, cells := 0, slots := 0, locals := 0 }) (gc_P G [(t, .inr (8, [.ref b, .int 8, .int at_, .int w, .int fl])), (b, .inl (G.2.2 0, 400, .inl f))] sz [.ref t, .int x]) (gc_V G (va_A [(t, .inr (8, [.ref b, .int 8, .int at_, .int w, .int fl])), (b, .inl (G.2.2 0, 400, .inl f))] sz) (fun (_ : (Nat → Int32)) => True) (fun (u : (Nat → Int32)) => match u with | g => [(t, .inr (8, [.ref b, .int 12, .int at_, .int w, .int fl])), (b, .inl (G.2.2 0, 400, .inl g))])) 0 0 (va_A [(t, .inr (8, [.ref b, .int 8, .int at_, .int w, .int fl])), (b, .inl (G.2.2 0, 400, .inl f))] sz) := by
  refine Met.ofW (cc := cX8_put) (maxL := 3) (ret := none) (by decide) rfl ?_
  intro p e s m args below meth c s₁ B hml hv
  obtain ⟨rfl, hsz, hP, hK, hD0⟩ := hv
  have hx := B.exec
  have hb := B.bytes
  have hr := B.returns
  have ht := ts_ht (atoms_spec (ws := ts_L yX8_put cX8_put 3 none) B.pre)
  have hown : s.vm.findClass RX8 = some m.cls := findClass_of_methodNamed B.named
  have hlocks := B.notSynchronized
  subst hsz
  have hD := hD0.self (sz := s.heap.size)
  generalize hAe : va_A [(t, .inr (8, [.ref b, .int 8, .int at_, .int w, .int fl])), (b, .inl (G.2.2 0, 400, .inl f))] s.heap.size = A at hD ⊢
  have hA : ∀ q : Nat, s.heap.size ≤ q → A q := fun q h => by rw [← hAe]; exact Or.inr h
  have hS : va_S A s.heap s.heap [] := va_S.rf
  have hl := lv_entry ([.ref t, .int x]) (n := 3) (Nat.le_of_ble_eq_true rfl)
  rw [lg_entry_eq]
  generalize (lg_sl ([.ref t, .int x]) ++ List.replicate (3 - (lg_sl ([.ref t, .int x])).length) Slot.unset).toArray = ls at hl ⊢
  have hl : lv_has ls 3 [(0, .ref t), (1, .int x)] := hl
  refine lv_bipush (v := 24) hx hb dX8_put_0 (by decide +kernel) ?_
  refine lv_istore_n (lv' := [(2, .int 24), (0, .ref t), (1, .int x)]) hx hb dX8_put_2 rfl hl (by decide) rfl (fun ls hl => ?_)
  refine lv_iload_n hx hb dX8_put_3 rfl (lv_at hl 0 rfl) ?_
  refine lv_if_lt (tgt := 49) hx hb dX8_put_4 (by decide) (fun c0 => absurd c0 (by decide +kernel)) (fun _ => ?_)
  refine lv_aload_n hx hb dX8_put_7 rfl (lv_at hl 1 rfl) ?_
  refine gq_get hx hb ht hown hK hP i_X8 0 rfl rfl 1 (by decide) wd_157 rfl rfl dX8_put_8 ?_
  refine lv_sipush (v := 400) hx hb dX8_put_11 (by decide +kernel) ?_
  refine lv_icmp_ge (tgt := 43) hx hb dX8_put_14 (by decide) (fun c0 => absurd c0 (by decide +kernel)) (fun _ => ?_)
  refine lv_aload_n hx hb dX8_put_17 rfl (lv_at hl 1 rfl) ?_
  refine gq_get hx hb ht hown hK hP i_X8 0 rfl rfl 0 (by decide) wd_156 rfl rfl dX8_put_18 ?_
  refine lv_aload_n hx hb dX8_put_21 rfl (lv_at hl 1 rfl) ?_
  refine gq_get hx hb ht hown hK hP i_X8 0 rfl rfl 1 (by decide) wd_157 rfl rfl dX8_put_22 ?_
  refine lv_iload_n hx hb dX8_put_25 rfl (lv_at hl 2 rfl) ?_
  refine lv_iload_n hx hb dX8_put_26 rfl (lv_at hl 0 rfl) ?_
  obtain ⟨t_1, et_1⟩ : ∃ z : Int32, (x >>> (24 &&& 31)) = z := ⟨_, rfl⟩
  refine gq_ishr hx hb t_1 et_1 dX8_put_27 ?_
  refine lv_sipush (v := 255) hx hb dX8_put_28 (by decide +kernel) ?_
  obtain ⟨t_2, et_2⟩ : ∃ z : Int32, (t_1 &&& 255) = z := ⟨_, rfl⟩
  refine gq_iand hx hb t_2 et_2 dX8_put_31 ?_
  obtain ⟨f_3, ef_3⟩ : ∃ z : Nat → Int32, upd f (Int32.toNatClampNeg 8) t_2 = z := ⟨_, rfl⟩
  refine gq_iast (ws' := [(t, .inr (8, [.ref b, .int 8, .int at_, .int w, .int fl])), (b, .inl (G.2.2 0, 400, .inl f_3))]) hx hb hK hP hD hS 1 rfl f_3 (by unfold vp_in; decide +kernel) ef_3 rfl dX8_put_32 (fun H locs hP hD hS => ?_)
  refine lv_aload_n hx hb dX8_put_33 rfl (lv_at hl 1 rfl) ?_
  refine lv_dup hx hb dX8_put_34 rfl ?_
  refine gq_get hx hb ht hown hK hP i_X8 0 rfl rfl 1 (by decide) wd_157 rfl rfl dX8_put_35 ?_
  refine lv_iconst (v := 1) hx hb dX8_put_38 (by decide) ?_
  refine gq_iadd hx hb 9 (by decide +kernel) dX8_put_39 ?_
  refine gq_put (ws' := [(t, .inr (8, [.ref b, .int 9, .int at_, .int w, .int fl])), (b, .inl (G.2.2 0, 400, .inl f_3))]) hx hb ht hown hK hP hD hS i_X8 tyX8 tyX8_ok nmX8 0 rfl rfl 1 (by decide) wd_157 rfl rfl rfl rfl (Nat.le_of_ble_eq_true rfl) rfl dX8_put_40 (fun H locs hP hD hS => ?_)
  refine lv_iinc (v := 16) (lv' := [(2, .int 16), (0, .ref t), (1, .int x)]) hx hb dX8_put_43 hl (k := 0) rfl (by decide +kernel) (by decide) rfl (fun ls hl => ?_)
  refine lv_goto (tgt := 3) hx hb dX8_put_46 (by decide) ?_
  refine lv_iload_n hx hb dX8_put_3 rfl (lv_at hl 0 rfl) ?_
  refine lv_if_lt (tgt := 49) hx hb dX8_put_4 (by decide) (fun c0 => absurd c0 (by decide +kernel)) (fun _ => ?_)
  refine lv_aload_n hx hb dX8_put_7 rfl (lv_at hl 1 rfl) ?_
  refine gq_get hx hb ht hown hK hP i_X8 0 rfl rfl 1 (by decide) wd_157 rfl rfl dX8_put_8 ?_
  refine lv_sipush (v := 400) hx hb dX8_put_11 (by decide +kernel) ?_
  refine lv_icmp_ge (tgt := 43) hx hb dX8_put_14 (by decide) (fun c0 => absurd c0 (by decide +kernel)) (fun _ => ?_)
  refine lv_aload_n hx hb dX8_put_17 rfl (lv_at hl 1 rfl) ?_
  refine gq_get hx hb ht hown hK hP i_X8 0 rfl rfl 0 (by decide) wd_156 rfl rfl dX8_put_18 ?_
  refine lv_aload_n hx hb dX8_put_21 rfl (lv_at hl 1 rfl) ?_
  refine gq_get hx hb ht hown hK hP i_X8 0 rfl rfl 1 (by decide) wd_157 rfl rfl dX8_put_22 ?_
  refine lv_iload_n hx hb dX8_put_25 rfl (lv_at hl 2 rfl) ?_
  refine lv_iload_n hx hb dX8_put_26 rfl (lv_at hl 0 rfl) ?_
  obtain ⟨t_4, et_4⟩ : ∃ z : Int32, (x >>> (16 &&& 31)) = z := ⟨_, rfl⟩
  refine gq_ishr hx hb t_4 et_4 dX8_put_27 ?_
  refine lv_sipush (v := 255) hx hb dX8_put_28 (by decide +kernel) ?_
  obtain ⟨t_5, et_5⟩ : ∃ z : Int32, (t_4 &&& 255) = z := ⟨_, rfl⟩
  refine gq_iand hx hb t_5 et_5 dX8_put_31 ?_
  obtain ⟨f_6, ef_6⟩ : ∃ z : Nat → Int32, upd f_3 (Int32.toNatClampNeg 9) t_5 = z := ⟨_, rfl⟩
  refine gq_iast (ws' := [(t, .inr (8, [.ref b, .int 9, .int at_, .int w, .int fl])), (b, .inl (G.2.2 0, 400, .inl f_6))]) hx hb hK hP hD hS 1 rfl f_6 (by unfold vp_in; decide +kernel) ef_6 rfl dX8_put_32 (fun H locs hP hD hS => ?_)
  refine lv_aload_n hx hb dX8_put_33 rfl (lv_at hl 1 rfl) ?_
  refine lv_dup hx hb dX8_put_34 rfl ?_
  refine gq_get hx hb ht hown hK hP i_X8 0 rfl rfl 1 (by decide) wd_157 rfl rfl dX8_put_35 ?_
  refine lv_iconst (v := 1) hx hb dX8_put_38 (by decide) ?_
  refine gq_iadd hx hb 10 (by decide +kernel) dX8_put_39 ?_
  refine gq_put (ws' := [(t, .inr (8, [.ref b, .int 10, .int at_, .int w, .int fl])), (b, .inl (G.2.2 0, 400, .inl f_6))]) hx hb ht hown hK hP hD hS i_X8 tyX8 tyX8_ok nmX8 0 rfl rfl 1 (by decide) wd_157 rfl rfl rfl rfl (Nat.le_of_ble_eq_true rfl) rfl dX8_put_40 (fun H locs hP hD hS => ?_)
  refine lv_iinc (v := 8) (lv' := [(2, .int 8), (0, .ref t), (1, .int x)]) hx hb dX8_put_43 hl (k := 0) rfl (by decide +kernel) (by decide) rfl (fun ls hl => ?_)
  refine lv_goto (tgt := 3) hx hb dX8_put_46 (by decide) ?_
  refine lv_iload_n hx hb dX8_put_3 rfl (lv_at hl 0 rfl) ?_
  refine lv_if_lt (tgt := 49) hx hb dX8_put_4 (by decide) (fun c0 => absurd c0 (by decide +kernel)) (fun _ => ?_)
  refine lv_aload_n hx hb dX8_put_7 rfl (lv_at hl 1 rfl) ?_
  refine gq_get hx hb ht hown hK hP i_X8 0 rfl rfl 1 (by decide) wd_157 rfl rfl dX8_put_8 ?_
  refine lv_sipush (v := 400) hx hb dX8_put_11 (by decide +kernel) ?_
  refine lv_icmp_ge (tgt := 43) hx hb dX8_put_14 (by decide) (fun c0 => absurd c0 (by decide +kernel)) (fun _ => ?_)
  refine lv_aload_n hx hb dX8_put_17 rfl (lv_at hl 1 rfl) ?_
  refine gq_get hx hb ht hown hK hP i_X8 0 rfl rfl 0 (by decide) wd_156 rfl rfl dX8_put_18 ?_
  refine lv_aload_n hx hb dX8_put_21 rfl (lv_at hl 1 rfl) ?_
  refine gq_get hx hb ht hown hK hP i_X8 0 rfl rfl 1 (by decide) wd_157 rfl rfl dX8_put_22 ?_
  refine lv_iload_n hx hb dX8_put_25 rfl (lv_at hl 2 rfl) ?_
  refine lv_iload_n hx hb dX8_put_26 rfl (lv_at hl 0 rfl) ?_
  obtain ⟨t_7, et_7⟩ : ∃ z : Int32, (x >>> (8 &&& 31)) = z := ⟨_, rfl⟩
  refine gq_ishr hx hb t_7 et_7 dX8_put_27 ?_
  refine lv_sipush (v := 255) hx hb dX8_put_28 (by decide +kernel) ?_
  obtain ⟨t_8, et_8⟩ : ∃ z : Int32, (t_7 &&& 255) = z := ⟨_, rfl⟩
  refine gq_iand hx hb t_8 et_8 dX8_put_31 ?_
  obtain ⟨f_9, ef_9⟩ : ∃ z : Nat → Int32, upd f_6 (Int32.toNatClampNeg 10) t_8 = z := ⟨_, rfl⟩
  refine gq_iast (ws' := [(t, .inr (8, [.ref b, .int 10, .int at_, .int w, .int fl])), (b, .inl (G.2.2 0, 400, .inl f_9))]) hx hb hK hP hD hS 1 rfl f_9 (by unfold vp_in; decide +kernel) ef_9 rfl dX8_put_32 (fun H locs hP hD hS => ?_)
  refine lv_aload_n hx hb dX8_put_33 rfl (lv_at hl 1 rfl) ?_
  refine lv_dup hx hb dX8_put_34 rfl ?_
  refine gq_get hx hb ht hown hK hP i_X8 0 rfl rfl 1 (by decide) wd_157 rfl rfl dX8_put_35 ?_
  refine lv_iconst (v := 1) hx hb dX8_put_38 (by decide) ?_
  refine gq_iadd hx hb 11 (by decide +kernel) dX8_put_39 ?_
  refine gq_put (ws' := [(t, .inr (8, [.ref b, .int 11, .int at_, .int w, .int fl])), (b, .inl (G.2.2 0, 400, .inl f_9))]) hx hb ht hown hK hP hD hS i_X8 tyX8 tyX8_ok nmX8 0 rfl rfl 1 (by decide) wd_157 rfl rfl rfl rfl (Nat.le_of_ble_eq_true rfl) rfl dX8_put_40 (fun H locs hP hD hS => ?_)
  refine lv_iinc (v := 0) (lv' := [(2, .int 0), (0, .ref t), (1, .int x)]) hx hb dX8_put_43 hl (k := 0) rfl (by decide +kernel) (by decide) rfl (fun ls hl => ?_)
  refine lv_goto (tgt := 3) hx hb dX8_put_46 (by decide) ?_
  refine lv_iload_n hx hb dX8_put_3 rfl (lv_at hl 0 rfl) ?_
  refine lv_if_lt (tgt := 49) hx hb dX8_put_4 (by decide) (fun c0 => absurd c0 (by decide +kernel)) (fun _ => ?_)
  refine lv_aload_n hx hb dX8_put_7 rfl (lv_at hl 1 rfl) ?_
  refine gq_get hx hb ht hown hK hP i_X8 0 rfl rfl 1 (by decide) wd_157 rfl rfl dX8_put_8 ?_
  refine lv_sipush (v := 400) hx hb dX8_put_11 (by decide +kernel) ?_
  refine lv_icmp_ge (tgt := 43) hx hb dX8_put_14 (by decide) (fun c0 => absurd c0 (by decide +kernel)) (fun _ => ?_)
  refine lv_aload_n hx hb dX8_put_17 rfl (lv_at hl 1 rfl) ?_
  refine gq_get hx hb ht hown hK hP i_X8 0 rfl rfl 0 (by decide) wd_156 rfl rfl dX8_put_18 ?_
  refine lv_aload_n hx hb dX8_put_21 rfl (lv_at hl 1 rfl) ?_
  refine gq_get hx hb ht hown hK hP i_X8 0 rfl rfl 1 (by decide) wd_157 rfl rfl dX8_put_22 ?_
  refine lv_iload_n hx hb dX8_put_25 rfl (lv_at hl 2 rfl) ?_
  refine lv_iload_n hx hb dX8_put_26 rfl (lv_at hl 0 rfl) ?_
  obtain ⟨t_10, et_10⟩ : ∃ z : Int32, (x >>> (0 &&& 31)) = z := ⟨_, rfl⟩
  refine gq_ishr hx hb t_10 et_10 dX8_put_27 ?_
  refine lv_sipush (v := 255) hx hb dX8_put_28 (by decide +kernel) ?_
  obtain ⟨t_11, et_11⟩ : ∃ z : Int32, (t_10 &&& 255) = z := ⟨_, rfl⟩
  refine gq_iand hx hb t_11 et_11 dX8_put_31 ?_
  obtain ⟨f_12, ef_12⟩ : ∃ z : Nat → Int32, upd f_9 (Int32.toNatClampNeg 11) t_11 = z := ⟨_, rfl⟩
  refine gq_iast (ws' := [(t, .inr (8, [.ref b, .int 11, .int at_, .int w, .int fl])), (b, .inl (G.2.2 0, 400, .inl f_12))]) hx hb hK hP hD hS 1 rfl f_12 (by unfold vp_in; decide +kernel) ef_12 rfl dX8_put_32 (fun H locs hP hD hS => ?_)
  refine lv_aload_n hx hb dX8_put_33 rfl (lv_at hl 1 rfl) ?_
  refine lv_dup hx hb dX8_put_34 rfl ?_
  refine gq_get hx hb ht hown hK hP i_X8 0 rfl rfl 1 (by decide) wd_157 rfl rfl dX8_put_35 ?_
  refine lv_iconst (v := 1) hx hb dX8_put_38 (by decide) ?_
  refine gq_iadd hx hb 12 (by decide +kernel) dX8_put_39 ?_
  refine gq_put (ws' := [(t, .inr (8, [.ref b, .int 12, .int at_, .int w, .int fl])), (b, .inl (G.2.2 0, 400, .inl f_12))]) hx hb ht hown hK hP hD hS i_X8 tyX8 tyX8_ok nmX8 0 rfl rfl 1 (by decide) wd_157 rfl rfl rfl rfl (Nat.le_of_ble_eq_true rfl) rfl dX8_put_40 (fun H locs hP hD hS => ?_)
  refine lv_iinc (v := (-8)) (lv' := [(2, .int (-8)), (0, .ref t), (1, .int x)]) hx hb dX8_put_43 hl (k := 0) rfl (by decide +kernel) (by decide) rfl (fun ls hl => ?_)
  refine lv_goto (tgt := 3) hx hb dX8_put_46 (by decide) ?_
  refine lv_iload_n hx hb dX8_put_3 rfl (lv_at hl 0 rfl) ?_
  refine lv_if_lt (tgt := 49) hx hb dX8_put_4 (by decide) (fun _ => ?_) (fun c0 => absurd (by decide +kernel) c0)
  have hP9 := hP.sub (ws' := [(t, .inr (8, [.ref b, .int 12, .int at_, .int w, .int fl])), (b, .inl (G.2.2 0, 400, .inl f_12))]) [0, 1] rfl
  have hD9 := hD.sub (ws' := [(t, .inr (8, [.ref b, .int 12, .int at_, .int w, .int fl])), (b, .inl (G.2.2 0, 400, .inl f_12))]) [0, 1] (by decide) rfl
  exact W.vret hx hb hr (gq_endV (f_12) trivial hP9 hD9 hS) hS.2.2 dX8_put_49
set_option maxHeartbeats 4000000 in
set_option maxRecDepth 100000 in
theorem c_Tape_put12 (l : Launch) (G : gg_T) (sz : Nat) (t : Nat) (b : Nat) (at_ : Int32) (w : Int32) (fl : Int32) (x : Int32) (f : Nat → Int32) : Met l yX8_put (ts_L yX8_put cX8_put 3 none) ({ frames := 0, cells := 0, slots := 0, locals := 0 }) (gc_P G [(t, .inr (8, [.ref b, .int 12, .int at_, .int w, .int fl])), (b, .inl (G.2.2 0, 400, .inl f))] sz [.ref t, .int x]) (gc_V G (va_A [(t, .inr (8, [.ref b, .int 12, .int at_, .int w, .int fl])), (b, .inl (G.2.2 0, 400, .inl f))] sz) (fun (_ : (Nat → Int32)) => True) (fun (u : (Nat → Int32)) => match u with | g => [(t, .inr (8, [.ref b, .int 16, .int at_, .int w, .int fl])), (b, .inl (G.2.2 0, 400, .inl g))])) 0 0 (va_A [(t, .inr (8, [.ref b, .int 12, .int at_, .int w, .int fl])), (b, .inl (G.2.2 0, 400, .inl f))] sz) := by
  refine Met.ofW (cc := cX8_put) (maxL := 3) (ret := none) (by decide) rfl ?_
  intro p e s m args below meth c s₁ B hml hv
  obtain ⟨rfl, hsz, hP, hK, hD0⟩ := hv
  have hx := B.exec
  have hb := B.bytes
  have hr := B.returns
  have ht := ts_ht (atoms_spec (ws := ts_L yX8_put cX8_put 3 none) B.pre)
  have hown : s.vm.findClass RX8 = some m.cls := findClass_of_methodNamed B.named
  have hlocks := B.notSynchronized
  subst hsz
  have hD := hD0.self (sz := s.heap.size)
  generalize hAe : va_A [(t, .inr (8, [.ref b, .int 12, .int at_, .int w, .int fl])), (b, .inl (G.2.2 0, 400, .inl f))] s.heap.size = A at hD ⊢
  have hA : ∀ q : Nat, s.heap.size ≤ q → A q := fun q h => by rw [← hAe]; exact Or.inr h
  have hS : va_S A s.heap s.heap [] := va_S.rf
  have hl := lv_entry ([.ref t, .int x]) (n := 3) (Nat.le_of_ble_eq_true rfl)
  rw [lg_entry_eq]
  generalize (lg_sl ([.ref t, .int x]) ++ List.replicate (3 - (lg_sl ([.ref t, .int x])).length) Slot.unset).toArray = ls at hl ⊢
  have hl : lv_has ls 3 [(0, .ref t), (1, .int x)] := hl
  refine lv_bipush (v := 24) hx hb dX8_put_0 (by decide +kernel) ?_
  refine lv_istore_n (lv' := [(2, .int 24), (0, .ref t), (1, .int x)]) hx hb dX8_put_2 rfl hl (by decide) rfl (fun ls hl => ?_)
  refine lv_iload_n hx hb dX8_put_3 rfl (lv_at hl 0 rfl) ?_
  refine lv_if_lt (tgt := 49) hx hb dX8_put_4 (by decide) (fun c0 => absurd c0 (by decide +kernel)) (fun _ => ?_)
  refine lv_aload_n hx hb dX8_put_7 rfl (lv_at hl 1 rfl) ?_
  refine gq_get hx hb ht hown hK hP i_X8 0 rfl rfl 1 (by decide) wd_157 rfl rfl dX8_put_8 ?_
  refine lv_sipush (v := 400) hx hb dX8_put_11 (by decide +kernel) ?_
  refine lv_icmp_ge (tgt := 43) hx hb dX8_put_14 (by decide) (fun c0 => absurd c0 (by decide +kernel)) (fun _ => ?_)
  refine lv_aload_n hx hb dX8_put_17 rfl (lv_at hl 1 rfl) ?_
  refine gq_get hx hb ht hown hK hP i_X8 0 rfl rfl 0 (by decide) wd_156 rfl rfl dX8_put_18 ?_
  refine lv_aload_n hx hb dX8_put_21 rfl (lv_at hl 1 rfl) ?_
  refine gq_get hx hb ht hown hK hP i_X8 0 rfl rfl 1 (by decide) wd_157 rfl rfl dX8_put_22 ?_
  refine lv_iload_n hx hb dX8_put_25 rfl (lv_at hl 2 rfl) ?_
  refine lv_iload_n hx hb dX8_put_26 rfl (lv_at hl 0 rfl) ?_
  obtain ⟨t_1, et_1⟩ : ∃ z : Int32, (x >>> (24 &&& 31)) = z := ⟨_, rfl⟩
  refine gq_ishr hx hb t_1 et_1 dX8_put_27 ?_
  refine lv_sipush (v := 255) hx hb dX8_put_28 (by decide +kernel) ?_
  obtain ⟨t_2, et_2⟩ : ∃ z : Int32, (t_1 &&& 255) = z := ⟨_, rfl⟩
  refine gq_iand hx hb t_2 et_2 dX8_put_31 ?_
  obtain ⟨f_3, ef_3⟩ : ∃ z : Nat → Int32, upd f (Int32.toNatClampNeg 12) t_2 = z := ⟨_, rfl⟩
  refine gq_iast (ws' := [(t, .inr (8, [.ref b, .int 12, .int at_, .int w, .int fl])), (b, .inl (G.2.2 0, 400, .inl f_3))]) hx hb hK hP hD hS 1 rfl f_3 (by unfold vp_in; decide +kernel) ef_3 rfl dX8_put_32 (fun H locs hP hD hS => ?_)
  refine lv_aload_n hx hb dX8_put_33 rfl (lv_at hl 1 rfl) ?_
  refine lv_dup hx hb dX8_put_34 rfl ?_
  refine gq_get hx hb ht hown hK hP i_X8 0 rfl rfl 1 (by decide) wd_157 rfl rfl dX8_put_35 ?_
  refine lv_iconst (v := 1) hx hb dX8_put_38 (by decide) ?_
  refine gq_iadd hx hb 13 (by decide +kernel) dX8_put_39 ?_
  refine gq_put (ws' := [(t, .inr (8, [.ref b, .int 13, .int at_, .int w, .int fl])), (b, .inl (G.2.2 0, 400, .inl f_3))]) hx hb ht hown hK hP hD hS i_X8 tyX8 tyX8_ok nmX8 0 rfl rfl 1 (by decide) wd_157 rfl rfl rfl rfl (Nat.le_of_ble_eq_true rfl) rfl dX8_put_40 (fun H locs hP hD hS => ?_)
  refine lv_iinc (v := 16) (lv' := [(2, .int 16), (0, .ref t), (1, .int x)]) hx hb dX8_put_43 hl (k := 0) rfl (by decide +kernel) (by decide) rfl (fun ls hl => ?_)
  refine lv_goto (tgt := 3) hx hb dX8_put_46 (by decide) ?_
  refine lv_iload_n hx hb dX8_put_3 rfl (lv_at hl 0 rfl) ?_
  refine lv_if_lt (tgt := 49) hx hb dX8_put_4 (by decide) (fun c0 => absurd c0 (by decide +kernel)) (fun _ => ?_)
  refine lv_aload_n hx hb dX8_put_7 rfl (lv_at hl 1 rfl) ?_
  refine gq_get hx hb ht hown hK hP i_X8 0 rfl rfl 1 (by decide) wd_157 rfl rfl dX8_put_8 ?_
  refine lv_sipush (v := 400) hx hb dX8_put_11 (by decide +kernel) ?_
  refine lv_icmp_ge (tgt := 43) hx hb dX8_put_14 (by decide) (fun c0 => absurd c0 (by decide +kernel)) (fun _ => ?_)
  refine lv_aload_n hx hb dX8_put_17 rfl (lv_at hl 1 rfl) ?_
  refine gq_get hx hb ht hown hK hP i_X8 0 rfl rfl 0 (by decide) wd_156 rfl rfl dX8_put_18 ?_
  refine lv_aload_n hx hb dX8_put_21 rfl (lv_at hl 1 rfl) ?_
  refine gq_get hx hb ht hown hK hP i_X8 0 rfl rfl 1 (by decide) wd_157 rfl rfl dX8_put_22 ?_
  refine lv_iload_n hx hb dX8_put_25 rfl (lv_at hl 2 rfl) ?_
  refine lv_iload_n hx hb dX8_put_26 rfl (lv_at hl 0 rfl) ?_
  obtain ⟨t_4, et_4⟩ : ∃ z : Int32, (x >>> (16 &&& 31)) = z := ⟨_, rfl⟩
  refine gq_ishr hx hb t_4 et_4 dX8_put_27 ?_
  refine lv_sipush (v := 255) hx hb dX8_put_28 (by decide +kernel) ?_
  obtain ⟨t_5, et_5⟩ : ∃ z : Int32, (t_4 &&& 255) = z := ⟨_, rfl⟩
  refine gq_iand hx hb t_5 et_5 dX8_put_31 ?_
  obtain ⟨f_6, ef_6⟩ : ∃ z : Nat → Int32, upd f_3 (Int32.toNatClampNeg 13) t_5 = z := ⟨_, rfl⟩
  refine gq_iast (ws' := [(t, .inr (8, [.ref b, .int 13, .int at_, .int w, .int fl])), (b, .inl (G.2.2 0, 400, .inl f_6))]) hx hb hK hP hD hS 1 rfl f_6 (by unfold vp_in; decide +kernel) ef_6 rfl dX8_put_32 (fun H locs hP hD hS => ?_)
  refine lv_aload_n hx hb dX8_put_33 rfl (lv_at hl 1 rfl) ?_
  refine lv_dup hx hb dX8_put_34 rfl ?_
  refine gq_get hx hb ht hown hK hP i_X8 0 rfl rfl 1 (by decide) wd_157 rfl rfl dX8_put_35 ?_
  refine lv_iconst (v := 1) hx hb dX8_put_38 (by decide) ?_
  refine gq_iadd hx hb 14 (by decide +kernel) dX8_put_39 ?_
  refine gq_put (ws' := [(t, .inr (8, [.ref b, .int 14, .int at_, .int w, .int fl])), (b, .inl (G.2.2 0, 400, .inl f_6))]) hx hb ht hown hK hP hD hS i_X8 tyX8 tyX8_ok nmX8 0 rfl rfl 1 (by decide) wd_157 rfl rfl rfl rfl (Nat.le_of_ble_eq_true rfl) rfl dX8_put_40 (fun H locs hP hD hS => ?_)
  refine lv_iinc (v := 8) (lv' := [(2, .int 8), (0, .ref t), (1, .int x)]) hx hb dX8_put_43 hl (k := 0) rfl (by decide +kernel) (by decide) rfl (fun ls hl => ?_)
  refine lv_goto (tgt := 3) hx hb dX8_put_46 (by decide) ?_
  refine lv_iload_n hx hb dX8_put_3 rfl (lv_at hl 0 rfl) ?_
  refine lv_if_lt (tgt := 49) hx hb dX8_put_4 (by decide) (fun c0 => absurd c0 (by decide +kernel)) (fun _ => ?_)
  refine lv_aload_n hx hb dX8_put_7 rfl (lv_at hl 1 rfl) ?_
  refine gq_get hx hb ht hown hK hP i_X8 0 rfl rfl 1 (by decide) wd_157 rfl rfl dX8_put_8 ?_
  refine lv_sipush (v := 400) hx hb dX8_put_11 (by decide +kernel) ?_
  refine lv_icmp_ge (tgt := 43) hx hb dX8_put_14 (by decide) (fun c0 => absurd c0 (by decide +kernel)) (fun _ => ?_)
  refine lv_aload_n hx hb dX8_put_17 rfl (lv_at hl 1 rfl) ?_
  refine gq_get hx hb ht hown hK hP i_X8 0 rfl rfl 0 (by decide) wd_156 rfl rfl dX8_put_18 ?_
  refine lv_aload_n hx hb dX8_put_21 rfl (lv_at hl 1 rfl) ?_
  refine gq_get hx hb ht hown hK hP i_X8 0 rfl rfl 1 (by decide) wd_157 rfl rfl dX8_put_22 ?_
  refine lv_iload_n hx hb dX8_put_25 rfl (lv_at hl 2 rfl) ?_
  refine lv_iload_n hx hb dX8_put_26 rfl (lv_at hl 0 rfl) ?_
  obtain ⟨t_7, et_7⟩ : ∃ z : Int32, (x >>> (8 &&& 31)) = z := ⟨_, rfl⟩
  refine gq_ishr hx hb t_7 et_7 dX8_put_27 ?_
  refine lv_sipush (v := 255) hx hb dX8_put_28 (by decide +kernel) ?_
  obtain ⟨t_8, et_8⟩ : ∃ z : Int32, (t_7 &&& 255) = z := ⟨_, rfl⟩
  refine gq_iand hx hb t_8 et_8 dX8_put_31 ?_
  obtain ⟨f_9, ef_9⟩ : ∃ z : Nat → Int32, upd f_6 (Int32.toNatClampNeg 14) t_8 = z := ⟨_, rfl⟩
  refine gq_iast (ws' := [(t, .inr (8, [.ref b, .int 14, .int at_, .int w, .int fl])), (b, .inl (G.2.2 0, 400, .inl f_9))]) hx hb hK hP hD hS 1 rfl f_9 (by unfold vp_in; decide +kernel) ef_9 rfl dX8_put_32 (fun H locs hP hD hS => ?_)
  refine lv_aload_n hx hb dX8_put_33 rfl (lv_at hl 1 rfl) ?_
  refine lv_dup hx hb dX8_put_34 rfl ?_
  refine gq_get hx hb ht hown hK hP i_X8 0 rfl rfl 1 (by decide) wd_157 rfl rfl dX8_put_35 ?_
  refine lv_iconst (v := 1) hx hb dX8_put_38 (by decide) ?_
  refine gq_iadd hx hb 15 (by decide +kernel) dX8_put_39 ?_
  refine gq_put (ws' := [(t, .inr (8, [.ref b, .int 15, .int at_, .int w, .int fl])), (b, .inl (G.2.2 0, 400, .inl f_9))]) hx hb ht hown hK hP hD hS i_X8 tyX8 tyX8_ok nmX8 0 rfl rfl 1 (by decide) wd_157 rfl rfl rfl rfl (Nat.le_of_ble_eq_true rfl) rfl dX8_put_40 (fun H locs hP hD hS => ?_)
  refine lv_iinc (v := 0) (lv' := [(2, .int 0), (0, .ref t), (1, .int x)]) hx hb dX8_put_43 hl (k := 0) rfl (by decide +kernel) (by decide) rfl (fun ls hl => ?_)
  refine lv_goto (tgt := 3) hx hb dX8_put_46 (by decide) ?_
  refine lv_iload_n hx hb dX8_put_3 rfl (lv_at hl 0 rfl) ?_
  refine lv_if_lt (tgt := 49) hx hb dX8_put_4 (by decide) (fun c0 => absurd c0 (by decide +kernel)) (fun _ => ?_)
  refine lv_aload_n hx hb dX8_put_7 rfl (lv_at hl 1 rfl) ?_
  refine gq_get hx hb ht hown hK hP i_X8 0 rfl rfl 1 (by decide) wd_157 rfl rfl dX8_put_8 ?_
  refine lv_sipush (v := 400) hx hb dX8_put_11 (by decide +kernel) ?_
  refine lv_icmp_ge (tgt := 43) hx hb dX8_put_14 (by decide) (fun c0 => absurd c0 (by decide +kernel)) (fun _ => ?_)
  refine lv_aload_n hx hb dX8_put_17 rfl (lv_at hl 1 rfl) ?_
  refine gq_get hx hb ht hown hK hP i_X8 0 rfl rfl 0 (by decide) wd_156 rfl rfl dX8_put_18 ?_
  refine lv_aload_n hx hb dX8_put_21 rfl (lv_at hl 1 rfl) ?_
  refine gq_get hx hb ht hown hK hP i_X8 0 rfl rfl 1 (by decide) wd_157 rfl rfl dX8_put_22 ?_
  refine lv_iload_n hx hb dX8_put_25 rfl (lv_at hl 2 rfl) ?_
  refine lv_iload_n hx hb dX8_put_26 rfl (lv_at hl 0 rfl) ?_
  obtain ⟨t_10, et_10⟩ : ∃ z : Int32, (x >>> (0 &&& 31)) = z := ⟨_, rfl⟩
  refine gq_ishr hx hb t_10 et_10 dX8_put_27 ?_
  refine lv_sipush (v := 255) hx hb dX8_put_28 (by decide +kernel) ?_
  obtain ⟨t_11, et_11⟩ : ∃ z : Int32, (t_10 &&& 255) = z := ⟨_, rfl⟩
  refine gq_iand hx hb t_11 et_11 dX8_put_31 ?_
  obtain ⟨f_12, ef_12⟩ : ∃ z : Nat → Int32, upd f_9 (Int32.toNatClampNeg 15) t_11 = z := ⟨_, rfl⟩
  refine gq_iast (ws' := [(t, .inr (8, [.ref b, .int 15, .int at_, .int w, .int fl])), (b, .inl (G.2.2 0, 400, .inl f_12))]) hx hb hK hP hD hS 1 rfl f_12 (by unfold vp_in; decide +kernel) ef_12 rfl dX8_put_32 (fun H locs hP hD hS => ?_)
  refine lv_aload_n hx hb dX8_put_33 rfl (lv_at hl 1 rfl) ?_
  refine lv_dup hx hb dX8_put_34 rfl ?_
  refine gq_get hx hb ht hown hK hP i_X8 0 rfl rfl 1 (by decide) wd_157 rfl rfl dX8_put_35 ?_
  refine lv_iconst (v := 1) hx hb dX8_put_38 (by decide) ?_
  refine gq_iadd hx hb 16 (by decide +kernel) dX8_put_39 ?_
  refine gq_put (ws' := [(t, .inr (8, [.ref b, .int 16, .int at_, .int w, .int fl])), (b, .inl (G.2.2 0, 400, .inl f_12))]) hx hb ht hown hK hP hD hS i_X8 tyX8 tyX8_ok nmX8 0 rfl rfl 1 (by decide) wd_157 rfl rfl rfl rfl (Nat.le_of_ble_eq_true rfl) rfl dX8_put_40 (fun H locs hP hD hS => ?_)
  refine lv_iinc (v := (-8)) (lv' := [(2, .int (-8)), (0, .ref t), (1, .int x)]) hx hb dX8_put_43 hl (k := 0) rfl (by decide +kernel) (by decide) rfl (fun ls hl => ?_)
  refine lv_goto (tgt := 3) hx hb dX8_put_46 (by decide) ?_
  refine lv_iload_n hx hb dX8_put_3 rfl (lv_at hl 0 rfl) ?_
  refine lv_if_lt (tgt := 49) hx hb dX8_put_4 (by decide) (fun _ => ?_) (fun c0 => absurd (by decide +kernel) c0)
  have hP9 := hP.sub (ws' := [(t, .inr (8, [.ref b, .int 16, .int at_, .int w, .int fl])), (b, .inl (G.2.2 0, 400, .inl f_12))]) [0, 1] rfl
  have hD9 := hD.sub (ws' := [(t, .inr (8, [.ref b, .int 16, .int at_, .int w, .int fl])), (b, .inl (G.2.2 0, 400, .inl f_12))]) [0, 1] (by decide) rfl
  exact W.vret hx hb hr (gq_endV (f_12) trivial hP9 hD9 hS) hS.2.2 dX8_put_49
set_option maxHeartbeats 4000000 in
set_option maxRecDepth 100000 in
theorem c_Tape_put16 (l : Launch) (G : gg_T) (sz : Nat) (t : Nat) (b : Nat) (at_ : Int32) (w : Int32) (fl : Int32) (x : Int32) (f : Nat → Int32) : Met l yX8_put (ts_L yX8_put cX8_put 3 none) ({ frames := 0, cells := 0, slots := 0, locals := 0 }) (gc_P G [(t, .inr (8, [.ref b, .int 16, .int at_, .int w, .int fl])), (b, .inl (G.2.2 0, 400, .inl f))] sz [.ref t, .int x]) (gc_V G (va_A [(t, .inr (8, [.ref b, .int 16, .int at_, .int w, .int fl])), (b, .inl (G.2.2 0, 400, .inl f))] sz) (fun (_ : (Nat → Int32)) => True) (fun (u : (Nat → Int32)) => match u with | g => [(t, .inr (8, [.ref b, .int 20, .int at_, .int w, .int fl])), (b, .inl (G.2.2 0, 400, .inl g))])) 0 0 (va_A [(t, .inr (8, [.ref b, .int 16, .int at_, .int w, .int fl])), (b, .inl (G.2.2 0, 400, .inl f))] sz) := by
  refine Met.ofW (cc := cX8_put) (maxL := 3) (ret := none) (by decide) rfl ?_
  intro p e s m args below meth c s₁ B hml hv
  obtain ⟨rfl, hsz, hP, hK, hD0⟩ := hv
  have hx := B.exec
  have hb := B.bytes
  have hr := B.returns
  have ht := ts_ht (atoms_spec (ws := ts_L yX8_put cX8_put 3 none) B.pre)
  have hown : s.vm.findClass RX8 = some m.cls := findClass_of_methodNamed B.named
  have hlocks := B.notSynchronized
  subst hsz
  have hD := hD0.self (sz := s.heap.size)
  generalize hAe : va_A [(t, .inr (8, [.ref b, .int 16, .int at_, .int w, .int fl])), (b, .inl (G.2.2 0, 400, .inl f))] s.heap.size = A at hD ⊢
  have hA : ∀ q : Nat, s.heap.size ≤ q → A q := fun q h => by rw [← hAe]; exact Or.inr h
  have hS : va_S A s.heap s.heap [] := va_S.rf
  have hl := lv_entry ([.ref t, .int x]) (n := 3) (Nat.le_of_ble_eq_true rfl)
  rw [lg_entry_eq]
  generalize (lg_sl ([.ref t, .int x]) ++ List.replicate (3 - (lg_sl ([.ref t, .int x])).length) Slot.unset).toArray = ls at hl ⊢
  have hl : lv_has ls 3 [(0, .ref t), (1, .int x)] := hl
  refine lv_bipush (v := 24) hx hb dX8_put_0 (by decide +kernel) ?_
  refine lv_istore_n (lv' := [(2, .int 24), (0, .ref t), (1, .int x)]) hx hb dX8_put_2 rfl hl (by decide) rfl (fun ls hl => ?_)
  refine lv_iload_n hx hb dX8_put_3 rfl (lv_at hl 0 rfl) ?_
  refine lv_if_lt (tgt := 49) hx hb dX8_put_4 (by decide) (fun c0 => absurd c0 (by decide +kernel)) (fun _ => ?_)
  refine lv_aload_n hx hb dX8_put_7 rfl (lv_at hl 1 rfl) ?_
  refine gq_get hx hb ht hown hK hP i_X8 0 rfl rfl 1 (by decide) wd_157 rfl rfl dX8_put_8 ?_
  refine lv_sipush (v := 400) hx hb dX8_put_11 (by decide +kernel) ?_
  refine lv_icmp_ge (tgt := 43) hx hb dX8_put_14 (by decide) (fun c0 => absurd c0 (by decide +kernel)) (fun _ => ?_)
  refine lv_aload_n hx hb dX8_put_17 rfl (lv_at hl 1 rfl) ?_
  refine gq_get hx hb ht hown hK hP i_X8 0 rfl rfl 0 (by decide) wd_156 rfl rfl dX8_put_18 ?_
  refine lv_aload_n hx hb dX8_put_21 rfl (lv_at hl 1 rfl) ?_
  refine gq_get hx hb ht hown hK hP i_X8 0 rfl rfl 1 (by decide) wd_157 rfl rfl dX8_put_22 ?_
  refine lv_iload_n hx hb dX8_put_25 rfl (lv_at hl 2 rfl) ?_
  refine lv_iload_n hx hb dX8_put_26 rfl (lv_at hl 0 rfl) ?_
  obtain ⟨t_1, et_1⟩ : ∃ z : Int32, (x >>> (24 &&& 31)) = z := ⟨_, rfl⟩
  refine gq_ishr hx hb t_1 et_1 dX8_put_27 ?_
  refine lv_sipush (v := 255) hx hb dX8_put_28 (by decide +kernel) ?_
  obtain ⟨t_2, et_2⟩ : ∃ z : Int32, (t_1 &&& 255) = z := ⟨_, rfl⟩
  refine gq_iand hx hb t_2 et_2 dX8_put_31 ?_
  obtain ⟨f_3, ef_3⟩ : ∃ z : Nat → Int32, upd f (Int32.toNatClampNeg 16) t_2 = z := ⟨_, rfl⟩
  refine gq_iast (ws' := [(t, .inr (8, [.ref b, .int 16, .int at_, .int w, .int fl])), (b, .inl (G.2.2 0, 400, .inl f_3))]) hx hb hK hP hD hS 1 rfl f_3 (by unfold vp_in; decide +kernel) ef_3 rfl dX8_put_32 (fun H locs hP hD hS => ?_)
  refine lv_aload_n hx hb dX8_put_33 rfl (lv_at hl 1 rfl) ?_
  refine lv_dup hx hb dX8_put_34 rfl ?_
  refine gq_get hx hb ht hown hK hP i_X8 0 rfl rfl 1 (by decide) wd_157 rfl rfl dX8_put_35 ?_
  refine lv_iconst (v := 1) hx hb dX8_put_38 (by decide) ?_
  refine gq_iadd hx hb 17 (by decide +kernel) dX8_put_39 ?_
  refine gq_put (ws' := [(t, .inr (8, [.ref b, .int 17, .int at_, .int w, .int fl])), (b, .inl (G.2.2 0, 400, .inl f_3))]) hx hb ht hown hK hP hD hS i_X8 tyX8 tyX8_ok nmX8 0 rfl rfl 1 (by decide) wd_157 rfl rfl rfl rfl (Nat.le_of_ble_eq_true rfl) rfl dX8_put_40 (fun H locs hP hD hS => ?_)
  refine lv_iinc (v := 16) (lv' := [(2, .int 16), (0, .ref t), (1, .int x)]) hx hb dX8_put_43 hl (k := 0) rfl (by decide +kernel) (by decide) rfl (fun ls hl => ?_)
  refine lv_goto (tgt := 3) hx hb dX8_put_46 (by decide) ?_
  refine lv_iload_n hx hb dX8_put_3 rfl (lv_at hl 0 rfl) ?_
  refine lv_if_lt (tgt := 49) hx hb dX8_put_4 (by decide) (fun c0 => absurd c0 (by decide +kernel)) (fun _ => ?_)
  refine lv_aload_n hx hb dX8_put_7 rfl (lv_at hl 1 rfl) ?_
  refine gq_get hx hb ht hown hK hP i_X8 0 rfl rfl 1 (by decide) wd_157 rfl rfl dX8_put_8 ?_
  refine lv_sipush (v := 400) hx hb dX8_put_11 (by decide +kernel) ?_
  refine lv_icmp_ge (tgt := 43) hx hb dX8_put_14 (by decide) (fun c0 => absurd c0 (by decide +kernel)) (fun _ => ?_)
  refine lv_aload_n hx hb dX8_put_17 rfl (lv_at hl 1 rfl) ?_
  refine gq_get hx hb ht hown hK hP i_X8 0 rfl rfl 0 (by decide) wd_156 rfl rfl dX8_put_18 ?_
  refine lv_aload_n hx hb dX8_put_21 rfl (lv_at hl 1 rfl) ?_
  refine gq_get hx hb ht hown hK hP i_X8 0 rfl rfl 1 (by decide) wd_157 rfl rfl dX8_put_22 ?_
  refine lv_iload_n hx hb dX8_put_25 rfl (lv_at hl 2 rfl) ?_
  refine lv_iload_n hx hb dX8_put_26 rfl (lv_at hl 0 rfl) ?_
  obtain ⟨t_4, et_4⟩ : ∃ z : Int32, (x >>> (16 &&& 31)) = z := ⟨_, rfl⟩
  refine gq_ishr hx hb t_4 et_4 dX8_put_27 ?_
  refine lv_sipush (v := 255) hx hb dX8_put_28 (by decide +kernel) ?_
  obtain ⟨t_5, et_5⟩ : ∃ z : Int32, (t_4 &&& 255) = z := ⟨_, rfl⟩
  refine gq_iand hx hb t_5 et_5 dX8_put_31 ?_
  obtain ⟨f_6, ef_6⟩ : ∃ z : Nat → Int32, upd f_3 (Int32.toNatClampNeg 17) t_5 = z := ⟨_, rfl⟩
  refine gq_iast (ws' := [(t, .inr (8, [.ref b, .int 17, .int at_, .int w, .int fl])), (b, .inl (G.2.2 0, 400, .inl f_6))]) hx hb hK hP hD hS 1 rfl f_6 (by unfold vp_in; decide +kernel) ef_6 rfl dX8_put_32 (fun H locs hP hD hS => ?_)
  refine lv_aload_n hx hb dX8_put_33 rfl (lv_at hl 1 rfl) ?_
  refine lv_dup hx hb dX8_put_34 rfl ?_
  refine gq_get hx hb ht hown hK hP i_X8 0 rfl rfl 1 (by decide) wd_157 rfl rfl dX8_put_35 ?_
  refine lv_iconst (v := 1) hx hb dX8_put_38 (by decide) ?_
  refine gq_iadd hx hb 18 (by decide +kernel) dX8_put_39 ?_
  refine gq_put (ws' := [(t, .inr (8, [.ref b, .int 18, .int at_, .int w, .int fl])), (b, .inl (G.2.2 0, 400, .inl f_6))]) hx hb ht hown hK hP hD hS i_X8 tyX8 tyX8_ok nmX8 0 rfl rfl 1 (by decide) wd_157 rfl rfl rfl rfl (Nat.le_of_ble_eq_true rfl) rfl dX8_put_40 (fun H locs hP hD hS => ?_)
  refine lv_iinc (v := 8) (lv' := [(2, .int 8), (0, .ref t), (1, .int x)]) hx hb dX8_put_43 hl (k := 0) rfl (by decide +kernel) (by decide) rfl (fun ls hl => ?_)
  refine lv_goto (tgt := 3) hx hb dX8_put_46 (by decide) ?_
  refine lv_iload_n hx hb dX8_put_3 rfl (lv_at hl 0 rfl) ?_
  refine lv_if_lt (tgt := 49) hx hb dX8_put_4 (by decide) (fun c0 => absurd c0 (by decide +kernel)) (fun _ => ?_)
  refine lv_aload_n hx hb dX8_put_7 rfl (lv_at hl 1 rfl) ?_
  refine gq_get hx hb ht hown hK hP i_X8 0 rfl rfl 1 (by decide) wd_157 rfl rfl dX8_put_8 ?_
  refine lv_sipush (v := 400) hx hb dX8_put_11 (by decide +kernel) ?_
  refine lv_icmp_ge (tgt := 43) hx hb dX8_put_14 (by decide) (fun c0 => absurd c0 (by decide +kernel)) (fun _ => ?_)
  refine lv_aload_n hx hb dX8_put_17 rfl (lv_at hl 1 rfl) ?_
  refine gq_get hx hb ht hown hK hP i_X8 0 rfl rfl 0 (by decide) wd_156 rfl rfl dX8_put_18 ?_
  refine lv_aload_n hx hb dX8_put_21 rfl (lv_at hl 1 rfl) ?_
  refine gq_get hx hb ht hown hK hP i_X8 0 rfl rfl 1 (by decide) wd_157 rfl rfl dX8_put_22 ?_
  refine lv_iload_n hx hb dX8_put_25 rfl (lv_at hl 2 rfl) ?_
  refine lv_iload_n hx hb dX8_put_26 rfl (lv_at hl 0 rfl) ?_
  obtain ⟨t_7, et_7⟩ : ∃ z : Int32, (x >>> (8 &&& 31)) = z := ⟨_, rfl⟩
  refine gq_ishr hx hb t_7 et_7 dX8_put_27 ?_
  refine lv_sipush (v := 255) hx hb dX8_put_28 (by decide +kernel) ?_
  obtain ⟨t_8, et_8⟩ : ∃ z : Int32, (t_7 &&& 255) = z := ⟨_, rfl⟩
  refine gq_iand hx hb t_8 et_8 dX8_put_31 ?_
  obtain ⟨f_9, ef_9⟩ : ∃ z : Nat → Int32, upd f_6 (Int32.toNatClampNeg 18) t_8 = z := ⟨_, rfl⟩
  refine gq_iast (ws' := [(t, .inr (8, [.ref b, .int 18, .int at_, .int w, .int fl])), (b, .inl (G.2.2 0, 400, .inl f_9))]) hx hb hK hP hD hS 1 rfl f_9 (by unfold vp_in; decide +kernel) ef_9 rfl dX8_put_32 (fun H locs hP hD hS => ?_)
  refine lv_aload_n hx hb dX8_put_33 rfl (lv_at hl 1 rfl) ?_
  refine lv_dup hx hb dX8_put_34 rfl ?_
  refine gq_get hx hb ht hown hK hP i_X8 0 rfl rfl 1 (by decide) wd_157 rfl rfl dX8_put_35 ?_
  refine lv_iconst (v := 1) hx hb dX8_put_38 (by decide) ?_
  refine gq_iadd hx hb 19 (by decide +kernel) dX8_put_39 ?_
  refine gq_put (ws' := [(t, .inr (8, [.ref b, .int 19, .int at_, .int w, .int fl])), (b, .inl (G.2.2 0, 400, .inl f_9))]) hx hb ht hown hK hP hD hS i_X8 tyX8 tyX8_ok nmX8 0 rfl rfl 1 (by decide) wd_157 rfl rfl rfl rfl (Nat.le_of_ble_eq_true rfl) rfl dX8_put_40 (fun H locs hP hD hS => ?_)
  refine lv_iinc (v := 0) (lv' := [(2, .int 0), (0, .ref t), (1, .int x)]) hx hb dX8_put_43 hl (k := 0) rfl (by decide +kernel) (by decide) rfl (fun ls hl => ?_)
  refine lv_goto (tgt := 3) hx hb dX8_put_46 (by decide) ?_
  refine lv_iload_n hx hb dX8_put_3 rfl (lv_at hl 0 rfl) ?_
  refine lv_if_lt (tgt := 49) hx hb dX8_put_4 (by decide) (fun c0 => absurd c0 (by decide +kernel)) (fun _ => ?_)
  refine lv_aload_n hx hb dX8_put_7 rfl (lv_at hl 1 rfl) ?_
  refine gq_get hx hb ht hown hK hP i_X8 0 rfl rfl 1 (by decide) wd_157 rfl rfl dX8_put_8 ?_
  refine lv_sipush (v := 400) hx hb dX8_put_11 (by decide +kernel) ?_
  refine lv_icmp_ge (tgt := 43) hx hb dX8_put_14 (by decide) (fun c0 => absurd c0 (by decide +kernel)) (fun _ => ?_)
  refine lv_aload_n hx hb dX8_put_17 rfl (lv_at hl 1 rfl) ?_
  refine gq_get hx hb ht hown hK hP i_X8 0 rfl rfl 0 (by decide) wd_156 rfl rfl dX8_put_18 ?_
  refine lv_aload_n hx hb dX8_put_21 rfl (lv_at hl 1 rfl) ?_
  refine gq_get hx hb ht hown hK hP i_X8 0 rfl rfl 1 (by decide) wd_157 rfl rfl dX8_put_22 ?_
  refine lv_iload_n hx hb dX8_put_25 rfl (lv_at hl 2 rfl) ?_
  refine lv_iload_n hx hb dX8_put_26 rfl (lv_at hl 0 rfl) ?_
  obtain ⟨t_10, et_10⟩ : ∃ z : Int32, (x >>> (0 &&& 31)) = z := ⟨_, rfl⟩
  refine gq_ishr hx hb t_10 et_10 dX8_put_27 ?_
  refine lv_sipush (v := 255) hx hb dX8_put_28 (by decide +kernel) ?_
  obtain ⟨t_11, et_11⟩ : ∃ z : Int32, (t_10 &&& 255) = z := ⟨_, rfl⟩
  refine gq_iand hx hb t_11 et_11 dX8_put_31 ?_
  obtain ⟨f_12, ef_12⟩ : ∃ z : Nat → Int32, upd f_9 (Int32.toNatClampNeg 19) t_11 = z := ⟨_, rfl⟩
  refine gq_iast (ws' := [(t, .inr (8, [.ref b, .int 19, .int at_, .int w, .int fl])), (b, .inl (G.2.2 0, 400, .inl f_12))]) hx hb hK hP hD hS 1 rfl f_12 (by unfold vp_in; decide +kernel) ef_12 rfl dX8_put_32 (fun H locs hP hD hS => ?_)
  refine lv_aload_n hx hb dX8_put_33 rfl (lv_at hl 1 rfl) ?_
  refine lv_dup hx hb dX8_put_34 rfl ?_
  refine gq_get hx hb ht hown hK hP i_X8 0 rfl rfl 1 (by decide) wd_157 rfl rfl dX8_put_35 ?_
  refine lv_iconst (v := 1) hx hb dX8_put_38 (by decide) ?_
  refine gq_iadd hx hb 20 (by decide +kernel) dX8_put_39 ?_
  refine gq_put (ws' := [(t, .inr (8, [.ref b, .int 20, .int at_, .int w, .int fl])), (b, .inl (G.2.2 0, 400, .inl f_12))]) hx hb ht hown hK hP hD hS i_X8 tyX8 tyX8_ok nmX8 0 rfl rfl 1 (by decide) wd_157 rfl rfl rfl rfl (Nat.le_of_ble_eq_true rfl) rfl dX8_put_40 (fun H locs hP hD hS => ?_)
  refine lv_iinc (v := (-8)) (lv' := [(2, .int (-8)), (0, .ref t), (1, .int x)]) hx hb dX8_put_43 hl (k := 0) rfl (by decide +kernel) (by decide) rfl (fun ls hl => ?_)
  refine lv_goto (tgt := 3) hx hb dX8_put_46 (by decide) ?_
  refine lv_iload_n hx hb dX8_put_3 rfl (lv_at hl 0 rfl) ?_
  refine lv_if_lt (tgt := 49) hx hb dX8_put_4 (by decide) (fun _ => ?_) (fun c0 => absurd (by decide +kernel) c0)
  have hP9 := hP.sub (ws' := [(t, .inr (8, [.ref b, .int 20, .int at_, .int w, .int fl])), (b, .inl (G.2.2 0, 400, .inl f_12))]) [0, 1] rfl
  have hD9 := hD.sub (ws' := [(t, .inr (8, [.ref b, .int 20, .int at_, .int w, .int fl])), (b, .inl (G.2.2 0, 400, .inl f_12))]) [0, 1] (by decide) rfl
  exact W.vret hx hb hr (gq_endV (f_12) trivial hP9 hD9 hS) hS.2.2 dX8_put_49

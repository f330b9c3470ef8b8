theorem wd_180 : (Jvm.Cond.fieldLink "SilentSale" (198 : Nat) "SilentSale$Terms" "longest" "I") ∈ tb_L := tb_in (i := 180) (by decide +kernel) (by decide +kernel)
theorem wd_498 : (Jvm.Cond.fieldLink "SilentSale" (19 : Nat) "SilentSale" "terms" "LSilentSale$Terms;") ∈ tb_L := tb_in (i := 498) (by decide +kernel) (by decide +kernel)
theorem wd_987 : (Jvm.Cond.code ({ cls := "SilentSale", name := "isTold", desc := "()Z" } : Jvm.MethodName) prog_1_method_33_code (1 : Nat) (Option.some Jvm.ClassFile.FieldType.boolean)) ∈ tb_L := tb_in (i := 987) (by decide +kernel) (by decide +kernel)
theorem dX11_isTold_0 : decode cX11_isTold 0 = .ok (.aload_n 0, 1) := by decide +kernel
theorem dX11_isTold_1 : decode cX11_isTold 1 = .ok (.getfield 19, 3) := by decide +kernel
theorem dX11_isTold_4 : decode cX11_isTold 4 = .ok (.getfield 198, 3) := by decide +kernel
theorem dX11_isTold_7 : decode cX11_isTold 7 = .ok (.ifCond .le 7, 3) := by decide +kernel
theorem dX11_isTold_10 : decode cX11_isTold 10 = .ok (.iconst 1, 1) := by decide +kernel
theorem dX11_isTold_11 : decode cX11_isTold 11 = .ok (.goto 4, 3) := by decide +kernel
theorem dX11_isTold_14 : decode cX11_isTold 14 = .ok (.iconst 0, 1) := by decide +kernel
theorem dX11_isTold_15 : decode cX11_isTold 15 = .ok (.ireturn, 1) := by decide +kernel
theorem wd_185 : (Jvm.Cond.fieldLink "SilentSale" (201 : Nat) "SilentSale$Terms" "bidders" "I") ∈ tb_L := tb_in (i := 185) (by decide +kernel) (by decide +kernel)
theorem wd_792 : (Jvm.Cond.code ({ cls := "SilentSale", name := "isBidder", desc := "(I)Z" } : Jvm.MethodName) prog_1_method_34_code (2 : Nat) (Option.some Jvm.ClassFile.FieldType.boolean)) ∈ tb_L := tb_in (i := 792) (by decide +kernel) (by decide +kernel)
theorem dX11_isBidder_0 : decode cX11_isBidder 0 = .ok (.iload_n 1, 1) := by decide +kernel
theorem dX11_isBidder_1 : decode cX11_isBidder 1 = .ok (.ifCond .lt 18, 3) := by decide +kernel
theorem dX11_isBidder_4 : decode cX11_isBidder 4 = .ok (.iload_n 1, 1) := by decide +kernel
theorem dX11_isBidder_5 : decode cX11_isBidder 5 = .ok (.aload_n 0, 1) := by decide +kernel
theorem dX11_isBidder_6 : decode cX11_isBidder 6 = .ok (.getfield 19, 3) := by decide +kernel
theorem dX11_isBidder_9 : decode cX11_isBidder 9 = .ok (.getfield 201, 3) := by decide +kernel
theorem dX11_isBidder_12 : decode cX11_isBidder 12 = .ok (.if_icmp .ge 7, 3) := by decide +kernel
theorem dX11_isBidder_15 : decode cX11_isBidder 15 = .ok (.iconst 1, 1) := by decide +kernel
theorem dX11_isBidder_16 : decode cX11_isBidder 16 = .ok (.goto 4, 3) := by decide +kernel
theorem dX11_isBidder_19 : decode cX11_isBidder 19 = .ok (.iconst 0, 1) := by decide +kernel
theorem dX11_isBidder_20 : decode cX11_isBidder 20 = .ok (.ireturn, 1) := by decide +kernel
theorem wd_190 : (Jvm.Cond.fieldLink "SilentSale" (130 : Nat) "SilentSale$Terms" "lots" "I") ∈ tb_L := tb_in (i := 190) (by decide +kernel) (by decide +kernel)
theorem wd_823 : (Jvm.Cond.code ({ cls := "SilentSale", name := "isLot", desc := "(I)Z" } : Jvm.MethodName) prog_1_method_35_code (2 : Nat) (Option.some Jvm.ClassFile.FieldType.boolean)) ∈ tb_L := tb_in (i := 823) (by decide +kernel) (by decide +kernel)
theorem dX11_isLot_0 : decode cX11_isLot 0 = .ok (.iload_n 1, 1) := by decide +kernel
theorem dX11_isLot_1 : decode cX11_isLot 1 = .ok (.ifCond .lt 18, 3) := by decide +kernel
theorem dX11_isLot_4 : decode cX11_isLot 4 = .ok (.iload_n 1, 1) := by decide +kernel
theorem dX11_isLot_5 : decode cX11_isLot 5 = .ok (.aload_n 0, 1) := by decide +kernel
theorem dX11_isLot_6 : decode cX11_isLot 6 = .ok (.getfield 19, 3) := by decide +kernel
theorem dX11_isLot_9 : decode cX11_isLot 9 = .ok (.getfield 130, 3) := by decide +kernel
theorem dX11_isLot_12 : decode cX11_isLot 12 = .ok (.if_icmp .ge 7, 3) := by decide +kernel
theorem dX11_isLot_15 : decode cX11_isLot 15 = .ok (.iconst 1, 1) := by decide +kernel
theorem dX11_isLot_16 : decode cX11_isLot 16 = .ok (.goto 4, 3) := by decide +kernel
theorem dX11_isLot_19 : decode cX11_isLot 19 = .ok (.iconst 0, 1) := by decide +kernel
theorem dX11_isLot_20 : decode cX11_isLot 20 = .ok (.ireturn, 1) := by decide +kernel
theorem wd_193 : (Jvm.Cond.fieldLink "SilentSale" (204 : Nat) "SilentSale$Terms" "tricks" "I") ∈ tb_L := tb_in (i := 193) (by decide +kernel) (by decide +kernel)
theorem wd_840 : (Jvm.Cond.code ({ cls := "SilentSale", name := "isTrick", desc := "(I)Z" } : Jvm.MethodName) prog_1_method_36_code (2 : Nat) (Option.some Jvm.ClassFile.FieldType.boolean)) ∈ tb_L := tb_in (i := 840) (by decide +kernel) (by decide +kernel)
theorem dX11_isTrick_0 : decode cX11_isTrick 0 = .ok (.iload_n 1, 1) := by decide +kernel
theorem dX11_isTrick_1 : decode cX11_isTrick 1 = .ok (.ifCond .lt 18, 3) := by decide +kernel
theorem dX11_isTrick_4 : decode cX11_isTrick 4 = .ok (.iload_n 1, 1) := by decide +kernel
theorem dX11_isTrick_5 : decode cX11_isTrick 5 = .ok (.aload_n 0, 1) := by decide +kernel
theorem dX11_isTrick_6 : decode cX11_isTrick 6 = .ok (.getfield 19, 3) := by decide +kernel
theorem dX11_isTrick_9 : decode cX11_isTrick 9 = .ok (.getfield 204, 3) := by decide +kernel
theorem dX11_isTrick_12 : decode cX11_isTrick 12 = .ok (.if_icmp .ge 7, 3) := by decide +kernel
theorem dX11_isTrick_15 : decode cX11_isTrick 15 = .ok (.iconst 1, 1) := by decide +kernel
theorem dX11_isTrick_16 : decode cX11_isTrick 16 = .ok (.goto 4, 3) := by decide +kernel
theorem dX11_isTrick_19 : decode cX11_isTrick 19 = .ok (.iconst 0, 1) := by decide +kernel
theorem dX11_isTrick_20 : decode cX11_isTrick 20 = .ok (.ireturn, 1) := by decide +kernel
theorem wd_504 : (Jvm.Cond.fieldLink "SilentSale" (52 : Nat) "SilentSale" "rules" "[LSilentSale$Rule;") ∈ tb_L := tb_in (i := 504) (by decide +kernel) (by decide +kernel)
theorem wd_506 : (Jvm.Cond.fieldLink "SilentSale" (67 : Nat) "SilentSale" "clerk" "LSilentSale$Clerk;") ∈ tb_L := tb_in (i := 506) (by decide +kernel) (by decide +kernel)
theorem wd_510 : (Jvm.Cond.fieldLink "SilentSale" (92 : Nat) "SilentSale" "ruleCount" "I") ∈ tb_L := tb_in (i := 510) (by decide +kernel) (by decide +kernel)
theorem wd_511 : (Jvm.Cond.fieldLink "SilentSale" (96 : Nat) "SilentSale" "inForce" "I") ∈ tb_L := tb_in (i := 511) (by decide +kernel) (by decide +kernel)
theorem wd_871 : (Jvm.Cond.code ({ cls := "SilentSale", name := "callClerk", desc := "()V" } : Jvm.MethodName) prog_1_method_37_code (1 : Nat) (Option.none : Option Jvm.ClassFile.FieldType)) ∈ tb_L := tb_in (i := 871) (by decide +kernel) (by decide +kernel)
theorem wd_872 : (Jvm.Cond.methodLink "SilentSale" (366 : Nat) ({ cls := "SilentSale$Clerk", name := "serve", desc := "(LSilentSale$Terms;LSilentSale$Rule;)V" } : Jvm.MethodName)) ∈ tb_L := tb_in (i := 872) (by decide +kernel) (by decide +kernel)
theorem dX11_callClerk_0 : decode cX11_callClerk 0 = .ok (.aload_n 0, 1) := by decide +kernel
theorem dX11_callClerk_1 : decode cX11_callClerk 1 = .ok (.getfield 67, 3) := by decide +kernel
theorem dX11_callClerk_4 : decode cX11_callClerk 4 = .ok (.aload_n 0, 1) := by decide +kernel
theorem dX11_callClerk_5 : decode cX11_callClerk 5 = .ok (.getfield 19, 3) := by decide +kernel
theorem dX11_callClerk_8 : decode cX11_callClerk 8 = .ok (.aload_n 0, 1) := by decide +kernel
theorem dX11_callClerk_9 : decode cX11_callClerk 9 = .ok (.getfield 96, 3) := by decide +kernel
theorem dX11_callClerk_12 : decode cX11_callClerk 12 = .ok (.ifCond .lt 26, 3) := by decide +kernel
theorem dX11_callClerk_15 : decode cX11_callClerk 15 = .ok (.aload_n 0, 1) := by decide +kernel
theorem dX11_callClerk_16 : decode cX11_callClerk 16 = .ok (.getfield 96, 3) := by decide +kernel
theorem dX11_callClerk_19 : decode cX11_callClerk 19 = .ok (.aload_n 0, 1) := by decide +kernel
theorem dX11_callClerk_20 : decode cX11_callClerk 20 = .ok (.getfield 92, 3) := by decide +kernel
theorem dX11_callClerk_23 : decode cX11_callClerk 23 = .ok (.if_icmp .ge 15, 3) := by decide +kernel
theorem dX11_callClerk_26 : decode cX11_callClerk 26 = .ok (.aload_n 0, 1) := by decide +kernel
theorem dX11_callClerk_27 : decode cX11_callClerk 27 = .ok (.getfield 52, 3) := by decide +kernel
theorem dX11_callClerk_30 : decode cX11_callClerk 30 = .ok (.aload_n 0, 1) := by decide +kernel
theorem dX11_callClerk_31 : decode cX11_callClerk 31 = .ok (.getfield 96, 3) := by decide +kernel
theorem dX11_callClerk_34 : decode cX11_callClerk 34 = .ok (.aaload, 1) := by decide +kernel
theorem dX11_callClerk_35 : decode cX11_callClerk 35 = .ok (.goto 4, 3) := by decide +kernel
theorem dX11_callClerk_38 : decode cX11_callClerk 38 = .ok (.aconst_null, 1) := by decide +kernel
theorem dX11_callClerk_39 : decode cX11_callClerk 39 = .ok (.invokevirtual 366, 3) := by decide +kernel
theorem dX11_callClerk_42 : decode cX11_callClerk 42 = .ok (.return_, 1) := by decide +kernel
theorem wd_17 : (Jvm.Cond.selects "SilentSale" ({ cls := "SilentSale", name := "callClerk", desc := "()V" } : Jvm.MethodName) ({ cls := "SilentSale", name := "callClerk", desc := "()V" } : Jvm.MethodName)) ∈ tb_L := tb_in (i := 17) (by decide +kernel) (by decide +kernel)
theorem wd_500 : (Jvm.Cond.fieldLink "SilentSale" (29 : Nat) "SilentSale" "state" "LSilentSale$State;") ∈ tb_L := tb_in (i := 500) (by decide +kernel) (by decide +kernel)
theorem wd_501 : (Jvm.Cond.fieldLink "SilentSale" (33 : Nat) "SilentSale" "asked" "LSilentSale$State;") ∈ tb_L := tb_in (i := 501) (by decide +kernel) (by decide +kernel)
theorem wd_868 : (Jvm.Cond.methodLink "SilentSale" (226 : Nat) ({ cls := "SilentSale", name := "callClerk", desc := "()V" } : Jvm.MethodName)) ∈ tb_L := tb_in (i := 868) (by decide +kernel) (by decide +kernel)
theorem wd_870 : (Jvm.Cond.instanceMethod ({ cls := "SilentSale", name := "callClerk", desc := "()V" } : Jvm.MethodName)) ∈ tb_L := tb_in (i := 870) (by decide +kernel) (by decide +kernel)
theorem wd_991 : (Jvm.Cond.code ({ cls := "SilentSale", name := "beginAsking", desc := "()V" } : Jvm.MethodName) prog_1_method_38_code (1 : Nat) (Option.none : Option Jvm.ClassFile.FieldType)) ∈ tb_L := tb_in (i := 991) (by decide +kernel) (by decide +kernel)
theorem wd_992 : (Jvm.Cond.methodLink "SilentSale" (312 : Nat) ({ cls := "SilentSale$State", name := "copyFrom", desc := "(LSilentSale$State;)V" } : Jvm.MethodName)) ∈ tb_L := tb_in (i := 992) (by decide +kernel) (by decide +kernel)
theorem dX11_beginAsking_0 : decode cX11_beginAsking 0 = .ok (.aload_n 0, 1) := by decide +kernel
theorem dX11_beginAsking_1 : decode cX11_beginAsking 1 = .ok (.invokevirtual 226, 3) := by decide +kernel
theorem dX11_beginAsking_4 : decode cX11_beginAsking 4 = .ok (.aload_n 0, 1) := by decide +kernel
theorem dX11_beginAsking_5 : decode cX11_beginAsking 5 = .ok (.getfield 33, 3) := by decide +kernel
theorem dX11_beginAsking_8 : decode cX11_beginAsking 8 = .ok (.aload_n 0, 1) := by decide +kernel
theorem dX11_beginAsking_9 : decode cX11_beginAsking 9 = .ok (.getfield 29, 3) := by decide +kernel
theorem dX11_beginAsking_12 : decode cX11_beginAsking 12 = .ok (.invokevirtual 312, 3) := by decide +kernel
theorem dX11_beginAsking_15 : decode cX11_beginAsking 15 = .ok (.return_, 1) := by decide +kernel
set_option maxHeartbeats 4000000 in
set_option maxRecDepth 100000 in
theorem d_isTold (l : Launch) (G : gg_T) (Γ : Nat → Nat) (sz : Nat) (wt : va_W) (hT : tk_ty G Γ wt) (tp : Nat) (h0 : Nat) (ra1 : Nat) (ra2 : Nat) (ra3 : Nat) (ra4 : Nat) (ra5 : Nat) (ra6 : Nat) (ra7 : Nat) (ra8 : Nat) (ra9 : Nat) (ra10 : Nat) (ra11 : Nat) (ra12 : Nat) (rc : Int32) (fo : Int32) (xx : Int32) (kr1 : Γ ra1 = 10) (kr2 : Γ ra2 = 10) (kr3 : Γ ra3 = 8) (kr4 : Γ ra4 = 8) (kr5 : Γ ra5 = 4) (kr6 : Γ ra6 = 3) (kr7 : Γ ra7 = 41) (kr9 : Γ ra9 = 1) (kr10 : Γ ra10 = 6) (kr11 : Γ ra11 = 11) (kr12 : Γ ra12 = 7) (xr1 : 0 ≤ rc.toInt) (xr2 : rc.toInt ≤ 6) : Met l yX11_isTold (ts_L yX11_isTold cX11_isTold 1 (some .boolean)) ({ frames := 0, cells := 0, slots := 0, locals := 0 }) (gc_P G ([(h0, .inr (11, [.ref tp, .ref ra1, .ref ra2, .ref ra3, .ref ra4, .ref ra5, .ref ra6, .ref ra7, .ref ra8, .ref ra9, .ref ra10, .ref ra11, .ref ra12, .int rc, .int fo, .int xx]))] ++ wt) sz [.ref h0]) (gc_I G (va_A ([(h0, .inr (11, [.ref tp, .ref ra1, .ref ra2, .ref ra3, .ref ra4, .ref ra5, .ref ra6, .ref ra7, .ref ra8, .ref ra9, .ref ra10, .ref ra11, .ref ra12, .int rc, .int fo, .int xx]))] ++ wt) sz) (fun r (u : va_W) => match u with | wt1 => tk_ty G Γ wt1 ∧ tk_kp [] wt wt1 ∧ 0 ≤ r.toInt ∧ r.toInt ≤ 1) (fun (u : va_W) => match u with | wt1 => [(h0, .inr (11, [.ref tp, .ref ra1, .ref ra2, .ref ra3, .ref ra4, .ref ra5, .ref ra6, .ref ra7, .ref ra8, .ref ra9, .ref ra10, .ref ra11, .ref ra12, .int rc, .int fo, .int xx]))] ++ wt1)) 0 0 (va_A ([(h0, .inr (11, [.ref tp, .ref ra1, .ref ra2, .ref ra3, .ref ra4, .ref ra5, .ref ra6, .ref ra7, .ref ra8, .ref ra9, .ref ra10, .ref ra11, .ref ra12, .int rc, .int fo, .int xx]))] ++ wt) sz) := by
  refine Met.ofW (cc := cX11_isTold) (maxL := 1) (ret := (some .boolean)) (by decide) rfl ?_
  intro p e s m args below meth c s₁ B hml hv
  obtain ⟨rfl, hsz, hP, hK, hD0⟩ := hv
  have hx := B.exec
  have hb := B.bytes
  have hr := B.returns
  have ht := ts_ht (atoms_spec (ws := ts_L yX11_isTold cX11_isTold 1 (some .boolean)) B.pre)
  have hown : s.vm.findClass RX11 = some m.cls := findClass_of_methodNamed B.named
  have hlocks := B.notSynchronized
  subst hsz
  have hD := hD0.self (sz := s.heap.size)
  generalize hAe : va_A ([(h0, .inr (11, [.ref tp, .ref ra1, .ref ra2, .ref ra3, .ref ra4, .ref ra5, .ref ra6, .ref ra7, .ref ra8, .ref ra9, .ref ra10, .ref ra11, .ref ra12, .int rc, .int fo, .int xx]))] ++ wt) s.heap.size = A at hD ⊢
  have hA : ∀ q : Nat, s.heap.size ≤ q → A q := fun q h => by rw [← hAe]; exact Or.inr h
  clear hAe hD0
  have hS : va_S A s.heap s.heap [] := va_S.rf
  obtain ⟨w0, hw0⟩ : ∃ z, z = wt := ⟨_, rfl⟩
  have hW : tk_kp [] w0 wt := by rw [hw0]; exact tk_kp.rf
  rw [← hw0]
  clear hw0
  have hP : va_P (gg_D G) classes ([(h0, .inr (11, [.ref tp, .ref ra1, .ref ra2, .ref ra3, .ref ra4, .ref ra5, .ref ra6, .ref ra7, .ref ra8, .ref ra9, .ref ra10, .ref ra11, .ref ra12, .int rc, .int fo, .int xx]))] ++ wt) s.heap := hP
  have hD : va_D A ([(h0, .inr (11, [.ref tp, .ref ra1, .ref ra2, .ref ra3, .ref ra4, .ref ra5, .ref ra6, .ref ra7, .ref ra8, .ref ra9, .ref ra10, .ref ra11, .ref ra12, .int rc, .int fo, .int xx]))] ++ wt) := hD
  have hl := lv_entry ([.ref h0]) (n := 1) (Nat.le_of_ble_eq_true rfl)
  rw [lg_entry_eq]
  generalize (lg_sl ([.ref h0]) ++ List.replicate (1 - (lg_sl ([.ref h0])).length) Slot.unset).toArray = ls at hl ⊢
  have hl : lv_has ls 1 [(0, .ref h0)] := hl
  have l0 : (0 : Int32).toInt = 0 := by decide +kernel
  have l1 : (1 : Int32).toInt = 1 := by decide +kernel
  refine lv_aload_n hx hb dX11_isTold_0 rfl (lv_at hl 0 rfl) ?_
  refine gq_get hx hb ht hown hK hP i_X11 0 rfl rfl 1 (by decide) wd_498 rfl rfl dX11_isTold_1 ?_
  refine tr_get (ci := 9) hx hb ht hown hK hT hP kr1 (by decide) i_X9 rfl 0 (by decide) wd_180 rfl dX11_isTold_4 (fun v hv hf_1 => ?_)
  obtain ⟨n_2, rfl⟩ := hv
  refine lv_if_le (tgt := 14) hx hb dX11_isTold_7 (by decide) (fun c_3 => ?_) (fun c_3 => ?_)
  · rw [Int32.le_iff_toInt_le] at c_3
    refine lv_iconst (v := 0) hx hb dX11_isTold_14 (by decide +kernel) ?_
    have hP9 : va_P (gg_D G) classes ([(h0, .inr (11, [.ref tp, .ref ra1, .ref ra2, .ref ra3, .ref ra4, .ref ra5, .ref ra6, .ref ra7, .ref ra8, .ref ra9, .ref ra10, .ref ra11, .ref ra12, .int rc, .int fo, .int xx]))] ++ wt) _ := hP
    have hD9 : va_D A ([(h0, .inr (11, [.ref tp, .ref ra1, .ref ra2, .ref ra3, .ref ra4, .ref ra5, .ref ra6, .ref ra7, .ref ra8, .ref ra9, .ref ra10, .ref ra11, .ref ra12, .int rc, .int fo, .int xx]))] ++ wt) := hD
    exact W.zret (v := 0) hx hb hr (by decide +kernel) (gq_endI wt ⟨hT, hW, (by omega), (by omega)⟩ hP9 hD9 hS) hS.2.2 dX11_isTold_15
  · rw [Int32.le_iff_toInt_le] at c_3
    refine lv_iconst (v := 1) hx hb dX11_isTold_10 (by decide +kernel) ?_
    refine lv_goto (tgt := 15) hx hb dX11_isTold_11 (by decide) ?_
    have hP9 : va_P (gg_D G) classes ([(h0, .inr (11, [.ref tp, .ref ra1, .ref ra2, .ref ra3, .ref ra4, .ref ra5, .ref ra6, .ref ra7, .ref ra8, .ref ra9, .ref ra10, .ref ra11, .ref ra12, .int rc, .int fo, .int xx]))] ++ wt) _ := hP
    have hD9 : va_D A ([(h0, .inr (11, [.ref tp, .ref ra1, .ref ra2, .ref ra3, .ref ra4, .ref ra5, .ref ra6, .ref ra7, .ref ra8, .ref ra9, .ref ra10, .ref ra11, .ref ra12, .int rc, .int fo, .int xx]))] ++ wt) := hD
    exact W.zret (v := 1) hx hb hr (by decide +kernel) (gq_endI wt ⟨hT, hW, (by omega), (by omega)⟩ hP9 hD9 hS) hS.2.2 dX11_isTold_15
set_option maxHeartbeats 4000000 in
set_option maxRecDepth 100000 in
theorem d_isBidder (l : Launch) (G : gg_T) (Γ : Nat → Nat) (sz : Nat) (wt : va_W) (hT : tk_ty G Γ wt) (b : Int32) (tp : Nat) (h0 : Nat) (ra1 : Nat) (ra2 : Nat) (ra3 : Nat) (ra4 : Nat) (ra5 : Nat) (ra6 : Nat) (ra7 : Nat) (ra8 : Nat) (ra9 : Nat) (ra10 : Nat) (ra11 : Nat) (ra12 : Nat) (rc : Int32) (fo : Int32) (xx : Int32) (kr1 : Γ ra1 = 10) (kr2 : Γ ra2 = 10) (kr3 : Γ ra3 = 8) (kr4 : Γ ra4 = 8) (kr5 : Γ ra5 = 4) (kr6 : Γ ra6 = 3) (kr7 : Γ ra7 = 41) (kr9 : Γ ra9 = 1) (kr10 : Γ ra10 = 6) (kr11 : Γ ra11 = 11) (kr12 : Γ ra12 = 7) (xr1 : 0 ≤ rc.toInt) (xr2 : rc.toInt ≤ 6) : Met l yX11_isBidder (ts_L yX11_isBidder cX11_isBidder 2 (some .boolean)) ({ frames := 0, cells := 0, slots := 0, locals := 0 }) (gc_P G ([(h0, .inr (11, [.ref tp, .ref ra1, .ref ra2, .ref ra3, .ref ra4, .ref ra5, .ref ra6, .ref ra7, .ref ra8, .ref ra9, .ref ra10, .ref ra11, .ref ra12, .int rc, .int fo, .int xx]))] ++ wt) sz [.ref h0, .int b]) (gc_I G (va_A ([(h0, .inr (11, [.ref tp, .ref ra1, .ref ra2, .ref ra3, .ref ra4, .ref ra5, .ref ra6, .ref ra7, .ref ra8, .ref ra9, .ref ra10, .ref ra11, .ref ra12, .int rc, .int fo, .int xx]))] ++ wt) sz) (fun r (u : va_W) => match u with | wt1 => tk_ty G Γ wt1 ∧ tk_kp [] wt wt1 ∧ 0 ≤ r.toInt ∧ r.toInt ≤ 1 ∧ (r ≠ 0 → 0 ≤ b.toInt ∧ b.toInt ≤ 4)) (fun (u : va_W) => match u with | wt1 => [(h0, .inr (11, [.ref tp, .ref ra1, .ref ra2, .ref ra3, .ref ra4, .ref ra5, .ref ra6, .ref ra7, .ref ra8, .ref ra9, .ref ra10, .ref ra11, .ref ra12, .int rc, .int fo, .int xx]))] ++ wt1)) 0 0 (va_A ([(h0, .inr (11, [.ref tp, .ref ra1, .ref ra2, .ref ra3, .ref ra4, .ref ra5, .ref ra6, .ref ra7, .ref ra8, .ref ra9, .ref ra10, .ref ra11, .ref ra12, .int rc, .int fo, .int xx]))] ++ wt) sz) := by
  refine Met.ofW (cc := cX11_isBidder) (maxL := 2) (ret := (some .boolean)) (by decide) rfl ?_
  intro p e s m args below meth c s₁ B hml hv
  obtain ⟨rfl, hsz, hP, hK, hD0⟩ := hv
  have hx := B.exec
  have hb := B.bytes
  have hr := B.returns
  have ht := ts_ht (atoms_spec (ws := ts_L yX11_isBidder cX11_isBidder 2 (some .boolean)) B.pre)
  have hown : s.vm.findClass RX11 = some m.cls := findClass_of_methodNamed B.named
  have hlocks := B.notSynchronized
  subst hsz
  have hD := hD0.self (sz := s.heap.size)
  generalize hAe : va_A ([(h0, .inr (11, [.ref tp, .ref ra1, .ref ra2, .ref ra3, .ref ra4, .ref ra5, .ref ra6, .ref ra7, .ref ra8, .ref ra9, .ref ra10, .ref ra11, .ref ra12, .int rc, .int fo, .int xx]))] ++ wt) s.heap.size = A at hD ⊢
  have hA : ∀ q : Nat, s.heap.size ≤ q → A q := fun q h => by rw [← hAe]; exact Or.inr h
  clear hAe hD0
  have hS : va_S A s.heap s.heap [] := va_S.rf
  obtain ⟨w0, hw0⟩ : ∃ z, z = wt := ⟨_, rfl⟩
  have hW : tk_kp [] w0 wt := by rw [hw0]; exact tk_kp.rf
  rw [← hw0]
  clear hw0
  have hP : va_P (gg_D G) classes ([(h0, .inr (11, [.ref tp, .ref ra1, .ref ra2, .ref ra3, .ref ra4, .ref ra5, .ref ra6, .ref ra7, .ref ra8, .ref ra9, .ref ra10, .ref ra11, .ref ra12, .int rc, .int fo, .int xx]))] ++ wt) s.heap := hP
  have hD : va_D A ([(h0, .inr (11, [.ref tp, .ref ra1, .ref ra2, .ref ra3, .ref ra4, .ref ra5, .ref ra6, .ref ra7, .ref ra8, .ref ra9, .ref ra10, .ref ra11, .ref ra12, .int rc, .int fo, .int xx]))] ++ wt) := hD
  have hl := lv_entry ([.ref h0, .int b]) (n := 2) (Nat.le_of_ble_eq_true rfl)
  rw [lg_entry_eq]
  generalize (lg_sl ([.ref h0, .int b]) ++ List.replicate (2 - (lg_sl ([.ref h0, .int b])).length) Slot.unset).toArray = ls at hl ⊢
  have hl : lv_has ls 2 [(0, .ref h0), (1, .int b)] := hl
  have l0 : (0 : Int32).toInt = 0 := by decide +kernel
  have l1 : (1 : Int32).toInt = 1 := by decide +kernel
  refine lv_iload_n hx hb dX11_isBidder_0 rfl (lv_at hl 1 rfl) ?_
  refine lv_if_lt (tgt := 19) hx hb dX11_isBidder_1 (by decide) (fun c_1 => ?_) (fun c_1 => ?_)
  · rw [Int32.lt_iff_toInt_lt] at c_1
    refine lv_iconst (v := 0) hx hb dX11_isBidder_19 (by decide +kernel) ?_
    have hP9 : va_P (gg_D G) classes ([(h0, .inr (11, [.ref tp, .ref ra1, .ref ra2, .ref ra3, .ref ra4, .ref ra5, .ref ra6, .ref ra7, .ref ra8, .ref ra9, .ref ra10, .ref ra11, .ref ra12, .int rc, .int fo, .int xx]))] ++ wt) _ := hP
    have hD9 : va_D A ([(h0, .inr (11, [.ref tp, .ref ra1, .ref ra2, .ref ra3, .ref ra4, .ref ra5, .ref ra6, .ref ra7, .ref ra8, .ref ra9, .ref ra10, .ref ra11, .ref ra12, .int rc, .int fo, .int xx]))] ++ wt) := hD
    exact W.zret (v := 0) hx hb hr (by decide +kernel) (gq_endI wt ⟨hT, hW, (by omega), (by omega), (fun h => absurd rfl h)⟩ hP9 hD9 hS) hS.2.2 dX11_isBidder_20
  · rw [Int32.lt_iff_toInt_lt] at c_1
    refine lv_iload_n hx hb dX11_isBidder_4 rfl (lv_at hl 1 rfl) ?_
    refine lv_aload_n hx hb dX11_isBidder_5 rfl (lv_at hl 0 rfl) ?_
    refine gq_get hx hb ht hown hK hP i_X11 0 rfl rfl 1 (by decide) wd_498 rfl rfl dX11_isBidder_6 ?_
    refine tr_get (ci := 9) hx hb ht hown hK hT hP kr1 (by decide) i_X9 rfl 1 (by decide) wd_185 rfl dX11_isBidder_9 (fun v hv hf_2 => ?_)
    obtain ⟨n_3, rfl, lo_n_3, hi_n_3⟩ := hv
    refine lv_icmp_ge (tgt := 19) hx hb dX11_isBidder_12 (by decide) (fun c_4 => ?_) (fun c_4 => ?_)
    · rw [Int32.le_iff_toInt_le] at c_4
      refine lv_iconst (v := 0) hx hb dX11_isBidder_19 (by decide +kernel) ?_
      have hP9 : va_P (gg_D G) classes ([(h0, .inr (11, [.ref tp, .ref ra1, .ref ra2, .ref ra3, .ref ra4, .ref ra5, .ref ra6, .ref ra7, .ref ra8, .ref ra9, .ref ra10, .ref ra11, .ref ra12, .int rc, .int fo, .int xx]))] ++ wt) _ := hP
      have hD9 : va_D A ([(h0, .inr (11, [.ref tp, .ref ra1, .ref ra2, .ref ra3, .ref ra4, .ref ra5, .ref ra6, .ref ra7, .ref ra8, .ref ra9, .ref ra10, .ref ra11, .ref ra12, .int rc, .int fo, .int xx]))] ++ wt) := hD
      exact W.zret (v := 0) hx hb hr (by decide +kernel) (gq_endI wt ⟨hT, hW, (by omega), (by omega), (fun h => absurd rfl h)⟩ hP9 hD9 hS) hS.2.2 dX11_isBidder_20
    · rw [Int32.le_iff_toInt_le] at c_4
      refine lv_iconst (v := 1) hx hb dX11_isBidder_15 (by decide +kernel) ?_
      refine lv_goto (tgt := 20) hx hb dX11_isBidder_16 (by decide) ?_
      have hP9 : va_P (gg_D G) classes ([(h0, .inr (11, [.ref tp, .ref ra1, .ref ra2, .ref ra3, .ref ra4, .ref ra5, .ref ra6, .ref ra7, .ref ra8, .ref ra9, .ref ra10, .ref ra11, .ref ra12, .int rc, .int fo, .int xx]))] ++ wt) _ := hP
      have hD9 : va_D A ([(h0, .inr (11, [.ref tp, .ref ra1, .ref ra2, .ref ra3, .ref ra4, .ref ra5, .ref ra6, .ref ra7, .ref ra8, .ref ra9, .ref ra10, .ref ra11, .ref ra12, .int rc, .int fo, .int xx]))] ++ wt) := hD
      exact W.zret (v := 1) hx hb hr (by decide +kernel) (gq_endI wt ⟨hT, hW, (by omega), (by omega), (fun _ => ⟨by omega, by omega⟩)⟩ hP9 hD9 hS) hS.2.2 dX11_isBidder_20
set_option maxHeartbeats 4000000 in
set_option maxRecDepth 100000 in
theorem d_isLot (l : Launch) (G : gg_T) (Γ : Nat → Nat) (sz : Nat) (wt : va_W) (hT : tk_ty G Γ wt) (b : Int32) (tp : Nat) (h0 : Nat) (ra1 : Nat) (ra2 : Nat) (ra3 : Nat) (ra4 : Nat) (ra5 : Nat) (ra6 : Nat) (ra7 : Nat) (ra8 : Nat) (ra9 : Nat) (ra10 : Nat) (ra11 : Nat) (ra12 : Nat) (rc : Int32) (fo : Int32) (xx : Int32) (kr1 : Γ ra1 = 10) (kr2 : Γ ra2 = 10) (kr3 : Γ ra3 = 8) (kr4 : Γ ra4 = 8) (kr5 : Γ ra5 = 4) (kr6 : Γ ra6 = 3) (kr7 : Γ ra7 = 41) (kr9 : Γ ra9 = 1) (kr10 : Γ ra10 = 6) (kr11 : Γ ra11 = 11) (kr12 : Γ ra12 = 7) (xr1 : 0 ≤ rc.toInt) (xr2 : rc.toInt ≤ 6) : Met l yX11_isLot (ts_L yX11_isLot cX11_isLot 2 (some .boolean)) ({ frames := 0, cells := 0, slots := 0, locals := 0 }) (gc_P G ([(h0, .inr (11, [.ref tp, .ref ra1, .ref ra2, .ref ra3, .ref ra4, .ref ra5, .ref ra6, .ref ra7, .ref ra8, .ref ra9, .ref ra10, .ref ra11, .ref ra12, .int rc, .int fo, .int xx]))] ++ wt) sz [.ref h0, .int b]) (gc_I G (va_A ([(h0, .inr (11, [.ref tp, .ref ra1, .ref ra2, .ref ra3, .ref ra4, .ref ra5, .ref ra6, .ref ra7, .ref ra8, .ref ra9, .ref ra10, .ref ra11, .ref ra12, .int rc, .int fo, .int xx]))] ++ wt) sz) (fun r (u : va_W) => match u with | wt1 => tk_ty G Γ wt1 ∧ tk_kp [] wt wt1 ∧ 0 ≤ r.toInt ∧ r.toInt ≤ 1 ∧ (r ≠ 0 → 0 ≤ b.toInt ∧ b.toInt ≤ 2)) (fun (u : va_W) => match u with | wt1 => [(h0, .inr (11, [.ref tp, .ref ra1, .ref ra2, .ref ra3, .ref ra4, .ref ra5, .ref ra6, .ref ra7, .ref ra8, .ref ra9, .ref ra10, .ref ra11, .ref ra12, .int rc, .int fo, .int xx]))] ++ wt1)) 0 0 (va_A ([(h0, .inr (11, [.ref tp, .ref ra1, .ref ra2, .ref ra3, .ref ra4, .ref ra5, .ref ra6, .ref ra7, .ref ra8, .ref ra9, .ref ra10, .ref ra11, .ref ra12, .int rc, .int fo, .int xx]))] ++ wt) sz) := by
  refine Met.ofW (cc := cX11_isLot) (maxL := 2) (ret := (some .boolean)) (by decide) rfl ?_
  intro p e s m args below meth c s₁ B hml hv
  obtain ⟨rfl, hsz, hP, hK, hD0⟩ := hv
  have hx := B.exec
  have hb := B.bytes
  have hr := B.returns
  have ht := ts_ht (atoms_spec (ws := ts_L yX11_isLot cX11_isLot 2 (some .boolean)) B.pre)
  have hown : s.vm.findClass RX11 = some m.cls := findClass_of_methodNamed B.named
  have hlocks := B.notSynchronized
  subst hsz
  have hD := hD0.self (sz := s.heap.size)
  generalize hAe : va_A ([(h0, .inr (11, [.ref tp, .ref ra1, .ref ra2, .ref ra3, .ref ra4, .ref ra5, .ref ra6, .ref ra7, .ref ra8, .ref ra9, .ref ra10, .ref ra11, .ref ra12, .int rc, .int fo, .int xx]))] ++ wt) s.heap.size = A at hD ⊢
  have hA : ∀ q : Nat, s.heap.size ≤ q → A q := fun q h => by rw [← hAe]; exact Or.inr h
  clear hAe hD0
  have hS : va_S A s.heap s.heap [] := va_S.rf
  obtain ⟨w0, hw0⟩ : ∃ z, z = wt := ⟨_, rfl⟩
  have hW : tk_kp [] w0 wt := by rw [hw0]; exact tk_kp.rf
  rw [← hw0]
  clear hw0
  have hP : va_P (gg_D G) classes ([(h0, .inr (11, [.ref tp, .ref ra1, .ref ra2, .ref ra3, .ref ra4, .ref ra5, .ref ra6, .ref ra7, .ref ra8, .ref ra9, .ref ra10, .ref ra11, .ref ra12, .int rc, .int fo, .int xx]))] ++ wt) s.heap := hP
  have hD : va_D A ([(h0, .inr (11, [.ref tp, .ref ra1, .ref ra2, .ref ra3, .ref ra4, .ref ra5, .ref ra6, .ref ra7, .ref ra8, .ref ra9, .ref ra10, .ref ra11, .ref ra12, .int rc, .int fo, .int xx]))] ++ wt) := hD
  have hl := lv_entry ([.ref h0, .int b]) (n := 2) (Nat.le_of_ble_eq_true rfl)
  rw [lg_entry_eq]
  generalize (lg_sl ([.ref h0, .int b]) ++ List.replicate (2 - (lg_sl ([.ref h0, .int b])).length) Slot.unset).toArray = ls at hl ⊢
  have hl : lv_has ls 2 [(0, .ref h0), (1, .int b)] := hl
  have l0 : (0 : Int32).toInt = 0 := by decide +kernel
  have l1 : (1 : Int32).toInt = 1 := by decide +kernel
  refine lv_iload_n hx hb dX11_isLot_0 rfl (lv_at hl 1 rfl) ?_
  refine lv_if_lt (tgt := 19) hx hb dX11_isLot_1 (by decide) (fun c_1 => ?_) (fun c_1 => ?_)
  · rw [Int32.lt_iff_toInt_lt] at c_1
    refine lv_iconst (v := 0) hx hb dX11_isLot_19 (by decide +kernel) ?_
    have hP9 : va_P (gg_D G) classes ([(h0, .inr (11, [.ref tp, .ref ra1, .ref ra2, .ref ra3, .ref ra4, .ref ra5, .ref ra6, .ref ra7, .ref ra8, .ref ra9, .ref ra10, .ref ra11, .ref ra12, .int rc, .int fo, .int xx]))] ++ wt) _ := hP
    have hD9 : va_D A ([(h0, .inr (11, [.ref tp, .ref ra1, .ref ra2, .ref ra3, .ref ra4, .ref ra5, .ref ra6, .ref ra7, .ref ra8, .ref ra9, .ref ra10, .ref ra11, .ref ra12, .int rc, .int fo, .int xx]))] ++ wt) := hD
    exact W.zret (v := 0) hx hb hr (by decide +kernel) (gq_endI wt ⟨hT, hW, (by omega), (by omega), (fun h => absurd rfl h)⟩ hP9 hD9 hS) hS.2.2 dX11_isLot_20
  · rw [Int32.lt_iff_toInt_lt] at c_1
    refine lv_iload_n hx hb dX11_isLot_4 rfl (lv_at hl 1 rfl) ?_
    refine lv_aload_n hx hb dX11_isLot_5 rfl (lv_at hl 0 rfl) ?_
    refine gq_get hx hb ht hown hK hP i_X11 0 rfl rfl 1 (by decide) wd_498 rfl rfl dX11_isLot_6 ?_
    refine tr_get (ci := 9) hx hb ht hown hK hT hP kr1 (by decide) i_X9 rfl 2 (by decide) wd_190 rfl dX11_isLot_9 (fun v hv hf_2 => ?_)
    obtain ⟨n_3, rfl, lo_n_3, hi_n_3⟩ := hv
    refine lv_icmp_ge (tgt := 19) hx hb dX11_isLot_12 (by decide) (fun c_4 => ?_) (fun c_4 => ?_)
    · rw [Int32.le_iff_toInt_le] at c_4
      refine lv_iconst (v := 0) hx hb dX11_isLot_19 (by decide +kernel) ?_
      have hP9 : va_P (gg_D G) classes ([(h0, .inr (11, [.ref tp, .ref ra1, .ref ra2, .ref ra3, .ref ra4, .ref ra5, .ref ra6, .ref ra7, .ref ra8, .ref ra9, .ref ra10, .ref ra11, .ref ra12, .int rc, .int fo, .int xx]))] ++ wt) _ := hP
      have hD9 : va_D A ([(h0, .inr (11, [.ref tp, .ref ra1, .ref ra2, .ref ra3, .ref ra4, .ref ra5, .ref ra6, .ref ra7, .ref ra8, .ref ra9, .ref ra10, .ref ra11, .ref ra12, .int rc, .int fo, .int xx]))] ++ wt) := hD
      exact W.zret (v := 0) hx hb hr (by decide +kernel) (gq_endI wt ⟨hT, hW, (by omega), (by omega), (fun h => absurd rfl h)⟩ hP9 hD9 hS) hS.2.2 dX11_isLot_20
    · rw [Int32.le_iff_toInt_le] at c_4
      refine lv_iconst (v := 1) hx hb dX11_isLot_15 (by decide +kernel) ?_
      refine lv_goto (tgt := 20) hx hb dX11_isLot_16 (by decide) ?_
      have hP9 : va_P (gg_D G) classes ([(h0, .inr (11, [.ref tp, .ref ra1, .ref ra2, .ref ra3, .ref ra4, .ref ra5, .ref ra6, .ref ra7, .ref ra8, .ref ra9, .ref ra10, .ref ra11, .ref ra12, .int rc, .int fo, .int xx]))] ++ wt) _ := hP
      have hD9 : va_D A ([(h0, .inr (11, [.ref tp, .ref ra1, .ref ra2, .ref ra3, .ref ra4, .ref ra5, .ref ra6, .ref ra7, .ref ra8, .ref ra9, .ref ra10, .ref ra11, .ref ra12, .int rc, .int fo, .int xx]))] ++ wt) := hD
      exact W.zret (v := 1) hx hb hr (by decide +kernel) (gq_endI wt ⟨hT, hW, (by omega), (by omega), (fun _ => ⟨by omega, by omega⟩)⟩ hP9 hD9 hS) hS.2.2 dX11_isLot_20
set_option maxHeartbeats 4000000 in
set_option maxRecDepth 100000 in
theorem d_isTrick (l : Launch) (G : gg_T) (Γ : Nat → Nat) (sz : Nat) (wt : va_W) (hT : tk_ty G Γ wt) (b : Int32) (tp : Nat) (h0 : Nat) (ra1 : Nat) (ra2 : Nat) (ra3 : Nat) (ra4 : Nat) (ra5 : Nat) (ra6 : Nat) (ra7 : Nat) (ra8 : Nat) (ra9 : Nat) (ra10 : Nat) (ra11 : Nat) (ra12 : Nat) (rc : Int32) (fo : Int32) (xx : Int32) (kr1 : Γ ra1 = 10) (kr2 : Γ ra2 = 10) (kr3 : Γ ra3 = 8) (kr4 : Γ ra4 = 8) (kr5 : Γ ra5 = 4) (kr6 : Γ ra6 = 3) (kr7 : Γ ra7 = 41) (kr9 : Γ ra9 = 1) (kr10 : Γ ra10 = 6) (kr11 : Γ ra11 = 11) (kr12 : Γ ra12 = 7) (xr1 : 0 ≤ rc.toInt) (xr2 : rc.toInt ≤ 6) : Met l yX11_isTrick (ts_L yX11_isTrick cX11_isTrick 2 (some .boolean)) ({ frames := 0, cells := 0, slots := 0, locals := 0 }) (gc_P G ([(h0, .inr (11, [.ref tp, .ref ra1, .ref ra2, .ref ra3, .ref ra4, .ref ra5, .ref ra6, .ref ra7, .ref ra8, .ref ra9, .ref ra10, .ref ra11, .ref ra12, .int rc, .int fo, .int xx]))] ++ wt) sz [.ref h0, .int b]) (gc_I G (va_A ([(h0, .inr (11, [.ref tp, .ref ra1, .ref ra2, .ref ra3, .ref ra4, .ref ra5, .ref ra6, .ref ra7, .ref ra8, .ref ra9, .ref ra10, .ref ra11, .ref ra12, .int rc, .int fo, .int xx]))] ++ wt) sz) (fun r (u : va_W) => match u with | wt1 => tk_ty G Γ wt1 ∧ tk_kp [] wt wt1 ∧ 0 ≤ r.toInt ∧ r.toInt ≤ 1 ∧ (r ≠ 0 → 0 ≤ b.toInt ∧ b.toInt ≤ 2)) (fun (u : va_W) => match u with | wt1 => [(h0, .inr (11, [.ref tp, .ref ra1, .ref ra2, .ref ra3, .ref ra4, .ref ra5, .ref ra6, .ref ra7, .ref ra8, .ref ra9, .ref ra10, .ref ra11, .ref ra12, .int rc, .int fo, .int xx]))] ++ wt1)) 0 0 (va_A ([(h0, .inr (11, [.ref tp, .ref ra1, .ref ra2, .ref ra3, .ref ra4, .ref ra5, .ref ra6, .ref ra7, .ref ra8, .ref ra9, .ref ra10, .ref ra11, .ref ra12, .int rc, .int fo, .int xx]))] ++ wt) sz) := by
  refine Met.ofW (cc := cX11_isTrick) (maxL := 2) (ret := (some .boolean)) (by decide) rfl ?_
  intro p e s m args below meth c s₁ B hml hv
  obtain ⟨rfl, hsz, hP, hK, hD0⟩ := hv
  have hx := B.exec
  have hb := B.bytes
  have hr := B.returns
  have ht := ts_ht (atoms_spec (ws := ts_L yX11_isTrick cX11_isTrick 2 (some .boolean)) B.pre)
  have hown : s.vm.findClass RX11 = some m.cls := findClass_of_methodNamed B.named
  have hlocks := B.notSynchronized
  subst hsz
  have hD := hD0.self (sz := s.heap.size)
  generalize hAe : va_A ([(h0, .inr (11, [.ref tp, .ref ra1, .ref ra2, .ref ra3, .ref ra4, .ref ra5, .ref ra6, .ref ra7, .ref ra8, .ref ra9, .ref ra10, .ref ra11, .ref ra12, .int rc, .int fo, .int xx]))] ++ wt) s.heap.size = A at hD ⊢
  have hA : ∀ q : Nat, s.heap.size ≤ q → A q := fun q h => by rw [← hAe]; exact Or.inr h
  clear hAe hD0
  have hS : va_S A s.heap s.heap [] := va_S.rf
  obtain ⟨w0, hw0⟩ : ∃ z, z = wt := ⟨_, rfl⟩
  have hW : tk_kp [] w0 wt := by rw [hw0]; exact tk_kp.rf
  rw [← hw0]
  clear hw0
  have hP : va_P (gg_D G) classes ([(h0, .inr (11, [.ref tp, .ref ra1, .ref ra2, .ref ra3, .ref ra4, .ref ra5, .ref ra6, .ref ra7, .ref ra8, .ref ra9, .ref ra10, .ref ra11, .ref ra12, .int rc, .int fo, .int xx]))] ++ wt) s.heap := hP
  have hD : va_D A ([(h0, .inr (11, [.ref tp, .ref ra1, .ref ra2, .ref ra3, .ref ra4, .ref ra5, .ref ra6, .ref ra7, .ref ra8, .ref ra9, .ref ra10, .ref ra11, .ref ra12, .int rc, .int fo, .int xx]))] ++ wt) := hD
  have hl := lv_entry ([.ref h0, .int b]) (n := 2) (Nat.le_of_ble_eq_true rfl)
  rw [lg_entry_eq]
  generalize (lg_sl ([.ref h0, .int b]) ++ List.replicate (2 - (lg_sl ([.ref h0, .int b])).length) Slot.unset).toArray = ls at hl ⊢
  have hl : lv_has ls 2 [(0, .ref h0), (1, .int b)] := hl
  have l0 : (0 : Int32).toInt = 0 := by decide +kernel
  have l1 : (1 : Int32).toInt = 1 := by decide +kernel
  refine lv_iload_n hx hb dX11_isTrick_0 rfl (lv_at hl 1 rfl) ?_
  refine lv_if_lt (tgt := 19) hx hb dX11_isTrick_1 (by decide) (fun c_1 => ?_) (fun c_1 => ?_)
  · rw [Int32.lt_iff_toInt_lt] at c_1
    refine lv_iconst (v := 0) hx hb dX11_isTrick_19 (by decide +kernel) ?_
    have hP9 : va_P (gg_D G) classes ([(h0, .inr (11, [.ref tp, .ref ra1, .ref ra2, .ref ra3, .ref ra4, .ref ra5, .ref ra6, .ref ra7, .ref ra8, .ref ra9, .ref ra10, .ref ra11, .ref ra12, .int rc, .int fo, .int xx]))] ++ wt) _ := hP
    have hD9 : va_D A ([(h0, .inr (11, [.ref tp, .ref ra1, .ref ra2, .ref ra3, .ref ra4, .ref ra5, .ref ra6, .ref ra7, .ref ra8, .ref ra9, .ref ra10, .ref ra11, .ref ra12, .int rc, .int fo, .int xx]))] ++ wt) := hD
    exact W.zret (v := 0) hx hb hr (by decide +kernel) (gq_endI wt ⟨hT, hW, (by omega), (by omega), (fun h => absurd rfl h)⟩ hP9 hD9 hS) hS.2.2 dX11_isTrick_20
  · rw [Int32.lt_iff_toInt_lt] at c_1
    refine lv_iload_n hx hb dX11_isTrick_4 rfl (lv_at hl 1 rfl) ?_
    refine lv_aload_n hx hb dX11_isTrick_5 rfl (lv_at hl 0 rfl) ?_
    refine gq_get hx hb ht hown hK hP i_X11 0 rfl rfl 1 (by decide) wd_498 rfl rfl dX11_isTrick_6 ?_
    refine tr_get (ci := 9) hx hb ht hown hK hT hP kr1 (by decide) i_X9 rfl 3 (by decide) wd_193 rfl dX11_isTrick_9 (fun v hv hf_2 => ?_)
    obtain ⟨n_3, rfl, lo_n_3, hi_n_3⟩ := hv
    refine lv_icmp_ge (tgt := 19) hx hb dX11_isTrick_12 (by decide) (fun c_4 => ?_) (fun c_4 => ?_)
    · rw [Int32.le_iff_toInt_le] at c_4
      refine lv_iconst (v := 0) hx hb dX11_isTrick_19 (by decide +kernel) ?_
      have hP9 : va_P (gg_D G) classes ([(h0, .inr (11, [.ref tp, .ref ra1, .ref ra2, .ref ra3, .ref ra4, .ref ra5, .ref ra6, .ref ra7, .ref ra8, .ref ra9, .ref ra10, .ref ra11, .ref ra12, .int rc, .int fo, .int xx]))] ++ wt) _ := hP
      have hD9 : va_D A ([(h0, .inr (11, [.ref tp, .ref ra1, .ref ra2, .ref ra3, .ref ra4, .ref ra5, .ref ra6, .ref ra7, .ref ra8, .ref ra9, .ref ra10, .ref ra11, .ref ra12, .int rc, .int fo, .int xx]))] ++ wt) := hD
      exact W.zret (v := 0) hx hb hr (by decide +kernel) (gq_endI wt ⟨hT, hW, (by omega), (by omega), (fun h => absurd rfl h)⟩ hP9 hD9 hS) hS.2.2 dX11_isTrick_20
    · rw [Int32.le_iff_toInt_le] at c_4
      refine lv_iconst (v := 1) hx hb dX11_isTrick_15 (by decide +kernel) ?_
      refine lv_goto (tgt := 20) hx hb dX11_isTrick_16 (by decide) ?_
      have hP9 : va_P (gg_D G) classes ([(h0, .inr (11, [.ref tp, .ref ra1, .ref ra2, .ref ra3, .ref ra4, .ref ra5, .ref ra6, .ref ra7, .ref ra8, .ref ra9, .ref ra10, .ref ra11, .ref ra12, .int rc, .int fo, .int xx]))] ++ wt) _ := hP
      have hD9 : va_D A ([(h0, .inr (11, [.ref tp, .ref ra1, .ref ra2, .ref ra3, .ref ra4, .ref ra5, .ref ra6, .ref ra7, .ref ra8, .ref ra9, .ref ra10, .ref ra11, .ref ra12, .int rc, .int fo, .int xx]))] ++ wt) := hD
      exact W.zret (v := 1) hx hb hr (by decide +kernel) (gq_endI wt ⟨hT, hW, (by omega), (by omega), (fun _ => ⟨by omega, by omega⟩)⟩ hP9 hD9 hS) hS.2.2 dX11_isTrick_20
set_option maxHeartbeats 4000000 in
set_option maxRecDepth 100000 in
theorem d_callClerk (l : Launch) (G : gg_T) (Γ : Nat → Nat) (sz : Nat) (wt : va_W) (hT : tk_ty G Γ wt) (tp : Nat) (h0 : Nat) (ra1 : Nat) (ra2 : Nat) (ra3 : Nat) (ra4 : Nat) (ra5 : Nat) (ra6 : Nat) (ra7 : Nat) (ra8 : Nat) (ra9 : Nat) (ra10 : Nat) (ra11 : Nat) (ra12 : Nat) (rc : Int32) (fo : Int32) (xx : Int32) (kr1 : Γ ra1 = 10) (kr2 : Γ ra2 = 10) (kr3 : Γ ra3 = 8) (kr4 : Γ ra4 = 8) (kr5 : Γ ra5 = 4) (kr6 : Γ ra6 = 3) (kr7 : Γ ra7 = 41) (kr9 : Γ ra9 = 1) (kr10 : Γ ra10 = 6) (kr11 : Γ ra11 = 11) (kr12 : Γ ra12 = 7) (xr1 : 0 ≤ rc.toInt) (xr2 : rc.toInt ≤ 6) : Met l yX11_callClerk (ts_L yX11_callClerk cX11_callClerk 1 none) ({ frames := 1, cells := 0, slots := 0, locals := 22 }) (gc_P G ([(h0, .inr (11, [.ref tp, .ref ra1, .ref ra2, .ref ra3, .ref ra4, .ref ra5, .ref ra6, .ref ra7, .ref ra8, .ref ra9, .ref ra10, .ref ra11, .ref ra12, .int rc, .int fo, .int xx]))] ++ wt) sz [.ref h0]) (gc_V G (va_A ([(h0, .inr (11, [.ref tp, .ref ra1, .ref ra2, .ref ra3, .ref ra4, .ref ra5, .ref ra6, .ref ra7, .ref ra8, .ref ra9, .ref ra10, .ref ra11, .ref ra12, .int rc, .int fo, .int xx]))] ++ wt) sz) (fun (u : va_W) => match u with | wt1 => tk_ty G Γ wt1 ∧ tk_kp [0, 1, 2] wt wt1) (fun (u : va_W) => match u with | wt1 => [(h0, .inr (11, [.ref tp, .ref ra1, .ref ra2, .ref ra3, .ref ra4, .ref ra5, .ref ra6, .ref ra7, .ref ra8, .ref ra9, .ref ra10, .ref ra11, .ref ra12, .int rc, .int fo, .int xx]))] ++ wt1)) 0 0 (va_A ([(h0, .inr (11, [.ref tp, .ref ra1, .ref ra2, .ref ra3, .ref ra4, .ref ra5, .ref ra6, .ref ra7, .ref ra8, .ref ra9, .ref ra10, .ref ra11, .ref ra12, .int rc, .int fo, .int xx]))] ++ wt) sz) := by
  refine Met.ofW (cc := cX11_callClerk) (maxL := 1) (ret := none) (by decide) rfl ?_
  intro p e s m args below meth c s₁ B hml hv
  obtain ⟨rfl, hsz, hP, hK, hD0⟩ := hv
  have hx := B.exec
  have hb := B.bytes
  have hr := B.returns
  have ht := ts_ht (atoms_spec (ws := ts_L yX11_callClerk cX11_callClerk 1 none) B.pre)
  have hown : s.vm.findClass RX11 = some m.cls := findClass_of_methodNamed B.named
  have hlocks := B.notSynchronized
  subst hsz
  have hD := hD0.self (sz := s.heap.size)
  generalize hAe : va_A ([(h0, .inr (11, [.ref tp, .ref ra1, .ref ra2, .ref ra3, .ref ra4, .ref ra5, .ref ra6, .ref ra7, .ref ra8, .ref ra9, .ref ra10, .ref ra11, .ref ra12, .int rc, .int fo, .int xx]))] ++ wt) s.heap.size = A at hD ⊢
  have hA : ∀ q : Nat, s.heap.size ≤ q → A q := fun q h => by rw [← hAe]; exact Or.inr h
  clear hAe hD0
  have hS : va_S A s.heap s.heap [] := va_S.rf
  obtain ⟨w0, hw0⟩ : ∃ z, z = wt := ⟨_, rfl⟩
  have hW : tk_kp [0, 1, 2] w0 wt := by rw [hw0]; exact tk_kp.rf
  rw [← hw0]
  clear hw0
  have hP : va_P (gg_D G) classes ([(h0, .inr (11, [.ref tp, .ref ra1, .ref ra2, .ref ra3, .ref ra4, .ref ra5, .ref ra6, .ref ra7, .ref ra8, .ref ra9, .ref ra10, .ref ra11, .ref ra12, .int rc, .int fo, .int xx]))] ++ wt) s.heap := hP
  have hD : va_D A ([(h0, .inr (11, [.ref tp, .ref ra1, .ref ra2, .ref ra3, .ref ra4, .ref ra5, .ref ra6, .ref ra7, .ref ra8, .ref ra9, .ref ra10, .ref ra11, .ref ra12, .int rc, .int fo, .int xx]))] ++ wt) := hD
  have hl := lv_entry ([.ref h0]) (n := 1) (Nat.le_of_ble_eq_true rfl)
  rw [lg_entry_eq]
  generalize (lg_sl ([.ref h0]) ++ List.replicate (1 - (lg_sl ([.ref h0])).length) Slot.unset).toArray = ls at hl ⊢
  have hl : lv_has ls 1 [(0, .ref h0)] := hl
  have l0 : (0 : Int32).toInt = 0 := by decide +kernel
  refine lv_aload_n hx hb dX11_callClerk_0 rfl (lv_at hl 0 rfl) ?_
  refine gq_get hx hb ht hown hK hP i_X11 0 rfl rfl 9 (by decide) wd_506 rfl rfl dX11_callClerk_1 ?_
  refine lv_aload_n hx hb dX11_callClerk_4 rfl (lv_at hl 0 rfl) ?_
  refine gq_get hx hb ht hown hK hP i_X11 0 rfl rfl 1 (by decide) wd_498 rfl rfl dX11_callClerk_5 ?_
  refine lv_aload_n hx hb dX11_callClerk_8 rfl (lv_at hl 0 rfl) ?_
  refine gq_get hx hb ht hown hK hP i_X11 0 rfl rfl 14 (by decide) wd_511 rfl rfl dX11_callClerk_9 ?_
  refine lv_if_lt (tgt := 38) hx hb dX11_callClerk_12 (by decide) (fun c_1 => ?_) (fun c_1 => ?_)
  · rw [Int32.lt_iff_toInt_lt] at c_1
    refine lv_null hx hb dX11_callClerk_38 ?_
    refine gt_callV (wr := [(h0, .inr (11, [.ref tp, .ref ra1, .ref ra2, .ref ra3, .ref ra4, .ref ra5, .ref ra6, .ref ra7, .ref ra8, .ref ra9, .ref ra10, .ref ra11, .ref ra12, .int rc, .int fo, .int xx]))]) (va_runV (As := [.ref ra1, .null]) (rest := []) ⟨hx, hb, hml, hown, ht⟩ (d_serve0 l G Γ s.heap.size wt hT ra9 ra1 kr9 kr1) (cwV 2 ht (ts_gV wd_872 wd_873 wd_874 wd_130 wd_875) rfl rfl rfl (by decide +kernel) ⟨Nat.le_of_ble_eq_true rfl, Nat.le_of_ble_eq_true rfl⟩) (gt_preW (ci := 0) hK hT (tw_right hP) (tw_rightD hD) kr9 (by decide) rfl) rfl rfl hl.1 rfl (lv_room (Nat.le_of_ble_eq_true rfl)) dX11_callClerk_39 ⟨Nat.le_of_ble_eq_true rfl, Nat.le_of_ble_eq_true rfl⟩) hP hD hS hA (fun wt H locs hw hP hD hS => ?_)
    obtain ⟨hT, hkp⟩ := hw
    have hW := hW.call (show ∀ x ∈ [0, 1, 2], x ∈ [0, 1, 2] by decide) hkp
    have hP : va_P (gg_D G) classes ([(h0, .inr (11, [.ref tp, .ref ra1, .ref ra2, .ref ra3, .ref ra4, .ref ra5, .ref ra6, .ref ra7, .ref ra8, .ref ra9, .ref ra10, .ref ra11, .ref ra12, .int rc, .int fo, .int xx]))] ++ wt) H := hP
    have hD : va_D A ([(h0, .inr (11, [.ref tp, .ref ra1, .ref ra2, .ref ra3, .ref ra4, .ref ra5, .ref ra6, .ref ra7, .ref ra8, .ref ra9, .ref ra10, .ref ra11, .ref ra12, .int rc, .int fo, .int xx]))] ++ wt) := hD
    have hP9 : va_P (gg_D G) classes ([(h0, .inr (11, [.ref tp, .ref ra1, .ref ra2, .ref ra3, .ref ra4, .ref ra5, .ref ra6, .ref ra7, .ref ra8, .ref ra9, .ref ra10, .ref ra11, .ref ra12, .int rc, .int fo, .int xx]))] ++ wt) _ := hP
    have hD9 : va_D A ([(h0, .inr (11, [.ref tp, .ref ra1, .ref ra2, .ref ra3, .ref ra4, .ref ra5, .ref ra6, .ref ra7, .ref ra8, .ref ra9, .ref ra10, .ref ra11, .ref ra12, .int rc, .int fo, .int xx]))] ++ wt) := hD
    exact W.vret hx hb hr (gq_endV wt ⟨hT, hW⟩ hP9 hD9 hS) hS.2.2 dX11_callClerk_42
  · rw [Int32.lt_iff_toInt_lt] at c_1
    refine lv_aload_n hx hb dX11_callClerk_15 rfl (lv_at hl 0 rfl) ?_
    refine gq_get hx hb ht hown hK hP i_X11 0 rfl rfl 14 (by decide) wd_511 rfl rfl dX11_callClerk_16 ?_
    refine lv_aload_n hx hb dX11_callClerk_19 rfl (lv_at hl 0 rfl) ?_
    refine gq_get hx hb ht hown hK hP i_X11 0 rfl rfl 13 (by decide) wd_510 rfl rfl dX11_callClerk_20 ?_
    refine lv_icmp_ge (tgt := 38) hx hb dX11_callClerk_23 (by decide) (fun c_2 => ?_) (fun c_2 => ?_)
    · rw [Int32.le_iff_toInt_le] at c_2
      refine lv_null hx hb dX11_callClerk_38 ?_
      refine gt_callV (wr := [(h0, .inr (11, [.ref tp, .ref ra1, .ref ra2, .ref ra3, .ref ra4, .ref ra5, .ref ra6, .ref ra7, .ref ra8, .ref ra9, .ref ra10, .ref ra11, .ref ra12, .int rc, .int fo, .int xx]))]) (va_runV (As := [.ref ra1, .null]) (rest := []) ⟨hx, hb, hml, hown, ht⟩ (d_serve0 l G Γ s.heap.size wt hT ra9 ra1 kr9 kr1) (cwV 2 ht (ts_gV wd_872 wd_873 wd_874 wd_130 wd_875) rfl rfl rfl (by decide +kernel) ⟨Nat.le_of_ble_eq_true rfl, Nat.le_of_ble_eq_true rfl⟩) (gt_preW (ci := 0) hK hT (tw_right hP) (tw_rightD hD) kr9 (by decide) rfl) rfl rfl hl.1 rfl (lv_room (Nat.le_of_ble_eq_true rfl)) dX11_callClerk_39 ⟨Nat.le_of_ble_eq_true rfl, Nat.le_of_ble_eq_true rfl⟩) hP hD hS hA (fun wt H locs hw hP hD hS => ?_)
      obtain ⟨hT, hkp⟩ := hw
      have hW := hW.call (show ∀ x ∈ [0, 1, 2], x ∈ [0, 1, 2] by decide) hkp
      have hP : va_P (gg_D G) classes ([(h0, .inr (11, [.ref tp, .ref ra1, .ref ra2, .ref ra3, .ref ra4, .ref ra5, .ref ra6, .ref ra7, .ref ra8, .ref ra9, .ref ra10, .ref ra11, .ref ra12, .int rc, .int fo, .int xx]))] ++ wt) H := hP
      have hD : va_D A ([(h0, .inr (11, [.ref tp, .ref ra1, .ref ra2, .ref ra3, .ref ra4, .ref ra5, .ref ra6, .ref ra7, .ref ra8, .ref ra9, .ref ra10, .ref ra11, .ref ra12, .int rc, .int fo, .int xx]))] ++ wt) := hD
      have hP9 : va_P (gg_D G) classes ([(h0, .inr (11, [.ref tp, .ref ra1, .ref ra2, .ref ra3, .ref ra4, .ref ra5, .ref ra6, .ref ra7, .ref ra8, .ref ra9, .ref ra10, .ref ra11, .ref ra12, .int rc, .int fo, .int xx]))] ++ wt) _ := hP
      have hD9 : va_D A ([(h0, .inr (11, [.ref tp, .ref ra1, .ref ra2, .ref ra3, .ref ra4, .ref ra5, .ref ra6, .ref ra7, .ref ra8, .ref ra9, .ref ra10, .ref ra11, .ref ra12, .int rc, .int fo, .int xx]))] ++ wt) := hD
      exact W.vret hx hb hr (gq_endV wt ⟨hT, hW⟩ hP9 hD9 hS) hS.2.2 dX11_callClerk_42
    · rw [Int32.le_iff_toInt_le] at c_2
      refine lv_aload_n hx hb dX11_callClerk_26 rfl (lv_at hl 0 rfl) ?_
      refine gq_get hx hb ht hown hK hP i_X11 0 rfl rfl 7 (by decide) wd_504 rfl rfl dX11_callClerk_27 ?_
      refine lv_aload_n hx hb dX11_callClerk_30 rfl (lv_at hl 0 rfl) ?_
      refine gq_get hx hb ht hown hK hP i_X11 0 rfl rfl 14 (by decide) wd_511 rfl rfl dX11_callClerk_31 ?_
      refine tr_aald hx hb hK hT hP 41 kr7 (by decide) rfl (show vp_in _ (tk_len 41) from ia_in (n := 6) (by omega) (by omega)) dX11_callClerk_34 (fun q_3 hq_3 => ?_)
      have hq_3 : Γ q_3 = 5 := hq_3
      refine lv_goto (tgt := 39) hx hb dX11_callClerk_35 (by decide) ?_
      refine gt_callV (wr := [(h0, .inr (11, [.ref tp, .ref ra1, .ref ra2, .ref ra3, .ref ra4, .ref ra5, .ref ra6, .ref ra7, .ref ra8, .ref ra9, .ref ra10, .ref ra11, .ref ra12, .int rc, .int fo, .int xx]))]) (va_runV (As := [.ref ra1, .ref q_3]) (rest := []) ⟨hx, hb, hml, hown, ht⟩ (d_serve1 l G Γ s.heap.size wt hT ra9 ra1 q_3 kr9 kr1 hq_3) (cwV 2 ht (ts_gV wd_872 wd_873 wd_874 wd_130 wd_875) rfl rfl rfl (by decide +kernel) ⟨Nat.le_of_ble_eq_true rfl, Nat.le_of_ble_eq_true rfl⟩) (gt_preW (ci := 0) hK hT (tw_right hP) (tw_rightD hD) kr9 (by decide) rfl) rfl rfl hl.1 rfl (lv_room (Nat.le_of_ble_eq_true rfl)) dX11_callClerk_39 ⟨Nat.le_of_ble_eq_true rfl, Nat.le_of_ble_eq_true rfl⟩) hP hD hS hA (fun wt H locs hw hP hD hS => ?_)
      obtain ⟨hT, hkp⟩ := hw
      have hW := hW.call (show ∀ x ∈ [0, 1, 2], x ∈ [0, 1, 2] by decide) hkp
      have hP : va_P (gg_D G) classes ([(h0, .inr (11, [.ref tp, .ref ra1, .ref ra2, .ref ra3, .ref ra4, .ref ra5, .ref ra6, .ref ra7, .ref ra8, .ref ra9, .ref ra10, .ref ra11, .ref ra12, .int rc, .int fo, .int xx]))] ++ wt) H := hP
      have hD : va_D A ([(h0, .inr (11, [.ref tp, .ref ra1, .ref ra2, .ref ra3, .ref ra4, .ref ra5, .ref ra6, .ref ra7, .ref ra8, .ref ra9, .ref ra10, .ref ra11, .ref ra12, .int rc, .int fo, .int xx]))] ++ wt) := hD
      have hP9 : va_P (gg_D G) classes ([(h0, .inr (11, [.ref tp, .ref ra1, .ref ra2, .ref ra3, .ref ra4, .ref ra5, .ref ra6, .ref ra7, .ref ra8, .ref ra9, .ref ra10, .ref ra11, .ref ra12, .int rc, .int fo, .int xx]))] ++ wt) _ := hP
      have hD9 : va_D A ([(h0, .inr (11, [.ref tp, .ref ra1, .ref ra2, .ref ra3, .ref ra4, .ref ra5, .ref ra6, .ref ra7, .ref ra8, .ref ra9, .ref ra10, .ref ra11, .ref ra12, .int rc, .int fo, .int xx]))] ++ wt) := hD
      exact W.vret hx hb hr (gq_endV wt ⟨hT, hW⟩ hP9 hD9 hS) hS.2.2 dX11_callClerk_42
set_option maxHeartbeats 4000000 in
set_option maxRecDepth 100000 in
theorem d_beginAsking (l : Launch) (G : gg_T) (Γ : Nat → Nat) (sz : Nat) (wt : va_W) (hT : tk_ty G Γ wt) (tp : Nat) (h0 : Nat) (ra1 : Nat) (ra2 : Nat) (ra3 : Nat) (ra4 : Nat) (ra5 : Nat) (ra6 : Nat) (ra7 : Nat) (ra8 : Nat) (ra9 : Nat) (ra10 : Nat) (ra11 : Nat) (ra12 : Nat) (rc : Int32) (fo : Int32) (xx : Int32) (kr1 : Γ ra1 = 10) (kr2 : Γ ra2 = 10) (kr3 : Γ ra3 = 8) (kr4 : Γ ra4 = 8) (kr5 : Γ ra5 = 4) (kr6 : Γ ra6 = 3) (kr7 : Γ ra7 = 41) (kr9 : Γ ra9 = 1) (kr10 : Γ ra10 = 6) (kr11 : Γ ra11 = 11) (kr12 : Γ ra12 = 7) (xr1 : 0 ≤ rc.toInt) (xr2 : rc.toInt ≤ 6) : Met l yX11_beginAsking (ts_L yX11_beginAsking cX11_beginAsking 1 none) ({ frames := 2, cells := 0, slots := 0, locals := 61 }) (gc_P G ([(h0, .inr (11, [.ref tp, .ref ra1, .ref ra2, .ref ra3, .ref ra4, .ref ra5, .ref ra6, .ref ra7, .ref ra8, .ref ra9, .ref ra10, .ref ra11, .ref ra12, .int rc, .int fo, .int xx]))] ++ wt) sz [.ref h0]) (gc_V G (va_A ([(h0, .inr (11, [.ref tp, .ref ra1, .ref ra2, .ref ra3, .ref ra4, .ref ra5, .ref ra6, .ref ra7, .ref ra8, .ref ra9, .ref ra10, .ref ra11, .ref ra12, .int rc, .int fo, .int xx]))] ++ wt) sz) (fun (u : va_W) => match u with | wt1 => tk_ty G Γ wt1 ∧ tk_kp [0, 1, 2, 709] wt wt1) (fun (u : va_W) => match u with | wt1 => [(h0, .inr (11, [.ref tp, .ref ra1, .ref ra2, .ref ra3, .ref ra4, .ref ra5, .ref ra6, .ref ra7, .ref ra8, .ref ra9, .ref ra10, .ref ra11, .ref ra12, .int rc, .int fo, .int xx]))] ++ wt1)) 0 0 (va_A ([(h0, .inr (11, [.ref tp, .ref ra1, .ref ra2, .ref ra3, .ref ra4, .ref ra5, .ref ra6, .ref ra7, .ref ra8, .ref ra9, .ref ra10, .ref ra11, .ref ra12, .int rc, .int fo, .int xx]))] ++ wt) sz) := by
  refine Met.ofW (cc := cX11_beginAsking) (maxL := 1) (ret := none) (by decide) rfl ?_
  intro p e s m args below meth c s₁ B hml hv
  obtain ⟨rfl, hsz, hP, hK, hD0⟩ := hv
  have hx := B.exec
  have hb := B.bytes
  have hr := B.returns
  have ht := ts_ht (atoms_spec (ws := ts_L yX11_beginAsking cX11_beginAsking 1 none) B.pre)
  have hown : s.vm.findClass RX11 = some m.cls := findClass_of_methodNamed B.named
  have hlocks := B.notSynchronized
  subst hsz
  have hD := hD0.self (sz := s.heap.size)
  generalize hAe : va_A ([(h0, .inr (11, [.ref tp, .ref ra1, .ref ra2, .ref ra3, .ref ra4, .ref ra5, .ref ra6, .ref ra7, .ref ra8, .ref ra9, .ref ra10, .ref ra11, .ref ra12, .int rc, .int fo, .int xx]))] ++ wt) s.heap.size = A at hD ⊢
  have hA : ∀ q : Nat, s.heap.size ≤ q → A q := fun q h => by rw [← hAe]; exact Or.inr h
  clear hAe hD0
  have hS : va_S A s.heap s.heap [] := va_S.rf
  obtain ⟨w0, hw0⟩ : ∃ z, z = wt := ⟨_, rfl⟩
  have hW : tk_kp [0, 1, 2, 709] w0 wt := by rw [hw0]; exact tk_kp.rf
  rw [← hw0]
  clear hw0
  have hP : va_P (gg_D G) classes ([(h0, .inr (11, [.ref tp, .ref ra1, .ref ra2, .ref ra3, .ref ra4, .ref ra5, .ref ra6, .ref ra7, .ref ra8, .ref ra9, .ref ra10, .ref ra11, .ref ra12, .int rc, .int fo, .int xx]))] ++ wt) s.heap := hP
  have hD : va_D A ([(h0, .inr (11, [.ref tp, .ref ra1, .ref ra2, .ref ra3, .ref ra4, .ref ra5, .ref ra6, .ref ra7, .ref ra8, .ref ra9, .ref ra10, .ref ra11, .ref ra12, .int rc, .int fo, .int xx]))] ++ wt) := hD
  have hl := lv_entry ([.ref h0]) (n := 1) (Nat.le_of_ble_eq_true rfl)
  rw [lg_entry_eq]
  generalize (lg_sl ([.ref h0]) ++ List.replicate (1 - (lg_sl ([.ref h0])).length) Slot.unset).toArray = ls at hl ⊢
  have hl : lv_has ls 1 [(0, .ref h0)] := hl
  refine lv_aload_n hx hb dX11_beginAsking_0 rfl (lv_at hl 0 rfl) ?_
  have hP : va_P (gg_D G) classes ([] ++ ([(h0, .inr (11, [.ref tp, .ref ra1, .ref ra2, .ref ra3, .ref ra4, .ref ra5, .ref ra6, .ref ra7, .ref ra8, .ref ra9, .ref ra10, .ref ra11, .ref ra12, .int rc, .int fo, .int xx]))] ++ wt)) s.heap := hP
  have hD : va_D A ([] ++ ([(h0, .inr (11, [.ref tp, .ref ra1, .ref ra2, .ref ra3, .ref ra4, .ref ra5, .ref ra6, .ref ra7, .ref ra8, .ref ra9, .ref ra10, .ref ra11, .ref ra12, .int rc, .int fo, .int xx]))] ++ wt)) := hD
  refine gt_callV (wr := []) (va_runV (As := []) (rest := []) ⟨hx, hb, hml, hown, ht⟩ (d_callClerk l G Γ s.heap.size wt hT tp h0 ra1 ra2 ra3 ra4 ra5 ra6 ra7 ra8 ra9 ra10 ra11 ra12 rc fo xx (by first | assumption | omega) (by first | assumption | omega) (by first | assumption | omega) (by first | assumption | omega) (by first | assumption | omega) (by first | assumption | omega) (by first | assumption | omega) (by first | assumption | omega) (by first | assumption | omega) (by first | assumption | omega) (by first | assumption | omega) (by first | assumption | omega) (by first | assumption | omega)) (cwV 0 ht (ts_gV wd_868 wd_870 wd_17 wd_122 wd_871) rfl rfl rfl (by decide +kernel) ⟨Nat.le_of_ble_eq_true rfl, Nat.le_of_ble_eq_true rfl⟩) (gc_preV (ci := 11) (q0 := 0) hK (tw_right hP) (tw_rightD hD) rfl rfl) rfl rfl hl.1 rfl (lv_room (Nat.le_of_ble_eq_true rfl)) dX11_beginAsking_1 ⟨Nat.le_of_ble_eq_true rfl, Nat.le_of_ble_eq_true rfl⟩) hP hD hS hA (fun wt H locs hw hP hD hS => ?_)
  obtain ⟨hT, hkp⟩ := hw
  have hW := hW.call (show ∀ x ∈ [0, 1, 2], x ∈ [0, 1, 2, 709] by decide) hkp
  have hP : va_P (gg_D G) classes ([(h0, .inr (11, [.ref tp, .ref ra1, .ref ra2, .ref ra3, .ref ra4, .ref ra5, .ref ra6, .ref ra7, .ref ra8, .ref ra9, .ref ra10, .ref ra11, .ref ra12, .int rc, .int fo, .int xx]))] ++ wt) H := hP
  have hD : va_D A ([(h0, .inr (11, [.ref tp, .ref ra1, .ref ra2, .ref ra3, .ref ra4, .ref ra5, .ref ra6, .ref ra7, .ref ra8, .ref ra9, .ref ra10, .ref ra11, .ref ra12, .int rc, .int fo, .int xx]))] ++ wt) := hD
  refine lv_aload_n hx hb dX11_beginAsking_4 rfl (lv_at hl 0 rfl) ?_
  refine gq_get hx hb ht hown hK hP i_X11 0 rfl rfl 4 (by decide) wd_501 rfl rfl dX11_beginAsking_5 ?_
  refine lv_aload_n hx hb dX11_beginAsking_8 rfl (lv_at hl 0 rfl) ?_
  refine gq_get hx hb ht hown hK hP i_X11 0 rfl rfl 3 (by decide) wd_500 rfl rfl dX11_beginAsking_9 ?_
  refine gt_callV (wr := [(h0, .inr (11, [.ref tp, .ref ra1, .ref ra2, .ref ra3, .ref ra4, .ref ra5, .ref ra6, .ref ra7, .ref ra8, .ref ra9, .ref ra10, .ref ra11, .ref ra12, .int rc, .int fo, .int xx]))]) (va_runV (As := [.ref ra3]) (rest := []) ⟨hx, hb, hml, hown, ht⟩ (d_S_copyFrom l G Γ H.size wt hT ra4 ra3 kr4 kr3) (cwV 1 ht (ts_gV wd_992 wd_863 wd_864 wd_125 wd_865) rfl rfl rfl (by decide +kernel) ⟨Nat.le_of_ble_eq_true rfl, Nat.le_of_ble_eq_true rfl⟩) (gt_preW (ci := 7) hK hT (tw_right hP) (tw_rightD hD) kr4 (by decide) rfl) rfl rfl hl.1 rfl (lv_room (Nat.le_of_ble_eq_true rfl)) dX11_beginAsking_12 ⟨Nat.le_of_ble_eq_true rfl, Nat.le_of_ble_eq_true rfl⟩) hP hD hS hA (fun wt H locs hw hP hD hS => ?_)
  obtain ⟨hT, hkp⟩ := hw
  have hW := hW.call (show ∀ x ∈ [709], x ∈ [0, 1, 2, 709] by decide) hkp
  have hP : va_P (gg_D G) classes ([(h0, .inr (11, [.ref tp, .ref ra1, .ref ra2, .ref ra3, .ref ra4, .ref ra5, .ref ra6, .ref ra7, .ref ra8, .ref ra9, .ref ra10, .ref ra11, .ref ra12, .int rc, .int fo, .int xx]))] ++ wt) H := hP
  have hD : va_D A ([(h0, .inr (11, [.ref tp, .ref ra1, .ref ra2, .ref ra3, .ref ra4, .ref ra5, .ref ra6, .ref ra7, .ref ra8, .ref ra9, .ref ra10, .ref ra11, .ref ra12, .int rc, .int fo, .int xx]))] ++ wt) := hD
  have hP9 : va_P (gg_D G) classes ([(h0, .inr (11, [.ref tp, .ref ra1, .ref ra2, .ref ra3, .ref ra4, .ref ra5, .ref ra6, .ref ra7, .ref ra8, .ref ra9, .ref ra10, .ref ra11, .ref ra12, .int rc, .int fo, .int xx]))] ++ wt) _ := hP
  have hD9 : va_D A ([(h0, .inr (11, [.ref tp, .ref ra1, .ref ra2, .ref ra3, .ref ra4, .ref ra5, .ref ra6, .ref ra7, .ref ra8, .ref ra9, .ref ra10, .ref ra11, .ref ra12, .int rc, .int fo, .int xx]))] ++ wt) := hD
  exact W.vret hx hb hr (gq_endV wt ⟨hT, hW⟩ hP9 hD9 hS) hS.2.2 dX11_beginAsking_15

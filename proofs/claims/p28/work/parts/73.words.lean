theorem wd_590 : (Jvm.Cond.code ({ cls := "SilentSale$Tape", name := "whichWord", desc := "(Ljava/lang/String;)I" } : Jvm.MethodName) prog_10_method_16_code (6 : Nat) (Option.some Jvm.ClassFile.FieldType.int)) ∈ tb_L := tb_in (i := 590) (by decide +kernel) (by decide +kernel)
theorem wd_591 : (Jvm.Cond.methodLink "SilentSale$Tape" (49 : Nat) ({ cls := "java/lang/String", name := "length", desc := "()I" } : Jvm.MethodName)) ∈ tb_L := tb_in (i := 591) (by decide +kernel) (by decide +kernel)
theorem wd_592 : (Jvm.Cond.instanceMethod ({ cls := "java/lang/String", name := "length", desc := "()I" } : Jvm.MethodName)) ∈ tb_L := tb_in (i := 592) (by decide +kernel) (by decide +kernel)
theorem wd_593 : (Jvm.Cond.selects "java/lang/String" ({ cls := "java/lang/String", name := "length", desc := "()I" } : Jvm.MethodName) ({ cls := "java/lang/String", name := "length", desc := "()I" } : Jvm.MethodName)) ∈ tb_L := tb_in (i := 593) (by decide +kernel) (by decide +kernel)
theorem wd_601 : (Jvm.Cond.methodLink "SilentSale$Tape" (53 : Nat) ({ cls := "java/lang/String", name := "charAt", desc := "(I)C" } : Jvm.MethodName)) ∈ tb_L := tb_in (i := 601) (by decide +kernel) (by decide +kernel)
theorem wd_602 : (Jvm.Cond.instanceMethod ({ cls := "java/lang/String", name := "charAt", desc := "(I)C" } : Jvm.MethodName)) ∈ tb_L := tb_in (i := 602) (by decide +kernel) (by decide +kernel)
theorem wd_603 : (Jvm.Cond.selects "java/lang/String" ({ cls := "java/lang/String", name := "charAt", desc := "(I)C" } : Jvm.MethodName) ({ cls := "java/lang/String", name := "charAt", desc := "(I)C" } : Jvm.MethodName)) ∈ tb_L := tb_in (i := 603) (by decide +kernel) (by decide +kernel)
theorem dX8_whichWord_0 : decode cX8_whichWord 0 = .ok (.iconst 0, 1) := by decide +kernel
theorem dX8_whichWord_1 : decode cX8_whichWord 1 = .ok (.istore_n 2, 1) := by decide +kernel
theorem dX8_whichWord_2 : decode cX8_whichWord 2 = .ok (.iconst 0, 1) := by decide +kernel
theorem dX8_whichWord_3 : decode cX8_whichWord 3 = .ok (.istore_n 3, 1) := by decide +kernel
theorem dX8_whichWord_4 : decode cX8_whichWord 4 = .ok (.iconst 1, 1) := by decide +kernel
theorem dX8_whichWord_5 : decode cX8_whichWord 5 = .ok (.istore 4, 2) := by decide +kernel
theorem dX8_whichWord_7 : decode cX8_whichWord 7 = .ok (.iconst 0, 1) := by decide +kernel
theorem dX8_whichWord_8 : decode cX8_whichWord 8 = .ok (.istore 5, 2) := by decide +kernel
theorem dX8_whichWord_10 : decode cX8_whichWord 10 = .ok (.iload 5, 2) := by decide +kernel
theorem dX8_whichWord_12 : decode cX8_whichWord 12 = .ok (.aload_n 1, 1) := by decide +kernel
theorem dX8_whichWord_13 : decode cX8_whichWord 13 = .ok (.invokevirtual 49, 3) := by decide +kernel
theorem dX8_whichWord_16 : decode cX8_whichWord 16 = .ok (.if_icmp .gt 98, 3) := by decide +kernel
theorem dX8_whichWord_19 : decode cX8_whichWord 19 = .ok (.iload 5, 2) := by decide +kernel
theorem dX8_whichWord_21 : decode cX8_whichWord 21 = .ok (.aload_n 1, 1) := by decide +kernel
theorem dX8_whichWord_22 : decode cX8_whichWord 22 = .ok (.invokevirtual 49, 3) := by decide +kernel
theorem dX8_whichWord_25 : decode cX8_whichWord 25 = .ok (.if_icmp .eq 14, 3) := by decide +kernel
theorem dX8_whichWord_28 : decode cX8_whichWord 28 = .ok (.aload_n 1, 1) := by decide +kernel
theorem dX8_whichWord_29 : decode cX8_whichWord 29 = .ok (.iload 5, 2) := by decide +kernel
theorem dX8_whichWord_31 : decode cX8_whichWord 31 = .ok (.invokevirtual 53, 3) := by decide +kernel
theorem dX8_whichWord_34 : decode cX8_whichWord 34 = .ok (.bipush 32, 2) := by decide +kernel
theorem dX8_whichWord_36 : decode cX8_whichWord 36 = .ok (.if_icmp .ne 29, 3) := by decide +kernel
theorem dX8_whichWord_39 : decode cX8_whichWord 39 = .ok (.iload 4, 2) := by decide +kernel
theorem dX8_whichWord_41 : decode cX8_whichWord 41 = .ok (.ifCond .eq 13, 3) := by decide +kernel
theorem dX8_whichWord_44 : decode cX8_whichWord 44 = .ok (.iload_n 3, 1) := by decide +kernel
theorem dX8_whichWord_45 : decode cX8_whichWord 45 = .ok (.aload_n 0, 1) := by decide +kernel
theorem dX8_whichWord_46 : decode cX8_whichWord 46 = .ok (.getfield 22, 3) := by decide +kernel
theorem dX8_whichWord_49 : decode cX8_whichWord 49 = .ok (.if_icmp .ne 5, 3) := by decide +kernel
theorem dX8_whichWord_52 : decode cX8_whichWord 52 = .ok (.iload_n 2, 1) := by decide +kernel
theorem dX8_whichWord_53 : decode cX8_whichWord 53 = .ok (.ireturn, 1) := by decide +kernel
theorem dX8_whichWord_54 : decode cX8_whichWord 54 = .ok (.iinc 2 1, 3) := by decide +kernel
theorem dX8_whichWord_57 : decode cX8_whichWord 57 = .ok (.iconst 0, 1) := by decide +kernel
theorem dX8_whichWord_58 : decode cX8_whichWord 58 = .ok (.istore_n 3, 1) := by decide +kernel
theorem dX8_whichWord_59 : decode cX8_whichWord 59 = .ok (.iconst 1, 1) := by decide +kernel
theorem dX8_whichWord_60 : decode cX8_whichWord 60 = .ok (.istore 4, 2) := by decide +kernel
theorem dX8_whichWord_62 : decode cX8_whichWord 62 = .ok (.goto 46, 3) := by decide +kernel
theorem dX8_whichWord_65 : decode cX8_whichWord 65 = .ok (.iload 4, 2) := by decide +kernel
theorem dX8_whichWord_67 : decode cX8_whichWord 67 = .ok (.ifCond .eq 35, 3) := by decide +kernel
theorem dX8_whichWord_70 : decode cX8_whichWord 70 = .ok (.iload_n 3, 1) := by decide +kernel
theorem dX8_whichWord_71 : decode cX8_whichWord 71 = .ok (.aload_n 0, 1) := by decide +kernel
theorem dX8_whichWord_72 : decode cX8_whichWord 72 = .ok (.getfield 22, 3) := by decide +kernel
theorem dX8_whichWord_75 : decode cX8_whichWord 75 = .ok (.if_icmp .ge 27, 3) := by decide +kernel
theorem dX8_whichWord_78 : decode cX8_whichWord 78 = .ok (.aload_n 0, 1) := by decide +kernel
theorem dX8_whichWord_79 : decode cX8_whichWord 79 = .ok (.getfield 9, 3) := by decide +kernel
theorem dX8_whichWord_82 : decode cX8_whichWord 82 = .ok (.aload_n 0, 1) := by decide +kernel
theorem dX8_whichWord_83 : decode cX8_whichWord 83 = .ok (.getfield 19, 3) := by decide +kernel
theorem dX8_whichWord_86 : decode cX8_whichWord 86 = .ok (.iload_n 3, 1) := by decide +kernel
theorem dX8_whichWord_87 : decode cX8_whichWord 87 = .ok (.iadd, 1) := by decide +kernel
theorem dX8_whichWord_88 : decode cX8_whichWord 88 = .ok (.iaload, 1) := by decide +kernel
theorem dX8_whichWord_89 : decode cX8_whichWord 89 = .ok (.aload_n 1, 1) := by decide +kernel
theorem dX8_whichWord_90 : decode cX8_whichWord 90 = .ok (.iload 5, 2) := by decide +kernel
theorem dX8_whichWord_92 : decode cX8_whichWord 92 = .ok (.invokevirtual 53, 3) := by decide +kernel
theorem dX8_whichWord_95 : decode cX8_whichWord 95 = .ok (.if_icmp .ne 7, 3) := by decide +kernel
theorem dX8_whichWord_98 : decode cX8_whichWord 98 = .ok (.iconst 1, 1) := by decide +kernel
theorem dX8_whichWord_99 : decode cX8_whichWord 99 = .ok (.goto 4, 3) := by decide +kernel
theorem dX8_whichWord_102 : decode cX8_whichWord 102 = .ok (.iconst 0, 1) := by decide +kernel
theorem dX8_whichWord_103 : decode cX8_whichWord 103 = .ok (.istore 4, 2) := by decide +kernel
theorem dX8_whichWord_105 : decode cX8_whichWord 105 = .ok (.iinc 3 1, 3) := by decide +kernel
theorem dX8_whichWord_108 : decode cX8_whichWord 108 = .ok (.iinc 5 1, 3) := by decide +kernel
theorem dX8_whichWord_111 : decode cX8_whichWord 111 = .ok (.goto (-101), 3) := by decide +kernel
theorem dX8_whichWord_114 : decode cX8_whichWord 114 = .ok (.iconst (-1), 1) := by decide +kernel
theorem dX8_whichWord_115 : decode cX8_whichWord 115 = .ok (.ireturn, 1) := by decide +kernel
set_option maxHeartbeats 4000000 in
set_option maxRecDepth 100000 in
theorem d_which0 (l : Launch) (G : gg_T) (Γ : Nat → Nat) (sz : Nat) (wt : va_W) (hT : tk_ty G Γ wt) (K : Nat → Nat) (V : Nat → Nat) (tp : Nat) (bp : Nat) (n : Int32) (at_ : Int32) (w_ : Int32) (fl : Int32) (bf : Nat → Int32) (xp1 : 0 ≤ n.toInt) (xp2 : n.toInt ≤ 400) (xp3 : 0 ≤ at_.toInt) (xp4 : 0 ≤ w_.toInt) (xp5 : at_.toInt + w_.toInt ≤ 400) : Met l yX8_whichWord (ts_L yX8_whichWord cX8_whichWord 6 (some .int)) ({ frames := 4, cells := 0, slots := 0, locals := 85 }) (gx_P G K V ([(tp, .inr (8, [.ref bp, .int n, .int at_, .int w_, .int fl])), (bp, .inl (G.2.2 0, 400, .inl bf))] ++ wt) sz [.ref tp, .ref (K 0)]) (gc_I G (va_A ([(tp, .inr (8, [.ref bp, .int n, .int at_, .int w_, .int fl])), (bp, .inl (G.2.2 0, 400, .inl bf))] ++ wt) sz) (fun r (u : va_W) => match u with | wt1 => tk_ty G Γ wt1 ∧ tk_kp [] wt wt1 ∧ -1 ≤ r.toInt ∧ r.toInt ≤ 28) (fun (u : va_W) => match u with | wt1 => [(tp, .inr (8, [.ref bp, .int n, .int at_, .int w_, .int fl])), (bp, .inl (G.2.2 0, 400, .inl bf))] ++ wt1)) 0 0 (va_A ([(tp, .inr (8, [.ref bp, .int n, .int at_, .int w_, .int fl])), (bp, .inl (G.2.2 0, 400, .inl bf))] ++ wt) sz) := by
  refine Met.ofW (cc := cX8_whichWord) (maxL := 6) (ret := (some .int)) (by decide) rfl ?_
  intro p e s m args below meth c s₁ B hml hv
  obtain ⟨rfl, hsz, hP, hK, hD0, hX⟩ := hv
  have hx := B.exec
  have hb := B.bytes
  have hr := B.returns
  have ht := ts_ht (atoms_spec (ws := ts_L yX8_whichWord cX8_whichWord 6 (some .int)) B.pre)
  have hown : s.vm.findClass RX8 = some m.cls := findClass_of_methodNamed B.named
  have hlocks := B.notSynchronized
  subst hsz
  have hD := hD0.self (sz := s.heap.size)
  generalize hAe : va_A ([(tp, .inr (8, [.ref bp, .int n, .int at_, .int w_, .int fl])), (bp, .inl (G.2.2 0, 400, .inl bf))] ++ wt) s.heap.size = A at hD hX ⊢
  have hA : ∀ q : Nat, s.heap.size ≤ q → A q := fun q h => by rw [← hAe]; exact Or.inr h
  clear hAe hD0
  have hS : va_S A s.heap s.heap [] := va_S.rf
  obtain ⟨w0, hw0⟩ : ∃ z, z = wt := ⟨_, rfl⟩
  have hW : tk_kp [] w0 wt := by rw [hw0]; exact tk_kp.rf
  rw [← hw0]
  clear hw0
  have hP : va_P (gg_D G) classes ([(tp, .inr (8, [.ref bp, .int n, .int at_, .int w_, .int fl])), (bp, .inl (G.2.2 0, 400, .inl bf))] ++ wt) s.heap := hP
  have hD : va_D A ([(tp, .inr (8, [.ref bp, .int n, .int at_, .int w_, .int fl])), (bp, .inl (G.2.2 0, 400, .inl bf))] ++ wt) := hD
  have hl := lv_entry ([.ref tp, .ref (K 0)]) (n := 6) (Nat.le_of_ble_eq_true rfl)
  rw [lg_entry_eq]
  generalize (lg_sl ([.ref tp, .ref (K 0)]) ++ List.replicate (6 - (lg_sl ([.ref tp, .ref (K 0)])).length) Slot.unset).toArray = ls at hl ⊢
  have hl : lv_has ls 6 [(0, .ref tp), (1, .ref (K 0))] := hl
  have lm1 : ((-1) : Int32).toInt = -1 := by decide +kernel
  have l0 : (0 : Int32).toInt = 0 := by decide +kernel
  have l1 : (1 : Int32).toInt = 1 := by decide +kernel
  have l27 : (27 : Int32).toInt = 27 := by decide +kernel
  have l32 : (32 : Int32).toInt = 32 := by decide +kernel
  refine lv_iconst (v := 0) hx hb dX8_whichWord_0 (by decide +kernel) ?_
  refine lv_istore_n (lv' := [(2, .int 0), (0, .ref tp), (1, .ref (K 0))]) hx hb dX8_whichWord_1 rfl hl (by decide) rfl (fun ls hl => ?_)
  refine lv_iconst (v := 0) hx hb dX8_whichWord_2 (by decide +kernel) ?_
  refine lv_istore_n (lv' := [(3, .int 0), (2, .int 0), (0, .ref tp), (1, .ref (K 0))]) hx hb dX8_whichWord_3 rfl hl (by decide) rfl (fun ls hl => ?_)
  refine lv_iconst (v := 1) hx hb dX8_whichWord_4 (by decide +kernel) ?_
  refine lv_istore (lv' := [(4, .int 1), (3, .int 0), (2, .int 0), (0, .ref tp), (1, .ref (K 0))]) hx hb dX8_whichWord_5 hl (by decide) rfl (fun ls hl => ?_)
  refine lv_iconst (v := 0) hx hb dX8_whichWord_7 (by decide +kernel) ?_
  refine lv_istore (lv' := [(5, .int 0), (4, .int 1), (3, .int 0), (2, .int 0), (0, .ref tp), (1, .ref (K 0))]) hx hb dX8_whichWord_8 hl (by decide) rfl (fun ls hl => ?_)
  refine tl_loopE (Γ := Γ) (nL := 6) (fun (zz_ : Int32 × Int32 × Int32 × Int32) => match zz_ with | (x10_0, x10_1, x10_2, x10_3) => 0 ≤ x10_0.toInt ∧ x10_0.toInt ≤ 28 ∧ 0 ≤ x10_1.toInt ∧ x10_1.toInt ≤ 28 ∧ 0 ≤ x10_2.toInt ∧ x10_2.toInt ≤ 28 ∧ 0 ≤ x10_3.toInt ∧ x10_3.toInt ≤ 1 ∧ x10_1.toInt ≤ x10_0.toInt ∧ x10_2.toInt ≤ x10_0.toInt) (fun (zz_ : Int32 × Int32 × Int32 × Int32) => match zz_ with | (x10_0, x10_1, x10_2, x10_3) => (28 - x10_0.toInt).toNat) (fun (zz_ : Int32 × Int32 × Int32 × Int32) => match zz_ with | (x10_0, x10_1, x10_2, x10_3) => [(5, .int x10_0), (4, .int x10_3), (3, .int x10_2), (2, .int x10_1), (0, .ref tp), (1, .ref (K 0))]) (fun (zz_ : Int32 × Int32 × Int32 × Int32) => match zz_ with | (x10_0, x10_1, x10_2, x10_3) => [(tp, .inr (8, [.ref bp, .int n, .int at_, .int w_, .int fl])), (bp, .inl (G.2.2 0, 400, .inl bf))]) (fun (zz_ : Int32 × Int32 × Int32 × Int32) (w : va_W) => match zz_ with | (x10_0, x10_1, x10_2, x10_3) => tk_kp [] w0 w) (fun zz_ hI H locs wt ls hT hW hP hD hS hl ih10 => ?_) (0, 0, 0, 1) (show 0 ≤ (0 : Int32).toInt ∧ (0 : Int32).toInt ≤ 28 ∧ 0 ≤ (0 : Int32).toInt ∧ (0 : Int32).toInt ≤ 28 ∧ 0 ≤ (0 : Int32).toInt ∧ (0 : Int32).toInt ≤ 28 ∧ 0 ≤ (1 : Int32).toInt ∧ (1 : Int32).toInt ≤ 1 ∧ (0 : Int32).toInt ≤ (0 : Int32).toInt ∧ (0 : Int32).toInt ≤ (0 : Int32).toInt from ⟨by omega, by omega, by omega, by omega, by omega, by omega, by omega, by omega, by omega, by omega⟩) _ _ wt ls hT hW hP hD hS hl
  obtain ⟨x10_0, x10_1, x10_2, x10_3⟩ := zz_
  have hW : tk_kp [] w0 wt := hW
  have hI : 0 ≤ x10_0.toInt ∧ x10_0.toInt ≤ 28 ∧ 0 ≤ x10_1.toInt ∧ x10_1.toInt ≤ 28 ∧ 0 ≤ x10_2.toInt ∧ x10_2.toInt ≤ 28 ∧ 0 ≤ x10_3.toInt ∧ x10_3.toInt ≤ 1 ∧ x10_1.toInt ≤ x10_0.toInt ∧ x10_2.toInt ≤ x10_0.toInt := hI
  obtain ⟨j10_0, j10_1, j10_2, j10_3, j10_4, j10_5, j10_6, j10_7, j10_8, j10_9⟩ := hI
  have hl : lv_has ls 6 [(5, .int x10_0), (4, .int x10_3), (3, .int x10_2), (2, .int x10_1), (0, .ref tp), (1, .ref (K 0))] := hl
  have hP : va_P (gg_D G) classes ([(tp, .inr (8, [.ref bp, .int n, .int at_, .int w_, .int fl])), (bp, .inl (G.2.2 0, 400, .inl bf))] ++ wt) H := hP
  have hD : va_D A ([(tp, .inr (8, [.ref bp, .int n, .int at_, .int w_, .int fl])), (bp, .inl (G.2.2 0, 400, .inl bf))] ++ wt) := hD
  refine lv_iload hx hb dX8_whichWord_10 (lv_at hl 0 rfl) ?_
  refine lv_aload_n hx hb dX8_whichWord_12 rfl (lv_at hl 5 rfl) ?_
  refine gt_callI (wr := [(tp, .inr (8, [.ref bp, .int n, .int at_, .int w_, .int fl])), (bp, .inl (G.2.2 0, 400, .inl bf))]) (va_runV (As := []) (rest := [.int x10_0]) ⟨hx, hb, hml, hown, ht⟩ (d_length0 l G Γ H.size wt hT K V) (cwV 0 ht (ts_gV wd_591 wd_592 wd_593 wd_135 wd_594) rfl rfl rfl (by decide +kernel) ⟨Nat.le_of_ble_eq_true rfl, Nat.le_of_ble_eq_true rfl⟩) (gx_preK 0 (by decide) hK (tw_right hP) (tw_rightD hD) hX hS (tw_free hD hS hA)) rfl rfl hl.1 rfl (lv_room (Nat.le_of_ble_eq_true rfl)) dX8_whichWord_13 ⟨Nat.le_of_ble_eq_true rfl, Nat.le_of_ble_eq_true rfl⟩) hP hD hS hA (fun r_1 wt H locs hw hP hD hS => ?_)
  obtain ⟨hT, hkp, lo_r_1, hi_r_1⟩ := hw
  have hW := hW.call (show ∀ x ∈ [], x ∈ [] by decide) hkp
  have hP : va_P (gg_D G) classes ([(tp, .inr (8, [.ref bp, .int n, .int at_, .int w_, .int fl])), (bp, .inl (G.2.2 0, 400, .inl bf))] ++ wt) H := hP
  have hD : va_D A ([(tp, .inr (8, [.ref bp, .int n, .int at_, .int w_, .int fl])), (bp, .inl (G.2.2 0, 400, .inl bf))] ++ wt) := hD
  have z_r_1 : r_1 = 27 := by rw [← Int32.toInt_inj]; omega
  subst z_r_1
  refine lv_icmp_gt (tgt := 114) hx hb dX8_whichWord_16 (by decide) (fun c_2 => ?_) (fun c_2 => ?_)
  · rw [Int32.lt_iff_toInt_lt] at c_2
    refine lv_iconst (v := (-1)) hx hb dX8_whichWord_114 (by decide +kernel) ?_
    have hP9 : va_P (gg_D G) classes ([(tp, .inr (8, [.ref bp, .int n, .int at_, .int w_, .int fl])), (bp, .inl (G.2.2 0, 400, .inl bf))] ++ wt) _ := hP
    have hD9 : va_D A ([(tp, .inr (8, [.ref bp, .int n, .int at_, .int w_, .int fl])), (bp, .inl (G.2.2 0, 400, .inl bf))] ++ wt) := hD
    exact W.iret (v := (-1)) hx hb hr (gq_endI wt ⟨hT, hW, (by omega), (by omega)⟩ hP9 hD9 hS) hS.2.2 dX8_whichWord_115
  · rw [Int32.lt_iff_toInt_lt] at c_2
    refine lv_iload hx hb dX8_whichWord_19 (lv_at hl 0 rfl) ?_
    refine lv_aload_n hx hb dX8_whichWord_21 rfl (lv_at hl 5 rfl) ?_
    refine gt_callI (wr := [(tp, .inr (8, [.ref bp, .int n, .int at_, .int w_, .int fl])), (bp, .inl (G.2.2 0, 400, .inl bf))]) (va_runV (As := []) (rest := [.int x10_0]) ⟨hx, hb, hml, hown, ht⟩ (d_length0 l G Γ H.size wt hT K V) (cwV 0 ht (ts_gV wd_591 wd_592 wd_593 wd_135 wd_594) rfl rfl rfl (by decide +kernel) ⟨Nat.le_of_ble_eq_true rfl, Nat.le_of_ble_eq_true rfl⟩) (gx_preK 0 (by decide) hK (tw_right hP) (tw_rightD hD) hX hS (tw_free hD hS hA)) rfl rfl hl.1 rfl (lv_room (Nat.le_of_ble_eq_true rfl)) dX8_whichWord_22 ⟨Nat.le_of_ble_eq_true rfl, Nat.le_of_ble_eq_true rfl⟩) hP hD hS hA (fun r_3 wt H locs hw hP hD hS => ?_)
    obtain ⟨hT, hkp, lo_r_3, hi_r_3⟩ := hw
    have hW := hW.call (show ∀ x ∈ [], x ∈ [] by decide) hkp
    have hP : va_P (gg_D G) classes ([(tp, .inr (8, [.ref bp, .int n, .int at_, .int w_, .int fl])), (bp, .inl (G.2.2 0, 400, .inl bf))] ++ wt) H := hP
    have hD : va_D A ([(tp, .inr (8, [.ref bp, .int n, .int at_, .int w_, .int fl])), (bp, .inl (G.2.2 0, 400, .inl bf))] ++ wt) := hD
    have z_r_3 : r_3 = 27 := by rw [← Int32.toInt_inj]; omega
    subst z_r_3
    refine lv_icmp_eq (tgt := 39) hx hb dX8_whichWord_25 (by decide) (fun c_4 => ?_) (fun c_4 => ?_)
    · rw [← Int32.toInt_inj] at c_4
      refine lv_iload hx hb dX8_whichWord_39 (lv_at hl 1 rfl) ?_
      refine lv_if_eq (tgt := 54) hx hb dX8_whichWord_41 (by decide) (fun c_5 => ?_) (fun c_5 => ?_)
      · rw [← Int32.toInt_inj] at c_5
        obtain ⟨t_6, et_6⟩ : ∃ zz_ : Int32, x10_1 + Int32.ofInt (1) = zz_ := ⟨_, rfl⟩
        have ft_6 : t_6.toInt = x10_1.toInt + (1 : Int32).toInt := ia_add (y := 1) et_6 (by omega) (by omega)
        refine lv_iinc (v := t_6) (lv' := [(2, .int t_6), (5, .int x10_0), (4, .int x10_3), (3, .int x10_2), (0, .ref tp), (1, .ref (K 0))]) hx hb dX8_whichWord_54 hl (k := 3) rfl et_6 (by decide) rfl (fun ls hl => ?_)
        refine lv_iconst (v := 0) hx hb dX8_whichWord_57 (by decide +kernel) ?_
        refine lv_istore_n (lv' := [(3, .int 0), (2, .int t_6), (5, .int x10_0), (4, .int x10_3), (0, .ref tp), (1, .ref (K 0))]) hx hb dX8_whichWord_58 rfl hl (by decide) rfl (fun ls hl => ?_)
        refine lv_iconst (v := 1) hx hb dX8_whichWord_59 (by decide +kernel) ?_
        refine lv_istore (lv' := [(4, .int 1), (3, .int 0), (2, .int t_6), (5, .int x10_0), (0, .ref tp), (1, .ref (K 0))]) hx hb dX8_whichWord_60 hl (by decide) rfl (fun ls hl => ?_)
        refine lv_goto (tgt := 108) hx hb dX8_whichWord_62 (by decide) ?_
        obtain ⟨t_7, et_7⟩ : ∃ zz_ : Int32, x10_0 + Int32.ofInt (1) = zz_ := ⟨_, rfl⟩
        have ft_7 : t_7.toInt = x10_0.toInt + (1 : Int32).toInt := ia_add (y := 1) et_7 (by omega) (by omega)
        refine lv_iinc (v := t_7) (lv' := [(5, .int t_7), (4, .int 1), (3, .int 0), (2, .int t_6), (0, .ref tp), (1, .ref (K 0))]) hx hb dX8_whichWord_108 hl (k := 3) rfl et_7 (by decide) rfl (fun ls hl => ?_)
        refine lv_goto (tgt := 10) hx hb dX8_whichWord_111 (by decide) ?_
        exact ih10 (t_7, t_6, 0, 1) (show 0 ≤ t_7.toInt ∧ t_7.toInt ≤ 28 ∧ 0 ≤ t_6.toInt ∧ t_6.toInt ≤ 28 ∧ 0 ≤ (0 : Int32).toInt ∧ (0 : Int32).toInt ≤ 28 ∧ 0 ≤ (1 : Int32).toInt ∧ (1 : Int32).toInt ≤ 1 ∧ t_6.toInt ≤ t_7.toInt ∧ (0 : Int32).toInt ≤ t_7.toInt from ⟨by omega, by omega, by omega, by omega, by omega, by omega, by omega, by omega, by omega, by omega⟩) (show (28 - t_7.toInt).toNat < (28 - x10_0.toInt).toNat by omega) H locs wt ls hT hW hP hD hS (lv_sub hl [0, 1, 2, 3, 4, 5] rfl)
      · rw [← Int32.toInt_inj] at c_5
        refine lv_iload_n hx hb dX8_whichWord_44 rfl (lv_at hl 2 rfl) ?_
        refine lv_aload_n hx hb dX8_whichWord_45 rfl (lv_at hl 4 rfl) ?_
        refine gq_get hx hb ht hown hK hP i_X8 0 rfl rfl 3 (by decide) wd_159 rfl rfl dX8_whichWord_46 ?_
        refine lv_icmp_ne (tgt := 54) hx hb dX8_whichWord_49 (by decide) (fun c_8 => ?_) (fun c_8 => ?_)
        · rw [← Int32.toInt_inj] at c_8
          obtain ⟨t_9, et_9⟩ : ∃ zz_ : Int32, x10_1 + Int32.ofInt (1) = zz_ := ⟨_, rfl⟩
          have ft_9 : t_9.toInt = x10_1.toInt + (1 : Int32).toInt := ia_add (y := 1) et_9 (by omega) (by omega)
          refine lv_iinc (v := t_9) (lv' := [(2, .int t_9), (5, .int x10_0), (4, .int x10_3), (3, .int x10_2), (0, .ref tp), (1, .ref (K 0))]) hx hb dX8_whichWord_54 hl (k := 3) rfl et_9 (by decide) rfl (fun ls hl => ?_)
          refine lv_iconst (v := 0) hx hb dX8_whichWord_57 (by decide +kernel) ?_
          refine lv_istore_n (lv' := [(3, .int 0), (2, .int t_9), (5, .int x10_0), (4, .int x10_3), (0, .ref tp), (1, .ref (K 0))]) hx hb dX8_whichWord_58 rfl hl (by decide) rfl (fun ls hl => ?_)
          refine lv_iconst (v := 1) hx hb dX8_whichWord_59 (by decide +kernel) ?_
          refine lv_istore (lv' := [(4, .int 1), (3, .int 0), (2, .int t_9), (5, .int x10_0), (0, .ref tp), (1, .ref (K 0))]) hx hb dX8_whichWord_60 hl (by decide) rfl (fun ls hl => ?_)
          refine lv_goto (tgt := 108) hx hb dX8_whichWord_62 (by decide) ?_
          obtain ⟨t_10, et_10⟩ : ∃ zz_ : Int32, x10_0 + Int32.ofInt (1) = zz_ := ⟨_, rfl⟩
          have ft_10 : t_10.toInt = x10_0.toInt + (1 : Int32).toInt := ia_add (y := 1) et_10 (by omega) (by omega)
          refine lv_iinc (v := t_10) (lv' := [(5, .int t_10), (4, .int 1), (3, .int 0), (2, .int t_9), (0, .ref tp), (1, .ref (K 0))]) hx hb dX8_whichWord_108 hl (k := 3) rfl et_10 (by decide) rfl (fun ls hl => ?_)
          refine lv_goto (tgt := 10) hx hb dX8_whichWord_111 (by decide) ?_
          exact ih10 (t_10, t_9, 0, 1) (show 0 ≤ t_10.toInt ∧ t_10.toInt ≤ 28 ∧ 0 ≤ t_9.toInt ∧ t_9.toInt ≤ 28 ∧ 0 ≤ (0 : Int32).toInt ∧ (0 : Int32).toInt ≤ 28 ∧ 0 ≤ (1 : Int32).toInt ∧ (1 : Int32).toInt ≤ 1 ∧ t_9.toInt ≤ t_10.toInt ∧ (0 : Int32).toInt ≤ t_10.toInt from ⟨by omega, by omega, by omega, by omega, by omega, by omega, by omega, by omega, by omega, by omega⟩) (show (28 - t_10.toInt).toNat < (28 - x10_0.toInt).toNat by omega) H locs wt ls hT hW hP hD hS (lv_sub hl [0, 1, 2, 3, 4, 5] rfl)
        · rw [← Int32.toInt_inj] at c_8
          refine lv_iload_n hx hb dX8_whichWord_52 rfl (lv_at hl 3 rfl) ?_
          have hP9 : va_P (gg_D G) classes ([(tp, .inr (8, [.ref bp, .int n, .int at_, .int w_, .int fl])), (bp, .inl (G.2.2 0, 400, .inl bf))] ++ wt) _ := hP
          have hD9 : va_D A ([(tp, .inr (8, [.ref bp, .int n, .int at_, .int w_, .int fl])), (bp, .inl (G.2.2 0, 400, .inl bf))] ++ wt) := hD
          exact W.iret (v := x10_1) hx hb hr (gq_endI wt ⟨hT, hW, (by omega), (by omega)⟩ hP9 hD9 hS) hS.2.2 dX8_whichWord_53
    · rw [← Int32.toInt_inj] at c_4
      refine lv_aload_n hx hb dX8_whichWord_28 rfl (lv_at hl 5 rfl) ?_
      refine lv_iload hx hb dX8_whichWord_29 (lv_at hl 0 rfl) ?_
      refine gt_callI (wr := [(tp, .inr (8, [.ref bp, .int n, .int at_, .int w_, .int fl])), (bp, .inl (G.2.2 0, 400, .inl bf))]) (va_runV (As := [.int x10_0]) (rest := []) ⟨hx, hb, hml, hown, ht⟩ (d_char0 l G Γ H.size wt hT K V x10_0 (by omega) (by omega)) (cwV 1 ht (ts_gV wd_601 wd_602 wd_603 wd_135 wd_604) rfl rfl rfl (by decide +kernel) ⟨Nat.le_of_ble_eq_true rfl, Nat.le_of_ble_eq_true rfl⟩) (gx_preK 0 (by decide) hK (tw_right hP) (tw_rightD hD) hX hS (tw_free hD hS hA)) rfl rfl hl.1 rfl (lv_room (Nat.le_of_ble_eq_true rfl)) dX8_whichWord_31 ⟨Nat.le_of_ble_eq_true rfl, Nat.le_of_ble_eq_true rfl⟩) hP hD hS hA (fun r_11 wt H locs hw hP hD hS => ?_)
      obtain ⟨hT, hkp, rp_r_11⟩ := hw
      have hW := hW.call (show ∀ x ∈ [], x ∈ [] by decide) hkp
      have hP : va_P (gg_D G) classes ([(tp, .inr (8, [.ref bp, .int n, .int at_, .int w_, .int fl])), (bp, .inl (G.2.2 0, 400, .inl bf))] ++ wt) H := hP
      have hD : va_D A ([(tp, .inr (8, [.ref bp, .int n, .int at_, .int w_, .int fl])), (bp, .inl (G.2.2 0, 400, .inl bf))] ++ wt) := hD
      refine lv_bipush (v := 32) hx hb dX8_whichWord_34 (by decide +kernel) ?_
      refine lv_icmp_ne (tgt := 65) hx hb dX8_whichWord_36 (by decide) (fun c_12 => ?_) (fun c_12 => ?_)
      · rw [← Int32.toInt_inj] at c_12
        refine lv_iload hx hb dX8_whichWord_65 (lv_at hl 1 rfl) ?_
        refine lv_if_eq (tgt := 102) hx hb dX8_whichWord_67 (by decide) (fun c_13 => ?_) (fun c_13 => ?_)
        · rw [← Int32.toInt_inj] at c_13
          refine lv_iconst (v := 0) hx hb dX8_whichWord_102 (by decide +kernel) ?_
          refine lv_istore (lv' := [(4, .int 0), (5, .int x10_0), (3, .int x10_2), (2, .int x10_1), (0, .ref tp), (1, .ref (K 0))]) hx hb dX8_whichWord_103 hl (by decide) rfl (fun ls hl => ?_)
          obtain ⟨t_14, et_14⟩ : ∃ zz_ : Int32, x10_2 + Int32.ofInt (1) = zz_ := ⟨_, rfl⟩
          have ft_14 : t_14.toInt = x10_2.toInt + (1 : Int32).toInt := ia_add (y := 1) et_14 (by omega) (by omega)
          refine lv_iinc (v := t_14) (lv' := [(3, .int t_14), (4, .int 0), (5, .int x10_0), (2, .int x10_1), (0, .ref tp), (1, .ref (K 0))]) hx hb dX8_whichWord_105 hl (k := 2) rfl et_14 (by decide) rfl (fun ls hl => ?_)
          obtain ⟨t_15, et_15⟩ : ∃ zz_ : Int32, x10_0 + Int32.ofInt (1) = zz_ := ⟨_, rfl⟩
          have ft_15 : t_15.toInt = x10_0.toInt + (1 : Int32).toInt := ia_add (y := 1) et_15 (by omega) (by omega)
          refine lv_iinc (v := t_15) (lv' := [(5, .int t_15), (3, .int t_14), (4, .int 0), (2, .int x10_1), (0, .ref tp), (1, .ref (K 0))]) hx hb dX8_whichWord_108 hl (k := 2) rfl et_15 (by decide) rfl (fun ls hl => ?_)
          refine lv_goto (tgt := 10) hx hb dX8_whichWord_111 (by decide) ?_
          exact ih10 (t_15, x10_1, t_14, 0) (show 0 ≤ t_15.toInt ∧ t_15.toInt ≤ 28 ∧ 0 ≤ x10_1.toInt ∧ x10_1.toInt ≤ 28 ∧ 0 ≤ t_14.toInt ∧ t_14.toInt ≤ 28 ∧ 0 ≤ (0 : Int32).toInt ∧ (0 : Int32).toInt ≤ 1 ∧ x10_1.toInt ≤ t_15.toInt ∧ t_14.toInt ≤ t_15.toInt from ⟨by omega, by omega, by omega, by omega, by omega, by omega, by omega, by omega, by omega, by omega⟩) (show (28 - t_15.toInt).toNat < (28 - x10_0.toInt).toNat by omega) H locs wt ls hT hW hP hD hS (lv_sub hl [0, 2, 1, 3, 4, 5] rfl)
        · rw [← Int32.toInt_inj] at c_13
          refine lv_iload_n hx hb dX8_whichWord_70 rfl (lv_at hl 2 rfl) ?_
          refine lv_aload_n hx hb dX8_whichWord_71 rfl (lv_at hl 4 rfl) ?_
          refine gq_get hx hb ht hown hK hP i_X8 0 rfl rfl 3 (by decide) wd_159 rfl rfl dX8_whichWord_72 ?_
          refine lv_icmp_ge (tgt := 102) hx hb dX8_whichWord_75 (by decide) (fun c_16 => ?_) (fun c_16 => ?_)
          · rw [Int32.le_iff_toInt_le] at c_16
            refine lv_iconst (v := 0) hx hb dX8_whichWord_102 (by decide +kernel) ?_
            refine lv_istore (lv' := [(4, .int 0), (5, .int x10_0), (3, .int x10_2), (2, .int x10_1), (0, .ref tp), (1, .ref (K 0))]) hx hb dX8_whichWord_103 hl (by decide) rfl (fun ls hl => ?_)
            obtain ⟨t_17, et_17⟩ : ∃ zz_ : Int32, x10_2 + Int32.ofInt (1) = zz_ := ⟨_, rfl⟩
            have ft_17 : t_17.toInt = x10_2.toInt + (1 : Int32).toInt := ia_add (y := 1) et_17 (by omega) (by omega)
            refine lv_iinc (v := t_17) (lv' := [(3, .int t_17), (4, .int 0), (5, .int x10_0), (2, .int x10_1), (0, .ref tp), (1, .ref (K 0))]) hx hb dX8_whichWord_105 hl (k := 2) rfl et_17 (by decide) rfl (fun ls hl => ?_)
            obtain ⟨t_18, et_18⟩ : ∃ zz_ : Int32, x10_0 + Int32.ofInt (1) = zz_ := ⟨_, rfl⟩
            have ft_18 : t_18.toInt = x10_0.toInt + (1 : Int32).toInt := ia_add (y := 1) et_18 (by omega) (by omega)
            refine lv_iinc (v := t_18) (lv' := [(5, .int t_18), (3, .int t_17), (4, .int 0), (2, .int x10_1), (0, .ref tp), (1, .ref (K 0))]) hx hb dX8_whichWord_108 hl (k := 2) rfl et_18 (by decide) rfl (fun ls hl => ?_)
            refine lv_goto (tgt := 10) hx hb dX8_whichWord_111 (by decide) ?_
            exact ih10 (t_18, x10_1, t_17, 0) (show 0 ≤ t_18.toInt ∧ t_18.toInt ≤ 28 ∧ 0 ≤ x10_1.toInt ∧ x10_1.toInt ≤ 28 ∧ 0 ≤ t_17.toInt ∧ t_17.toInt ≤ 28 ∧ 0 ≤ (0 : Int32).toInt ∧ (0 : Int32).toInt ≤ 1 ∧ x10_1.toInt ≤ t_18.toInt ∧ t_17.toInt ≤ t_18.toInt from ⟨by omega, by omega, by omega, by omega, by omega, by omega, by omega, by omega, by omega, by omega⟩) (show (28 - t_18.toInt).toNat < (28 - x10_0.toInt).toNat by omega) H locs wt ls hT hW hP hD hS (lv_sub hl [0, 2, 1, 3, 4, 5] rfl)
          · rw [Int32.le_iff_toInt_le] at c_16
            refine lv_aload_n hx hb dX8_whichWord_78 rfl (lv_at hl 4 rfl) ?_
            refine gq_get hx hb ht hown hK hP i_X8 0 rfl rfl 0 (by decide) wd_156 rfl rfl dX8_whichWord_79 ?_
            refine lv_aload_n hx hb dX8_whichWord_82 rfl (lv_at hl 4 rfl) ?_
            refine gq_get hx hb ht hown hK hP i_X8 0 rfl rfl 2 (by decide) wd_158 rfl rfl dX8_whichWord_83 ?_
            refine lv_iload_n hx hb dX8_whichWord_86 rfl (lv_at hl 2 rfl) ?_
            obtain ⟨t_19, et_19⟩ : ∃ zz_ : Int32, at_ + x10_2 = zz_ := ⟨_, rfl⟩
            refine gq_iadd hx hb t_19 et_19 dX8_whichWord_87 ?_
            have ft_19 := ia_add et_19 (by omega) (by omega)
            obtain ⟨n_20, en_20⟩ : ∃ zz_ : Int32, bf (Int32.toNatClampNeg t_19) = zz_ := ⟨_, rfl⟩
            refine gq_iald hx hb hK hP 1 rfl n_20 (ia_in (n := 400) (by omega) (by omega)) en_20 dX8_whichWord_88 ?_
            refine lv_aload_n hx hb dX8_whichWord_89 rfl (lv_at hl 5 rfl) ?_
            refine lv_iload hx hb dX8_whichWord_90 (lv_at hl 0 rfl) ?_
            refine gt_callI (wr := [(tp, .inr (8, [.ref bp, .int n, .int at_, .int w_, .int fl])), (bp, .inl (G.2.2 0, 400, .inl bf))]) (va_runV (As := [.int x10_0]) (rest := [.int n_20]) ⟨hx, hb, hml, hown, ht⟩ (d_char0 l G Γ H.size wt hT K V x10_0 (by omega) (by omega)) (cwV 1 ht (ts_gV wd_601 wd_602 wd_603 wd_135 wd_604) rfl rfl rfl (by decide +kernel) ⟨Nat.le_of_ble_eq_true rfl, Nat.le_of_ble_eq_true rfl⟩) (gx_preK 0 (by decide) hK (tw_right hP) (tw_rightD hD) hX hS (tw_free hD hS hA)) rfl rfl hl.1 rfl (lv_room (Nat.le_of_ble_eq_true rfl)) dX8_whichWord_92 ⟨Nat.le_of_ble_eq_true rfl, Nat.le_of_ble_eq_true rfl⟩) hP hD hS hA (fun r_21 wt H locs hw hP hD hS => ?_)
            obtain ⟨hT, hkp, rp_r_21⟩ := hw
            have hW := hW.call (show ∀ x ∈ [], x ∈ [] by decide) hkp
            have hP : va_P (gg_D G) classes ([(tp, .inr (8, [.ref bp, .int n, .int at_, .int w_, .int fl])), (bp, .inl (G.2.2 0, 400, .inl bf))] ++ wt) H := hP
            have hD : va_D A ([(tp, .inr (8, [.ref bp, .int n, .int at_, .int w_, .int fl])), (bp, .inl (G.2.2 0, 400, .inl bf))] ++ wt) := hD
            refine lv_icmp_ne (tgt := 102) hx hb dX8_whichWord_95 (by decide) (fun c_22 => ?_) (fun c_22 => ?_)
            · rw [← Int32.toInt_inj] at c_22
              refine lv_iconst (v := 0) hx hb dX8_whichWord_102 (by decide +kernel) ?_
              refine lv_istore (lv' := [(4, .int 0), (5, .int x10_0), (3, .int x10_2), (2, .int x10_1), (0, .ref tp), (1, .ref (K 0))]) hx hb dX8_whichWord_103 hl (by decide) rfl (fun ls hl => ?_)
              obtain ⟨t_23, et_23⟩ : ∃ zz_ : Int32, x10_2 + Int32.ofInt (1) = zz_ := ⟨_, rfl⟩
              have ft_23 : t_23.toInt = x10_2.toInt + (1 : Int32).toInt := ia_add (y := 1) et_23 (by omega) (by omega)
              refine lv_iinc (v := t_23) (lv' := [(3, .int t_23), (4, .int 0), (5, .int x10_0), (2, .int x10_1), (0, .ref tp), (1, .ref (K 0))]) hx hb dX8_whichWord_105 hl (k := 2) rfl et_23 (by decide) rfl (fun ls hl => ?_)
              obtain ⟨t_24, et_24⟩ : ∃ zz_ : Int32, x10_0 + Int32.ofInt (1) = zz_ := ⟨_, rfl⟩
              have ft_24 : t_24.toInt = x10_0.toInt + (1 : Int32).toInt := ia_add (y := 1) et_24 (by omega) (by omega)
              refine lv_iinc (v := t_24) (lv' := [(5, .int t_24), (3, .int t_23), (4, .int 0), (2, .int x10_1), (0, .ref tp), (1, .ref (K 0))]) hx hb dX8_whichWord_108 hl (k := 2) rfl et_24 (by decide) rfl (fun ls hl => ?_)
              refine lv_goto (tgt := 10) hx hb dX8_whichWord_111 (by decide) ?_
              exact ih10 (t_24, x10_1, t_23, 0) (show 0 ≤ t_24.toInt ∧ t_24.toInt ≤ 28 ∧ 0 ≤ x10_1.toInt ∧ x10_1.toInt ≤ 28 ∧ 0 ≤ t_23.toInt ∧ t_23.toInt ≤ 28 ∧ 0 ≤ (0 : Int32).toInt ∧ (0 : Int32).toInt ≤ 1 ∧ x10_1.toInt ≤ t_24.toInt ∧ t_23.toInt ≤ t_24.toInt from ⟨by omega, by omega, by omega, by omega, by omega, by omega, by omega, by omega, by omega, by omega⟩) (show (28 - t_24.toInt).toNat < (28 - x10_0.toInt).toNat by omega) H locs wt ls hT hW hP hD hS (lv_sub hl [0, 2, 1, 3, 4, 5] rfl)
            · rw [← Int32.toInt_inj] at c_22
              refine lv_iconst (v := 1) hx hb dX8_whichWord_98 (by decide +kernel) ?_
              refine lv_goto (tgt := 103) hx hb dX8_whichWord_99 (by decide) ?_
              refine lv_istore (lv' := [(4, .int 1), (5, .int x10_0), (3, .int x10_2), (2, .int x10_1), (0, .ref tp), (1, .ref (K 0))]) hx hb dX8_whichWord_103 hl (by decide) rfl (fun ls hl => ?_)
              obtain ⟨t_25, et_25⟩ : ∃ zz_ : Int32, x10_2 + Int32.ofInt (1) = zz_ := ⟨_, rfl⟩
              have ft_25 : t_25.toInt = x10_2.toInt + (1 : Int32).toInt := ia_add (y := 1) et_25 (by omega) (by omega)
              refine lv_iinc (v := t_25) (lv' := [(3, .int t_25), (4, .int 1), (5, .int x10_0), (2, .int x10_1), (0, .ref tp), (1, .ref (K 0))]) hx hb dX8_whichWord_105 hl (k := 2) rfl et_25 (by decide) rfl (fun ls hl => ?_)
              obtain ⟨t_26, et_26⟩ : ∃ zz_ : Int32, x10_0 + Int32.ofInt (1) = zz_ := ⟨_, rfl⟩
              have ft_26 : t_26.toInt = x10_0.toInt + (1 : Int32).toInt := ia_add (y := 1) et_26 (by omega) (by omega)
              refine lv_iinc (v := t_26) (lv' := [(5, .int t_26), (3, .int t_25), (4, .int 1), (2, .int x10_1), (0, .ref tp), (1, .ref (K 0))]) hx hb dX8_whichWord_108 hl (k := 2) rfl et_26 (by decide) rfl (fun ls hl => ?_)
              refine lv_goto (tgt := 10) hx hb dX8_whichWord_111 (by decide) ?_
              exact ih10 (t_26, x10_1, t_25, 1) (show 0 ≤ t_26.toInt ∧ t_26.toInt ≤ 28 ∧ 0 ≤ x10_1.toInt ∧ x10_1.toInt ≤ 28 ∧ 0 ≤ t_25.toInt ∧ t_25.toInt ≤ 28 ∧ 0 ≤ (1 : Int32).toInt ∧ (1 : Int32).toInt ≤ 1 ∧ x10_1.toInt ≤ t_26.toInt ∧ t_25.toInt ≤ t_26.toInt from ⟨by omega, by omega, by omega, by omega, by omega, by omega, by omega, by omega, by omega, by omega⟩) (show (28 - t_26.toInt).toNat < (28 - x10_0.toInt).toNat by omega) H locs wt ls hT hW hP hD hS (lv_sub hl [0, 2, 1, 3, 4, 5] rfl)
      · rw [← Int32.toInt_inj] at c_12
        refine lv_iload hx hb dX8_whichWord_39 (lv_at hl 1 rfl) ?_
        refine lv_if_eq (tgt := 54) hx hb dX8_whichWord_41 (by decide) (fun c_27 => ?_) (fun c_27 => ?_)
        · rw [← Int32.toInt_inj] at c_27
          obtain ⟨t_28, et_28⟩ : ∃ zz_ : Int32, x10_1 + Int32.ofInt (1) = zz_ := ⟨_, rfl⟩
          have ft_28 : t_28.toInt = x10_1.toInt + (1 : Int32).toInt := ia_add (y := 1) et_28 (by omega) (by omega)
          refine lv_iinc (v := t_28) (lv' := [(2, .int t_28), (5, .int x10_0), (4, .int x10_3), (3, .int x10_2), (0, .ref tp), (1, .ref (K 0))]) hx hb dX8_whichWord_54 hl (k := 3) rfl et_28 (by decide) rfl (fun ls hl => ?_)
          refine lv_iconst (v := 0) hx hb dX8_whichWord_57 (by decide +kernel) ?_
          refine lv_istore_n (lv' := [(3, .int 0), (2, .int t_28), (5, .int x10_0), (4, .int x10_3), (0, .ref tp), (1, .ref (K 0))]) hx hb dX8_whichWord_58 rfl hl (by decide) rfl (fun ls hl => ?_)
          refine lv_iconst (v := 1) hx hb dX8_whichWord_59 (by decide +kernel) ?_
          refine lv_istore (lv' := [(4, .int 1), (3, .int 0), (2, .int t_28), (5, .int x10_0), (0, .ref tp), (1, .ref (K 0))]) hx hb dX8_whichWord_60 hl (by decide) rfl (fun ls hl => ?_)
          refine lv_goto (tgt := 108) hx hb dX8_whichWord_62 (by decide) ?_
          obtain ⟨t_29, et_29⟩ : ∃ zz_ : Int32, x10_0 + Int32.ofInt (1) = zz_ := ⟨_, rfl⟩
          have ft_29 : t_29.toInt = x10_0.toInt + (1 : Int32).toInt := ia_add (y := 1) et_29 (by omega) (by omega)
          refine lv_iinc (v := t_29) (lv' := [(5, .int t_29), (4, .int 1), (3, .int 0), (2, .int t_28), (0, .ref tp), (1, .ref (K 0))]) hx hb dX8_whichWord_108 hl (k := 3) rfl et_29 (by decide) rfl (fun ls hl => ?_)
          refine lv_goto (tgt := 10) hx hb dX8_whichWord_111 (by decide) ?_
          exact ih10 (t_29, t_28, 0, 1) (show 0 ≤ t_29.toInt ∧ t_29.toInt ≤ 28 ∧ 0 ≤ t_28.toInt ∧ t_28.toInt ≤ 28 ∧ 0 ≤ (0 : Int32).toInt ∧ (0 : Int32).toInt ≤ 28 ∧ 0 ≤ (1 : Int32).toInt ∧ (1 : Int32).toInt ≤ 1 ∧ t_28.toInt ≤ t_29.toInt ∧ (0 : Int32).toInt ≤ t_29.toInt from ⟨by omega, by omega, by omega, by omega, by omega, by omega, by omega, by omega, by omega, by omega⟩) (show (28 - t_29.toInt).toNat < (28 - x10_0.toInt).toNat by omega) H locs wt ls hT hW hP hD hS (lv_sub hl [0, 1, 2, 3, 4, 5] rfl)
        · rw [← Int32.toInt_inj] at c_27
          refine lv_iload_n hx hb dX8_whichWord_44 rfl (lv_at hl 2 rfl) ?_
          refine lv_aload_n hx hb dX8_whichWord_45 rfl (lv_at hl 4 rfl) ?_
          refine gq_get hx hb ht hown hK hP i_X8 0 rfl rfl 3 (by decide) wd_159 rfl rfl dX8_whichWord_46 ?_
          refine lv_icmp_ne (tgt := 54) hx hb dX8_whichWord_49 (by decide) (fun c_30 => ?_) (fun c_30 => ?_)
          · rw [← Int32.toInt_inj] at c_30
            obtain ⟨t_31, et_31⟩ : ∃ zz_ : Int32, x10_1 + Int32.ofInt (1) = zz_ := ⟨_, rfl⟩
            have ft_31 : t_31.toInt = x10_1.toInt + (1 : Int32).toInt := ia_add (y := 1) et_31 (by omega) (by omega)
            refine lv_iinc (v := t_31) (lv' := [(2, .int t_31), (5, .int x10_0), (4, .int x10_3), (3, .int x10_2), (0, .ref tp), (1, .ref (K 0))]) hx hb dX8_whichWord_54 hl (k := 3) rfl et_31 (by decide) rfl (fun ls hl => ?_)
            refine lv_iconst (v := 0) hx hb dX8_whichWord_57 (by decide +kernel) ?_
            refine lv_istore_n (lv' := [(3, .int 0), (2, .int t_31), (5, .int x10_0), (4, .int x10_3), (0, .ref tp), (1, .ref (K 0))]) hx hb dX8_whichWord_58 rfl hl (by decide) rfl (fun ls hl => ?_)
            refine lv_iconst (v := 1) hx hb dX8_whichWord_59 (by decide +kernel) ?_
            refine lv_istore (lv' := [(4, .int 1), (3, .int 0), (2, .int t_31), (5, .int x10_0), (0, .ref tp), (1, .ref (K 0))]) hx hb dX8_whichWord_60 hl (by decide) rfl (fun ls hl => ?_)
            refine lv_goto (tgt := 108) hx hb dX8_whichWord_62 (by decide) ?_
            obtain ⟨t_32, et_32⟩ : ∃ zz_ : Int32, x10_0 + Int32.ofInt (1) = zz_ := ⟨_, rfl⟩
            have ft_32 : t_32.toInt = x10_0.toInt + (1 : Int32).toInt := ia_add (y := 1) et_32 (by omega) (by omega)
            refine lv_iinc (v := t_32) (lv' := [(5, .int t_32), (4, .int 1), (3, .int 0), (2, .int t_31), (0, .ref tp), (1, .ref (K 0))]) hx hb dX8_whichWord_108 hl (k := 3) rfl et_32 (by decide) rfl (fun ls hl => ?_)
            refine lv_goto (tgt := 10) hx hb dX8_whichWord_111 (by decide) ?_
            exact ih10 (t_32, t_31, 0, 1) (show 0 ≤ t_32.toInt ∧ t_32.toInt ≤ 28 ∧ 0 ≤ t_31.toInt ∧ t_31.toInt ≤ 28 ∧ 0 ≤ (0 : Int32).toInt ∧ (0 : Int32).toInt ≤ 28 ∧ 0 ≤ (1 : Int32).toInt ∧ (1 : Int32).toInt ≤ 1 ∧ t_31.toInt ≤ t_32.toInt ∧ (0 : Int32).toInt ≤ t_32.toInt from ⟨by omega, by omega, by omega, by omega, by omega, by omega, by omega, by omega, by omega, by omega⟩) (show (28 - t_32.toInt).toNat < (28 - x10_0.toInt).toNat by omega) H locs wt ls hT hW hP hD hS (lv_sub hl [0, 1, 2, 3, 4, 5] rfl)
          · rw [← Int32.toInt_inj] at c_30
            refine lv_iload_n hx hb dX8_whichWord_52 rfl (lv_at hl 3 rfl) ?_
            have hP9 : va_P (gg_D G) classes ([(tp, .inr (8, [.ref bp, .int n, .int at_, .int w_, .int fl])), (bp, .inl (G.2.2 0, 400, .inl bf))] ++ wt) _ := hP
            have hD9 : va_D A ([(tp, .inr (8, [.ref bp, .int n, .int at_, .int w_, .int fl])), (bp, .inl (G.2.2 0, 400, .inl bf))] ++ wt) := hD
            exact W.iret (v := x10_1) hx hb hr (gq_endI wt ⟨hT, hW, (by omega), (by omega)⟩ hP9 hD9 hS) hS.2.2 dX8_whichWord_53
set_option maxHeartbeats 4000000 in
set_option maxRecDepth 100000 in
theorem d_which1 (l : Launch) (G : gg_T) (Γ : Nat → Nat) (sz : Nat) (wt : va_W) (hT : tk_ty G Γ wt) (K : Nat → Nat) (V : Nat → Nat) (tp : Nat) (bp : Nat) (n : Int32) (at_ : Int32) (w_ : Int32) (fl : Int32) (bf : Nat → Int32) (xp1 : 0 ≤ n.toInt) (xp2 : n.toInt ≤ 400) (xp3 : 0 ≤ at_.toInt) (xp4 : 0 ≤ w_.toInt) (xp5 : at_.toInt + w_.toInt ≤ 400) : Met l yX8_whichWord (ts_L yX8_whichWord cX8_whichWord 6 (some .int)) ({ frames := 4, cells := 0, slots := 0, locals := 85 }) (gx_P G K V ([(tp, .inr (8, [.ref bp, .int n, .int at_, .int w_, .int fl])), (bp, .inl (G.2.2 0, 400, .inl bf))] ++ wt) sz [.ref tp, .ref (K 1)]) (gc_I G (va_A ([(tp, .inr (8, [.ref bp, .int n, .int at_, .int w_, .int fl])), (bp, .inl (G.2.2 0, 400, .inl bf))] ++ wt) sz) (fun r (u : va_W) => match u with | wt1 => tk_ty G Γ wt1 ∧ tk_kp [] wt wt1 ∧ -1 ≤ r.toInt ∧ r.toInt ≤ 6) (fun (u : va_W) => match u with | wt1 => [(tp, .inr (8, [.ref bp, .int n, .int at_, .int w_, .int fl])), (bp, .inl (G.2.2 0, 400, .inl bf))] ++ wt1)) 0 0 (va_A ([(tp, .inr (8, [.ref bp, .int n, .int at_, .int w_, .int fl])), (bp, .inl (G.2.2 0, 400, .inl bf))] ++ wt) sz) := by
  refine Met.ofW (cc := cX8_whichWord) (maxL := 6) (ret := (some .int)) (by decide) rfl ?_
  intro p e s m args below meth c s₁ B hml hv
  obtain ⟨rfl, hsz, hP, hK, hD0, hX⟩ := hv
  have hx := B.exec
  have hb := B.bytes
  have hr := B.returns
  have ht := ts_ht (atoms_spec (ws := ts_L yX8_whichWord cX8_whichWord 6 (some .int)) B.pre)
  have hown : s.vm.findClass RX8 = some m.cls := findClass_of_methodNamed B.named
  have hlocks := B.notSynchronized
  subst hsz
  have hD := hD0.self (sz := s.heap.size)
  generalize hAe : va_A ([(tp, .inr (8, [.ref bp, .int n, .int at_, .int w_, .int fl])), (bp, .inl (G.2.2 0, 400, .inl bf))] ++ wt) s.heap.size = A at hD hX ⊢
  have hA : ∀ q : Nat, s.heap.size ≤ q → A q := fun q h => by rw [← hAe]; exact Or.inr h
  clear hAe hD0
  have hS : va_S A s.heap s.heap [] := va_S.rf
  obtain ⟨w0, hw0⟩ : ∃ z, z = wt := ⟨_, rfl⟩
  have hW : tk_kp [] w0 wt := by rw [hw0]; exact tk_kp.rf
  rw [← hw0]
  clear hw0
  have hP : va_P (gg_D G) classes ([(tp, .inr (8, [.ref bp, .int n, .int at_, .int w_, .int fl])), (bp, .inl (G.2.2 0, 400, .inl bf))] ++ wt) s.heap := hP
  have hD : va_D A ([(tp, .inr (8, [.ref bp, .int n, .int at_, .int w_, .int fl])), (bp, .inl (G.2.2 0, 400, .inl bf))] ++ wt) := hD
  have hl := lv_entry ([.ref tp, .ref (K 1)]) (n := 6) (Nat.le_of_ble_eq_true rfl)
  rw [lg_entry_eq]
  generalize (lg_sl ([.ref tp, .ref (K 1)]) ++ List.replicate (6 - (lg_sl ([.ref tp, .ref (K 1)])).length) Slot.unset).toArray = ls at hl ⊢
  have hl : lv_has ls 6 [(0, .ref tp), (1, .ref (K 1))] := hl
  have lm1 : ((-1) : Int32).toInt = -1 := by decide +kernel
  have l0 : (0 : Int32).toInt = 0 := by decide +kernel
  have l1 : (1 : Int32).toInt = 1 := by decide +kernel
  have l5 : (5 : Int32).toInt = 5 := by decide +kernel
  have l32 : (32 : Int32).toInt = 32 := by decide +kernel
  refine lv_iconst (v := 0) hx hb dX8_whichWord_0 (by decide +kernel) ?_
  refine lv_istore_n (lv' := [(2, .int 0), (0, .ref tp), (1, .ref (K 1))]) hx hb dX8_whichWord_1 rfl hl (by decide) rfl (fun ls hl => ?_)
  refine lv_iconst (v := 0) hx hb dX8_whichWord_2 (by decide +kernel) ?_
  refine lv_istore_n (lv' := [(3, .int 0), (2, .int 0), (0, .ref tp), (1, .ref (K 1))]) hx hb dX8_whichWord_3 rfl hl (by decide) rfl (fun ls hl => ?_)
  refine lv_iconst (v := 1) hx hb dX8_whichWord_4 (by decide +kernel) ?_
  refine lv_istore (lv' := [(4, .int 1), (3, .int 0), (2, .int 0), (0, .ref tp), (1, .ref (K 1))]) hx hb dX8_whichWord_5 hl (by decide) rfl (fun ls hl => ?_)
  refine lv_iconst (v := 0) hx hb dX8_whichWord_7 (by decide +kernel) ?_
  refine lv_istore (lv' := [(5, .int 0), (4, .int 1), (3, .int 0), (2, .int 0), (0, .ref tp), (1, .ref (K 1))]) hx hb dX8_whichWord_8 hl (by decide) rfl (fun ls hl => ?_)
  refine tl_loopE (Γ := Γ) (nL := 6) (fun (zz_ : Int32 × Int32 × Int32 × Int32) => match zz_ with | (x10_0, x10_1, x10_2, x10_3) => 0 ≤ x10_0.toInt ∧ x10_0.toInt ≤ 6 ∧ 0 ≤ x10_1.toInt ∧ x10_1.toInt ≤ 6 ∧ 0 ≤ x10_2.toInt ∧ x10_2.toInt ≤ 6 ∧ 0 ≤ x10_3.toInt ∧ x10_3.toInt ≤ 1 ∧ x10_1.toInt ≤ x10_0.toInt ∧ x10_2.toInt ≤ x10_0.toInt) (fun (zz_ : Int32 × Int32 × Int32 × Int32) => match zz_ with | (x10_0, x10_1, x10_2, x10_3) => (6 - x10_0.toInt).toNat) (fun (zz_ : Int32 × Int32 × Int32 × Int32) => match zz_ with | (x10_0, x10_1, x10_2, x10_3) => [(5, .int x10_0), (4, .int x10_3), (3, .int x10_2), (2, .int x10_1), (0, .ref tp), (1, .ref (K 1))]) (fun (zz_ : Int32 × Int32 × Int32 × Int32) => match zz_ with | (x10_0, x10_1, x10_2, x10_3) => [(tp, .inr (8, [.ref bp, .int n, .int at_, .int w_, .int fl])), (bp, .inl (G.2.2 0, 400, .inl bf))]) (fun (zz_ : Int32 × Int32 × Int32 × Int32) (w : va_W) => match zz_ with | (x10_0, x10_1, x10_2, x10_3) => tk_kp [] w0 w) (fun zz_ hI H locs wt ls hT hW hP hD hS hl ih10 => ?_) (0, 0, 0, 1) (show 0 ≤ (0 : Int32).toInt ∧ (0 : Int32).toInt ≤ 6 ∧ 0 ≤ (0 : Int32).toInt ∧ (0 : Int32).toInt ≤ 6 ∧ 0 ≤ (0 : Int32).toInt ∧ (0 : Int32).toInt ≤ 6 ∧ 0 ≤ (1 : Int32).toInt ∧ (1 : Int32).toInt ≤ 1 ∧ (0 : Int32).toInt ≤ (0 : Int32).toInt ∧ (0 : Int32).toInt ≤ (0 : Int32).toInt from ⟨by omega, by omega, by omega, by omega, by omega, by omega, by omega, by omega, by omega, by omega⟩) _ _ wt ls hT hW hP hD hS hl
  obtain ⟨x10_0, x10_1, x10_2, x10_3⟩ := zz_
  have hW : tk_kp [] w0 wt := hW
  have hI : 0 ≤ x10_0.toInt ∧ x10_0.toInt ≤ 6 ∧ 0 ≤ x10_1.toInt ∧ x10_1.toInt ≤ 6 ∧ 0 ≤ x10_2.toInt ∧ x10_2.toInt ≤ 6 ∧ 0 ≤ x10_3.toInt ∧ x10_3.toInt ≤ 1 ∧ x10_1.toInt ≤ x10_0.toInt ∧ x10_2.toInt ≤ x10_0.toInt := hI
  obtain ⟨j10_0, j10_1, j10_2, j10_3, j10_4, j10_5, j10_6, j10_7, j10_8, j10_9⟩ := hI
  have hl : lv_has ls 6 [(5, .int x10_0), (4, .int x10_3), (3, .int x10_2), (2, .int x10_1), (0, .ref tp), (1, .ref (K 1))] := hl
  have hP : va_P (gg_D G) classes ([(tp, .inr (8, [.ref bp, .int n, .int at_, .int w_, .int fl])), (bp, .inl (G.2.2 0, 400, .inl bf))] ++ wt) H := hP
  have hD : va_D A ([(tp, .inr (8, [.ref bp, .int n, .int at_, .int w_, .int fl])), (bp, .inl (G.2.2 0, 400, .inl bf))] ++ wt) := hD
  refine lv_iload hx hb dX8_whichWord_10 (lv_at hl 0 rfl) ?_
  refine lv_aload_n hx hb dX8_whichWord_12 rfl (lv_at hl 5 rfl) ?_
  refine gt_callI (wr := [(tp, .inr (8, [.ref bp, .int n, .int at_, .int w_, .int fl])), (bp, .inl (G.2.2 0, 400, .inl bf))]) (va_runV (As := []) (rest := [.int x10_0]) ⟨hx, hb, hml, hown, ht⟩ (d_length1 l G Γ H.size wt hT K V) (cwV 0 ht (ts_gV wd_591 wd_592 wd_593 wd_135 wd_594) rfl rfl rfl (by decide +kernel) ⟨Nat.le_of_ble_eq_true rfl, Nat.le_of_ble_eq_true rfl⟩) (gx_preK 1 (by decide) hK (tw_right hP) (tw_rightD hD) hX hS (tw_free hD hS hA)) rfl rfl hl.1 rfl (lv_room (Nat.le_of_ble_eq_true rfl)) dX8_whichWord_13 ⟨Nat.le_of_ble_eq_true rfl, Nat.le_of_ble_eq_true rfl⟩) hP hD hS hA (fun r_1 wt H locs hw hP hD hS => ?_)
  obtain ⟨hT, hkp, lo_r_1, hi_r_1⟩ := hw
  have hW := hW.call (show ∀ x ∈ [], x ∈ [] by decide) hkp
  have hP : va_P (gg_D G) classes ([(tp, .inr (8, [.ref bp, .int n, .int at_, .int w_, .int fl])), (bp, .inl (G.2.2 0, 400, .inl bf))] ++ wt) H := hP
  have hD : va_D A ([(tp, .inr (8, [.ref bp, .int n, .int at_, .int w_, .int fl])), (bp, .inl (G.2.2 0, 400, .inl bf))] ++ wt) := hD
  have z_r_1 : r_1 = 5 := by rw [← Int32.toInt_inj]; omega
  subst z_r_1
  refine lv_icmp_gt (tgt := 114) hx hb dX8_whichWord_16 (by decide) (fun c_2 => ?_) (fun c_2 => ?_)
  · rw [Int32.lt_iff_toInt_lt] at c_2
    refine lv_iconst (v := (-1)) hx hb dX8_whichWord_114 (by decide +kernel) ?_
    have hP9 : va_P (gg_D G) classes ([(tp, .inr (8, [.ref bp, .int n, .int at_, .int w_, .int fl])), (bp, .inl (G.2.2 0, 400, .inl bf))] ++ wt) _ := hP
    have hD9 : va_D A ([(tp, .inr (8, [.ref bp, .int n, .int at_, .int w_, .int fl])), (bp, .inl (G.2.2 0, 400, .inl bf))] ++ wt) := hD
    exact W.iret (v := (-1)) hx hb hr (gq_endI wt ⟨hT, hW, (by omega), (by omega)⟩ hP9 hD9 hS) hS.2.2 dX8_whichWord_115
  · rw [Int32.lt_iff_toInt_lt] at c_2
    refine lv_iload hx hb dX8_whichWord_19 (lv_at hl 0 rfl) ?_
    refine lv_aload_n hx hb dX8_whichWord_21 rfl (lv_at hl 5 rfl) ?_
    refine gt_callI (wr := [(tp, .inr (8, [.ref bp, .int n, .int at_, .int w_, .int fl])), (bp, .inl (G.2.2 0, 400, .inl bf))]) (va_runV (As := []) (rest := [.int x10_0]) ⟨hx, hb, hml, hown, ht⟩ (d_length1 l G Γ H.size wt hT K V) (cwV 0 ht (ts_gV wd_591 wd_592 wd_593 wd_135 wd_594) rfl rfl rfl (by decide +kernel) ⟨Nat.le_of_ble_eq_true rfl, Nat.le_of_ble_eq_true rfl⟩) (gx_preK 1 (by decide) hK (tw_right hP) (tw_rightD hD) hX hS (tw_free hD hS hA)) rfl rfl hl.1 rfl (lv_room (Nat.le_of_ble_eq_true rfl)) dX8_whichWord_22 ⟨Nat.le_of_ble_eq_true rfl, Nat.le_of_ble_eq_true rfl⟩) hP hD hS hA (fun r_3 wt H locs hw hP hD hS => ?_)
    obtain ⟨hT, hkp, lo_r_3, hi_r_3⟩ := hw
    have hW := hW.call (show ∀ x ∈ [], x ∈ [] by decide) hkp
    have hP : va_P (gg_D G) classes ([(tp, .inr (8, [.ref bp, .int n, .int at_, .int w_, .int fl])), (bp, .inl (G.2.2 0, 400, .inl bf))] ++ wt) H := hP
    have hD : va_D A ([(tp, .inr (8, [.ref bp, .int n, .int at_, .int w_, .int fl])), (bp, .inl (G.2.2 0, 400, .inl bf))] ++ wt) := hD
    have z_r_3 : r_3 = 5 := by rw [← Int32.toInt_inj]; omega
    subst z_r_3
    refine lv_icmp_eq (tgt := 39) hx hb dX8_whichWord_25 (by decide) (fun c_4 => ?_) (fun c_4 => ?_)
    · rw [← Int32.toInt_inj] at c_4
      refine lv_iload hx hb dX8_whichWord_39 (lv_at hl 1 rfl) ?_
      refine lv_if_eq (tgt := 54) hx hb dX8_whichWord_41 (by decide) (fun c_5 => ?_) (fun c_5 => ?_)
      · rw [← Int32.toInt_inj] at c_5
        obtain ⟨t_6, et_6⟩ : ∃ zz_ : Int32, x10_1 + Int32.ofInt (1) = zz_ := ⟨_, rfl⟩
        have ft_6 : t_6.toInt = x10_1.toInt + (1 : Int32).toInt := ia_add (y := 1) et_6 (by omega) (by omega)
        refine lv_iinc (v := t_6) (lv' := [(2, .int t_6), (5, .int x10_0), (4, .int x10_3), (3, .int x10_2), (0, .ref tp), (1, .ref (K 1))]) hx hb dX8_whichWord_54 hl (k := 3) rfl et_6 (by decide) rfl (fun ls hl => ?_)
        refine lv_iconst (v := 0) hx hb dX8_whichWord_57 (by decide +kernel) ?_
        refine lv_istore_n (lv' := [(3, .int 0), (2, .int t_6), (5, .int x10_0), (4, .int x10_3), (0, .ref tp), (1, .ref (K 1))]) hx hb dX8_whichWord_58 rfl hl (by decide) rfl (fun ls hl => ?_)
        refine lv_iconst (v := 1) hx hb dX8_whichWord_59 (by decide +kernel) ?_
        refine lv_istore (lv' := [(4, .int 1), (3, .int 0), (2, .int t_6), (5, .int x10_0), (0, .ref tp), (1, .ref (K 1))]) hx hb dX8_whichWord_60 hl (by decide) rfl (fun ls hl => ?_)
        refine lv_goto (tgt := 108) hx hb dX8_whichWord_62 (by decide) ?_
        obtain ⟨t_7, et_7⟩ : ∃ zz_ : Int32, x10_0 + Int32.ofInt (1) = zz_ := ⟨_, rfl⟩
        have ft_7 : t_7.toInt = x10_0.toInt + (1 : Int32).toInt := ia_add (y := 1) et_7 (by omega) (by omega)
        refine lv_iinc (v := t_7) (lv' := [(5, .int t_7), (4, .int 1), (3, .int 0), (2, .int t_6), (0, .ref tp), (1, .ref (K 1))]) hx hb dX8_whichWord_108 hl (k := 3) rfl et_7 (by decide) rfl (fun ls hl => ?_)
        refine lv_goto (tgt := 10) hx hb dX8_whichWord_111 (by decide) ?_
        exact ih10 (t_7, t_6, 0, 1) (show 0 ≤ t_7.toInt ∧ t_7.toInt ≤ 6 ∧ 0 ≤ t_6.toInt ∧ t_6.toInt ≤ 6 ∧ 0 ≤ (0 : Int32).toInt ∧ (0 : Int32).toInt ≤ 6 ∧ 0 ≤ (1 : Int32).toInt ∧ (1 : Int32).toInt ≤ 1 ∧ t_6.toInt ≤ t_7.toInt ∧ (0 : Int32).toInt ≤ t_7.toInt from ⟨by omega, by omega, by omega, by omega, by omega, by omega, by omega, by omega, by omega, by omega⟩) (show (6 - t_7.toInt).toNat < (6 - x10_0.toInt).toNat by omega) H locs wt ls hT hW hP hD hS (lv_sub hl [0, 1, 2, 3, 4, 5] rfl)
      · rw [← Int32.toInt_inj] at c_5
        refine lv_iload_n hx hb dX8_whichWord_44 rfl (lv_at hl 2 rfl) ?_
        refine lv_aload_n hx hb dX8_whichWord_45 rfl (lv_at hl 4 rfl) ?_
        refine gq_get hx hb ht hown hK hP i_X8 0 rfl rfl 3 (by decide) wd_159 rfl rfl dX8_whichWord_46 ?_
        refine lv_icmp_ne (tgt := 54) hx hb dX8_whichWord_49 (by decide) (fun c_8 => ?_) (fun c_8 => ?_)
        · rw [← Int32.toInt_inj] at c_8
          obtain ⟨t_9, et_9⟩ : ∃ zz_ : Int32, x10_1 + Int32.ofInt (1) = zz_ := ⟨_, rfl⟩
          have ft_9 : t_9.toInt = x10_1.toInt + (1 : Int32).toInt := ia_add (y := 1) et_9 (by omega) (by omega)
          refine lv_iinc (v := t_9) (lv' := [(2, .int t_9), (5, .int x10_0), (4, .int x10_3), (3, .int x10_2), (0, .ref tp), (1, .ref (K 1))]) hx hb dX8_whichWord_54 hl (k := 3) rfl et_9 (by decide) rfl (fun ls hl => ?_)
          refine lv_iconst (v := 0) hx hb dX8_whichWord_57 (by decide +kernel) ?_
          refine lv_istore_n (lv' := [(3, .int 0), (2, .int t_9), (5, .int x10_0), (4, .int x10_3), (0, .ref tp), (1, .ref (K 1))]) hx hb dX8_whichWord_58 rfl hl (by decide) rfl (fun ls hl => ?_)
          refine lv_iconst (v := 1) hx hb dX8_whichWord_59 (by decide +kernel) ?_
          refine lv_istore (lv' := [(4, .int 1), (3, .int 0), (2, .int t_9), (5, .int x10_0), (0, .ref tp), (1, .ref (K 1))]) hx hb dX8_whichWord_60 hl (by decide) rfl (fun ls hl => ?_)
          refine lv_goto (tgt := 108) hx hb dX8_whichWord_62 (by decide) ?_
          obtain ⟨t_10, et_10⟩ : ∃ zz_ : Int32, x10_0 + Int32.ofInt (1) = zz_ := ⟨_, rfl⟩
          have ft_10 : t_10.toInt = x10_0.toInt + (1 : Int32).toInt := ia_add (y := 1) et_10 (by omega) (by omega)
          refine lv_iinc (v := t_10) (lv' := [(5, .int t_10), (4, .int 1), (3, .int 0), (2, .int t_9), (0, .ref tp), (1, .ref (K 1))]) hx hb dX8_whichWord_108 hl (k := 3) rfl et_10 (by decide) rfl (fun ls hl => ?_)
          refine lv_goto (tgt := 10) hx hb dX8_whichWord_111 (by decide) ?_
          exact ih10 (t_10, t_9, 0, 1) (show 0 ≤ t_10.toInt ∧ t_10.toInt ≤ 6 ∧ 0 ≤ t_9.toInt ∧ t_9.toInt ≤ 6 ∧ 0 ≤ (0 : Int32).toInt ∧ (0 : Int32).toInt ≤ 6 ∧ 0 ≤ (1 : Int32).toInt ∧ (1 : Int32).toInt ≤ 1 ∧ t_9.toInt ≤ t_10.toInt ∧ (0 : Int32).toInt ≤ t_10.toInt from ⟨by omega, by omega, by omega, by omega, by omega, by omega, by omega, by omega, by omega, by omega⟩) (show (6 - t_10.toInt).toNat < (6 - x10_0.toInt).toNat by omega) H locs wt ls hT hW hP hD hS (lv_sub hl [0, 1, 2, 3, 4, 5] rfl)
        · rw [← Int32.toInt_inj] at c_8
          refine lv_iload_n hx hb dX8_whichWord_52 rfl (lv_at hl 3 rfl) ?_
          have hP9 : va_P (gg_D G) classes ([(tp, .inr (8, [.ref bp, .int n, .int at_, .int w_, .int fl])), (bp, .inl (G.2.2 0, 400, .inl bf))] ++ wt) _ := hP
          have hD9 : va_D A ([(tp, .inr (8, [.ref bp, .int n, .int at_, .int w_, .int fl])), (bp, .inl (G.2.2 0, 400, .inl bf))] ++ wt) := hD
          exact W.iret (v := x10_1) hx hb hr (gq_endI wt ⟨hT, hW, (by omega), (by omega)⟩ hP9 hD9 hS) hS.2.2 dX8_whichWord_53
    · rw [← Int32.toInt_inj] at c_4
      refine lv_aload_n hx hb dX8_whichWord_28 rfl (lv_at hl 5 rfl) ?_
      refine lv_iload hx hb dX8_whichWord_29 (lv_at hl 0 rfl) ?_
      refine gt_callI (wr := [(tp, .inr (8, [.ref bp, .int n, .int at_, .int w_, .int fl])), (bp, .inl (G.2.2 0, 400, .inl bf))]) (va_runV (As := [.int x10_0]) (rest := []) ⟨hx, hb, hml, hown, ht⟩ (d_char1 l G Γ H.size wt hT K V x10_0 (by omega) (by omega)) (cwV 1 ht (ts_gV wd_601 wd_602 wd_603 wd_135 wd_604) rfl rfl rfl (by decide +kernel) ⟨Nat.le_of_ble_eq_true rfl, Nat.le_of_ble_eq_true rfl⟩) (gx_preK 1 (by decide) hK (tw_right hP) (tw_rightD hD) hX hS (tw_free hD hS hA)) rfl rfl hl.1 rfl (lv_room (Nat.le_of_ble_eq_true rfl)) dX8_whichWord_31 ⟨Nat.le_of_ble_eq_true rfl, Nat.le_of_ble_eq_true rfl⟩) hP hD hS hA (fun r_11 wt H locs hw hP hD hS => ?_)
      obtain ⟨hT, hkp, rp_r_11⟩ := hw
      have hW := hW.call (show ∀ x ∈ [], x ∈ [] by decide) hkp
      have hP : va_P (gg_D G) classes ([(tp, .inr (8, [.ref bp, .int n, .int at_, .int w_, .int fl])), (bp, .inl (G.2.2 0, 400, .inl bf))] ++ wt) H := hP
      have hD : va_D A ([(tp, .inr (8, [.ref bp, .int n, .int at_, .int w_, .int fl])), (bp, .inl (G.2.2 0, 400, .inl bf))] ++ wt) := hD
      refine lv_bipush (v := 32) hx hb dX8_whichWord_34 (by decide +kernel) ?_
      refine lv_icmp_ne (tgt := 65) hx hb dX8_whichWord_36 (by decide) (fun c_12 => ?_) (fun c_12 => ?_)
      · rw [← Int32.toInt_inj] at c_12
        refine lv_iload hx hb dX8_whichWord_65 (lv_at hl 1 rfl) ?_
        refine lv_if_eq (tgt := 102) hx hb dX8_whichWord_67 (by decide) (fun c_13 => ?_) (fun c_13 => ?_)
        · rw [← Int32.toInt_inj] at c_13
          refine lv_iconst (v := 0) hx hb dX8_whichWord_102 (by decide +kernel) ?_
          refine lv_istore (lv' := [(4, .int 0), (5, .int x10_0), (3, .int x10_2), (2, .int x10_1), (0, .ref tp), (1, .ref (K 1))]) hx hb dX8_whichWord_103 hl (by decide) rfl (fun ls hl => ?_)
          obtain ⟨t_14, et_14⟩ : ∃ zz_ : Int32, x10_2 + Int32.ofInt (1) = zz_ := ⟨_, rfl⟩
          have ft_14 : t_14.toInt = x10_2.toInt + (1 : Int32).toInt := ia_add (y := 1) et_14 (by omega) (by omega)
          refine lv_iinc (v := t_14) (lv' := [(3, .int t_14), (4, .int 0), (5, .int x10_0), (2, .int x10_1), (0, .ref tp), (1, .ref (K 1))]) hx hb dX8_whichWord_105 hl (k := 2) rfl et_14 (by decide) rfl (fun ls hl => ?_)
          obtain ⟨t_15, et_15⟩ : ∃ zz_ : Int32, x10_0 + Int32.ofInt (1) = zz_ := ⟨_, rfl⟩
          have ft_15 : t_15.toInt = x10_0.toInt + (1 : Int32).toInt := ia_add (y := 1) et_15 (by omega) (by omega)
          refine lv_iinc (v := t_15) (lv' := [(5, .int t_15), (3, .int t_14), (4, .int 0), (2, .int x10_1), (0, .ref tp), (1, .ref (K 1))]) hx hb dX8_whichWord_108 hl (k := 2) rfl et_15 (by decide) rfl (fun ls hl => ?_)
          refine lv_goto (tgt := 10) hx hb dX8_whichWord_111 (by decide) ?_
          exact ih10 (t_15, x10_1, t_14, 0) (show 0 ≤ t_15.toInt ∧ t_15.toInt ≤ 6 ∧ 0 ≤ x10_1.toInt ∧ x10_1.toInt ≤ 6 ∧ 0 ≤ t_14.toInt ∧ t_14.toInt ≤ 6 ∧ 0 ≤ (0 : Int32).toInt ∧ (0 : Int32).toInt ≤ 1 ∧ x10_1.toInt ≤ t_15.toInt ∧ t_14.toInt ≤ t_15.toInt from ⟨by omega, by omega, by omega, by omega, by omega, by omega, by omega, by omega, by omega, by omega⟩) (show (6 - t_15.toInt).toNat < (6 - x10_0.toInt).toNat by omega) H locs wt ls hT hW hP hD hS (lv_sub hl [0, 2, 1, 3, 4, 5] rfl)
        · rw [← Int32.toInt_inj] at c_13
          refine lv_iload_n hx hb dX8_whichWord_70 rfl (lv_at hl 2 rfl) ?_
          refine lv_aload_n hx hb dX8_whichWord_71 rfl (lv_at hl 4 rfl) ?_
          refine gq_get hx hb ht hown hK hP i_X8 0 rfl rfl 3 (by decide) wd_159 rfl rfl dX8_whichWord_72 ?_
          refine lv_icmp_ge (tgt := 102) hx hb dX8_whichWord_75 (by decide) (fun c_16 => ?_) (fun c_16 => ?_)
          · rw [Int32.le_iff_toInt_le] at c_16
            refine lv_iconst (v := 0) hx hb dX8_whichWord_102 (by decide +kernel) ?_
            refine lv_istore (lv' := [(4, .int 0), (5, .int x10_0), (3, .int x10_2), (2, .int x10_1), (0, .ref tp), (1, .ref (K 1))]) hx hb dX8_whichWord_103 hl (by decide) rfl (fun ls hl => ?_)
            obtain ⟨t_17, et_17⟩ : ∃ zz_ : Int32, x10_2 + Int32.ofInt (1) = zz_ := ⟨_, rfl⟩
            have ft_17 : t_17.toInt = x10_2.toInt + (1 : Int32).toInt := ia_add (y := 1) et_17 (by omega) (by omega)
            refine lv_iinc (v := t_17) (lv' := [(3, .int t_17), (4, .int 0), (5, .int x10_0), (2, .int x10_1), (0, .ref tp), (1, .ref (K 1))]) hx hb dX8_whichWord_105 hl (k := 2) rfl et_17 (by decide) rfl (fun ls hl => ?_)
            obtain ⟨t_18, et_18⟩ : ∃ zz_ : Int32, x10_0 + Int32.ofInt (1) = zz_ := ⟨_, rfl⟩
            have ft_18 : t_18.toInt = x10_0.toInt + (1 : Int32).toInt := ia_add (y := 1) et_18 (by omega) (by omega)
            refine lv_iinc (v := t_18) (lv' := [(5, .int t_18), (3, .int t_17), (4, .int 0), (2, .int x10_1), (0, .ref tp), (1, .ref (K 1))]) hx hb dX8_whichWord_108 hl (k := 2) rfl et_18 (by decide) rfl (fun ls hl => ?_)
            refine lv_goto (tgt := 10) hx hb dX8_whichWord_111 (by decide) ?_
            exact ih10 (t_18, x10_1, t_17, 0) (show 0 ≤ t_18.toInt ∧ t_18.toInt ≤ 6 ∧ 0 ≤ x10_1.toInt ∧ x10_1.toInt ≤ 6 ∧ 0 ≤ t_17.toInt ∧ t_17.toInt ≤ 6 ∧ 0 ≤ (0 : Int32).toInt ∧ (0 : Int32).toInt ≤ 1 ∧ x10_1.toInt ≤ t_18.toInt ∧ t_17.toInt ≤ t_18.toInt from ⟨by omega, by omega, by omega, by omega, by omega, by omega, by omega, by omega, by omega, by omega⟩) (show (6 - t_18.toInt).toNat < (6 - x10_0.toInt).toNat by omega) H locs wt ls hT hW hP hD hS (lv_sub hl [0, 2, 1, 3, 4, 5] rfl)
          · rw [Int32.le_iff_toInt_le] at c_16
            refine lv_aload_n hx hb dX8_whichWord_78 rfl (lv_at hl 4 rfl) ?_
            refine gq_get hx hb ht hown hK hP i_X8 0 rfl rfl 0 (by decide) wd_156 rfl rfl dX8_whichWord_79 ?_
            refine lv_aload_n hx hb dX8_whichWord_82 rfl (lv_at hl 4 rfl) ?_
            refine gq_get hx hb ht hown hK hP i_X8 0 rfl rfl 2 (by decide) wd_158 rfl rfl dX8_whichWord_83 ?_
            refine lv_iload_n hx hb dX8_whichWord_86 rfl (lv_at hl 2 rfl) ?_
            obtain ⟨t_19, et_19⟩ : ∃ zz_ : Int32, at_ + x10_2 = zz_ := ⟨_, rfl⟩
            refine gq_iadd hx hb t_19 et_19 dX8_whichWord_87 ?_
            have ft_19 := ia_add et_19 (by omega) (by omega)
            obtain ⟨n_20, en_20⟩ : ∃ zz_ : Int32, bf (Int32.toNatClampNeg t_19) = zz_ := ⟨_, rfl⟩
            refine gq_iald hx hb hK hP 1 rfl n_20 (ia_in (n := 400) (by omega) (by omega)) en_20 dX8_whichWord_88 ?_
            refine lv_aload_n hx hb dX8_whichWord_89 rfl (lv_at hl 5 rfl) ?_
            refine lv_iload hx hb dX8_whichWord_90 (lv_at hl 0 rfl) ?_
            refine gt_callI (wr := [(tp, .inr (8, [.ref bp, .int n, .int at_, .int w_, .int fl])), (bp, .inl (G.2.2 0, 400, .inl bf))]) (va_runV (As := [.int x10_0]) (rest := [.int n_20]) ⟨hx, hb, hml, hown, ht⟩ (d_char1 l G Γ H.size wt hT K V x10_0 (by omega) (by omega)) (cwV 1 ht (ts_gV wd_601 wd_602 wd_603 wd_135 wd_604) rfl rfl rfl (by decide +kernel) ⟨Nat.le_of_ble_eq_true rfl, Nat.le_of_ble_eq_true rfl⟩) (gx_preK 1 (by decide) hK (tw_right hP) (tw_rightD hD) hX hS (tw_free hD hS hA)) rfl rfl hl.1 rfl (lv_room (Nat.le_of_ble_eq_true rfl)) dX8_whichWord_92 ⟨Nat.le_of_ble_eq_true rfl, Nat.le_of_ble_eq_true rfl⟩) hP hD hS hA (fun r_21 wt H locs hw hP hD hS => ?_)
            obtain ⟨hT, hkp, rp_r_21⟩ := hw
            have hW := hW.call (show ∀ x ∈ [], x ∈ [] by decide) hkp
            have hP : va_P (gg_D G) classes ([(tp, .inr (8, [.ref bp, .int n, .int at_, .int w_, .int fl])), (bp, .inl (G.2.2 0, 400, .inl bf))] ++ wt) H := hP
            have hD : va_D A ([(tp, .inr (8, [.ref bp, .int n, .int at_, .int w_, .int fl])), (bp, .inl (G.2.2 0, 400, .inl bf))] ++ wt) := hD
            refine lv_icmp_ne (tgt := 102) hx hb dX8_whichWord_95 (by decide) (fun c_22 => ?_) (fun c_22 => ?_)
            · rw [← Int32.toInt_inj] at c_22
              refine lv_iconst (v := 0) hx hb dX8_whichWord_102 (by decide +kernel) ?_
              refine lv_istore (lv' := [(4, .int 0), (5, .int x10_0), (3, .int x10_2), (2, .int x10_1), (0, .ref tp), (1, .ref (K 1))]) hx hb dX8_whichWord_103 hl (by decide) rfl (fun ls hl => ?_)
              obtain ⟨t_23, et_23⟩ : ∃ zz_ : Int32, x10_2 + Int32.ofInt (1) = zz_ := ⟨_, rfl⟩
              have ft_23 : t_23.toInt = x10_2.toInt + (1 : Int32).toInt := ia_add (y := 1) et_23 (by omega) (by omega)
              refine lv_iinc (v := t_23) (lv' := [(3, .int t_23), (4, .int 0), (5, .int x10_0), (2, .int x10_1), (0, .ref tp), (1, .ref (K 1))]) hx hb dX8_whichWord_105 hl (k := 2) rfl et_23 (by decide) rfl (fun ls hl => ?_)
              obtain ⟨t_24, et_24⟩ : ∃ zz_ : Int32, x10_0 + Int32.ofInt (1) = zz_ := ⟨_, rfl⟩
              have ft_24 : t_24.toInt = x10_0.toInt + (1 : Int32).toInt := ia_add (y := 1) et_24 (by omega) (by omega)
              refine lv_iinc (v := t_24) (lv' := [(5, .int t_24), (3, .int t_23), (4, .int 0), (2, .int x10_1), (0, .ref tp), (1, .ref (K 1))]) hx hb dX8_whichWord_108 hl (k := 2) rfl et_24 (by decide) rfl (fun ls hl => ?_)
              refine lv_goto (tgt := 10) hx hb dX8_whichWord_111 (by decide) ?_
              exact ih10 (t_24, x10_1, t_23, 0) (show 0 ≤ t_24.toInt ∧ t_24.toInt ≤ 6 ∧ 0 ≤ x10_1.toInt ∧ x10_1.toInt ≤ 6 ∧ 0 ≤ t_23.toInt ∧ t_23.toInt ≤ 6 ∧ 0 ≤ (0 : Int32).toInt ∧ (0 : Int32).toInt ≤ 1 ∧ x10_1.toInt ≤ t_24.toInt ∧ t_23.toInt ≤ t_24.toInt from ⟨by omega, by omega, by omega, by omega, by omega, by omega, by omega, by omega, by omega, by omega⟩) (show (6 - t_24.toInt).toNat < (6 - x10_0.toInt).toNat by omega) H locs wt ls hT hW hP hD hS (lv_sub hl [0, 2, 1, 3, 4, 5] rfl)
            · rw [← Int32.toInt_inj] at c_22
              refine lv_iconst (v := 1) hx hb dX8_whichWord_98 (by decide +kernel) ?_
              refine lv_goto (tgt := 103) hx hb dX8_whichWord_99 (by decide) ?_
              refine lv_istore (lv' := [(4, .int 1), (5, .int x10_0), (3, .int x10_2), (2, .int x10_1), (0, .ref tp), (1, .ref (K 1))]) hx hb dX8_whichWord_103 hl (by decide) rfl (fun ls hl => ?_)
              obtain ⟨t_25, et_25⟩ : ∃ zz_ : Int32, x10_2 + Int32.ofInt (1) = zz_ := ⟨_, rfl⟩
              have ft_25 : t_25.toInt = x10_2.toInt + (1 : Int32).toInt := ia_add (y := 1) et_25 (by omega) (by omega)
              refine lv_iinc (v := t_25) (lv' := [(3, .int t_25), (4, .int 1), (5, .int x10_0), (2, .int x10_1), (0, .ref tp), (1, .ref (K 1))]) hx hb dX8_whichWord_105 hl (k := 2) rfl et_25 (by decide) rfl (fun ls hl => ?_)
              obtain ⟨t_26, et_26⟩ : ∃ zz_ : Int32, x10_0 + Int32.ofInt (1) = zz_ := ⟨_, rfl⟩
              have ft_26 : t_26.toInt = x10_0.toInt + (1 : Int32).toInt := ia_add (y := 1) et_26 (by omega) (by omega)
              refine lv_iinc (v := t_26) (lv' := [(5, .int t_26), (3, .int t_25), (4, .int 1), (2, .int x10_1), (0, .ref tp), (1, .ref (K 1))]) hx hb dX8_whichWord_108 hl (k := 2) rfl et_26 (by decide) rfl (fun ls hl => ?_)
              refine lv_goto (tgt := 10) hx hb dX8_whichWord_111 (by decide) ?_
              exact ih10 (t_26, x10_1, t_25, 1) (show 0 ≤ t_26.toInt ∧ t_26.toInt ≤ 6 ∧ 0 ≤ x10_1.toInt ∧ x10_1.toInt ≤ 6 ∧ 0 ≤ t_25.toInt ∧ t_25.toInt ≤ 6 ∧ 0 ≤ (1 : Int32).toInt ∧ (1 : Int32).toInt ≤ 1 ∧ x10_1.toInt ≤ t_26.toInt ∧ t_25.toInt ≤ t_26.toInt from ⟨by omega, by omega, by omega, by omega, by omega, by omega, by omega, by omega, by omega, by omega⟩) (show (6 - t_26.toInt).toNat < (6 - x10_0.toInt).toNat by omega) H locs wt ls hT hW hP hD hS (lv_sub hl [0, 2, 1, 3, 4, 5] rfl)
      · rw [← Int32.toInt_inj] at c_12
        refine lv_iload hx hb dX8_whichWord_39 (lv_at hl 1 rfl) ?_
        refine lv_if_eq (tgt := 54) hx hb dX8_whichWord_41 (by decide) (fun c_27 => ?_) (fun c_27 => ?_)
        · rw [← Int32.toInt_inj] at c_27
          obtain ⟨t_28, et_28⟩ : ∃ zz_ : Int32, x10_1 + Int32.ofInt (1) = zz_ := ⟨_, rfl⟩
          have ft_28 : t_28.toInt = x10_1.toInt + (1 : Int32).toInt := ia_add (y := 1) et_28 (by omega) (by omega)
          refine lv_iinc (v := t_28) (lv' := [(2, .int t_28), (5, .int x10_0), (4, .int x10_3), (3, .int x10_2), (0, .ref tp), (1, .ref (K 1))]) hx hb dX8_whichWord_54 hl (k := 3) rfl et_28 (by decide) rfl (fun ls hl => ?_)
          refine lv_iconst (v := 0) hx hb dX8_whichWord_57 (by decide +kernel) ?_
          refine lv_istore_n (lv' := [(3, .int 0), (2, .int t_28), (5, .int x10_0), (4, .int x10_3), (0, .ref tp), (1, .ref (K 1))]) hx hb dX8_whichWord_58 rfl hl (by decide) rfl (fun ls hl => ?_)
          refine lv_iconst (v := 1) hx hb dX8_whichWord_59 (by decide +kernel) ?_
          refine lv_istore (lv' := [(4, .int 1), (3, .int 0), (2, .int t_28), (5, .int x10_0), (0, .ref tp), (1, .ref (K 1))]) hx hb dX8_whichWord_60 hl (by decide) rfl (fun ls hl => ?_)
          refine lv_goto (tgt := 108) hx hb dX8_whichWord_62 (by decide) ?_
          obtain ⟨t_29, et_29⟩ : ∃ zz_ : Int32, x10_0 + Int32.ofInt (1) = zz_ := ⟨_, rfl⟩
          have ft_29 : t_29.toInt = x10_0.toInt + (1 : Int32).toInt := ia_add (y := 1) et_29 (by omega) (by omega)
          refine lv_iinc (v := t_29) (lv' := [(5, .int t_29), (4, .int 1), (3, .int 0), (2, .int t_28), (0, .ref tp), (1, .ref (K 1))]) hx hb dX8_whichWord_108 hl (k := 3) rfl et_29 (by decide) rfl (fun ls hl => ?_)
          refine lv_goto (tgt := 10) hx hb dX8_whichWord_111 (by decide) ?_
          exact ih10 (t_29, t_28, 0, 1) (show 0 ≤ t_29.toInt ∧ t_29.toInt ≤ 6 ∧ 0 ≤ t_28.toInt ∧ t_28.toInt ≤ 6 ∧ 0 ≤ (0 : Int32).toInt ∧ (0 : Int32).toInt ≤ 6 ∧ 0 ≤ (1 : Int32).toInt ∧ (1 : Int32).toInt ≤ 1 ∧ t_28.toInt ≤ t_29.toInt ∧ (0 : Int32).toInt ≤ t_29.toInt from ⟨by omega, by omega, by omega, by omega, by omega, by omega, by omega, by omega, by omega, by omega⟩) (show (6 - t_29.toInt).toNat < (6 - x10_0.toInt).toNat by omega) H locs wt ls hT hW hP hD hS (lv_sub hl [0, 1, 2, 3, 4, 5] rfl)
        · rw [← Int32.toInt_inj] at c_27
          refine lv_iload_n hx hb dX8_whichWord_44 rfl (lv_at hl 2 rfl) ?_
          refine lv_aload_n hx hb dX8_whichWord_45 rfl (lv_at hl 4 rfl) ?_
          refine gq_get hx hb ht hown hK hP i_X8 0 rfl rfl 3 (by decide) wd_159 rfl rfl dX8_whichWord_46 ?_
          refine lv_icmp_ne (tgt := 54) hx hb dX8_whichWord_49 (by decide) (fun c_30 => ?_) (fun c_30 => ?_)
          · rw [← Int32.toInt_inj] at c_30
            obtain ⟨t_31, et_31⟩ : ∃ zz_ : Int32, x10_1 + Int32.ofInt (1) = zz_ := ⟨_, rfl⟩
            have ft_31 : t_31.toInt = x10_1.toInt + (1 : Int32).toInt := ia_add (y := 1) et_31 (by omega) (by omega)
            refine lv_iinc (v := t_31) (lv' := [(2, .int t_31), (5, .int x10_0), (4, .int x10_3), (3, .int x10_2), (0, .ref tp), (1, .ref (K 1))]) hx hb dX8_whichWord_54 hl (k := 3) rfl et_31 (by decide) rfl (fun ls hl => ?_)
            refine lv_iconst (v := 0) hx hb dX8_whichWord_57 (by decide +kernel) ?_
            refine lv_istore_n (lv' := [(3, .int 0), (2, .int t_31), (5, .int x10_0), (4, .int x10_3), (0, .ref tp), (1, .ref (K 1))]) hx hb dX8_whichWord_58 rfl hl (by decide) rfl (fun ls hl => ?_)
            refine lv_iconst (v := 1) hx hb dX8_whichWord_59 (by decide +kernel) ?_
            refine lv_istore (lv' := [(4, .int 1), (3, .int 0), (2, .int t_31), (5, .int x10_0), (0, .ref tp), (1, .ref (K 1))]) hx hb dX8_whichWord_60 hl (by decide) rfl (fun ls hl => ?_)
            refine lv_goto (tgt := 108) hx hb dX8_whichWord_62 (by decide) ?_
            obtain ⟨t_32, et_32⟩ : ∃ zz_ : Int32, x10_0 + Int32.ofInt (1) = zz_ := ⟨_, rfl⟩
            have ft_32 : t_32.toInt = x10_0.toInt + (1 : Int32).toInt := ia_add (y := 1) et_32 (by omega) (by omega)
            refine lv_iinc (v := t_32) (lv' := [(5, .int t_32), (4, .int 1), (3, .int 0), (2, .int t_31), (0, .ref tp), (1, .ref (K 1))]) hx hb dX8_whichWord_108 hl (k := 3) rfl et_32 (by decide) rfl (fun ls hl => ?_)
            refine lv_goto (tgt := 10) hx hb dX8_whichWord_111 (by decide) ?_
            exact ih10 (t_32, t_31, 0, 1) (show 0 ≤ t_32.toInt ∧ t_32.toInt ≤ 6 ∧ 0 ≤ t_31.toInt ∧ t_31.toInt ≤ 6 ∧ 0 ≤ (0 : Int32).toInt ∧ (0 : Int32).toInt ≤ 6 ∧ 0 ≤ (1 : Int32).toInt ∧ (1 : Int32).toInt ≤ 1 ∧ t_31.toInt ≤ t_32.toInt ∧ (0 : Int32).toInt ≤ t_32.toInt from ⟨by omega, by omega, by omega, by omega, by omega, by omega, by omega, by omega, by omega, by omega⟩) (show (6 - t_32.toInt).toNat < (6 - x10_0.toInt).toNat by omega) H locs wt ls hT hW hP hD hS (lv_sub hl [0, 1, 2, 3, 4, 5] rfl)
          · rw [← Int32.toInt_inj] at c_30
            refine lv_iload_n hx hb dX8_whichWord_52 rfl (lv_at hl 3 rfl) ?_
            have hP9 : va_P (gg_D G) classes ([(tp, .inr (8, [.ref bp, .int n, .int at_, .int w_, .int fl])), (bp, .inl (G.2.2 0, 400, .inl bf))] ++ wt) _ := hP
            have hD9 : va_D A ([(tp, .inr (8, [.ref bp, .int n, .int at_, .int w_, .int fl])), (bp, .inl (G.2.2 0, 400, .inl bf))] ++ wt) := hD
            exact W.iret (v := x10_1) hx hb hr (gq_endI wt ⟨hT, hW, (by omega), (by omega)⟩ hP9 hD9 hS) hS.2.2 dX8_whichWord_53
set_option maxHeartbeats 4000000 in
set_option maxRecDepth 100000 in
theorem d_which2 (l : Launch) (G : gg_T) (Γ : Nat → Nat) (sz : Nat) (wt : va_W) (hT : tk_ty G Γ wt) (K : Nat → Nat) (V : Nat → Nat) (tp : Nat) (bp : Nat) (n : Int32) (at_ : Int32) (w_ : Int32) (fl : Int32) (bf : Nat → Int32) (xp1 : 0 ≤ n.toInt) (xp2 : n.toInt ≤ 400) (xp3 : 0 ≤ at_.toInt) (xp4 : 0 ≤ w_.toInt) (xp5 : at_.toInt + w_.toInt ≤ 400) : Met l yX8_whichWord (ts_L yX8_whichWord cX8_whichWord 6 (some .int)) ({ frames := 4, cells := 0, slots := 0, locals := 85 }) (gx_P G K V ([(tp, .inr (8, [.ref bp, .int n, .int at_, .int w_, .int fl])), (bp, .inl (G.2.2 0, 400, .inl bf))] ++ wt) sz [.ref tp, .ref (K 2)]) (gc_I G (va_A ([(tp, .inr (8, [.ref bp, .int n, .int at_, .int w_, .int fl])), (bp, .inl (G.2.2 0, 400, .inl bf))] ++ wt) sz) (fun r (u : va_W) => match u with | wt1 => tk_ty G Γ wt1 ∧ tk_kp [] wt wt1 ∧ -1 ≤ r.toInt ∧ r.toInt ≤ 65) (fun (u : va_W) => match u with | wt1 => [(tp, .inr (8, [.ref bp, .int n, .int at_, .int w_, .int fl])), (bp, .inl (G.2.2 0, 400, .inl bf))] ++ wt1)) 0 0 (va_A ([(tp, .inr (8, [.ref bp, .int n, .int at_, .int w_, .int fl])), (bp, .inl (G.2.2 0, 400, .inl bf))] ++ wt) sz) := by
  refine Met.ofW (cc := cX8_whichWord) (maxL := 6) (ret := (some .int)) (by decide) rfl ?_
  intro p e s m args below meth c s₁ B hml hv
  obtain ⟨rfl, hsz, hP, hK, hD0, hX⟩ := hv
  have hx := B.exec
  have hb := B.bytes
  have hr := B.returns
  have ht := ts_ht (atoms_spec (ws := ts_L yX8_whichWord cX8_whichWord 6 (some .int)) B.pre)
  have hown : s.vm.findClass RX8 = some m.cls := findClass_of_methodNamed B.named
  have hlocks := B.notSynchronized
  subst hsz
  have hD := hD0.self (sz := s.heap.size)
  generalize hAe : va_A ([(tp, .inr (8, [.ref bp, .int n, .int at_, .int w_, .int fl])), (bp, .inl (G.2.2 0, 400, .inl bf))] ++ wt) s.heap.size = A at hD hX ⊢
  have hA : ∀ q : Nat, s.heap.size ≤ q → A q := fun q h => by rw [← hAe]; exact Or.inr h
  clear hAe hD0
  have hS : va_S A s.heap s.heap [] := va_S.rf
  obtain ⟨w0, hw0⟩ : ∃ z, z = wt := ⟨_, rfl⟩
  have hW : tk_kp [] w0 wt := by rw [hw0]; exact tk_kp.rf
  rw [← hw0]
  clear hw0
  have hP : va_P (gg_D G) classes ([(tp, .inr (8, [.ref bp, .int n, .int at_, .int w_, .int fl])), (bp, .inl (G.2.2 0, 400, .inl bf))] ++ wt) s.heap := hP
  have hD : va_D A ([(tp, .inr (8, [.ref bp, .int n, .int at_, .int w_, .int fl])), (bp, .inl (G.2.2 0, 400, .inl bf))] ++ wt) := hD
  have hl := lv_entry ([.ref tp, .ref (K 2)]) (n := 6) (Nat.le_of_ble_eq_true rfl)
  rw [lg_entry_eq]
  generalize (lg_sl ([.ref tp, .ref (K 2)]) ++ List.replicate (6 - (lg_sl ([.ref tp, .ref (K 2)])).length) Slot.unset).toArray = ls at hl ⊢
  have hl : lv_has ls 6 [(0, .ref tp), (1, .ref (K 2))] := hl
  have lm1 : ((-1) : Int32).toInt = -1 := by decide +kernel
  have l0 : (0 : Int32).toInt = 0 := by decide +kernel
  have l1 : (1 : Int32).toInt = 1 := by decide +kernel
  have l32 : (32 : Int32).toInt = 32 := by decide +kernel
  have l64 : (64 : Int32).toInt = 64 := by decide +kernel
  refine lv_iconst (v := 0) hx hb dX8_whichWord_0 (by decide +kernel) ?_
  refine lv_istore_n (lv' := [(2, .int 0), (0, .ref tp), (1, .ref (K 2))]) hx hb dX8_whichWord_1 rfl hl (by decide) rfl (fun ls hl => ?_)
  refine lv_iconst (v := 0) hx hb dX8_whichWord_2 (by decide +kernel) ?_
  refine lv_istore_n (lv' := [(3, .int 0), (2, .int 0), (0, .ref tp), (1, .ref (K 2))]) hx hb dX8_whichWord_3 rfl hl (by decide) rfl (fun ls hl => ?_)
  refine lv_iconst (v := 1) hx hb dX8_whichWord_4 (by decide +kernel) ?_
  refine lv_istore (lv' := [(4, .int 1), (3, .int 0), (2, .int 0), (0, .ref tp), (1, .ref (K 2))]) hx hb dX8_whichWord_5 hl (by decide) rfl (fun ls hl => ?_)
  refine lv_iconst (v := 0) hx hb dX8_whichWord_7 (by decide +kernel) ?_
  refine lv_istore (lv' := [(5, .int 0), (4, .int 1), (3, .int 0), (2, .int 0), (0, .ref tp), (1, .ref (K 2))]) hx hb dX8_whichWord_8 hl (by decide) rfl (fun ls hl => ?_)
  refine tl_loopE (Γ := Γ) (nL := 6) (fun (zz_ : Int32 × Int32 × Int32 × Int32) => match zz_ with | (x10_0, x10_1, x10_2, x10_3) => 0 ≤ x10_0.toInt ∧ x10_0.toInt ≤ 65 ∧ 0 ≤ x10_1.toInt ∧ x10_1.toInt ≤ 65 ∧ 0 ≤ x10_2.toInt ∧ x10_2.toInt ≤ 65 ∧ 0 ≤ x10_3.toInt ∧ x10_3.toInt ≤ 1 ∧ x10_1.toInt ≤ x10_0.toInt ∧ x10_2.toInt ≤ x10_0.toInt) (fun (zz_ : Int32 × Int32 × Int32 × Int32) => match zz_ with | (x10_0, x10_1, x10_2, x10_3) => (65 - x10_0.toInt).toNat) (fun (zz_ : Int32 × Int32 × Int32 × Int32) => match zz_ with | (x10_0, x10_1, x10_2, x10_3) => [(5, .int x10_0), (4, .int x10_3), (3, .int x10_2), (2, .int x10_1), (0, .ref tp), (1, .ref (K 2))]) (fun (zz_ : Int32 × Int32 × Int32 × Int32) => match zz_ with | (x10_0, x10_1, x10_2, x10_3) => [(tp, .inr (8, [.ref bp, .int n, .int at_, .int w_, .int fl])), (bp, .inl (G.2.2 0, 400, .inl bf))]) (fun (zz_ : Int32 × Int32 × Int32 × Int32) (w : va_W) => match zz_ with | (x10_0, x10_1, x10_2, x10_3) => tk_kp [] w0 w) (fun zz_ hI H locs wt ls hT hW hP hD hS hl ih10 => ?_) (0, 0, 0, 1) (show 0 ≤ (0 : Int32).toInt ∧ (0 : Int32).toInt ≤ 65 ∧ 0 ≤ (0 : Int32).toInt ∧ (0 : Int32).toInt ≤ 65 ∧ 0 ≤ (0 : Int32).toInt ∧ (0 : Int32).toInt ≤ 65 ∧ 0 ≤ (1 : Int32).toInt ∧ (1 : Int32).toInt ≤ 1 ∧ (0 : Int32).toInt ≤ (0 : Int32).toInt ∧ (0 : Int32).toInt ≤ (0 : Int32).toInt from ⟨by omega, by omega, by omega, by omega, by omega, by omega, by omega, by omega, by omega, by omega⟩) _ _ wt ls hT hW hP hD hS hl
  obtain ⟨x10_0, x10_1, x10_2, x10_3⟩ := zz_
  have hW : tk_kp [] w0 wt := hW
  have hI : 0 ≤ x10_0.toInt ∧ x10_0.toInt ≤ 65 ∧ 0 ≤ x10_1.toInt ∧ x10_1.toInt ≤ 65 ∧ 0 ≤ x10_2.toInt ∧ x10_2.toInt ≤ 65 ∧ 0 ≤ x10_3.toInt ∧ x10_3.toInt ≤ 1 ∧ x10_1.toInt ≤ x10_0.toInt ∧ x10_2.toInt ≤ x10_0.toInt := hI
  obtain ⟨j10_0, j10_1, j10_2, j10_3, j10_4, j10_5, j10_6, j10_7, j10_8, j10_9⟩ := hI
  have hl : lv_has ls 6 [(5, .int x10_0), (4, .int x10_3), (3, .int x10_2), (2, .int x10_1), (0, .ref tp), (1, .ref (K 2))] := hl
  have hP : va_P (gg_D G) classes ([(tp, .inr (8, [.ref bp, .int n, .int at_, .int w_, .int fl])), (bp, .inl (G.2.2 0, 400, .inl bf))] ++ wt) H := hP
  have hD : va_D A ([(tp, .inr (8, [.ref bp, .int n, .int at_, .int w_, .int fl])), (bp, .inl (G.2.2 0, 400, .inl bf))] ++ wt) := hD
  refine lv_iload hx hb dX8_whichWord_10 (lv_at hl 0 rfl) ?_
  refine lv_aload_n hx hb dX8_whichWord_12 rfl (lv_at hl 5 rfl) ?_
  refine gt_callI (wr := [(tp, .inr (8, [.ref bp, .int n, .int at_, .int w_, .int fl])), (bp, .inl (G.2.2 0, 400, .inl bf))]) (va_runV (As := []) (rest := [.int x10_0]) ⟨hx, hb, hml, hown, ht⟩ (d_length2 l G Γ H.size wt hT K V) (cwV 0 ht (ts_gV wd_591 wd_592 wd_593 wd_135 wd_594) rfl rfl rfl (by decide +kernel) ⟨Nat.le_of_ble_eq_true rfl, Nat.le_of_ble_eq_true rfl⟩) (gx_preK 2 (by decide) hK (tw_right hP) (tw_rightD hD) hX hS (tw_free hD hS hA)) rfl rfl hl.1 rfl (lv_room (Nat.le_of_ble_eq_true rfl)) dX8_whichWord_13 ⟨Nat.le_of_ble_eq_true rfl, Nat.le_of_ble_eq_true rfl⟩) hP hD hS hA (fun r_1 wt H locs hw hP hD hS => ?_)
  obtain ⟨hT, hkp, lo_r_1, hi_r_1⟩ := hw
  have hW := hW.call (show ∀ x ∈ [], x ∈ [] by decide) hkp
  have hP : va_P (gg_D G) classes ([(tp, .inr (8, [.ref bp, .int n, .int at_, .int w_, .int fl])), (bp, .inl (G.2.2 0, 400, .inl bf))] ++ wt) H := hP
  have hD : va_D A ([(tp, .inr (8, [.ref bp, .int n, .int at_, .int w_, .int fl])), (bp, .inl (G.2.2 0, 400, .inl bf))] ++ wt) := hD
  have z_r_1 : r_1 = 64 := by rw [← Int32.toInt_inj]; omega
  subst z_r_1
  refine lv_icmp_gt (tgt := 114) hx hb dX8_whichWord_16 (by decide) (fun c_2 => ?_) (fun c_2 => ?_)
  · rw [Int32.lt_iff_toInt_lt] at c_2
    refine lv_iconst (v := (-1)) hx hb dX8_whichWord_114 (by decide +kernel) ?_
    have hP9 : va_P (gg_D G) classes ([(tp, .inr (8, [.ref bp, .int n, .int at_, .int w_, .int fl])), (bp, .inl (G.2.2 0, 400, .inl bf))] ++ wt) _ := hP
    have hD9 : va_D A ([(tp, .inr (8, [.ref bp, .int n, .int at_, .int w_, .int fl])), (bp, .inl (G.2.2 0, 400, .inl bf))] ++ wt) := hD
    exact W.iret (v := (-1)) hx hb hr (gq_endI wt ⟨hT, hW, (by omega), (by omega)⟩ hP9 hD9 hS) hS.2.2 dX8_whichWord_115
  · rw [Int32.lt_iff_toInt_lt] at c_2
    refine lv_iload hx hb dX8_whichWord_19 (lv_at hl 0 rfl) ?_
    refine lv_aload_n hx hb dX8_whichWord_21 rfl (lv_at hl 5 rfl) ?_
    refine gt_callI (wr := [(tp, .inr (8, [.ref bp, .int n, .int at_, .int w_, .int fl])), (bp, .inl (G.2.2 0, 400, .inl bf))]) (va_runV (As := []) (rest := [.int x10_0]) ⟨hx, hb, hml, hown, ht⟩ (d_length2 l G Γ H.size wt hT K V) (cwV 0 ht (ts_gV wd_591 wd_592 wd_593 wd_135 wd_594) rfl rfl rfl (by decide +kernel) ⟨Nat.le_of_ble_eq_true rfl, Nat.le_of_ble_eq_true rfl⟩) (gx_preK 2 (by decide) hK (tw_right hP) (tw_rightD hD) hX hS (tw_free hD hS hA)) rfl rfl hl.1 rfl (lv_room (Nat.le_of_ble_eq_true rfl)) dX8_whichWord_22 ⟨Nat.le_of_ble_eq_true rfl, Nat.le_of_ble_eq_true rfl⟩) hP hD hS hA (fun r_3 wt H locs hw hP hD hS => ?_)
    obtain ⟨hT, hkp, lo_r_3, hi_r_3⟩ := hw
    have hW := hW.call (show ∀ x ∈ [], x ∈ [] by decide) hkp
    have hP : va_P (gg_D G) classes ([(tp, .inr (8, [.ref bp, .int n, .int at_, .int w_, .int fl])), (bp, .inl (G.2.2 0, 400, .inl bf))] ++ wt) H := hP
    have hD : va_D A ([(tp, .inr (8, [.ref bp, .int n, .int at_, .int w_, .int fl])), (bp, .inl (G.2.2 0, 400, .inl bf))] ++ wt) := hD
    have z_r_3 : r_3 = 64 := by rw [← Int32.toInt_inj]; omega
    subst z_r_3
    refine lv_icmp_eq (tgt := 39) hx hb dX8_whichWord_25 (by decide) (fun c_4 => ?_) (fun c_4 => ?_)
    · rw [← Int32.toInt_inj] at c_4
      refine lv_iload hx hb dX8_whichWord_39 (lv_at hl 1 rfl) ?_
      refine lv_if_eq (tgt := 54) hx hb dX8_whichWord_41 (by decide) (fun c_5 => ?_) (fun c_5 => ?_)
      · rw [← Int32.toInt_inj] at c_5
        obtain ⟨t_6, et_6⟩ : ∃ zz_ : Int32, x10_1 + Int32.ofInt (1) = zz_ := ⟨_, rfl⟩
        have ft_6 : t_6.toInt = x10_1.toInt + (1 : Int32).toInt := ia_add (y := 1) et_6 (by omega) (by omega)
        refine lv_iinc (v := t_6) (lv' := [(2, .int t_6), (5, .int x10_0), (4, .int x10_3), (3, .int x10_2), (0, .ref tp), (1, .ref (K 2))]) hx hb dX8_whichWord_54 hl (k := 3) rfl et_6 (by decide) rfl (fun ls hl => ?_)
        refine lv_iconst (v := 0) hx hb dX8_whichWord_57 (by decide +kernel) ?_
        refine lv_istore_n (lv' := [(3, .int 0), (2, .int t_6), (5, .int x10_0), (4, .int x10_3), (0, .ref tp), (1, .ref (K 2))]) hx hb dX8_whichWord_58 rfl hl (by decide) rfl (fun ls hl => ?_)
        refine lv_iconst (v := 1) hx hb dX8_whichWord_59 (by decide +kernel) ?_
        refine lv_istore (lv' := [(4, .int 1), (3, .int 0), (2, .int t_6), (5, .int x10_0), (0, .ref tp), (1, .ref (K 2))]) hx hb dX8_whichWord_60 hl (by decide) rfl (fun ls hl => ?_)
        refine lv_goto (tgt := 108) hx hb dX8_whichWord_62 (by decide) ?_
        obtain ⟨t_7, et_7⟩ : ∃ zz_ : Int32, x10_0 + Int32.ofInt (1) = zz_ := ⟨_, rfl⟩
        have ft_7 : t_7.toInt = x10_0.toInt + (1 : Int32).toInt := ia_add (y := 1) et_7 (by omega) (by omega)
        refine lv_iinc (v := t_7) (lv' := [(5, .int t_7), (4, .int 1), (3, .int 0), (2, .int t_6), (0, .ref tp), (1, .ref (K 2))]) hx hb dX8_whichWord_108 hl (k := 3) rfl et_7 (by decide) rfl (fun ls hl => ?_)
        refine lv_goto (tgt := 10) hx hb dX8_whichWord_111 (by decide) ?_
        exact ih10 (t_7, t_6, 0, 1) (show 0 ≤ t_7.toInt ∧ t_7.toInt ≤ 65 ∧ 0 ≤ t_6.toInt ∧ t_6.toInt ≤ 65 ∧ 0 ≤ (0 : Int32).toInt ∧ (0 : Int32).toInt ≤ 65 ∧ 0 ≤ (1 : Int32).toInt ∧ (1 : Int32).toInt ≤ 1 ∧ t_6.toInt ≤ t_7.toInt ∧ (0 : Int32).toInt ≤ t_7.toInt from ⟨by omega, by omega, by omega, by omega, by omega, by omega, by omega, by omega, by omega, by omega⟩) (show (65 - t_7.toInt).toNat < (65 - x10_0.toInt).toNat by omega) H locs wt ls hT hW hP hD hS (lv_sub hl [0, 1, 2, 3, 4, 5] rfl)
      · rw [← Int32.toInt_inj] at c_5
        refine lv_iload_n hx hb dX8_whichWord_44 rfl (lv_at hl 2 rfl) ?_
        refine lv_aload_n hx hb dX8_whichWord_45 rfl (lv_at hl 4 rfl) ?_
        refine gq_get hx hb ht hown hK hP i_X8 0 rfl rfl 3 (by decide) wd_159 rfl rfl dX8_whichWord_46 ?_
        refine lv_icmp_ne (tgt := 54) hx hb dX8_whichWord_49 (by decide) (fun c_8 => ?_) (fun c_8 => ?_)
        · rw [← Int32.toInt_inj] at c_8
          obtain ⟨t_9, et_9⟩ : ∃ zz_ : Int32, x10_1 + Int32.ofInt (1) = zz_ := ⟨_, rfl⟩
          have ft_9 : t_9.toInt = x10_1.toInt + (1 : Int32).toInt := ia_add (y := 1) et_9 (by omega) (by omega)
          refine lv_iinc (v := t_9) (lv' := [(2, .int t_9), (5, .int x10_0), (4, .int x10_3), (3, .int x10_2), (0, .ref tp), (1, .ref (K 2))]) hx hb dX8_whichWord_54 hl (k := 3) rfl et_9 (by decide) rfl (fun ls hl => ?_)
          refine lv_iconst (v := 0) hx hb dX8_whichWord_57 (by decide +kernel) ?_
          refine lv_istore_n (lv' := [(3, .int 0), (2, .int t_9), (5, .int x10_0), (4, .int x10_3), (0, .ref tp), (1, .ref (K 2))]) hx hb dX8_whichWord_58 rfl hl (by decide) rfl (fun ls hl => ?_)
          refine lv_iconst (v := 1) hx hb dX8_whichWord_59 (by decide +kernel) ?_
          refine lv_istore (lv' := [(4, .int 1), (3, .int 0), (2, .int t_9), (5, .int x10_0), (0, .ref tp), (1, .ref (K 2))]) hx hb dX8_whichWord_60 hl (by decide) rfl (fun ls hl => ?_)
          refine lv_goto (tgt := 108) hx hb dX8_whichWord_62 (by decide) ?_
          obtain ⟨t_10, et_10⟩ : ∃ zz_ : Int32, x10_0 + Int32.ofInt (1) = zz_ := ⟨_, rfl⟩
          have ft_10 : t_10.toInt = x10_0.toInt + (1 : Int32).toInt := ia_add (y := 1) et_10 (by omega) (by omega)
          refine lv_iinc (v := t_10) (lv' := [(5, .int t_10), (4, .int 1), (3, .int 0), (2, .int t_9), (0, .ref tp), (1, .ref (K 2))]) hx hb dX8_whichWord_108 hl (k := 3) rfl et_10 (by decide) rfl (fun ls hl => ?_)
          refine lv_goto (tgt := 10) hx hb dX8_whichWord_111 (by decide) ?_
          exact ih10 (t_10, t_9, 0, 1) (show 0 ≤ t_10.toInt ∧ t_10.toInt ≤ 65 ∧ 0 ≤ t_9.toInt ∧ t_9.toInt ≤ 65 ∧ 0 ≤ (0 : Int32).toInt ∧ (0 : Int32).toInt ≤ 65 ∧ 0 ≤ (1 : Int32).toInt ∧ (1 : Int32).toInt ≤ 1 ∧ t_9.toInt ≤ t_10.toInt ∧ (0 : Int32).toInt ≤ t_10.toInt from ⟨by omega, by omega, by omega, by omega, by omega, by omega, by omega, by omega, by omega, by omega⟩) (show (65 - t_10.toInt).toNat < (65 - x10_0.toInt).toNat by omega) H locs wt ls hT hW hP hD hS (lv_sub hl [0, 1, 2, 3, 4, 5] rfl)
        · rw [← Int32.toInt_inj] at c_8
          refine lv_iload_n hx hb dX8_whichWord_52 rfl (lv_at hl 3 rfl) ?_
          have hP9 : va_P (gg_D G) classes ([(tp, .inr (8, [.ref bp, .int n, .int at_, .int w_, .int fl])), (bp, .inl (G.2.2 0, 400, .inl bf))] ++ wt) _ := hP
          have hD9 : va_D A ([(tp, .inr (8, [.ref bp, .int n, .int at_, .int w_, .int fl])), (bp, .inl (G.2.2 0, 400, .inl bf))] ++ wt) := hD
          exact W.iret (v := x10_1) hx hb hr (gq_endI wt ⟨hT, hW, (by omega), (by omega)⟩ hP9 hD9 hS) hS.2.2 dX8_whichWord_53
    · rw [← Int32.toInt_inj] at c_4
      refine lv_aload_n hx hb dX8_whichWord_28 rfl (lv_at hl 5 rfl) ?_
      refine lv_iload hx hb dX8_whichWord_29 (lv_at hl 0 rfl) ?_
      refine gt_callI (wr := [(tp, .inr (8, [.ref bp, .int n, .int at_, .int w_, .int fl])), (bp, .inl (G.2.2 0, 400, .inl bf))]) (va_runV (As := [.int x10_0]) (rest := []) ⟨hx, hb, hml, hown, ht⟩ (d_char2 l G Γ H.size wt hT K V x10_0 (by omega) (by omega)) (cwV 1 ht (ts_gV wd_601 wd_602 wd_603 wd_135 wd_604) rfl rfl rfl (by decide +kernel) ⟨Nat.le_of_ble_eq_true rfl, Nat.le_of_ble_eq_true rfl⟩) (gx_preK 2 (by decide) hK (tw_right hP) (tw_rightD hD) hX hS (tw_free hD hS hA)) rfl rfl hl.1 rfl (lv_room (Nat.le_of_ble_eq_true rfl)) dX8_whichWord_31 ⟨Nat.le_of_ble_eq_true rfl, Nat.le_of_ble_eq_true rfl⟩) hP hD hS hA (fun r_11 wt H locs hw hP hD hS => ?_)
      obtain ⟨hT, hkp, rp_r_11⟩ := hw
      have hW := hW.call (show ∀ x ∈ [], x ∈ [] by decide) hkp
      have hP : va_P (gg_D G) classes ([(tp, .inr (8, [.ref bp, .int n, .int at_, .int w_, .int fl])), (bp, .inl (G.2.2 0, 400, .inl bf))] ++ wt) H := hP
      have hD : va_D A ([(tp, .inr (8, [.ref bp, .int n, .int at_, .int w_, .int fl])), (bp, .inl (G.2.2 0, 400, .inl bf))] ++ wt) := hD
      refine lv_bipush (v := 32) hx hb dX8_whichWord_34 (by decide +kernel) ?_
      refine lv_icmp_ne (tgt := 65) hx hb dX8_whichWord_36 (by decide) (fun c_12 => ?_) (fun c_12 => ?_)
      · rw [← Int32.toInt_inj] at c_12
        refine lv_iload hx hb dX8_whichWord_65 (lv_at hl 1 rfl) ?_
        refine lv_if_eq (tgt := 102) hx hb dX8_whichWord_67 (by decide) (fun c_13 => ?_) (fun c_13 => ?_)
        · rw [← Int32.toInt_inj] at c_13
          refine lv_iconst (v := 0) hx hb dX8_whichWord_102 (by decide +kernel) ?_
          refine lv_istore (lv' := [(4, .int 0), (5, .int x10_0), (3, .int x10_2), (2, .int x10_1), (0, .ref tp), (1, .ref (K 2))]) hx hb dX8_whichWord_103 hl (by decide) rfl (fun ls hl => ?_)
          obtain ⟨t_14, et_14⟩ : ∃ zz_ : Int32, x10_2 + Int32.ofInt (1) = zz_ := ⟨_, rfl⟩
          have ft_14 : t_14.toInt = x10_2.toInt + (1 : Int32).toInt := ia_add (y := 1) et_14 (by omega) (by omega)
          refine lv_iinc (v := t_14) (lv' := [(3, .int t_14), (4, .int 0), (5, .int x10_0), (2, .int x10_1), (0, .ref tp), (1, .ref (K 2))]) hx hb dX8_whichWord_105 hl (k := 2) rfl et_14 (by decide) rfl (fun ls hl => ?_)
          obtain ⟨t_15, et_15⟩ : ∃ zz_ : Int32, x10_0 + Int32.ofInt (1) = zz_ := ⟨_, rfl⟩
          have ft_15 : t_15.toInt = x10_0.toInt + (1 : Int32).toInt := ia_add (y := 1) et_15 (by omega) (by omega)
          refine lv_iinc (v := t_15) (lv' := [(5, .int t_15), (3, .int t_14), (4, .int 0), (2, .int x10_1), (0, .ref tp), (1, .ref (K 2))]) hx hb dX8_whichWord_108 hl (k := 2) rfl et_15 (by decide) rfl (fun ls hl => ?_)
          refine lv_goto (tgt := 10) hx hb dX8_whichWord_111 (by decide) ?_
          exact ih10 (t_15, x10_1, t_14, 0) (show 0 ≤ t_15.toInt ∧ t_15.toInt ≤ 65 ∧ 0 ≤ x10_1.toInt ∧ x10_1.toInt ≤ 65 ∧ 0 ≤ t_14.toInt ∧ t_14.toInt ≤ 65 ∧ 0 ≤ (0 : Int32).toInt ∧ (0 : Int32).toInt ≤ 1 ∧ x10_1.toInt ≤ t_15.toInt ∧ t_14.toInt ≤ t_15.toInt from ⟨by omega, by omega, by omega, by omega, by omega, by omega, by omega, by omega, by omega, by omega⟩) (show (65 - t_15.toInt).toNat < (65 - x10_0.toInt).toNat by omega) H locs wt ls hT hW hP hD hS (lv_sub hl [0, 2, 1, 3, 4, 5] rfl)
        · rw [← Int32.toInt_inj] at c_13
          refine lv_iload_n hx hb dX8_whichWord_70 rfl (lv_at hl 2 rfl) ?_
          refine lv_aload_n hx hb dX8_whichWord_71 rfl (lv_at hl 4 rfl) ?_
          refine gq_get hx hb ht hown hK hP i_X8 0 rfl rfl 3 (by decide) wd_159 rfl rfl dX8_whichWord_72 ?_
          refine lv_icmp_ge (tgt := 102) hx hb dX8_whichWord_75 (by decide) (fun c_16 => ?_) (fun c_16 => ?_)
          · rw [Int32.le_iff_toInt_le] at c_16
            refine lv_iconst (v := 0) hx hb dX8_whichWord_102 (by decide +kernel) ?_
            refine lv_istore (lv' := [(4, .int 0), (5, .int x10_0), (3, .int x10_2), (2, .int x10_1), (0, .ref tp), (1, .ref (K 2))]) hx hb dX8_whichWord_103 hl (by decide) rfl (fun ls hl => ?_)
            obtain ⟨t_17, et_17⟩ : ∃ zz_ : Int32, x10_2 + Int32.ofInt (1) = zz_ := ⟨_, rfl⟩
            have ft_17 : t_17.toInt = x10_2.toInt + (1 : Int32).toInt := ia_add (y := 1) et_17 (by omega) (by omega)
            refine lv_iinc (v := t_17) (lv' := [(3, .int t_17), (4, .int 0), (5, .int x10_0), (2, .int x10_1), (0, .ref tp), (1, .ref (K 2))]) hx hb dX8_whichWord_105 hl (k := 2) rfl et_17 (by decide) rfl (fun ls hl => ?_)
            obtain ⟨t_18, et_18⟩ : ∃ zz_ : Int32, x10_0 + Int32.ofInt (1) = zz_ := ⟨_, rfl⟩
            have ft_18 : t_18.toInt = x10_0.toInt + (1 : Int32).toInt := ia_add (y := 1) et_18 (by omega) (by omega)
            refine lv_iinc (v := t_18) (lv' := [(5, .int t_18), (3, .int t_17), (4, .int 0), (2, .int x10_1), (0, .ref tp), (1, .ref (K 2))]) hx hb dX8_whichWord_108 hl (k := 2) rfl et_18 (by decide) rfl (fun ls hl => ?_)
            refine lv_goto (tgt := 10) hx hb dX8_whichWord_111 (by decide) ?_
            exact ih10 (t_18, x10_1, t_17, 0) (show 0 ≤ t_18.toInt ∧ t_18.toInt ≤ 65 ∧ 0 ≤ x10_1.toInt ∧ x10_1.toInt ≤ 65 ∧ 0 ≤ t_17.toInt ∧ t_17.toInt ≤ 65 ∧ 0 ≤ (0 : Int32).toInt ∧ (0 : Int32).toInt ≤ 1 ∧ x10_1.toInt ≤ t_18.toInt ∧ t_17.toInt ≤ t_18.toInt from ⟨by omega, by omega, by omega, by omega, by omega, by omega, by omega, by omega, by omega, by omega⟩) (show (65 - t_18.toInt).toNat < (65 - x10_0.toInt).toNat by omega) H locs wt ls hT hW hP hD hS (lv_sub hl [0, 2, 1, 3, 4, 5] rfl)
          · rw [Int32.le_iff_toInt_le] at c_16
            refine lv_aload_n hx hb dX8_whichWord_78 rfl (lv_at hl 4 rfl) ?_
            refine gq_get hx hb ht hown hK hP i_X8 0 rfl rfl 0 (by decide) wd_156 rfl rfl dX8_whichWord_79 ?_
            refine lv_aload_n hx hb dX8_whichWord_82 rfl (lv_at hl 4 rfl) ?_
            refine gq_get hx hb ht hown hK hP i_X8 0 rfl rfl 2 (by decide) wd_158 rfl rfl dX8_whichWord_83 ?_
            refine lv_iload_n hx hb dX8_whichWord_86 rfl (lv_at hl 2 rfl) ?_
            obtain ⟨t_19, et_19⟩ : ∃ zz_ : Int32, at_ + x10_2 = zz_ := ⟨_, rfl⟩
            refine gq_iadd hx hb t_19 et_19 dX8_whichWord_87 ?_
            have ft_19 := ia_add et_19 (by omega) (by omega)
            obtain ⟨n_20, en_20⟩ : ∃ zz_ : Int32, bf (Int32.toNatClampNeg t_19) = zz_ := ⟨_, rfl⟩
            refine gq_iald hx hb hK hP 1 rfl n_20 (ia_in (n := 400) (by omega) (by omega)) en_20 dX8_whichWord_88 ?_
            refine lv_aload_n hx hb dX8_whichWord_89 rfl (lv_at hl 5 rfl) ?_
            refine lv_iload hx hb dX8_whichWord_90 (lv_at hl 0 rfl) ?_
            refine gt_callI (wr := [(tp, .inr (8, [.ref bp, .int n, .int at_, .int w_, .int fl])), (bp, .inl (G.2.2 0, 400, .inl bf))]) (va_runV (As := [.int x10_0]) (rest := [.int n_20]) ⟨hx, hb, hml, hown, ht⟩ (d_char2 l G Γ H.size wt hT K V x10_0 (by omega) (by omega)) (cwV 1 ht (ts_gV wd_601 wd_602 wd_603 wd_135 wd_604) rfl rfl rfl (by decide +kernel) ⟨Nat.le_of_ble_eq_true rfl, Nat.le_of_ble_eq_true rfl⟩) (gx_preK 2 (by decide) hK (tw_right hP) (tw_rightD hD) hX hS (tw_free hD hS hA)) rfl rfl hl.1 rfl (lv_room (Nat.le_of_ble_eq_true rfl)) dX8_whichWord_92 ⟨Nat.le_of_ble_eq_true rfl, Nat.le_of_ble_eq_true rfl⟩) hP hD hS hA (fun r_21 wt H locs hw hP hD hS => ?_)
            obtain ⟨hT, hkp, rp_r_21⟩ := hw
            have hW := hW.call (show ∀ x ∈ [], x ∈ [] by decide) hkp
            have hP : va_P (gg_D G) classes ([(tp, .inr (8, [.ref bp, .int n, .int at_, .int w_, .int fl])), (bp, .inl (G.2.2 0, 400, .inl bf))] ++ wt) H := hP
            have hD : va_D A ([(tp, .inr (8, [.ref bp, .int n, .int at_, .int w_, .int fl])), (bp, .inl (G.2.2 0, 400, .inl bf))] ++ wt) := hD
            refine lv_icmp_ne (tgt := 102) hx hb dX8_whichWord_95 (by decide) (fun c_22 => ?_) (fun c_22 => ?_)
            · rw [← Int32.toInt_inj] at c_22
              refine lv_iconst (v := 0) hx hb dX8_whichWord_102 (by decide +kernel) ?_
              refine lv_istore (lv' := [(4, .int 0), (5, .int x10_0), (3, .int x10_2), (2, .int x10_1), (0, .ref tp), (1, .ref (K 2))]) hx hb dX8_whichWord_103 hl (by decide) rfl (fun ls hl => ?_)
              obtain ⟨t_23, et_23⟩ : ∃ zz_ : Int32, x10_2 + Int32.ofInt (1) = zz_ := ⟨_, rfl⟩
              have ft_23 : t_23.toInt = x10_2.toInt + (1 : Int32).toInt := ia_add (y := 1) et_23 (by omega) (by omega)
              refine lv_iinc (v := t_23) (lv' := [(3, .int t_23), (4, .int 0), (5, .int x10_0), (2, .int x10_1), (0, .ref tp), (1, .ref (K 2))]) hx hb dX8_whichWord_105 hl (k := 2) rfl et_23 (by decide) rfl (fun ls hl => ?_)
              obtain ⟨t_24, et_24⟩ : ∃ zz_ : Int32, x10_0 + Int32.ofInt (1) = zz_ := ⟨_, rfl⟩
              have ft_24 : t_24.toInt = x10_0.toInt + (1 : Int32).toInt := ia_add (y := 1) et_24 (by omega) (by omega)
              refine lv_iinc (v := t_24) (lv' := [(5, .int t_24), (3, .int t_23), (4, .int 0), (2, .int x10_1), (0, .ref tp), (1, .ref (K 2))]) hx hb dX8_whichWord_108 hl (k := 2) rfl et_24 (by decide) rfl (fun ls hl => ?_)
              refine lv_goto (tgt := 10) hx hb dX8_whichWord_111 (by decide) ?_
              exact ih10 (t_24, x10_1, t_23, 0) (show 0 ≤ t_24.toInt ∧ t_24.toInt ≤ 65 ∧ 0 ≤ x10_1.toInt ∧ x10_1.toInt ≤ 65 ∧ 0 ≤ t_23.toInt ∧ t_23.toInt ≤ 65 ∧ 0 ≤ (0 : Int32).toInt ∧ (0 : Int32).toInt ≤ 1 ∧ x10_1.toInt ≤ t_24.toInt ∧ t_23.toInt ≤ t_24.toInt from ⟨by omega, by omega, by omega, by omega, by omega, by omega, by omega, by omega, by omega, by omega⟩) (show (65 - t_24.toInt).toNat < (65 - x10_0.toInt).toNat by omega) H locs wt ls hT hW hP hD hS (lv_sub hl [0, 2, 1, 3, 4, 5] rfl)
            · rw [← Int32.toInt_inj] at c_22
              refine lv_iconst (v := 1) hx hb dX8_whichWord_98 (by decide +kernel) ?_
              refine lv_goto (tgt := 103) hx hb dX8_whichWord_99 (by decide) ?_
              refine lv_istore (lv' := [(4, .int 1), (5, .int x10_0), (3, .int x10_2), (2, .int x10_1), (0, .ref tp), (1, .ref (K 2))]) hx hb dX8_whichWord_103 hl (by decide) rfl (fun ls hl => ?_)
              obtain ⟨t_25, et_25⟩ : ∃ zz_ : Int32, x10_2 + Int32.ofInt (1) = zz_ := ⟨_, rfl⟩
              have ft_25 : t_25.toInt = x10_2.toInt + (1 : Int32).toInt := ia_add (y := 1) et_25 (by omega) (by omega)
              refine lv_iinc (v := t_25) (lv' := [(3, .int t_25), (4, .int 1), (5, .int x10_0), (2, .int x10_1), (0, .ref tp), (1, .ref (K 2))]) hx hb dX8_whichWord_105 hl (k := 2) rfl et_25 (by decide) rfl (fun ls hl => ?_)
              obtain ⟨t_26, et_26⟩ : ∃ zz_ : Int32, x10_0 + Int32.ofInt (1) = zz_ := ⟨_, rfl⟩
              have ft_26 : t_26.toInt = x10_0.toInt + (1 : Int32).toInt := ia_add (y := 1) et_26 (by omega) (by omega)
              refine lv_iinc (v := t_26) (lv' := [(5, .int t_26), (3, .int t_25), (4, .int 1), (2, .int x10_1), (0, .ref tp), (1, .ref (K 2))]) hx hb dX8_whichWord_108 hl (k := 2) rfl et_26 (by decide) rfl (fun ls hl => ?_)
              refine lv_goto (tgt := 10) hx hb dX8_whichWord_111 (by decide) ?_
              exact ih10 (t_26, x10_1, t_25, 1) (show 0 ≤ t_26.toInt ∧ t_26.toInt ≤ 65 ∧ 0 ≤ x10_1.toInt ∧ x10_1.toInt ≤ 65 ∧ 0 ≤ t_25.toInt ∧ t_25.toInt ≤ 65 ∧ 0 ≤ (1 : Int32).toInt ∧ (1 : Int32).toInt ≤ 1 ∧ x10_1.toInt ≤ t_26.toInt ∧ t_25.toInt ≤ t_26.toInt from ⟨by omega, by omega, by omega, by omega, by omega, by omega, by omega, by omega, by omega, by omega⟩) (show (65 - t_26.toInt).toNat < (65 - x10_0.toInt).toNat by omega) H locs wt ls hT hW hP hD hS (lv_sub hl [0, 2, 1, 3, 4, 5] rfl)
      · rw [← Int32.toInt_inj] at c_12
        refine lv_iload hx hb dX8_whichWord_39 (lv_at hl 1 rfl) ?_
        refine lv_if_eq (tgt := 54) hx hb dX8_whichWord_41 (by decide) (fun c_27 => ?_) (fun c_27 => ?_)
        · rw [← Int32.toInt_inj] at c_27
          obtain ⟨t_28, et_28⟩ : ∃ zz_ : Int32, x10_1 + Int32.ofInt (1) = zz_ := ⟨_, rfl⟩
          have ft_28 : t_28.toInt = x10_1.toInt + (1 : Int32).toInt := ia_add (y := 1) et_28 (by omega) (by omega)
          refine lv_iinc (v := t_28) (lv' := [(2, .int t_28), (5, .int x10_0), (4, .int x10_3), (3, .int x10_2), (0, .ref tp), (1, .ref (K 2))]) hx hb dX8_whichWord_54 hl (k := 3) rfl et_28 (by decide) rfl (fun ls hl => ?_)
          refine lv_iconst (v := 0) hx hb dX8_whichWord_57 (by decide +kernel) ?_
          refine lv_istore_n (lv' := [(3, .int 0), (2, .int t_28), (5, .int x10_0), (4, .int x10_3), (0, .ref tp), (1, .ref (K 2))]) hx hb dX8_whichWord_58 rfl hl (by decide) rfl (fun ls hl => ?_)
          refine lv_iconst (v := 1) hx hb dX8_whichWord_59 (by decide +kernel) ?_
          refine lv_istore (lv' := [(4, .int 1), (3, .int 0), (2, .int t_28), (5, .int x10_0), (0, .ref tp), (1, .ref (K 2))]) hx hb dX8_whichWord_60 hl (by decide) rfl (fun ls hl => ?_)
          refine lv_goto (tgt := 108) hx hb dX8_whichWord_62 (by decide) ?_
          obtain ⟨t_29, et_29⟩ : ∃ zz_ : Int32, x10_0 + Int32.ofInt (1) = zz_ := ⟨_, rfl⟩
          have ft_29 : t_29.toInt = x10_0.toInt + (1 : Int32).toInt := ia_add (y := 1) et_29 (by omega) (by omega)
          refine lv_iinc (v := t_29) (lv' := [(5, .int t_29), (4, .int 1), (3, .int 0), (2, .int t_28), (0, .ref tp), (1, .ref (K 2))]) hx hb dX8_whichWord_108 hl (k := 3) rfl et_29 (by decide) rfl (fun ls hl => ?_)
          refine lv_goto (tgt := 10) hx hb dX8_whichWord_111 (by decide) ?_
          exact ih10 (t_29, t_28, 0, 1) (show 0 ≤ t_29.toInt ∧ t_29.toInt ≤ 65 ∧ 0 ≤ t_28.toInt ∧ t_28.toInt ≤ 65 ∧ 0 ≤ (0 : Int32).toInt ∧ (0 : Int32).toInt ≤ 65 ∧ 0 ≤ (1 : Int32).toInt ∧ (1 : Int32).toInt ≤ 1 ∧ t_28.toInt ≤ t_29.toInt ∧ (0 : Int32).toInt ≤ t_29.toInt from ⟨by omega, by omega, by omega, by omega, by omega, by omega, by omega, by omega, by omega, by omega⟩) (show (65 - t_29.toInt).toNat < (65 - x10_0.toInt).toNat by omega) H locs wt ls hT hW hP hD hS (lv_sub hl [0, 1, 2, 3, 4, 5] rfl)
        · rw [← Int32.toInt_inj] at c_27
          refine lv_iload_n hx hb dX8_whichWord_44 rfl (lv_at hl 2 rfl) ?_
          refine lv_aload_n hx hb dX8_whichWord_45 rfl (lv_at hl 4 rfl) ?_
          refine gq_get hx hb ht hown hK hP i_X8 0 rfl rfl 3 (by decide) wd_159 rfl rfl dX8_whichWord_46 ?_
          refine lv_icmp_ne (tgt := 54) hx hb dX8_whichWord_49 (by decide) (fun c_30 => ?_) (fun c_30 => ?_)
          · rw [← Int32.toInt_inj] at c_30
            obtain ⟨t_31, et_31⟩ : ∃ zz_ : Int32, x10_1 + Int32.ofInt (1) = zz_ := ⟨_, rfl⟩
            have ft_31 : t_31.toInt = x10_1.toInt + (1 : Int32).toInt := ia_add (y := 1) et_31 (by omega) (by omega)
            refine lv_iinc (v := t_31) (lv' := [(2, .int t_31), (5, .int x10_0), (4, .int x10_3), (3, .int x10_2), (0, .ref tp), (1, .ref (K 2))]) hx hb dX8_whichWord_54 hl (k := 3) rfl et_31 (by decide) rfl (fun ls hl => ?_)
            refine lv_iconst (v := 0) hx hb dX8_whichWord_57 (by decide +kernel) ?_
            refine lv_istore_n (lv' := [(3, .int 0), (2, .int t_31), (5, .int x10_0), (4, .int x10_3), (0, .ref tp), (1, .ref (K 2))]) hx hb dX8_whichWord_58 rfl hl (by decide) rfl (fun ls hl => ?_)
            refine lv_iconst (v := 1) hx hb dX8_whichWord_59 (by decide +kernel) ?_
            refine lv_istore (lv' := [(4, .int 1), (3, .int 0), (2, .int t_31), (5, .int x10_0), (0, .ref tp), (1, .ref (K 2))]) hx hb dX8_whichWord_60 hl (by decide) rfl (fun ls hl => ?_)
            refine lv_goto (tgt := 108) hx hb dX8_whichWord_62 (by decide) ?_
            obtain ⟨t_32, et_32⟩ : ∃ zz_ : Int32, x10_0 + Int32.ofInt (1) = zz_ := ⟨_, rfl⟩
            have ft_32 : t_32.toInt = x10_0.toInt + (1 : Int32).toInt := ia_add (y := 1) et_32 (by omega) (by omega)
            refine lv_iinc (v := t_32) (lv' := [(5, .int t_32), (4, .int 1), (3, .int 0), (2, .int t_31), (0, .ref tp), (1, .ref (K 2))]) hx hb dX8_whichWord_108 hl (k := 3) rfl et_32 (by decide) rfl (fun ls hl => ?_)
            refine lv_goto (tgt := 10) hx hb dX8_whichWord_111 (by decide) ?_
            exact ih10 (t_32, t_31, 0, 1) (show 0 ≤ t_32.toInt ∧ t_32.toInt ≤ 65 ∧ 0 ≤ t_31.toInt ∧ t_31.toInt ≤ 65 ∧ 0 ≤ (0 : Int32).toInt ∧ (0 : Int32).toInt ≤ 65 ∧ 0 ≤ (1 : Int32).toInt ∧ (1 : Int32).toInt ≤ 1 ∧ t_31.toInt ≤ t_32.toInt ∧ (0 : Int32).toInt ≤ t_32.toInt from ⟨by omega, by omega, by omega, by omega, by omega, by omega, by omega, by omega, by omega, by omega⟩) (show (65 - t_32.toInt).toNat < (65 - x10_0.toInt).toNat by omega) H locs wt ls hT hW hP hD hS (lv_sub hl [0, 1, 2, 3, 4, 5] rfl)
          · rw [← Int32.toInt_inj] at c_30
            refine lv_iload_n hx hb dX8_whichWord_52 rfl (lv_at hl 3 rfl) ?_
            have hP9 : va_P (gg_D G) classes ([(tp, .inr (8, [.ref bp, .int n, .int at_, .int w_, .int fl])), (bp, .inl (G.2.2 0, 400, .inl bf))] ++ wt) _ := hP
            have hD9 : va_D A ([(tp, .inr (8, [.ref bp, .int n, .int at_, .int w_, .int fl])), (bp, .inl (G.2.2 0, 400, .inl bf))] ++ wt) := hD
            exact W.iret (v := x10_1) hx hb hr (gq_endI wt ⟨hT, hW, (by omega), (by omega)⟩ hP9 hD9 hS) hS.2.2 dX8_whichWord_53
set_option maxHeartbeats 4000000 in
set_option maxRecDepth 100000 in
theorem d_which3 (l : Launch) (G : gg_T) (Γ : Nat → Nat) (sz : Nat) (wt : va_W) (hT : tk_ty G Γ wt) (K : Nat → Nat) (V : Nat → Nat) (tp : Nat) (bp : Nat) (n : Int32) (at_ : Int32) (w_ : Int32) (fl : Int32) (bf : Nat → Int32) (xp1 : 0 ≤ n.toInt) (xp2 : n.toInt ≤ 400) (xp3 : 0 ≤ at_.toInt) (xp4 : 0 ≤ w_.toInt) (xp5 : at_.toInt + w_.toInt ≤ 400) : Met l yX8_whichWord (ts_L yX8_whichWord cX8_whichWord 6 (some .int)) ({ frames := 4, cells := 0, slots := 0, locals := 85 }) (gx_P G K V ([(tp, .inr (8, [.ref bp, .int n, .int at_, .int w_, .int fl])), (bp, .inl (G.2.2 0, 400, .inl bf))] ++ wt) sz [.ref tp, .ref (K 3)]) (gc_I G (va_A ([(tp, .inr (8, [.ref bp, .int n, .int at_, .int w_, .int fl])), (bp, .inl (G.2.2 0, 400, .inl bf))] ++ wt) sz) (fun r (u : va_W) => match u with | wt1 => tk_ty G Γ wt1 ∧ tk_kp [] wt wt1 ∧ -1 ≤ r.toInt ∧ r.toInt ≤ 3) (fun (u : va_W) => match u with | wt1 => [(tp, .inr (8, [.ref bp, .int n, .int at_, .int w_, .int fl])), (bp, .inl (G.2.2 0, 400, .inl bf))] ++ wt1)) 0 0 (va_A ([(tp, .inr (8, [.ref bp, .int n, .int at_, .int w_, .int fl])), (bp, .inl (G.2.2 0, 400, .inl bf))] ++ wt) sz) := by
  refine Met.ofW (cc := cX8_whichWord) (maxL := 6) (ret := (some .int)) (by decide) rfl ?_
  intro p e s m args below meth c s₁ B hml hv
  obtain ⟨rfl, hsz, hP, hK, hD0, hX⟩ := hv
  have hx := B.exec
  have hb := B.bytes
  have hr := B.returns
  have ht := ts_ht (atoms_spec (ws := ts_L yX8_whichWord cX8_whichWord 6 (some .int)) B.pre)
  have hown : s.vm.findClass RX8 = some m.cls := findClass_of_methodNamed B.named
  have hlocks := B.notSynchronized
  subst hsz
  have hD := hD0.self (sz := s.heap.size)
  generalize hAe : va_A ([(tp, .inr (8, [.ref bp, .int n, .int at_, .int w_, .int fl])), (bp, .inl (G.2.2 0, 400, .inl bf))] ++ wt) s.heap.size = A at hD hX ⊢
  have hA : ∀ q : Nat, s.heap.size ≤ q → A q := fun q h => by rw [← hAe]; exact Or.inr h
  clear hAe hD0
  have hS : va_S A s.heap s.heap [] := va_S.rf
  obtain ⟨w0, hw0⟩ : ∃ z, z = wt := ⟨_, rfl⟩
  have hW : tk_kp [] w0 wt := by rw [hw0]; exact tk_kp.rf
  rw [← hw0]
  clear hw0
  have hP : va_P (gg_D G) classes ([(tp, .inr (8, [.ref bp, .int n, .int at_, .int w_, .int fl])), (bp, .inl (G.2.2 0, 400, .inl bf))] ++ wt) s.heap := hP
  have hD : va_D A ([(tp, .inr (8, [.ref bp, .int n, .int at_, .int w_, .int fl])), (bp, .inl (G.2.2 0, 400, .inl bf))] ++ wt) := hD
  have hl := lv_entry ([.ref tp, .ref (K 3)]) (n := 6) (Nat.le_of_ble_eq_true rfl)
  rw [lg_entry_eq]
  generalize (lg_sl ([.ref tp, .ref (K 3)]) ++ List.replicate (6 - (lg_sl ([.ref tp, .ref (K 3)])).length) Slot.unset).toArray = ls at hl ⊢
  have hl : lv_has ls 6 [(0, .ref tp), (1, .ref (K 3))] := hl
  have lm1 : ((-1) : Int32).toInt = -1 := by decide +kernel
  have l0 : (0 : Int32).toInt = 0 := by decide +kernel
  have l1 : (1 : Int32).toInt = 1 := by decide +kernel
  have l2 : (2 : Int32).toInt = 2 := by decide +kernel
  have l32 : (32 : Int32).toInt = 32 := by decide +kernel
  refine lv_iconst (v := 0) hx hb dX8_whichWord_0 (by decide +kernel) ?_
  refine lv_istore_n (lv' := [(2, .int 0), (0, .ref tp), (1, .ref (K 3))]) hx hb dX8_whichWord_1 rfl hl (by decide) rfl (fun ls hl => ?_)
  refine lv_iconst (v := 0) hx hb dX8_whichWord_2 (by decide +kernel) ?_
  refine lv_istore_n (lv' := [(3, .int 0), (2, .int 0), (0, .ref tp), (1, .ref (K 3))]) hx hb dX8_whichWord_3 rfl hl (by decide) rfl (fun ls hl => ?_)
  refine lv_iconst (v := 1) hx hb dX8_whichWord_4 (by decide +kernel) ?_
  refine lv_istore (lv' := [(4, .int 1), (3, .int 0), (2, .int 0), (0, .ref tp), (1, .ref (K 3))]) hx hb dX8_whichWord_5 hl (by decide) rfl (fun ls hl => ?_)
  refine lv_iconst (v := 0) hx hb dX8_whichWord_7 (by decide +kernel) ?_
  refine lv_istore (lv' := [(5, .int 0), (4, .int 1), (3, .int 0), (2, .int 0), (0, .ref tp), (1, .ref (K 3))]) hx hb dX8_whichWord_8 hl (by decide) rfl (fun ls hl => ?_)
  refine tl_loopE (Γ := Γ) (nL := 6) (fun (zz_ : Int32 × Int32 × Int32 × Int32) => match zz_ with | (x10_0, x10_1, x10_2, x10_3) => 0 ≤ x10_0.toInt ∧ x10_0.toInt ≤ 3 ∧ 0 ≤ x10_1.toInt ∧ x10_1.toInt ≤ 3 ∧ 0 ≤ x10_2.toInt ∧ x10_2.toInt ≤ 3 ∧ 0 ≤ x10_3.toInt ∧ x10_3.toInt ≤ 1 ∧ x10_1.toInt ≤ x10_0.toInt ∧ x10_2.toInt ≤ x10_0.toInt) (fun (zz_ : Int32 × Int32 × Int32 × Int32) => match zz_ with | (x10_0, x10_1, x10_2, x10_3) => (3 - x10_0.toInt).toNat) (fun (zz_ : Int32 × Int32 × Int32 × Int32) => match zz_ with | (x10_0, x10_1, x10_2, x10_3) => [(5, .int x10_0), (4, .int x10_3), (3, .int x10_2), (2, .int x10_1), (0, .ref tp), (1, .ref (K 3))]) (fun (zz_ : Int32 × Int32 × Int32 × Int32) => match zz_ with | (x10_0, x10_1, x10_2, x10_3) => [(tp, .inr (8, [.ref bp, .int n, .int at_, .int w_, .int fl])), (bp, .inl (G.2.2 0, 400, .inl bf))]) (fun (zz_ : Int32 × Int32 × Int32 × Int32) (w : va_W) => match zz_ with | (x10_0, x10_1, x10_2, x10_3) => tk_kp [] w0 w) (fun zz_ hI H locs wt ls hT hW hP hD hS hl ih10 => ?_) (0, 0, 0, 1) (show 0 ≤ (0 : Int32).toInt ∧ (0 : Int32).toInt ≤ 3 ∧ 0 ≤ (0 : Int32).toInt ∧ (0 : Int32).toInt ≤ 3 ∧ 0 ≤ (0 : Int32).toInt ∧ (0 : Int32).toInt ≤ 3 ∧ 0 ≤ (1 : Int32).toInt ∧ (1 : Int32).toInt ≤ 1 ∧ (0 : Int32).toInt ≤ (0 : Int32).toInt ∧ (0 : Int32).toInt ≤ (0 : Int32).toInt from ⟨by omega, by omega, by omega, by omega, by omega, by omega, by omega, by omega, by omega, by omega⟩) _ _ wt ls hT hW hP hD hS hl
  obtain ⟨x10_0, x10_1, x10_2, x10_3⟩ := zz_
  have hW : tk_kp [] w0 wt := hW
  have hI : 0 ≤ x10_0.toInt ∧ x10_0.toInt ≤ 3 ∧ 0 ≤ x10_1.toInt ∧ x10_1.toInt ≤ 3 ∧ 0 ≤ x10_2.toInt ∧ x10_2.toInt ≤ 3 ∧ 0 ≤ x10_3.toInt ∧ x10_3.toInt ≤ 1 ∧ x10_1.toInt ≤ x10_0.toInt ∧ x10_2.toInt ≤ x10_0.toInt := hI
  obtain ⟨j10_0, j10_1, j10_2, j10_3, j10_4, j10_5, j10_6, j10_7, j10_8, j10_9⟩ := hI
  have hl : lv_has ls 6 [(5, .int x10_0), (4, .int x10_3), (3, .int x10_2), (2, .int x10_1), (0, .ref tp), (1, .ref (K 3))] := hl
  have hP : va_P (gg_D G) classes ([(tp, .inr (8, [.ref bp, .int n, .int at_, .int w_, .int fl])), (bp, .inl (G.2.2 0, 400, .inl bf))] ++ wt) H := hP
  have hD : va_D A ([(tp, .inr (8, [.ref bp, .int n, .int at_, .int w_, .int fl])), (bp, .inl (G.2.2 0, 400, .inl bf))] ++ wt) := hD
  refine lv_iload hx hb dX8_whichWord_10 (lv_at hl 0 rfl) ?_
  refine lv_aload_n hx hb dX8_whichWord_12 rfl (lv_at hl 5 rfl) ?_
  refine gt_callI (wr := [(tp, .inr (8, [.ref bp, .int n, .int at_, .int w_, .int fl])), (bp, .inl (G.2.2 0, 400, .inl bf))]) (va_runV (As := []) (rest := [.int x10_0]) ⟨hx, hb, hml, hown, ht⟩ (d_length3 l G Γ H.size wt hT K V) (cwV 0 ht (ts_gV wd_591 wd_592 wd_593 wd_135 wd_594) rfl rfl rfl (by decide +kernel) ⟨Nat.le_of_ble_eq_true rfl, Nat.le_of_ble_eq_true rfl⟩) (gx_preK 3 (by decide) hK (tw_right hP) (tw_rightD hD) hX hS (tw_free hD hS hA)) rfl rfl hl.1 rfl (lv_room (Nat.le_of_ble_eq_true rfl)) dX8_whichWord_13 ⟨Nat.le_of_ble_eq_true rfl, Nat.le_of_ble_eq_true rfl⟩) hP hD hS hA (fun r_1 wt H locs hw hP hD hS => ?_)
  obtain ⟨hT, hkp, lo_r_1, hi_r_1⟩ := hw
  have hW := hW.call (show ∀ x ∈ [], x ∈ [] by decide) hkp
  have hP : va_P (gg_D G) classes ([(tp, .inr (8, [.ref bp, .int n, .int at_, .int w_, .int fl])), (bp, .inl (G.2.2 0, 400, .inl bf))] ++ wt) H := hP
  have hD : va_D A ([(tp, .inr (8, [.ref bp, .int n, .int at_, .int w_, .int fl])), (bp, .inl (G.2.2 0, 400, .inl bf))] ++ wt) := hD
  have z_r_1 : r_1 = 2 := by rw [← Int32.toInt_inj]; omega
  subst z_r_1
  refine lv_icmp_gt (tgt := 114) hx hb dX8_whichWord_16 (by decide) (fun c_2 => ?_) (fun c_2 => ?_)
  · rw [Int32.lt_iff_toInt_lt] at c_2
    refine lv_iconst (v := (-1)) hx hb dX8_whichWord_114 (by decide +kernel) ?_
    have hP9 : va_P (gg_D G) classes ([(tp, .inr (8, [.ref bp, .int n, .int at_, .int w_, .int fl])), (bp, .inl (G.2.2 0, 400, .inl bf))] ++ wt) _ := hP
    have hD9 : va_D A ([(tp, .inr (8, [.ref bp, .int n, .int at_, .int w_, .int fl])), (bp, .inl (G.2.2 0, 400, .inl bf))] ++ wt) := hD
    exact W.iret (v := (-1)) hx hb hr (gq_endI wt ⟨hT, hW, (by omega), (by omega)⟩ hP9 hD9 hS) hS.2.2 dX8_whichWord_115
  · rw [Int32.lt_iff_toInt_lt] at c_2
    refine lv_iload hx hb dX8_whichWord_19 (lv_at hl 0 rfl) ?_
    refine lv_aload_n hx hb dX8_whichWord_21 rfl (lv_at hl 5 rfl) ?_
    refine gt_callI (wr := [(tp, .inr (8, [.ref bp, .int n, .int at_, .int w_, .int fl])), (bp, .inl (G.2.2 0, 400, .inl bf))]) (va_runV (As := []) (rest := [.int x10_0]) ⟨hx, hb, hml, hown, ht⟩ (d_length3 l G Γ H.size wt hT K V) (cwV 0 ht (ts_gV wd_591 wd_592 wd_593 wd_135 wd_594) rfl rfl rfl (by decide +kernel) ⟨Nat.le_of_ble_eq_true rfl, Nat.le_of_ble_eq_true rfl⟩) (gx_preK 3 (by decide) hK (tw_right hP) (tw_rightD hD) hX hS (tw_free hD hS hA)) rfl rfl hl.1 rfl (lv_room (Nat.le_of_ble_eq_true rfl)) dX8_whichWord_22 ⟨Nat.le_of_ble_eq_true rfl, Nat.le_of_ble_eq_true rfl⟩) hP hD hS hA (fun r_3 wt H locs hw hP hD hS => ?_)
    obtain ⟨hT, hkp, lo_r_3, hi_r_3⟩ := hw
    have hW := hW.call (show ∀ x ∈ [], x ∈ [] by decide) hkp
    have hP : va_P (gg_D G) classes ([(tp, .inr (8, [.ref bp, .int n, .int at_, .int w_, .int fl])), (bp, .inl (G.2.2 0, 400, .inl bf))] ++ wt) H := hP
    have hD : va_D A ([(tp, .inr (8, [.ref bp, .int n, .int at_, .int w_, .int fl])), (bp, .inl (G.2.2 0, 400, .inl bf))] ++ wt) := hD
    have z_r_3 : r_3 = 2 := by rw [← Int32.toInt_inj]; omega
    subst z_r_3
    refine lv_icmp_eq (tgt := 39) hx hb dX8_whichWord_25 (by decide) (fun c_4 => ?_) (fun c_4 => ?_)
    · rw [← Int32.toInt_inj] at c_4
      refine lv_iload hx hb dX8_whichWord_39 (lv_at hl 1 rfl) ?_
      refine lv_if_eq (tgt := 54) hx hb dX8_whichWord_41 (by decide) (fun c_5 => ?_) (fun c_5 => ?_)
      · rw [← Int32.toInt_inj] at c_5
        obtain ⟨t_6, et_6⟩ : ∃ zz_ : Int32, x10_1 + Int32.ofInt (1) = zz_ := ⟨_, rfl⟩
        have ft_6 : t_6.toInt = x10_1.toInt + (1 : Int32).toInt := ia_add (y := 1) et_6 (by omega) (by omega)
        refine lv_iinc (v := t_6) (lv' := [(2, .int t_6), (5, .int x10_0), (4, .int x10_3), (3, .int x10_2), (0, .ref tp), (1, .ref (K 3))]) hx hb dX8_whichWord_54 hl (k := 3) rfl et_6 (by decide) rfl (fun ls hl => ?_)
        refine lv_iconst (v := 0) hx hb dX8_whichWord_57 (by decide +kernel) ?_
        refine lv_istore_n (lv' := [(3, .int 0), (2, .int t_6), (5, .int x10_0), (4, .int x10_3), (0, .ref tp), (1, .ref (K 3))]) hx hb dX8_whichWord_58 rfl hl (by decide) rfl (fun ls hl => ?_)
        refine lv_iconst (v := 1) hx hb dX8_whichWord_59 (by decide +kernel) ?_
        refine lv_istore (lv' := [(4, .int 1), (3, .int 0), (2, .int t_6), (5, .int x10_0), (0, .ref tp), (1, .ref (K 3))]) hx hb dX8_whichWord_60 hl (by decide) rfl (fun ls hl => ?_)
        refine lv_goto (tgt := 108) hx hb dX8_whichWord_62 (by decide) ?_
        obtain ⟨t_7, et_7⟩ : ∃ zz_ : Int32, x10_0 + Int32.ofInt (1) = zz_ := ⟨_, rfl⟩
        have ft_7 : t_7.toInt = x10_0.toInt + (1 : Int32).toInt := ia_add (y := 1) et_7 (by omega) (by omega)
        refine lv_iinc (v := t_7) (lv' := [(5, .int t_7), (4, .int 1), (3, .int 0), (2, .int t_6), (0, .ref tp), (1, .ref (K 3))]) hx hb dX8_whichWord_108 hl (k := 3) rfl et_7 (by decide) rfl (fun ls hl => ?_)
        refine lv_goto (tgt := 10) hx hb dX8_whichWord_111 (by decide) ?_
        exact ih10 (t_7, t_6, 0, 1) (show 0 ≤ t_7.toInt ∧ t_7.toInt ≤ 3 ∧ 0 ≤ t_6.toInt ∧ t_6.toInt ≤ 3 ∧ 0 ≤ (0 : Int32).toInt ∧ (0 : Int32).toInt ≤ 3 ∧ 0 ≤ (1 : Int32).toInt ∧ (1 : Int32).toInt ≤ 1 ∧ t_6.toInt ≤ t_7.toInt ∧ (0 : Int32).toInt ≤ t_7.toInt from ⟨by omega, by omega, by omega, by omega, by omega, by omega, by omega, by omega, by omega, by omega⟩) (show (3 - t_7.toInt).toNat < (3 - x10_0.toInt).toNat by omega) H locs wt ls hT hW hP hD hS (lv_sub hl [0, 1, 2, 3, 4, 5] rfl)
      · rw [← Int32.toInt_inj] at c_5
        refine lv_iload_n hx hb dX8_whichWord_44 rfl (lv_at hl 2 rfl) ?_
        refine lv_aload_n hx hb dX8_whichWord_45 rfl (lv_at hl 4 rfl) ?_
        refine gq_get hx hb ht hown hK hP i_X8 0 rfl rfl 3 (by decide) wd_159 rfl rfl dX8_whichWord_46 ?_
        refine lv_icmp_ne (tgt := 54) hx hb dX8_whichWord_49 (by decide) (fun c_8 => ?_) (fun c_8 => ?_)
        · rw [← Int32.toInt_inj] at c_8
          obtain ⟨t_9, et_9⟩ : ∃ zz_ : Int32, x10_1 + Int32.ofInt (1) = zz_ := ⟨_, rfl⟩
          have ft_9 : t_9.toInt = x10_1.toInt + (1 : Int32).toInt := ia_add (y := 1) et_9 (by omega) (by omega)
          refine lv_iinc (v := t_9) (lv' := [(2, .int t_9), (5, .int x10_0), (4, .int x10_3), (3, .int x10_2), (0, .ref tp), (1, .ref (K 3))]) hx hb dX8_whichWord_54 hl (k := 3) rfl et_9 (by decide) rfl (fun ls hl => ?_)
          refine lv_iconst (v := 0) hx hb dX8_whichWord_57 (by decide +kernel) ?_
          refine lv_istore_n (lv' := [(3, .int 0), (2, .int t_9), (5, .int x10_0), (4, .int x10_3), (0, .ref tp), (1, .ref (K 3))]) hx hb dX8_whichWord_58 rfl hl (by decide) rfl (fun ls hl => ?_)
          refine lv_iconst (v := 1) hx hb dX8_whichWord_59 (by decide +kernel) ?_
          refine lv_istore (lv' := [(4, .int 1), (3, .int 0), (2, .int t_9), (5, .int x10_0), (0, .ref tp), (1, .ref (K 3))]) hx hb dX8_whichWord_60 hl (by decide) rfl (fun ls hl => ?_)
          refine lv_goto (tgt := 108) hx hb dX8_whichWord_62 (by decide) ?_
          obtain ⟨t_10, et_10⟩ : ∃ zz_ : Int32, x10_0 + Int32.ofInt (1) = zz_ := ⟨_, rfl⟩
          have ft_10 : t_10.toInt = x10_0.toInt + (1 : Int32).toInt := ia_add (y := 1) et_10 (by omega) (by omega)
          refine lv_iinc (v := t_10) (lv' := [(5, .int t_10), (4, .int 1), (3, .int 0), (2, .int t_9), (0, .ref tp), (1, .ref (K 3))]) hx hb dX8_whichWord_108 hl (k := 3) rfl et_10 (by decide) rfl (fun ls hl => ?_)
          refine lv_goto (tgt := 10) hx hb dX8_whichWord_111 (by decide) ?_
          exact ih10 (t_10, t_9, 0, 1) (show 0 ≤ t_10.toInt ∧ t_10.toInt ≤ 3 ∧ 0 ≤ t_9.toInt ∧ t_9.toInt ≤ 3 ∧ 0 ≤ (0 : Int32).toInt ∧ (0 : Int32).toInt ≤ 3 ∧ 0 ≤ (1 : Int32).toInt ∧ (1 : Int32).toInt ≤ 1 ∧ t_9.toInt ≤ t_10.toInt ∧ (0 : Int32).toInt ≤ t_10.toInt from ⟨by omega, by omega, by omega, by omega, by omega, by omega, by omega, by omega, by omega, by omega⟩) (show (3 - t_10.toInt).toNat < (3 - x10_0.toInt).toNat by omega) H locs wt ls hT hW hP hD hS (lv_sub hl [0, 1, 2, 3, 4, 5] rfl)
        · rw [← Int32.toInt_inj] at c_8
          refine lv_iload_n hx hb dX8_whichWord_52 rfl (lv_at hl 3 rfl) ?_
          have hP9 : va_P (gg_D G) classes ([(tp, .inr (8, [.ref bp, .int n, .int at_, .int w_, .int fl])), (bp, .inl (G.2.2 0, 400, .inl bf))] ++ wt) _ := hP
          have hD9 : va_D A ([(tp, .inr (8, [.ref bp, .int n, .int at_, .int w_, .int fl])), (bp, .inl (G.2.2 0, 400, .inl bf))] ++ wt) := hD
          exact W.iret (v := x10_1) hx hb hr (gq_endI wt ⟨hT, hW, (by omega), (by omega)⟩ hP9 hD9 hS) hS.2.2 dX8_whichWord_53
    · rw [← Int32.toInt_inj] at c_4
      refine lv_aload_n hx hb dX8_whichWord_28 rfl (lv_at hl 5 rfl) ?_
      refine lv_iload hx hb dX8_whichWord_29 (lv_at hl 0 rfl) ?_
      refine gt_callI (wr := [(tp, .inr (8, [.ref bp, .int n, .int at_, .int w_, .int fl])), (bp, .inl (G.2.2 0, 400, .inl bf))]) (va_runV (As := [.int x10_0]) (rest := []) ⟨hx, hb, hml, hown, ht⟩ (d_char3 l G Γ H.size wt hT K V x10_0 (by omega) (by omega)) (cwV 1 ht (ts_gV wd_601 wd_602 wd_603 wd_135 wd_604) rfl rfl rfl (by decide +kernel) ⟨Nat.le_of_ble_eq_true rfl, Nat.le_of_ble_eq_true rfl⟩) (gx_preK 3 (by decide) hK (tw_right hP) (tw_rightD hD) hX hS (tw_free hD hS hA)) rfl rfl hl.1 rfl (lv_room (Nat.le_of_ble_eq_true rfl)) dX8_whichWord_31 ⟨Nat.le_of_ble_eq_true rfl, Nat.le_of_ble_eq_true rfl⟩) hP hD hS hA (fun r_11 wt H locs hw hP hD hS => ?_)
      obtain ⟨hT, hkp, rp_r_11⟩ := hw
      have hW := hW.call (show ∀ x ∈ [], x ∈ [] by decide) hkp
      have hP : va_P (gg_D G) classes ([(tp, .inr (8, [.ref bp, .int n, .int at_, .int w_, .int fl])), (bp, .inl (G.2.2 0, 400, .inl bf))] ++ wt) H := hP
      have hD : va_D A ([(tp, .inr (8, [.ref bp, .int n, .int at_, .int w_, .int fl])), (bp, .inl (G.2.2 0, 400, .inl bf))] ++ wt) := hD
      refine lv_bipush (v := 32) hx hb dX8_whichWord_34 (by decide +kernel) ?_
      refine lv_icmp_ne (tgt := 65) hx hb dX8_whichWord_36 (by decide) (fun c_12 => ?_) (fun c_12 => ?_)
      · rw [← Int32.toInt_inj] at c_12
        refine lv_iload hx hb dX8_whichWord_65 (lv_at hl 1 rfl) ?_
        refine lv_if_eq (tgt := 102) hx hb dX8_whichWord_67 (by decide) (fun c_13 => ?_) (fun c_13 => ?_)
        · rw [← Int32.toInt_inj] at c_13
          refine lv_iconst (v := 0) hx hb dX8_whichWord_102 (by decide +kernel) ?_
          refine lv_istore (lv' := [(4, .int 0), (5, .int x10_0), (3, .int x10_2), (2, .int x10_1), (0, .ref tp), (1, .ref (K 3))]) hx hb dX8_whichWord_103 hl (by decide) rfl (fun ls hl => ?_)
          obtain ⟨t_14, et_14⟩ : ∃ zz_ : Int32, x10_2 + Int32.ofInt (1) = zz_ := ⟨_, rfl⟩
          have ft_14 : t_14.toInt = x10_2.toInt + (1 : Int32).toInt := ia_add (y := 1) et_14 (by omega) (by omega)
          refine lv_iinc (v := t_14) (lv' := [(3, .int t_14), (4, .int 0), (5, .int x10_0), (2, .int x10_1), (0, .ref tp), (1, .ref (K 3))]) hx hb dX8_whichWord_105 hl (k := 2) rfl et_14 (by decide) rfl (fun ls hl => ?_)
          obtain ⟨t_15, et_15⟩ : ∃ zz_ : Int32, x10_0 + Int32.ofInt (1) = zz_ := ⟨_, rfl⟩
          have ft_15 : t_15.toInt = x10_0.toInt + (1 : Int32).toInt := ia_add (y := 1) et_15 (by omega) (by omega)
          refine lv_iinc (v := t_15) (lv' := [(5, .int t_15), (3, .int t_14), (4, .int 0), (2, .int x10_1), (0, .ref tp), (1, .ref (K 3))]) hx hb dX8_whichWord_108 hl (k := 2) rfl et_15 (by decide) rfl (fun ls hl => ?_)
          refine lv_goto (tgt := 10) hx hb dX8_whichWord_111 (by decide) ?_
          exact ih10 (t_15, x10_1, t_14, 0) (show 0 ≤ t_15.toInt ∧ t_15.toInt ≤ 3 ∧ 0 ≤ x10_1.toInt ∧ x10_1.toInt ≤ 3 ∧ 0 ≤ t_14.toInt ∧ t_14.toInt ≤ 3 ∧ 0 ≤ (0 : Int32).toInt ∧ (0 : Int32).toInt ≤ 1 ∧ x10_1.toInt ≤ t_15.toInt ∧ t_14.toInt ≤ t_15.toInt from ⟨by omega, by omega, by omega, by omega, by omega, by omega, by omega, by omega, by omega, by omega⟩) (show (3 - t_15.toInt).toNat < (3 - x10_0.toInt).toNat by omega) H locs wt ls hT hW hP hD hS (lv_sub hl [0, 2, 1, 3, 4, 5] rfl)
        · rw [← Int32.toInt_inj] at c_13
          refine lv_iload_n hx hb dX8_whichWord_70 rfl (lv_at hl 2 rfl) ?_
          refine lv_aload_n hx hb dX8_whichWord_71 rfl (lv_at hl 4 rfl) ?_
          refine gq_get hx hb ht hown hK hP i_X8 0 rfl rfl 3 (by decide) wd_159 rfl rfl dX8_whichWord_72 ?_
          refine lv_icmp_ge (tgt := 102) hx hb dX8_whichWord_75 (by decide) (fun c_16 => ?_) (fun c_16 => ?_)
          · rw [Int32.le_iff_toInt_le] at c_16
            refine lv_iconst (v := 0) hx hb dX8_whichWord_102 (by decide +kernel) ?_
            refine lv_istore (lv' := [(4, .int 0), (5, .int x10_0), (3, .int x10_2), (2, .int x10_1), (0, .ref tp), (1, .ref (K 3))]) hx hb dX8_whichWord_103 hl (by decide) rfl (fun ls hl => ?_)
            obtain ⟨t_17, et_17⟩ : ∃ zz_ : Int32, x10_2 + Int32.ofInt (1) = zz_ := ⟨_, rfl⟩
            have ft_17 : t_17.toInt = x10_2.toInt + (1 : Int32).toInt := ia_add (y := 1) et_17 (by omega) (by omega)
            refine lv_iinc (v := t_17) (lv' := [(3, .int t_17), (4, .int 0), (5, .int x10_0), (2, .int x10_1), (0, .ref tp), (1, .ref (K 3))]) hx hb dX8_whichWord_105 hl (k := 2) rfl et_17 (by decide) rfl (fun ls hl => ?_)
            obtain ⟨t_18, et_18⟩ : ∃ zz_ : Int32, x10_0 + Int32.ofInt (1) = zz_ := ⟨_, rfl⟩
            have ft_18 : t_18.toInt = x10_0.toInt + (1 : Int32).toInt := ia_add (y := 1) et_18 (by omega) (by omega)
            refine lv_iinc (v := t_18) (lv' := [(5, .int t_18), (3, .int t_17), (4, .int 0), (2, .int x10_1), (0, .ref tp), (1, .ref (K 3))]) hx hb dX8_whichWord_108 hl (k := 2) rfl et_18 (by decide) rfl (fun ls hl => ?_)
            refine lv_goto (tgt := 10) hx hb dX8_whichWord_111 (by decide) ?_
            exact ih10 (t_18, x10_1, t_17, 0) (show 0 ≤ t_18.toInt ∧ t_18.toInt ≤ 3 ∧ 0 ≤ x10_1.toInt ∧ x10_1.toInt ≤ 3 ∧ 0 ≤ t_17.toInt ∧ t_17.toInt ≤ 3 ∧ 0 ≤ (0 : Int32).toInt ∧ (0 : Int32).toInt ≤ 1 ∧ x10_1.toInt ≤ t_18.toInt ∧ t_17.toInt ≤ t_18.toInt from ⟨by omega, by omega, by omega, by omega, by omega, by omega, by omega, by omega, by omega, by omega⟩) (show (3 - t_18.toInt).toNat < (3 - x10_0.toInt).toNat by omega) H locs wt ls hT hW hP hD hS (lv_sub hl [0, 2, 1, 3, 4, 5] rfl)
          · rw [Int32.le_iff_toInt_le] at c_16
            refine lv_aload_n hx hb dX8_whichWord_78 rfl (lv_at hl 4 rfl) ?_
            refine gq_get hx hb ht hown hK hP i_X8 0 rfl rfl 0 (by decide) wd_156 rfl rfl dX8_whichWord_79 ?_
            refine lv_aload_n hx hb dX8_whichWord_82 rfl (lv_at hl 4 rfl) ?_
            refine gq_get hx hb ht hown hK hP i_X8 0 rfl rfl 2 (by decide) wd_158 rfl rfl dX8_whichWord_83 ?_
            refine lv_iload_n hx hb dX8_whichWord_86 rfl (lv_at hl 2 rfl) ?_
            obtain ⟨t_19, et_19⟩ : ∃ zz_ : Int32, at_ + x10_2 = zz_ := ⟨_, rfl⟩
            refine gq_iadd hx hb t_19 et_19 dX8_whichWord_87 ?_
            have ft_19 := ia_add et_19 (by omega) (by omega)
            obtain ⟨n_20, en_20⟩ : ∃ zz_ : Int32, bf (Int32.toNatClampNeg t_19) = zz_ := ⟨_, rfl⟩
            refine gq_iald hx hb hK hP 1 rfl n_20 (ia_in (n := 400) (by omega) (by omega)) en_20 dX8_whichWord_88 ?_
            refine lv_aload_n hx hb dX8_whichWord_89 rfl (lv_at hl 5 rfl) ?_
            refine lv_iload hx hb dX8_whichWord_90 (lv_at hl 0 rfl) ?_
            refine gt_callI (wr := [(tp, .inr (8, [.ref bp, .int n, .int at_, .int w_, .int fl])), (bp, .inl (G.2.2 0, 400, .inl bf))]) (va_runV (As := [.int x10_0]) (rest := [.int n_20]) ⟨hx, hb, hml, hown, ht⟩ (d_char3 l G Γ H.size wt hT K V x10_0 (by omega) (by omega)) (cwV 1 ht (ts_gV wd_601 wd_602 wd_603 wd_135 wd_604) rfl rfl rfl (by decide +kernel) ⟨Nat.le_of_ble_eq_true rfl, Nat.le_of_ble_eq_true rfl⟩) (gx_preK 3 (by decide) hK (tw_right hP) (tw_rightD hD) hX hS (tw_free hD hS hA)) rfl rfl hl.1 rfl (lv_room (Nat.le_of_ble_eq_true rfl)) dX8_whichWord_92 ⟨Nat.le_of_ble_eq_true rfl, Nat.le_of_ble_eq_true rfl⟩) hP hD hS hA (fun r_21 wt H locs hw hP hD hS => ?_)
            obtain ⟨hT, hkp, rp_r_21⟩ := hw
            have hW := hW.call (show ∀ x ∈ [], x ∈ [] by decide) hkp
            have hP : va_P (gg_D G) classes ([(tp, .inr (8, [.ref bp, .int n, .int at_, .int w_, .int fl])), (bp, .inl (G.2.2 0, 400, .inl bf))] ++ wt) H := hP
            have hD : va_D A ([(tp, .inr (8, [.ref bp, .int n, .int at_, .int w_, .int fl])), (bp, .inl (G.2.2 0, 400, .inl bf))] ++ wt) := hD
            refine lv_icmp_ne (tgt := 102) hx hb dX8_whichWord_95 (by decide) (fun c_22 => ?_) (fun c_22 => ?_)
            · rw [← Int32.toInt_inj] at c_22
              refine lv_iconst (v := 0) hx hb dX8_whichWord_102 (by decide +kernel) ?_
              refine lv_istore (lv' := [(4, .int 0), (5, .int x10_0), (3, .int x10_2), (2, .int x10_1), (0, .ref tp), (1, .ref (K 3))]) hx hb dX8_whichWord_103 hl (by decide) rfl (fun ls hl => ?_)
              obtain ⟨t_23, et_23⟩ : ∃ zz_ : Int32, x10_2 + Int32.ofInt (1) = zz_ := ⟨_, rfl⟩
              have ft_23 : t_23.toInt = x10_2.toInt + (1 : Int32).toInt := ia_add (y := 1) et_23 (by omega) (by omega)
              refine lv_iinc (v := t_23) (lv' := [(3, .int t_23), (4, .int 0), (5, .int x10_0), (2, .int x10_1), (0, .ref tp), (1, .ref (K 3))]) hx hb dX8_whichWord_105 hl (k := 2) rfl et_23 (by decide) rfl (fun ls hl => ?_)
              obtain ⟨t_24, et_24⟩ : ∃ zz_ : Int32, x10_0 + Int32.ofInt (1) = zz_ := ⟨_, rfl⟩
              have ft_24 : t_24.toInt = x10_0.toInt + (1 : Int32).toInt := ia_add (y := 1) et_24 (by omega) (by omega)
              refine lv_iinc (v := t_24) (lv' := [(5, .int t_24), (3, .int t_23), (4, .int 0), (2, .int x10_1), (0, .ref tp), (1, .ref (K 3))]) hx hb dX8_whichWord_108 hl (k := 2) rfl et_24 (by decide) rfl (fun ls hl => ?_)
              refine lv_goto (tgt := 10) hx hb dX8_whichWord_111 (by decide) ?_
              exact ih10 (t_24, x10_1, t_23, 0) (show 0 ≤ t_24.toInt ∧ t_24.toInt ≤ 3 ∧ 0 ≤ x10_1.toInt ∧ x10_1.toInt ≤ 3 ∧ 0 ≤ t_23.toInt ∧ t_23.toInt ≤ 3 ∧ 0 ≤ (0 : Int32).toInt ∧ (0 : Int32).toInt ≤ 1 ∧ x10_1.toInt ≤ t_24.toInt ∧ t_23.toInt ≤ t_24.toInt from ⟨by omega, by omega, by omega, by omega, by omega, by omega, by omega, by omega, by omega, by omega⟩) (show (3 - t_24.toInt).toNat < (3 - x10_0.toInt).toNat by omega) H locs wt ls hT hW hP hD hS (lv_sub hl [0, 2, 1, 3, 4, 5] rfl)
            · rw [← Int32.toInt_inj] at c_22
              refine lv_iconst (v := 1) hx hb dX8_whichWord_98 (by decide +kernel) ?_
              refine lv_goto (tgt := 103) hx hb dX8_whichWord_99 (by decide) ?_
              refine lv_istore (lv' := [(4, .int 1), (5, .int x10_0), (3, .int x10_2), (2, .int x10_1), (0, .ref tp), (1, .ref (K 3))]) hx hb dX8_whichWord_103 hl (by decide) rfl (fun ls hl => ?_)
              obtain ⟨t_25, et_25⟩ : ∃ zz_ : Int32, x10_2 + Int32.ofInt (1) = zz_ := ⟨_, rfl⟩
              have ft_25 : t_25.toInt = x10_2.toInt + (1 : Int32).toInt := ia_add (y := 1) et_25 (by omega) (by omega)
              refine lv_iinc (v := t_25) (lv' := [(3, .int t_25), (4, .int 1), (5, .int x10_0), (2, .int x10_1), (0, .ref tp), (1, .ref (K 3))]) hx hb dX8_whichWord_105 hl (k := 2) rfl et_25 (by decide) rfl (fun ls hl => ?_)
              obtain ⟨t_26, et_26⟩ : ∃ zz_ : Int32, x10_0 + Int32.ofInt (1) = zz_ := ⟨_, rfl⟩
              have ft_26 : t_26.toInt = x10_0.toInt + (1 : Int32).toInt := ia_add (y := 1) et_26 (by omega) (by omega)
              refine lv_iinc (v := t_26) (lv' := [(5, .int t_26), (3, .int t_25), (4, .int 1), (2, .int x10_1), (0, .ref tp), (1, .ref (K 3))]) hx hb dX8_whichWord_108 hl (k := 2) rfl et_26 (by decide) rfl (fun ls hl => ?_)
              refine lv_goto (tgt := 10) hx hb dX8_whichWord_111 (by decide) ?_
              exact ih10 (t_26, x10_1, t_25, 1) (show 0 ≤ t_26.toInt ∧ t_26.toInt ≤ 3 ∧ 0 ≤ x10_1.toInt ∧ x10_1.toInt ≤ 3 ∧ 0 ≤ t_25.toInt ∧ t_25.toInt ≤ 3 ∧ 0 ≤ (1 : Int32).toInt ∧ (1 : Int32).toInt ≤ 1 ∧ x10_1.toInt ≤ t_26.toInt ∧ t_25.toInt ≤ t_26.toInt from ⟨by omega, by omega, by omega, by omega, by omega, by omega, by omega, by omega, by omega, by omega⟩) (show (3 - t_26.toInt).toNat < (3 - x10_0.toInt).toNat by omega) H locs wt ls hT hW hP hD hS (lv_sub hl [0, 2, 1, 3, 4, 5] rfl)
      · rw [← Int32.toInt_inj] at c_12
        refine lv_iload hx hb dX8_whichWord_39 (lv_at hl 1 rfl) ?_
        refine lv_if_eq (tgt := 54) hx hb dX8_whichWord_41 (by decide) (fun c_27 => ?_) (fun c_27 => ?_)
        · rw [← Int32.toInt_inj] at c_27
          obtain ⟨t_28, et_28⟩ : ∃ zz_ : Int32, x10_1 + Int32.ofInt (1) = zz_ := ⟨_, rfl⟩
          have ft_28 : t_28.toInt = x10_1.toInt + (1 : Int32).toInt := ia_add (y := 1) et_28 (by omega) (by omega)
          refine lv_iinc (v := t_28) (lv' := [(2, .int t_28), (5, .int x10_0), (4, .int x10_3), (3, .int x10_2), (0, .ref tp), (1, .ref (K 3))]) hx hb dX8_whichWord_54 hl (k := 3) rfl et_28 (by decide) rfl (fun ls hl => ?_)
          refine lv_iconst (v := 0) hx hb dX8_whichWord_57 (by decide +kernel) ?_
          refine lv_istore_n (lv' := [(3, .int 0), (2, .int t_28), (5, .int x10_0), (4, .int x10_3), (0, .ref tp), (1, .ref (K 3))]) hx hb dX8_whichWord_58 rfl hl (by decide) rfl (fun ls hl => ?_)
          refine lv_iconst (v := 1) hx hb dX8_whichWord_59 (by decide +kernel) ?_
          refine lv_istore (lv' := [(4, .int 1), (3, .int 0), (2, .int t_28), (5, .int x10_0), (0, .ref tp), (1, .ref (K 3))]) hx hb dX8_whichWord_60 hl (by decide) rfl (fun ls hl => ?_)
          refine lv_goto (tgt := 108) hx hb dX8_whichWord_62 (by decide) ?_
          obtain ⟨t_29, et_29⟩ : ∃ zz_ : Int32, x10_0 + Int32.ofInt (1) = zz_ := ⟨_, rfl⟩
          have ft_29 : t_29.toInt = x10_0.toInt + (1 : Int32).toInt := ia_add (y := 1) et_29 (by omega) (by omega)
          refine lv_iinc (v := t_29) (lv' := [(5, .int t_29), (4, .int 1), (3, .int 0), (2, .int t_28), (0, .ref tp), (1, .ref (K 3))]) hx hb dX8_whichWord_108 hl (k := 3) rfl et_29 (by decide) rfl (fun ls hl => ?_)
          refine lv_goto (tgt := 10) hx hb dX8_whichWord_111 (by decide) ?_
          exact ih10 (t_29, t_28, 0, 1) (show 0 ≤ t_29.toInt ∧ t_29.toInt ≤ 3 ∧ 0 ≤ t_28.toInt ∧ t_28.toInt ≤ 3 ∧ 0 ≤ (0 : Int32).toInt ∧ (0 : Int32).toInt ≤ 3 ∧ 0 ≤ (1 : Int32).toInt ∧ (1 : Int32).toInt ≤ 1 ∧ t_28.toInt ≤ t_29.toInt ∧ (0 : Int32).toInt ≤ t_29.toInt from ⟨by omega, by omega, by omega, by omega, by omega, by omega, by omega, by omega, by omega, by omega⟩) (show (3 - t_29.toInt).toNat < (3 - x10_0.toInt).toNat by omega) H locs wt ls hT hW hP hD hS (lv_sub hl [0, 1, 2, 3, 4, 5] rfl)
        · rw [← Int32.toInt_inj] at c_27
          refine lv_iload_n hx hb dX8_whichWord_44 rfl (lv_at hl 2 rfl) ?_
          refine lv_aload_n hx hb dX8_whichWord_45 rfl (lv_at hl 4 rfl) ?_
          refine gq_get hx hb ht hown hK hP i_X8 0 rfl rfl 3 (by decide) wd_159 rfl rfl dX8_whichWord_46 ?_
          refine lv_icmp_ne (tgt := 54) hx hb dX8_whichWord_49 (by decide) (fun c_30 => ?_) (fun c_30 => ?_)
          · rw [← Int32.toInt_inj] at c_30
            obtain ⟨t_31, et_31⟩ : ∃ zz_ : Int32, x10_1 + Int32.ofInt (1) = zz_ := ⟨_, rfl⟩
            have ft_31 : t_31.toInt = x10_1.toInt + (1 : Int32).toInt := ia_add (y := 1) et_31 (by omega) (by omega)
            refine lv_iinc (v := t_31) (lv' := [(2, .int t_31), (5, .int x10_0), (4, .int x10_3), (3, .int x10_2), (0, .ref tp), (1, .ref (K 3))]) hx hb dX8_whichWord_54 hl (k := 3) rfl et_31 (by decide) rfl (fun ls hl => ?_)
            refine lv_iconst (v := 0) hx hb dX8_whichWord_57 (by decide +kernel) ?_
            refine lv_istore_n (lv' := [(3, .int 0), (2, .int t_31), (5, .int x10_0), (4, .int x10_3), (0, .ref tp), (1, .ref (K 3))]) hx hb dX8_whichWord_58 rfl hl (by decide) rfl (fun ls hl => ?_)
            refine lv_iconst (v := 1) hx hb dX8_whichWord_59 (by decide +kernel) ?_
            refine lv_istore (lv' := [(4, .int 1), (3, .int 0), (2, .int t_31), (5, .int x10_0), (0, .ref tp), (1, .ref (K 3))]) hx hb dX8_whichWord_60 hl (by decide) rfl (fun ls hl => ?_)
            refine lv_goto (tgt := 108) hx hb dX8_whichWord_62 (by decide) ?_
            obtain ⟨t_32, et_32⟩ : ∃ zz_ : Int32, x10_0 + Int32.ofInt (1) = zz_ := ⟨_, rfl⟩
            have ft_32 : t_32.toInt = x10_0.toInt + (1 : Int32).toInt := ia_add (y := 1) et_32 (by omega) (by omega)
            refine lv_iinc (v := t_32) (lv' := [(5, .int t_32), (4, .int 1), (3, .int 0), (2, .int t_31), (0, .ref tp), (1, .ref (K 3))]) hx hb dX8_whichWord_108 hl (k := 3) rfl et_32 (by decide) rfl (fun ls hl => ?_)
            refine lv_goto (tgt := 10) hx hb dX8_whichWord_111 (by decide) ?_
            exact ih10 (t_32, t_31, 0, 1) (show 0 ≤ t_32.toInt ∧ t_32.toInt ≤ 3 ∧ 0 ≤ t_31.toInt ∧ t_31.toInt ≤ 3 ∧ 0 ≤ (0 : Int32).toInt ∧ (0 : Int32).toInt ≤ 3 ∧ 0 ≤ (1 : Int32).toInt ∧ (1 : Int32).toInt ≤ 1 ∧ t_31.toInt ≤ t_32.toInt ∧ (0 : Int32).toInt ≤ t_32.toInt from ⟨by omega, by omega, by omega, by omega, by omega, by omega, by omega, by omega, by omega, by omega⟩) (show (3 - t_32.toInt).toNat < (3 - x10_0.toInt).toNat by omega) H locs wt ls hT hW hP hD hS (lv_sub hl [0, 1, 2, 3, 4, 5] rfl)
          · rw [← Int32.toInt_inj] at c_30
            refine lv_iload_n hx hb dX8_whichWord_52 rfl (lv_at hl 3 rfl) ?_
            have hP9 : va_P (gg_D G) classes ([(tp, .inr (8, [.ref bp, .int n, .int at_, .int w_, .int fl])), (bp, .inl (G.2.2 0, 400, .inl bf))] ++ wt) _ := hP
            have hD9 : va_D A ([(tp, .inr (8, [.ref bp, .int n, .int at_, .int w_, .int fl])), (bp, .inl (G.2.2 0, 400, .inl bf))] ++ wt) := hD
            exact W.iret (v := x10_1) hx hb hr (gq_endI wt ⟨hT, hW, (by omega), (by omega)⟩ hP9 hD9 hS) hS.2.2 dX8_whichWord_53
set_option maxHeartbeats 4000000 in
set_option maxRecDepth 100000 in
theorem d_which4 (l : Launch) (G : gg_T) (Γ : Nat → Nat) (sz : Nat) (wt : va_W) (hT : tk_ty G Γ wt) (K : Nat → Nat) (V : Nat → Nat) (tp : Nat) (bp : Nat) (n : Int32) (at_ : Int32) (w_ : Int32) (fl : Int32) (bf : Nat → Int32) (xp1 : 0 ≤ n.toInt) (xp2 : n.toInt ≤ 400) (xp3 : 0 ≤ at_.toInt) (xp4 : 0 ≤ w_.toInt) (xp5 : at_.toInt + w_.toInt ≤ 400) : Met l yX8_whichWord (ts_L yX8_whichWord cX8_whichWord 6 (some .int)) ({ frames := 4, cells := 0, slots := 0, locals := 85 }) (gx_P G K V ([(tp, .inr (8, [.ref bp, .int n, .int at_, .int w_, .int fl])), (bp, .inl (G.2.2 0, 400, .inl bf))] ++ wt) sz [.ref tp, .ref (K 4)]) (gc_I G (va_A ([(tp, .inr (8, [.ref bp, .int n, .int at_, .int w_, .int fl])), (bp, .inl (G.2.2 0, 400, .inl bf))] ++ wt) sz) (fun r (u : va_W) => match u with | wt1 => tk_ty G Γ wt1 ∧ tk_kp [] wt wt1 ∧ -1 ≤ r.toInt ∧ r.toInt ≤ 4) (fun (u : va_W) => match u with | wt1 => [(tp, .inr (8, [.ref bp, .int n, .int at_, .int w_, .int fl])), (bp, .inl (G.2.2 0, 400, .inl bf))] ++ wt1)) 0 0 (va_A ([(tp, .inr (8, [.ref bp, .int n, .int at_, .int w_, .int fl])), (bp, .inl (G.2.2 0, 400, .inl bf))] ++ wt) sz) := by
  refine Met.ofW (cc := cX8_whichWord) (maxL := 6) (ret := (some .int)) (by decide) rfl ?_
  intro p e s m args below meth c s₁ B hml hv
  obtain ⟨rfl, hsz, hP, hK, hD0, hX⟩ := hv
  have hx := B.exec
  have hb := B.bytes
  have hr := B.returns
  have ht := ts_ht (atoms_spec (ws := ts_L yX8_whichWord cX8_whichWord 6 (some .int)) B.pre)
  have hown : s.vm.findClass RX8 = some m.cls := findClass_of_methodNamed B.named
  have hlocks := B.notSynchronized
  subst hsz
  have hD := hD0.self (sz := s.heap.size)
  generalize hAe : va_A ([(tp, .inr (8, [.ref bp, .int n, .int at_, .int w_, .int fl])), (bp, .inl (G.2.2 0, 400, .inl bf))] ++ wt) s.heap.size = A at hD hX ⊢
  have hA : ∀ q : Nat, s.heap.size ≤ q → A q := fun q h => by rw [← hAe]; exact Or.inr h
  clear hAe hD0
  have hS : va_S A s.heap s.heap [] := va_S.rf
  obtain ⟨w0, hw0⟩ : ∃ z, z = wt := ⟨_, rfl⟩
  have hW : tk_kp [] w0 wt := by rw [hw0]; exact tk_kp.rf
  rw [← hw0]
  clear hw0
  have hP : va_P (gg_D G) classes ([(tp, .inr (8, [.ref bp, .int n, .int at_, .int w_, .int fl])), (bp, .inl (G.2.2 0, 400, .inl bf))] ++ wt) s.heap := hP
  have hD : va_D A ([(tp, .inr (8, [.ref bp, .int n, .int at_, .int w_, .int fl])), (bp, .inl (G.2.2 0, 400, .inl bf))] ++ wt) := hD
  have hl := lv_entry ([.ref tp, .ref (K 4)]) (n := 6) (Nat.le_of_ble_eq_true rfl)
  rw [lg_entry_eq]
  generalize (lg_sl ([.ref tp, .ref (K 4)]) ++ List.replicate (6 - (lg_sl ([.ref tp, .ref (K 4)])).length) Slot.unset).toArray = ls at hl ⊢
  have hl : lv_has ls 6 [(0, .ref tp), (1, .ref (K 4))] := hl
  have lm1 : ((-1) : Int32).toInt = -1 := by decide +kernel
  have l0 : (0 : Int32).toInt = 0 := by decide +kernel
  have l1 : (1 : Int32).toInt = 1 := by decide +kernel
  have l3 : (3 : Int32).toInt = 3 := by decide +kernel
  have l32 : (32 : Int32).toInt = 32 := by decide +kernel
  refine lv_iconst (v := 0) hx hb dX8_whichWord_0 (by decide +kernel) ?_
  refine lv_istore_n (lv' := [(2, .int 0), (0, .ref tp), (1, .ref (K 4))]) hx hb dX8_whichWord_1 rfl hl (by decide) rfl (fun ls hl => ?_)
  refine lv_iconst (v := 0) hx hb dX8_whichWord_2 (by decide +kernel) ?_
  refine lv_istore_n (lv' := [(3, .int 0), (2, .int 0), (0, .ref tp), (1, .ref (K 4))]) hx hb dX8_whichWord_3 rfl hl (by decide) rfl (fun ls hl => ?_)
  refine lv_iconst (v := 1) hx hb dX8_whichWord_4 (by decide +kernel) ?_
  refine lv_istore (lv' := [(4, .int 1), (3, .int 0), (2, .int 0), (0, .ref tp), (1, .ref (K 4))]) hx hb dX8_whichWord_5 hl (by decide) rfl (fun ls hl => ?_)
  refine lv_iconst (v := 0) hx hb dX8_whichWord_7 (by decide +kernel) ?_
  refine lv_istore (lv' := [(5, .int 0), (4, .int 1), (3, .int 0), (2, .int 0), (0, .ref tp), (1, .ref (K 4))]) hx hb dX8_whichWord_8 hl (by decide) rfl (fun ls hl => ?_)
  refine tl_loopE (Γ := Γ) (nL := 6) (fun (zz_ : Int32 × Int32 × Int32 × Int32) => match zz_ with | (x10_0, x10_1, x10_2, x10_3) => 0 ≤ x10_0.toInt ∧ x10_0.toInt ≤ 4 ∧ 0 ≤ x10_1.toInt ∧ x10_1.toInt ≤ 4 ∧ 0 ≤ x10_2.toInt ∧ x10_2.toInt ≤ 4 ∧ 0 ≤ x10_3.toInt ∧ x10_3.toInt ≤ 1 ∧ x10_1.toInt ≤ x10_0.toInt ∧ x10_2.toInt ≤ x10_0.toInt) (fun (zz_ : Int32 × Int32 × Int32 × Int32) => match zz_ with | (x10_0, x10_1, x10_2, x10_3) => (4 - x10_0.toInt).toNat) (fun (zz_ : Int32 × Int32 × Int32 × Int32) => match zz_ with | (x10_0, x10_1, x10_2, x10_3) => [(5, .int x10_0), (4, .int x10_3), (3, .int x10_2), (2, .int x10_1), (0, .ref tp), (1, .ref (K 4))]) (fun (zz_ : Int32 × Int32 × Int32 × Int32) => match zz_ with | (x10_0, x10_1, x10_2, x10_3) => [(tp, .inr (8, [.ref bp, .int n, .int at_, .int w_, .int fl])), (bp, .inl (G.2.2 0, 400, .inl bf))]) (fun (zz_ : Int32 × Int32 × Int32 × Int32) (w : va_W) => match zz_ with | (x10_0, x10_1, x10_2, x10_3) => tk_kp [] w0 w) (fun zz_ hI H locs wt ls hT hW hP hD hS hl ih10 => ?_) (0, 0, 0, 1) (show 0 ≤ (0 : Int32).toInt ∧ (0 : Int32).toInt ≤ 4 ∧ 0 ≤ (0 : Int32).toInt ∧ (0 : Int32).toInt ≤ 4 ∧ 0 ≤ (0 : Int32).toInt ∧ (0 : Int32).toInt ≤ 4 ∧ 0 ≤ (1 : Int32).toInt ∧ (1 : Int32).toInt ≤ 1 ∧ (0 : Int32).toInt ≤ (0 : Int32).toInt ∧ (0 : Int32).toInt ≤ (0 : Int32).toInt from ⟨by omega, by omega, by omega, by omega, by omega, by omega, by omega, by omega, by omega, by omega⟩) _ _ wt ls hT hW hP hD hS hl
  obtain ⟨x10_0, x10_1, x10_2, x10_3⟩ := zz_
  have hW : tk_kp [] w0 wt := hW
  have hI : 0 ≤ x10_0.toInt ∧ x10_0.toInt ≤ 4 ∧ 0 ≤ x10_1.toInt ∧ x10_1.toInt ≤ 4 ∧ 0 ≤ x10_2.toInt ∧ x10_2.toInt ≤ 4 ∧ 0 ≤ x10_3.toInt ∧ x10_3.toInt ≤ 1 ∧ x10_1.toInt ≤ x10_0.toInt ∧ x10_2.toInt ≤ x10_0.toInt := hI
  obtain ⟨j10_0, j10_1, j10_2, j10_3, j10_4, j10_5, j10_6, j10_7, j10_8, j10_9⟩ := hI
  have hl : lv_has ls 6 [(5, .int x10_0), (4, .int x10_3), (3, .int x10_2), (2, .int x10_1), (0, .ref tp), (1, .ref (K 4))] := hl
  have hP : va_P (gg_D G) classes ([(tp, .inr (8, [.ref bp, .int n, .int at_, .int w_, .int fl])), (bp, .inl (G.2.2 0, 400, .inl bf))] ++ wt) H := hP
  have hD : va_D A ([(tp, .inr (8, [.ref bp, .int n, .int at_, .int w_, .int fl])), (bp, .inl (G.2.2 0, 400, .inl bf))] ++ wt) := hD
  refine lv_iload hx hb dX8_whichWord_10 (lv_at hl 0 rfl) ?_
  refine lv_aload_n hx hb dX8_whichWord_12 rfl (lv_at hl 5 rfl) ?_
  refine gt_callI (wr := [(tp, .inr (8, [.ref bp, .int n, .int at_, .int w_, .int fl])), (bp, .inl (G.2.2 0, 400, .inl bf))]) (va_runV (As := []) (rest := [.int x10_0]) ⟨hx, hb, hml, hown, ht⟩ (d_length4 l G Γ H.size wt hT K V) (cwV 0 ht (ts_gV wd_591 wd_592 wd_593 wd_135 wd_594) rfl rfl rfl (by decide +kernel) ⟨Nat.le_of_ble_eq_true rfl, Nat.le_of_ble_eq_true rfl⟩) (gx_preK 4 (by decide) hK (tw_right hP) (tw_rightD hD) hX hS (tw_free hD hS hA)) rfl rfl hl.1 rfl (lv_room (Nat.le_of_ble_eq_true rfl)) dX8_whichWord_13 ⟨Nat.le_of_ble_eq_true rfl, Nat.le_of_ble_eq_true rfl⟩) hP hD hS hA (fun r_1 wt H locs hw hP hD hS => ?_)
  obtain ⟨hT, hkp, lo_r_1, hi_r_1⟩ := hw
  have hW := hW.call (show ∀ x ∈ [], x ∈ [] by decide) hkp
  have hP : va_P (gg_D G) classes ([(tp, .inr (8, [.ref bp, .int n, .int at_, .int w_, .int fl])), (bp, .inl (G.2.2 0, 400, .inl bf))] ++ wt) H := hP
  have hD : va_D A ([(tp, .inr (8, [.ref bp, .int n, .int at_, .int w_, .int fl])), (bp, .inl (G.2.2 0, 400, .inl bf))] ++ wt) := hD
  have z_r_1 : r_1 = 3 := by rw [← Int32.toInt_inj]; omega
  subst z_r_1
  refine lv_icmp_gt (tgt := 114) hx hb dX8_whichWord_16 (by decide) (fun c_2 => ?_) (fun c_2 => ?_)
  · rw [Int32.lt_iff_toInt_lt] at c_2
    refine lv_iconst (v := (-1)) hx hb dX8_whichWord_114 (by decide +kernel) ?_
    have hP9 : va_P (gg_D G) classes ([(tp, .inr (8, [.ref bp, .int n, .int at_, .int w_, .int fl])), (bp, .inl (G.2.2 0, 400, .inl bf))] ++ wt) _ := hP
    have hD9 : va_D A ([(tp, .inr (8, [.ref bp, .int n, .int at_, .int w_, .int fl])), (bp, .inl (G.2.2 0, 400, .inl bf))] ++ wt) := hD
    exact W.iret (v := (-1)) hx hb hr (gq_endI wt ⟨hT, hW, (by omega), (by omega)⟩ hP9 hD9 hS) hS.2.2 dX8_whichWord_115
  · rw [Int32.lt_iff_toInt_lt] at c_2
    refine lv_iload hx hb dX8_whichWord_19 (lv_at hl 0 rfl) ?_
    refine lv_aload_n hx hb dX8_whichWord_21 rfl (lv_at hl 5 rfl) ?_
    refine gt_callI (wr := [(tp, .inr (8, [.ref bp, .int n, .int at_, .int w_, .int fl])), (bp, .inl (G.2.2 0, 400, .inl bf))]) (va_runV (As := []) (rest := [.int x10_0]) ⟨hx, hb, hml, hown, ht⟩ (d_length4 l G Γ H.size wt hT K V) (cwV 0 ht (ts_gV wd_591 wd_592 wd_593 wd_135 wd_594) rfl rfl rfl (by decide +kernel) ⟨Nat.le_of_ble_eq_true rfl, Nat.le_of_ble_eq_true rfl⟩) (gx_preK 4 (by decide) hK (tw_right hP) (tw_rightD hD) hX hS (tw_free hD hS hA)) rfl rfl hl.1 rfl (lv_room (Nat.le_of_ble_eq_true rfl)) dX8_whichWord_22 ⟨Nat.le_of_ble_eq_true rfl, Nat.le_of_ble_eq_true rfl⟩) hP hD hS hA (fun r_3 wt H locs hw hP hD hS => ?_)
    obtain ⟨hT, hkp, lo_r_3, hi_r_3⟩ := hw
    have hW := hW.call (show ∀ x ∈ [], x ∈ [] by decide) hkp
    have hP : va_P (gg_D G) classes ([(tp, .inr (8, [.ref bp, .int n, .int at_, .int w_, .int fl])), (bp, .inl (G.2.2 0, 400, .inl bf))] ++ wt) H := hP
    have hD : va_D A ([(tp, .inr (8, [.ref bp, .int n, .int at_, .int w_, .int fl])), (bp, .inl (G.2.2 0, 400, .inl bf))] ++ wt) := hD
    have z_r_3 : r_3 = 3 := by rw [← Int32.toInt_inj]; omega
    subst z_r_3
    refine lv_icmp_eq (tgt := 39) hx hb dX8_whichWord_25 (by decide) (fun c_4 => ?_) (fun c_4 => ?_)
    · rw [← Int32.toInt_inj] at c_4
      refine lv_iload hx hb dX8_whichWord_39 (lv_at hl 1 rfl) ?_
      refine lv_if_eq (tgt := 54) hx hb dX8_whichWord_41 (by decide) (fun c_5 => ?_) (fun c_5 => ?_)
      · rw [← Int32.toInt_inj] at c_5
        obtain ⟨t_6, et_6⟩ : ∃ zz_ : Int32, x10_1 + Int32.ofInt (1) = zz_ := ⟨_, rfl⟩
        have ft_6 : t_6.toInt = x10_1.toInt + (1 : Int32).toInt := ia_add (y := 1) et_6 (by omega) (by omega)
        refine lv_iinc (v := t_6) (lv' := [(2, .int t_6), (5, .int x10_0), (4, .int x10_3), (3, .int x10_2), (0, .ref tp), (1, .ref (K 4))]) hx hb dX8_whichWord_54 hl (k := 3) rfl et_6 (by decide) rfl (fun ls hl => ?_)
        refine lv_iconst (v := 0) hx hb dX8_whichWord_57 (by decide +kernel) ?_
        refine lv_istore_n (lv' := [(3, .int 0), (2, .int t_6), (5, .int x10_0), (4, .int x10_3), (0, .ref tp), (1, .ref (K 4))]) hx hb dX8_whichWord_58 rfl hl (by decide) rfl (fun ls hl => ?_)
        refine lv_iconst (v := 1) hx hb dX8_whichWord_59 (by decide +kernel) ?_
        refine lv_istore (lv' := [(4, .int 1), (3, .int 0), (2, .int t_6), (5, .int x10_0), (0, .ref tp), (1, .ref (K 4))]) hx hb dX8_whichWord_60 hl (by decide) rfl (fun ls hl => ?_)
        refine lv_goto (tgt := 108) hx hb dX8_whichWord_62 (by decide) ?_
        obtain ⟨t_7, et_7⟩ : ∃ zz_ : Int32, x10_0 + Int32.ofInt (1) = zz_ := ⟨_, rfl⟩
        have ft_7 : t_7.toInt = x10_0.toInt + (1 : Int32).toInt := ia_add (y := 1) et_7 (by omega) (by omega)
        refine lv_iinc (v := t_7) (lv' := [(5, .int t_7), (4, .int 1), (3, .int 0), (2, .int t_6), (0, .ref tp), (1, .ref (K 4))]) hx hb dX8_whichWord_108 hl (k := 3) rfl et_7 (by decide) rfl (fun ls hl => ?_)
        refine lv_goto (tgt := 10) hx hb dX8_whichWord_111 (by decide) ?_
        exact ih10 (t_7, t_6, 0, 1) (show 0 ≤ t_7.toInt ∧ t_7.toInt ≤ 4 ∧ 0 ≤ t_6.toInt ∧ t_6.toInt ≤ 4 ∧ 0 ≤ (0 : Int32).toInt ∧ (0 : Int32).toInt ≤ 4 ∧ 0 ≤ (1 : Int32).toInt ∧ (1 : Int32).toInt ≤ 1 ∧ t_6.toInt ≤ t_7.toInt ∧ (0 : Int32).toInt ≤ t_7.toInt from ⟨by omega, by omega, by omega, by omega, by omega, by omega, by omega, by omega, by omega, by omega⟩) (show (4 - t_7.toInt).toNat < (4 - x10_0.toInt).toNat by omega) H locs wt ls hT hW hP hD hS (lv_sub hl [0, 1, 2, 3, 4, 5] rfl)
      · rw [← Int32.toInt_inj] at c_5
        refine lv_iload_n hx hb dX8_whichWord_44 rfl (lv_at hl 2 rfl) ?_
        refine lv_aload_n hx hb dX8_whichWord_45 rfl (lv_at hl 4 rfl) ?_
        refine gq_get hx hb ht hown hK hP i_X8 0 rfl rfl 3 (by decide) wd_159 rfl rfl dX8_whichWord_46 ?_
        refine lv_icmp_ne (tgt := 54) hx hb dX8_whichWord_49 (by decide) (fun c_8 => ?_) (fun c_8 => ?_)
        · rw [← Int32.toInt_inj] at c_8
          obtain ⟨t_9, et_9⟩ : ∃ zz_ : Int32, x10_1 + Int32.ofInt (1) = zz_ := ⟨_, rfl⟩
          have ft_9 : t_9.toInt = x10_1.toInt + (1 : Int32).toInt := ia_add (y := 1) et_9 (by omega) (by omega)
          refine lv_iinc (v := t_9) (lv' := [(2, .int t_9), (5, .int x10_0), (4, .int x10_3), (3, .int x10_2), (0, .ref tp), (1, .ref (K 4))]) hx hb dX8_whichWord_54 hl (k := 3) rfl et_9 (by decide) rfl (fun ls hl => ?_)
          refine lv_iconst (v := 0) hx hb dX8_whichWord_57 (by decide +kernel) ?_
          refine lv_istore_n (lv' := [(3, .int 0), (2, .int t_9), (5, .int x10_0), (4, .int x10_3), (0, .ref tp), (1, .ref (K 4))]) hx hb dX8_whichWord_58 rfl hl (by decide) rfl (fun ls hl => ?_)
          refine lv_iconst (v := 1) hx hb dX8_whichWord_59 (by decide +kernel) ?_
          refine lv_istore (lv' := [(4, .int 1), (3, .int 0), (2, .int t_9), (5, .int x10_0), (0, .ref tp), (1, .ref (K 4))]) hx hb dX8_whichWord_60 hl (by decide) rfl (fun ls hl => ?_)
          refine lv_goto (tgt := 108) hx hb dX8_whichWord_62 (by decide) ?_
          obtain ⟨t_10, et_10⟩ : ∃ zz_ : Int32, x10_0 + Int32.ofInt (1) = zz_ := ⟨_, rfl⟩
          have ft_10 : t_10.toInt = x10_0.toInt + (1 : Int32).toInt := ia_add (y := 1) et_10 (by omega) (by omega)
          refine lv_iinc (v := t_10) (lv' := [(5, .int t_10), (4, .int 1), (3, .int 0), (2, .int t_9), (0, .ref tp), (1, .ref (K 4))]) hx hb dX8_whichWord_108 hl (k := 3) rfl et_10 (by decide) rfl (fun ls hl => ?_)
          refine lv_goto (tgt := 10) hx hb dX8_whichWord_111 (by decide) ?_
          exact ih10 (t_10, t_9, 0, 1) (show 0 ≤ t_10.toInt ∧ t_10.toInt ≤ 4 ∧ 0 ≤ t_9.toInt ∧ t_9.toInt ≤ 4 ∧ 0 ≤ (0 : Int32).toInt ∧ (0 : Int32).toInt ≤ 4 ∧ 0 ≤ (1 : Int32).toInt ∧ (1 : Int32).toInt ≤ 1 ∧ t_9.toInt ≤ t_10.toInt ∧ (0 : Int32).toInt ≤ t_10.toInt from ⟨by omega, by omega, by omega, by omega, by omega, by omega, by omega, by omega, by omega, by omega⟩) (show (4 - t_10.toInt).toNat < (4 - x10_0.toInt).toNat by omega) H locs wt ls hT hW hP hD hS (lv_sub hl [0, 1, 2, 3, 4, 5] rfl)
        · rw [← Int32.toInt_inj] at c_8
          refine lv_iload_n hx hb dX8_whichWord_52 rfl (lv_at hl 3 rfl) ?_
          have hP9 : va_P (gg_D G) classes ([(tp, .inr (8, [.ref bp, .int n, .int at_, .int w_, .int fl])), (bp, .inl (G.2.2 0, 400, .inl bf))] ++ wt) _ := hP
          have hD9 : va_D A ([(tp, .inr (8, [.ref bp, .int n, .int at_, .int w_, .int fl])), (bp, .inl (G.2.2 0, 400, .inl bf))] ++ wt) := hD
          exact W.iret (v := x10_1) hx hb hr (gq_endI wt ⟨hT, hW, (by omega), (by omega)⟩ hP9 hD9 hS) hS.2.2 dX8_whichWord_53
    · rw [← Int32.toInt_inj] at c_4
      refine lv_aload_n hx hb dX8_whichWord_28 rfl (lv_at hl 5 rfl) ?_
      refine lv_iload hx hb dX8_whichWord_29 (lv_at hl 0 rfl) ?_
      refine gt_callI (wr := [(tp, .inr (8, [.ref bp, .int n, .int at_, .int w_, .int fl])), (bp, .inl (G.2.2 0, 400, .inl bf))]) (va_runV (As := [.int x10_0]) (rest := []) ⟨hx, hb, hml, hown, ht⟩ (d_char4 l G Γ H.size wt hT K V x10_0 (by omega) (by omega)) (cwV 1 ht (ts_gV wd_601 wd_602 wd_603 wd_135 wd_604) rfl rfl rfl (by decide +kernel) ⟨Nat.le_of_ble_eq_true rfl, Nat.le_of_ble_eq_true rfl⟩) (gx_preK 4 (by decide) hK (tw_right hP) (tw_rightD hD) hX hS (tw_free hD hS hA)) rfl rfl hl.1 rfl (lv_room (Nat.le_of_ble_eq_true rfl)) dX8_whichWord_31 ⟨Nat.le_of_ble_eq_true rfl, Nat.le_of_ble_eq_true rfl⟩) hP hD hS hA (fun r_11 wt H locs hw hP hD hS => ?_)
      obtain ⟨hT, hkp, rp_r_11⟩ := hw
      have hW := hW.call (show ∀ x ∈ [], x ∈ [] by decide) hkp
      have hP : va_P (gg_D G) classes ([(tp, .inr (8, [.ref bp, .int n, .int at_, .int w_, .int fl])), (bp, .inl (G.2.2 0, 400, .inl bf))] ++ wt) H := hP
      have hD : va_D A ([(tp, .inr (8, [.ref bp, .int n, .int at_, .int w_, .int fl])), (bp, .inl (G.2.2 0, 400, .inl bf))] ++ wt) := hD
      refine lv_bipush (v := 32) hx hb dX8_whichWord_34 (by decide +kernel) ?_
      refine lv_icmp_ne (tgt := 65) hx hb dX8_whichWord_36 (by decide) (fun c_12 => ?_) (fun c_12 => ?_)
      · rw [← Int32.toInt_inj] at c_12
        refine lv_iload hx hb dX8_whichWord_65 (lv_at hl 1 rfl) ?_
        refine lv_if_eq (tgt := 102) hx hb dX8_whichWord_67 (by decide) (fun c_13 => ?_) (fun c_13 => ?_)
        · rw [← Int32.toInt_inj] at c_13
          refine lv_iconst (v := 0) hx hb dX8_whichWord_102 (by decide +kernel) ?_
          refine lv_istore (lv' := [(4, .int 0), (5, .int x10_0), (3, .int x10_2), (2, .int x10_1), (0, .ref tp), (1, .ref (K 4))]) hx hb dX8_whichWord_103 hl (by decide) rfl (fun ls hl => ?_)
          obtain ⟨t_14, et_14⟩ : ∃ zz_ : Int32, x10_2 + Int32.ofInt (1) = zz_ := ⟨_, rfl⟩
          have ft_14 : t_14.toInt = x10_2.toInt + (1 : Int32).toInt := ia_add (y := 1) et_14 (by omega) (by omega)
          refine lv_iinc (v := t_14) (lv' := [(3, .int t_14), (4, .int 0), (5, .int x10_0), (2, .int x10_1), (0, .ref tp), (1, .ref (K 4))]) hx hb dX8_whichWord_105 hl (k := 2) rfl et_14 (by decide) rfl (fun ls hl => ?_)
          obtain ⟨t_15, et_15⟩ : ∃ zz_ : Int32, x10_0 + Int32.ofInt (1) = zz_ := ⟨_, rfl⟩
          have ft_15 : t_15.toInt = x10_0.toInt + (1 : Int32).toInt := ia_add (y := 1) et_15 (by omega) (by omega)
          refine lv_iinc (v := t_15) (lv' := [(5, .int t_15), (3, .int t_14), (4, .int 0), (2, .int x10_1), (0, .ref tp), (1, .ref (K 4))]) hx hb dX8_whichWord_108 hl (k := 2) rfl et_15 (by decide) rfl (fun ls hl => ?_)
          refine lv_goto (tgt := 10) hx hb dX8_whichWord_111 (by decide) ?_
          exact ih10 (t_15, x10_1, t_14, 0) (show 0 ≤ t_15.toInt ∧ t_15.toInt ≤ 4 ∧ 0 ≤ x10_1.toInt ∧ x10_1.toInt ≤ 4 ∧ 0 ≤ t_14.toInt ∧ t_14.toInt ≤ 4 ∧ 0 ≤ (0 : Int32).toInt ∧ (0 : Int32).toInt ≤ 1 ∧ x10_1.toInt ≤ t_15.toInt ∧ t_14.toInt ≤ t_15.toInt from ⟨by omega, by omega, by omega, by omega, by omega, by omega, by omega, by omega, by omega, by omega⟩) (show (4 - t_15.toInt).toNat < (4 - x10_0.toInt).toNat by omega) H locs wt ls hT hW hP hD hS (lv_sub hl [0, 2, 1, 3, 4, 5] rfl)
        · rw [← Int32.toInt_inj] at c_13
          refine lv_iload_n hx hb dX8_whichWord_70 rfl (lv_at hl 2 rfl) ?_
          refine lv_aload_n hx hb dX8_whichWord_71 rfl (lv_at hl 4 rfl) ?_
          refine gq_get hx hb ht hown hK hP i_X8 0 rfl rfl 3 (by decide) wd_159 rfl rfl dX8_whichWord_72 ?_
          refine lv_icmp_ge (tgt := 102) hx hb dX8_whichWord_75 (by decide) (fun c_16 => ?_) (fun c_16 => ?_)
          · rw [Int32.le_iff_toInt_le] at c_16
            refine lv_iconst (v := 0) hx hb dX8_whichWord_102 (by decide +kernel) ?_
            refine lv_istore (lv' := [(4, .int 0), (5, .int x10_0), (3, .int x10_2), (2, .int x10_1), (0, .ref tp), (1, .ref (K 4))]) hx hb dX8_whichWord_103 hl (by decide) rfl (fun ls hl => ?_)
            obtain ⟨t_17, et_17⟩ : ∃ zz_ : Int32, x10_2 + Int32.ofInt (1) = zz_ := ⟨_, rfl⟩
            have ft_17 : t_17.toInt = x10_2.toInt + (1 : Int32).toInt := ia_add (y := 1) et_17 (by omega) (by omega)
            refine lv_iinc (v := t_17) (lv' := [(3, .int t_17), (4, .int 0), (5, .int x10_0), (2, .int x10_1), (0, .ref tp), (1, .ref (K 4))]) hx hb dX8_whichWord_105 hl (k := 2) rfl et_17 (by decide) rfl (fun ls hl => ?_)
            obtain ⟨t_18, et_18⟩ : ∃ zz_ : Int32, x10_0 + Int32.ofInt (1) = zz_ := ⟨_, rfl⟩
            have ft_18 : t_18.toInt = x10_0.toInt + (1 : Int32).toInt := ia_add (y := 1) et_18 (by omega) (by omega)
            refine lv_iinc (v := t_18) (lv' := [(5, .int t_18), (3, .int t_17), (4, .int 0), (2, .int x10_1), (0, .ref tp), (1, .ref (K 4))]) hx hb dX8_whichWord_108 hl (k := 2) rfl et_18 (by decide) rfl (fun ls hl => ?_)
            refine lv_goto (tgt := 10) hx hb dX8_whichWord_111 (by decide) ?_
            exact ih10 (t_18, x10_1, t_17, 0) (show 0 ≤ t_18.toInt ∧ t_18.toInt ≤ 4 ∧ 0 ≤ x10_1.toInt ∧ x10_1.toInt ≤ 4 ∧ 0 ≤ t_17.toInt ∧ t_17.toInt ≤ 4 ∧ 0 ≤ (0 : Int32).toInt ∧ (0 : Int32).toInt ≤ 1 ∧ x10_1.toInt ≤ t_18.toInt ∧ t_17.toInt ≤ t_18.toInt from ⟨by omega, by omega, by omega, by omega, by omega, by omega, by omega, by omega, by omega, by omega⟩) (show (4 - t_18.toInt).toNat < (4 - x10_0.toInt).toNat by omega) H locs wt ls hT hW hP hD hS (lv_sub hl [0, 2, 1, 3, 4, 5] rfl)
          · rw [Int32.le_iff_toInt_le] at c_16
            refine lv_aload_n hx hb dX8_whichWord_78 rfl (lv_at hl 4 rfl) ?_
            refine gq_get hx hb ht hown hK hP i_X8 0 rfl rfl 0 (by decide) wd_156 rfl rfl dX8_whichWord_79 ?_
            refine lv_aload_n hx hb dX8_whichWord_82 rfl (lv_at hl 4 rfl) ?_
            refine gq_get hx hb ht hown hK hP i_X8 0 rfl rfl 2 (by decide) wd_158 rfl rfl dX8_whichWord_83 ?_
            refine lv_iload_n hx hb dX8_whichWord_86 rfl (lv_at hl 2 rfl) ?_
            obtain ⟨t_19, et_19⟩ : ∃ zz_ : Int32, at_ + x10_2 = zz_ := ⟨_, rfl⟩
            refine gq_iadd hx hb t_19 et_19 dX8_whichWord_87 ?_
            have ft_19 := ia_add et_19 (by omega) (by omega)
            obtain ⟨n_20, en_20⟩ : ∃ zz_ : Int32, bf (Int32.toNatClampNeg t_19) = zz_ := ⟨_, rfl⟩
            refine gq_iald hx hb hK hP 1 rfl n_20 (ia_in (n := 400) (by omega) (by omega)) en_20 dX8_whichWord_88 ?_
            refine lv_aload_n hx hb dX8_whichWord_89 rfl (lv_at hl 5 rfl) ?_
            refine lv_iload hx hb dX8_whichWord_90 (lv_at hl 0 rfl) ?_
            refine gt_callI (wr := [(tp, .inr (8, [.ref bp, .int n, .int at_, .int w_, .int fl])), (bp, .inl (G.2.2 0, 400, .inl bf))]) (va_runV (As := [.int x10_0]) (rest := [.int n_20]) ⟨hx, hb, hml, hown, ht⟩ (d_char4 l G Γ H.size wt hT K V x10_0 (by omega) (by omega)) (cwV 1 ht (ts_gV wd_601 wd_602 wd_603 wd_135 wd_604) rfl rfl rfl (by decide +kernel) ⟨Nat.le_of_ble_eq_true rfl, Nat.le_of_ble_eq_true rfl⟩) (gx_preK 4 (by decide) hK (tw_right hP) (tw_rightD hD) hX hS (tw_free hD hS hA)) rfl rfl hl.1 rfl (lv_room (Nat.le_of_ble_eq_true rfl)) dX8_whichWord_92 ⟨Nat.le_of_ble_eq_true rfl, Nat.le_of_ble_eq_true rfl⟩) hP hD hS hA (fun r_21 wt H locs hw hP hD hS => ?_)
            obtain ⟨hT, hkp, rp_r_21⟩ := hw
            have hW := hW.call (show ∀ x ∈ [], x ∈ [] by decide) hkp
            have hP : va_P (gg_D G) classes ([(tp, .inr (8, [.ref bp, .int n, .int at_, .int w_, .int fl])), (bp, .inl (G.2.2 0, 400, .inl bf))] ++ wt) H := hP
            have hD : va_D A ([(tp, .inr (8, [.ref bp, .int n, .int at_, .int w_, .int fl])), (bp, .inl (G.2.2 0, 400, .inl bf))] ++ wt) := hD
            refine lv_icmp_ne (tgt := 102) hx hb dX8_whichWord_95 (by decide) (fun c_22 => ?_) (fun c_22 => ?_)
            · rw [← Int32.toInt_inj] at c_22
              refine lv_iconst (v := 0) hx hb dX8_whichWord_102 (by decide +kernel) ?_
              refine lv_istore (lv' := [(4, .int 0), (5, .int x10_0), (3, .int x10_2), (2, .int x10_1), (0, .ref tp), (1, .ref (K 4))]) hx hb dX8_whichWord_103 hl (by decide) rfl (fun ls hl => ?_)
              obtain ⟨t_23, et_23⟩ : ∃ zz_ : Int32, x10_2 + Int32.ofInt (1) = zz_ := ⟨_, rfl⟩
              have ft_23 : t_23.toInt = x10_2.toInt + (1 : Int32).toInt := ia_add (y := 1) et_23 (by omega) (by omega)
              refine lv_iinc (v := t_23) (lv' := [(3, .int t_23), (4, .int 0), (5, .int x10_0), (2, .int x10_1), (0, .ref tp), (1, .ref (K 4))]) hx hb dX8_whichWord_105 hl (k := 2) rfl et_23 (by decide) rfl (fun ls hl => ?_)
              obtain ⟨t_24, et_24⟩ : ∃ zz_ : Int32, x10_0 + Int32.ofInt (1) = zz_ := ⟨_, rfl⟩
              have ft_24 : t_24.toInt = x10_0.toInt + (1 : Int32).toInt := ia_add (y := 1) et_24 (by omega) (by omega)
              refine lv_iinc (v := t_24) (lv' := [(5, .int t_24), (3, .int t_23), (4, .int 0), (2, .int x10_1), (0, .ref tp), (1, .ref (K 4))]) hx hb dX8_whichWord_108 hl (k := 2) rfl et_24 (by decide) rfl (fun ls hl => ?_)
              refine lv_goto (tgt := 10) hx hb dX8_whichWord_111 (by decide) ?_
              exact ih10 (t_24, x10_1, t_23, 0) (show 0 ≤ t_24.toInt ∧ t_24.toInt ≤ 4 ∧ 0 ≤ x10_1.toInt ∧ x10_1.toInt ≤ 4 ∧ 0 ≤ t_23.toInt ∧ t_23.toInt ≤ 4 ∧ 0 ≤ (0 : Int32).toInt ∧ (0 : Int32).toInt ≤ 1 ∧ x10_1.toInt ≤ t_24.toInt ∧ t_23.toInt ≤ t_24.toInt from ⟨by omega, by omega, by omega, by omega, by omega, by omega, by omega, by omega, by omega, by omega⟩) (show (4 - t_24.toInt).toNat < (4 - x10_0.toInt).toNat by omega) H locs wt ls hT hW hP hD hS (lv_sub hl [0, 2, 1, 3, 4, 5] rfl)
            · rw [← Int32.toInt_inj] at c_22
              refine lv_iconst (v := 1) hx hb dX8_whichWord_98 (by decide +kernel) ?_
              refine lv_goto (tgt := 103) hx hb dX8_whichWord_99 (by decide) ?_
              refine lv_istore (lv' := [(4, .int 1), (5, .int x10_0), (3, .int x10_2), (2, .int x10_1), (0, .ref tp), (1, .ref (K 4))]) hx hb dX8_whichWord_103 hl (by decide) rfl (fun ls hl => ?_)
              obtain ⟨t_25, et_25⟩ : ∃ zz_ : Int32, x10_2 + Int32.ofInt (1) = zz_ := ⟨_, rfl⟩
              have ft_25 : t_25.toInt = x10_2.toInt + (1 : Int32).toInt := ia_add (y := 1) et_25 (by omega) (by omega)
              refine lv_iinc (v := t_25) (lv' := [(3, .int t_25), (4, .int 1), (5, .int x10_0), (2, .int x10_1), (0, .ref tp), (1, .ref (K 4))]) hx hb dX8_whichWord_105 hl (k := 2) rfl et_25 (by decide) rfl (fun ls hl => ?_)
              obtain ⟨t_26, et_26⟩ : ∃ zz_ : Int32, x10_0 + Int32.ofInt (1) = zz_ := ⟨_, rfl⟩
              have ft_26 : t_26.toInt = x10_0.toInt + (1 : Int32).toInt := ia_add (y := 1) et_26 (by omega) (by omega)
              refine lv_iinc (v := t_26) (lv' := [(5, .int t_26), (3, .int t_25), (4, .int 1), (2, .int x10_1), (0, .ref tp), (1, .ref (K 4))]) hx hb dX8_whichWord_108 hl (k := 2) rfl et_26 (by decide) rfl (fun ls hl => ?_)
              refine lv_goto (tgt := 10) hx hb dX8_whichWord_111 (by decide) ?_
              exact ih10 (t_26, x10_1, t_25, 1) (show 0 ≤ t_26.toInt ∧ t_26.toInt ≤ 4 ∧ 0 ≤ x10_1.toInt ∧ x10_1.toInt ≤ 4 ∧ 0 ≤ t_25.toInt ∧ t_25.toInt ≤ 4 ∧ 0 ≤ (1 : Int32).toInt ∧ (1 : Int32).toInt ≤ 1 ∧ x10_1.toInt ≤ t_26.toInt ∧ t_25.toInt ≤ t_26.toInt from ⟨by omega, by omega, by omega, by omega, by omega, by omega, by omega, by omega, by omega, by omega⟩) (show (4 - t_26.toInt).toNat < (4 - x10_0.toInt).toNat by omega) H locs wt ls hT hW hP hD hS (lv_sub hl [0, 2, 1, 3, 4, 5] rfl)
      · rw [← Int32.toInt_inj] at c_12
        refine lv_iload hx hb dX8_whichWord_39 (lv_at hl 1 rfl) ?_
        refine lv_if_eq (tgt := 54) hx hb dX8_whichWord_41 (by decide) (fun c_27 => ?_) (fun c_27 => ?_)
        · rw [← Int32.toInt_inj] at c_27
          obtain ⟨t_28, et_28⟩ : ∃ zz_ : Int32, x10_1 + Int32.ofInt (1) = zz_ := ⟨_, rfl⟩
          have ft_28 : t_28.toInt = x10_1.toInt + (1 : Int32).toInt := ia_add (y := 1) et_28 (by omega) (by omega)
          refine lv_iinc (v := t_28) (lv' := [(2, .int t_28), (5, .int x10_0), (4, .int x10_3), (3, .int x10_2), (0, .ref tp), (1, .ref (K 4))]) hx hb dX8_whichWord_54 hl (k := 3) rfl et_28 (by decide) rfl (fun ls hl => ?_)
          refine lv_iconst (v := 0) hx hb dX8_whichWord_57 (by decide +kernel) ?_
          refine lv_istore_n (lv' := [(3, .int 0), (2, .int t_28), (5, .int x10_0), (4, .int x10_3), (0, .ref tp), (1, .ref (K 4))]) hx hb dX8_whichWord_58 rfl hl (by decide) rfl (fun ls hl => ?_)
          refine lv_iconst (v := 1) hx hb dX8_whichWord_59 (by decide +kernel) ?_
          refine lv_istore (lv' := [(4, .int 1), (3, .int 0), (2, .int t_28), (5, .int x10_0), (0, .ref tp), (1, .ref (K 4))]) hx hb dX8_whichWord_60 hl (by decide) rfl (fun ls hl => ?_)
          refine lv_goto (tgt := 108) hx hb dX8_whichWord_62 (by decide) ?_
          obtain ⟨t_29, et_29⟩ : ∃ zz_ : Int32, x10_0 + Int32.ofInt (1) = zz_ := ⟨_, rfl⟩
          have ft_29 : t_29.toInt = x10_0.toInt + (1 : Int32).toInt := ia_add (y := 1) et_29 (by omega) (by omega)
          refine lv_iinc (v := t_29) (lv' := [(5, .int t_29), (4, .int 1), (3, .int 0), (2, .int t_28), (0, .ref tp), (1, .ref (K 4))]) hx hb dX8_whichWord_108 hl (k := 3) rfl et_29 (by decide) rfl (fun ls hl => ?_)
          refine lv_goto (tgt := 10) hx hb dX8_whichWord_111 (by decide) ?_
          exact ih10 (t_29, t_28, 0, 1) (show 0 ≤ t_29.toInt ∧ t_29.toInt ≤ 4 ∧ 0 ≤ t_28.toInt ∧ t_28.toInt ≤ 4 ∧ 0 ≤ (0 : Int32).toInt ∧ (0 : Int32).toInt ≤ 4 ∧ 0 ≤ (1 : Int32).toInt ∧ (1 : Int32).toInt ≤ 1 ∧ t_28.toInt ≤ t_29.toInt ∧ (0 : Int32).toInt ≤ t_29.toInt from ⟨by omega, by omega, by omega, by omega, by omega, by omega, by omega, by omega, by omega, by omega⟩) (show (4 - t_29.toInt).toNat < (4 - x10_0.toInt).toNat by omega) H locs wt ls hT hW hP hD hS (lv_sub hl [0, 1, 2, 3, 4, 5] rfl)
        · rw [← Int32.toInt_inj] at c_27
          refine lv_iload_n hx hb dX8_whichWord_44 rfl (lv_at hl 2 rfl) ?_
          refine lv_aload_n hx hb dX8_whichWord_45 rfl (lv_at hl 4 rfl) ?_
          refine gq_get hx hb ht hown hK hP i_X8 0 rfl rfl 3 (by decide) wd_159 rfl rfl dX8_whichWord_46 ?_
          refine lv_icmp_ne (tgt := 54) hx hb dX8_whichWord_49 (by decide) (fun c_30 => ?_) (fun c_30 => ?_)
          · rw [← Int32.toInt_inj] at c_30
            obtain ⟨t_31, et_31⟩ : ∃ zz_ : Int32, x10_1 + Int32.ofInt (1) = zz_ := ⟨_, rfl⟩
            have ft_31 : t_31.toInt = x10_1.toInt + (1 : Int32).toInt := ia_add (y := 1) et_31 (by omega) (by omega)
            refine lv_iinc (v := t_31) (lv' := [(2, .int t_31), (5, .int x10_0), (4, .int x10_3), (3, .int x10_2), (0, .ref tp), (1, .ref (K 4))]) hx hb dX8_whichWord_54 hl (k := 3) rfl et_31 (by decide) rfl (fun ls hl => ?_)
            refine lv_iconst (v := 0) hx hb dX8_whichWord_57 (by decide +kernel) ?_
            refine lv_istore_n (lv' := [(3, .int 0), (2, .int t_31), (5, .int x10_0), (4, .int x10_3), (0, .ref tp), (1, .ref (K 4))]) hx hb dX8_whichWord_58 rfl hl (by decide) rfl (fun ls hl => ?_)
            refine lv_iconst (v := 1) hx hb dX8_whichWord_59 (by decide +kernel) ?_
            refine lv_istore (lv' := [(4, .int 1), (3, .int 0), (2, .int t_31), (5, .int x10_0), (0, .ref tp), (1, .ref (K 4))]) hx hb dX8_whichWord_60 hl (by decide) rfl (fun ls hl => ?_)
            refine lv_goto (tgt := 108) hx hb dX8_whichWord_62 (by decide) ?_
            obtain ⟨t_32, et_32⟩ : ∃ zz_ : Int32, x10_0 + Int32.ofInt (1) = zz_ := ⟨_, rfl⟩
            have ft_32 : t_32.toInt = x10_0.toInt + (1 : Int32).toInt := ia_add (y := 1) et_32 (by omega) (by omega)
            refine lv_iinc (v := t_32) (lv' := [(5, .int t_32), (4, .int 1), (3, .int 0), (2, .int t_31), (0, .ref tp), (1, .ref (K 4))]) hx hb dX8_whichWord_108 hl (k := 3) rfl et_32 (by decide) rfl (fun ls hl => ?_)
            refine lv_goto (tgt := 10) hx hb dX8_whichWord_111 (by decide) ?_
            exact ih10 (t_32, t_31, 0, 1) (show 0 ≤ t_32.toInt ∧ t_32.toInt ≤ 4 ∧ 0 ≤ t_31.toInt ∧ t_31.toInt ≤ 4 ∧ 0 ≤ (0 : Int32).toInt ∧ (0 : Int32).toInt ≤ 4 ∧ 0 ≤ (1 : Int32).toInt ∧ (1 : Int32).toInt ≤ 1 ∧ t_31.toInt ≤ t_32.toInt ∧ (0 : Int32).toInt ≤ t_32.toInt from ⟨by omega, by omega, by omega, by omega, by omega, by omega, by omega, by omega, by omega, by omega⟩) (show (4 - t_32.toInt).toNat < (4 - x10_0.toInt).toNat by omega) H locs wt ls hT hW hP hD hS (lv_sub hl [0, 1, 2, 3, 4, 5] rfl)
          · rw [← Int32.toInt_inj] at c_30
            refine lv_iload_n hx hb dX8_whichWord_52 rfl (lv_at hl 3 rfl) ?_
            have hP9 : va_P (gg_D G) classes ([(tp, .inr (8, [.ref bp, .int n, .int at_, .int w_, .int fl])), (bp, .inl (G.2.2 0, 400, .inl bf))] ++ wt) _ := hP
            have hD9 : va_D A ([(tp, .inr (8, [.ref bp, .int n, .int at_, .int w_, .int fl])), (bp, .inl (G.2.2 0, 400, .inl bf))] ++ wt) := hD
            exact W.iret (v := x10_1) hx hb hr (gq_endI wt ⟨hT, hW, (by omega), (by omega)⟩ hP9 hD9 hS) hS.2.2 dX8_whichWord_53
set_option maxHeartbeats 4000000 in
set_option maxRecDepth 100000 in
theorem d_which5 (l : Launch) (G : gg_T) (Γ : Nat → Nat) (sz : Nat) (wt : va_W) (hT : tk_ty G Γ wt) (K : Nat → Nat) (V : Nat → Nat) (tp : Nat) (bp : Nat) (n : Int32) (at_ : Int32) (w_ : Int32) (fl : Int32) (bf : Nat → Int32) (xp1 : 0 ≤ n.toInt) (xp2 : n.toInt ≤ 400) (xp3 : 0 ≤ at_.toInt) (xp4 : 0 ≤ w_.toInt) (xp5 : at_.toInt + w_.toInt ≤ 400) : Met l yX8_whichWord (ts_L yX8_whichWord cX8_whichWord 6 (some .int)) ({ frames := 4, cells := 0, slots := 0, locals := 85 }) (gx_P G K V ([(tp, .inr (8, [.ref bp, .int n, .int at_, .int w_, .int fl])), (bp, .inl (G.2.2 0, 400, .inl bf))] ++ wt) sz [.ref tp, .ref (K 5)]) (gc_I G (va_A ([(tp, .inr (8, [.ref bp, .int n, .int at_, .int w_, .int fl])), (bp, .inl (G.2.2 0, 400, .inl bf))] ++ wt) sz) (fun r (u : va_W) => match u with | wt1 => tk_ty G Γ wt1 ∧ tk_kp [] wt wt1 ∧ -1 ≤ r.toInt ∧ r.toInt ≤ 4) (fun (u : va_W) => match u with | wt1 => [(tp, .inr (8, [.ref bp, .int n, .int at_, .int w_, .int fl])), (bp, .inl (G.2.2 0, 400, .inl bf))] ++ wt1)) 0 0 (va_A ([(tp, .inr (8, [.ref bp, .int n, .int at_, .int w_, .int fl])), (bp, .inl (G.2.2 0, 400, .inl bf))] ++ wt) sz) := by
  refine Met.ofW (cc := cX8_whichWord) (maxL := 6) (ret := (some .int)) (by decide) rfl ?_
  intro p e s m args below meth c s₁ B hml hv
  obtain ⟨rfl, hsz, hP, hK, hD0, hX⟩ := hv
  have hx := B.exec
  have hb := B.bytes
  have hr := B.returns
  have ht := ts_ht (atoms_spec (ws := ts_L yX8_whichWord cX8_whichWord 6 (some .int)) B.pre)
  have hown : s.vm.findClass RX8 = some m.cls := findClass_of_methodNamed B.named
  have hlocks := B.notSynchronized
  subst hsz
  have hD := hD0.self (sz := s.heap.size)
  generalize hAe : va_A ([(tp, .inr (8, [.ref bp, .int n, .int at_, .int w_, .int fl])), (bp, .inl (G.2.2 0, 400, .inl bf))] ++ wt) s.heap.size = A at hD hX ⊢
  have hA : ∀ q : Nat, s.heap.size ≤ q → A q := fun q h => by rw [← hAe]; exact Or.inr h
  clear hAe hD0
  have hS : va_S A s.heap s.heap [] := va_S.rf
  obtain ⟨w0, hw0⟩ : ∃ z, z = wt := ⟨_, rfl⟩
  have hW : tk_kp [] w0 wt := by rw [hw0]; exact tk_kp.rf
  rw [← hw0]
  clear hw0
  have hP : va_P (gg_D G) classes ([(tp, .inr (8, [.ref bp, .int n, .int at_, .int w_, .int fl])), (bp, .inl (G.2.2 0, 400, .inl bf))] ++ wt) s.heap := hP
  have hD : va_D A ([(tp, .inr (8, [.ref bp, .int n, .int at_, .int w_, .int fl])), (bp, .inl (G.2.2 0, 400, .inl bf))] ++ wt) := hD
  have hl := lv_entry ([.ref tp, .ref (K 5)]) (n := 6) (Nat.le_of_ble_eq_true rfl)
  rw [lg_entry_eq]
  generalize (lg_sl ([.ref tp, .ref (K 5)]) ++ List.replicate (6 - (lg_sl ([.ref tp, .ref (K 5)])).length) Slot.unset).toArray = ls at hl ⊢
  have hl : lv_has ls 6 [(0, .ref tp), (1, .ref (K 5))] := hl
  have lm1 : ((-1) : Int32).toInt = -1 := by decide +kernel
  have l0 : (0 : Int32).toInt = 0 := by decide +kernel
  have l1 : (1 : Int32).toInt = 1 := by decide +kernel
  have l3 : (3 : Int32).toInt = 3 := by decide +kernel
  have l32 : (32 : Int32).toInt = 32 := by decide +kernel
  refine lv_iconst (v := 0) hx hb dX8_whichWord_0 (by decide +kernel) ?_
  refine lv_istore_n (lv' := [(2, .int 0), (0, .ref tp), (1, .ref (K 5))]) hx hb dX8_whichWord_1 rfl hl (by decide) rfl (fun ls hl => ?_)
  refine lv_iconst (v := 0) hx hb dX8_whichWord_2 (by decide +kernel) ?_
  refine lv_istore_n (lv' := [(3, .int 0), (2, .int 0), (0, .ref tp), (1, .ref (K 5))]) hx hb dX8_whichWord_3 rfl hl (by decide) rfl (fun ls hl => ?_)
  refine lv_iconst (v := 1) hx hb dX8_whichWord_4 (by decide +kernel) ?_
  refine lv_istore (lv' := [(4, .int 1), (3, .int 0), (2, .int 0), (0, .ref tp), (1, .ref (K 5))]) hx hb dX8_whichWord_5 hl (by decide) rfl (fun ls hl => ?_)
  refine lv_iconst (v := 0) hx hb dX8_whichWord_7 (by decide +kernel) ?_
  refine lv_istore (lv' := [(5, .int 0), (4, .int 1), (3, .int 0), (2, .int 0), (0, .ref tp), (1, .ref (K 5))]) hx hb dX8_whichWord_8 hl (by decide) rfl (fun ls hl => ?_)
  refine tl_loopE (Γ := Γ) (nL := 6) (fun (zz_ : Int32 × Int32 × Int32 × Int32) => match zz_ with | (x10_0, x10_1, x10_2, x10_3) => 0 ≤ x10_0.toInt ∧ x10_0.toInt ≤ 4 ∧ 0 ≤ x10_1.toInt ∧ x10_1.toInt ≤ 4 ∧ 0 ≤ x10_2.toInt ∧ x10_2.toInt ≤ 4 ∧ 0 ≤ x10_3.toInt ∧ x10_3.toInt ≤ 1 ∧ x10_1.toInt ≤ x10_0.toInt ∧ x10_2.toInt ≤ x10_0.toInt) (fun (zz_ : Int32 × Int32 × Int32 × Int32) => match zz_ with | (x10_0, x10_1, x10_2, x10_3) => (4 - x10_0.toInt).toNat) (fun (zz_ : Int32 × Int32 × Int32 × Int32) => match zz_ with | (x10_0, x10_1, x10_2, x10_3) => [(5, .int x10_0), (4, .int x10_3), (3, .int x10_2), (2, .int x10_1), (0, .ref tp), (1, .ref (K 5))]) (fun (zz_ : Int32 × Int32 × Int32 × Int32) => match zz_ with | (x10_0, x10_1, x10_2, x10_3) => [(tp, .inr (8, [.ref bp, .int n, .int at_, .int w_, .int fl])), (bp, .inl (G.2.2 0, 400, .inl bf))]) (fun (zz_ : Int32 × Int32 × Int32 × Int32) (w : va_W) => match zz_ with | (x10_0, x10_1, x10_2, x10_3) => tk_kp [] w0 w) (fun zz_ hI H locs wt ls hT hW hP hD hS hl ih10 => ?_) (0, 0, 0, 1) (show 0 ≤ (0 : Int32).toInt ∧ (0 : Int32).toInt ≤ 4 ∧ 0 ≤ (0 : Int32).toInt ∧ (0 : Int32).toInt ≤ 4 ∧ 0 ≤ (0 : Int32).toInt ∧ (0 : Int32).toInt ≤ 4 ∧ 0 ≤ (1 : Int32).toInt ∧ (1 : Int32).toInt ≤ 1 ∧ (0 : Int32).toInt ≤ (0 : Int32).toInt ∧ (0 : Int32).toInt ≤ (0 : Int32).toInt from ⟨by omega, by omega, by omega, by omega, by omega, by omega, by omega, by omega, by omega, by omega⟩) _ _ wt ls hT hW hP hD hS hl
  obtain ⟨x10_0, x10_1, x10_2, x10_3⟩ := zz_
  have hW : tk_kp [] w0 wt := hW
  have hI : 0 ≤ x10_0.toInt ∧ x10_0.toInt ≤ 4 ∧ 0 ≤ x10_1.toInt ∧ x10_1.toInt ≤ 4 ∧ 0 ≤ x10_2.toInt ∧ x10_2.toInt ≤ 4 ∧ 0 ≤ x10_3.toInt ∧ x10_3.toInt ≤ 1 ∧ x10_1.toInt ≤ x10_0.toInt ∧ x10_2.toInt ≤ x10_0.toInt := hI
  obtain ⟨j10_0, j10_1, j10_2, j10_3, j10_4, j10_5, j10_6, j10_7, j10_8, j10_9⟩ := hI
  have hl : lv_has ls 6 [(5, .int x10_0), (4, .int x10_3), (3, .int x10_2), (2, .int x10_1), (0, .ref tp), (1, .ref (K 5))] := hl
  have hP : va_P (gg_D G) classes ([(tp, .inr (8, [.ref bp, .int n, .int at_, .int w_, .int fl])), (bp, .inl (G.2.2 0, 400, .inl bf))] ++ wt) H := hP
  have hD : va_D A ([(tp, .inr (8, [.ref bp, .int n, .int at_, .int w_, .int fl])), (bp, .inl (G.2.2 0, 400, .inl bf))] ++ wt) := hD
  refine lv_iload hx hb dX8_whichWord_10 (lv_at hl 0 rfl) ?_
  refine lv_aload_n hx hb dX8_whichWord_12 rfl (lv_at hl 5 rfl) ?_
  refine gt_callI (wr := [(tp, .inr (8, [.ref bp, .int n, .int at_, .int w_, .int fl])), (bp, .inl (G.2.2 0, 400, .inl bf))]) (va_runV (As := []) (rest := [.int x10_0]) ⟨hx, hb, hml, hown, ht⟩ (d_length5 l G Γ H.size wt hT K V) (cwV 0 ht (ts_gV wd_591 wd_592 wd_593 wd_135 wd_594) rfl rfl rfl (by decide +kernel) ⟨Nat.le_of_ble_eq_true rfl, Nat.le_of_ble_eq_true rfl⟩) (gx_preK 5 (by decide) hK (tw_right hP) (tw_rightD hD) hX hS (tw_free hD hS hA)) rfl rfl hl.1 rfl (lv_room (Nat.le_of_ble_eq_true rfl)) dX8_whichWord_13 ⟨Nat.le_of_ble_eq_true rfl, Nat.le_of_ble_eq_true rfl⟩) hP hD hS hA (fun r_1 wt H locs hw hP hD hS => ?_)
  obtain ⟨hT, hkp, lo_r_1, hi_r_1⟩ := hw
  have hW := hW.call (show ∀ x ∈ [], x ∈ [] by decide) hkp
  have hP : va_P (gg_D G) classes ([(tp, .inr (8, [.ref bp, .int n, .int at_, .int w_, .int fl])), (bp, .inl (G.2.2 0, 400, .inl bf))] ++ wt) H := hP
  have hD : va_D A ([(tp, .inr (8, [.ref bp, .int n, .int at_, .int w_, .int fl])), (bp, .inl (G.2.2 0, 400, .inl bf))] ++ wt) := hD
  have z_r_1 : r_1 = 3 := by rw [← Int32.toInt_inj]; omega
  subst z_r_1
  refine lv_icmp_gt (tgt := 114) hx hb dX8_whichWord_16 (by decide) (fun c_2 => ?_) (fun c_2 => ?_)
  · rw [Int32.lt_iff_toInt_lt] at c_2
    refine lv_iconst (v := (-1)) hx hb dX8_whichWord_114 (by decide +kernel) ?_
    have hP9 : va_P (gg_D G) classes ([(tp, .inr (8, [.ref bp, .int n, .int at_, .int w_, .int fl])), (bp, .inl (G.2.2 0, 400, .inl bf))] ++ wt) _ := hP
    have hD9 : va_D A ([(tp, .inr (8, [.ref bp, .int n, .int at_, .int w_, .int fl])), (bp, .inl (G.2.2 0, 400, .inl bf))] ++ wt) := hD
    exact W.iret (v := (-1)) hx hb hr (gq_endI wt ⟨hT, hW, (by omega), (by omega)⟩ hP9 hD9 hS) hS.2.2 dX8_whichWord_115
  · rw [Int32.lt_iff_toInt_lt] at c_2
    refine lv_iload hx hb dX8_whichWord_19 (lv_at hl 0 rfl) ?_
    refine lv_aload_n hx hb dX8_whichWord_21 rfl (lv_at hl 5 rfl) ?_
    refine gt_callI (wr := [(tp, .inr (8, [.ref bp, .int n, .int at_, .int w_, .int fl])), (bp, .inl (G.2.2 0, 400, .inl bf))]) (va_runV (As := []) (rest := [.int x10_0]) ⟨hx, hb, hml, hown, ht⟩ (d_length5 l G Γ H.size wt hT K V) (cwV 0 ht (ts_gV wd_591 wd_592 wd_593 wd_135 wd_594) rfl rfl rfl (by decide +kernel) ⟨Nat.le_of_ble_eq_true rfl, Nat.le_of_ble_eq_true rfl⟩) (gx_preK 5 (by decide) hK (tw_right hP) (tw_rightD hD) hX hS (tw_free hD hS hA)) rfl rfl hl.1 rfl (lv_room (Nat.le_of_ble_eq_true rfl)) dX8_whichWord_22 ⟨Nat.le_of_ble_eq_true rfl, Nat.le_of_ble_eq_true rfl⟩) hP hD hS hA (fun r_3 wt H locs hw hP hD hS => ?_)
    obtain ⟨hT, hkp, lo_r_3, hi_r_3⟩ := hw
    have hW := hW.call (show ∀ x ∈ [], x ∈ [] by decide) hkp
    have hP : va_P (gg_D G) classes ([(tp, .inr (8, [.ref bp, .int n, .int at_, .int w_, .int fl])), (bp, .inl (G.2.2 0, 400, .inl bf))] ++ wt) H := hP
    have hD : va_D A ([(tp, .inr (8, [.ref bp, .int n, .int at_, .int w_, .int fl])), (bp, .inl (G.2.2 0, 400, .inl bf))] ++ wt) := hD
    have z_r_3 : r_3 = 3 := by rw [← Int32.toInt_inj]; omega
    subst z_r_3
    refine lv_icmp_eq (tgt := 39) hx hb dX8_whichWord_25 (by decide) (fun c_4 => ?_) (fun c_4 => ?_)
    · rw [← Int32.toInt_inj] at c_4
      refine lv_iload hx hb dX8_whichWord_39 (lv_at hl 1 rfl) ?_
      refine lv_if_eq (tgt := 54) hx hb dX8_whichWord_41 (by decide) (fun c_5 => ?_) (fun c_5 => ?_)
      · rw [← Int32.toInt_inj] at c_5
        obtain ⟨t_6, et_6⟩ : ∃ zz_ : Int32, x10_1 + Int32.ofInt (1) = zz_ := ⟨_, rfl⟩
        have ft_6 : t_6.toInt = x10_1.toInt + (1 : Int32).toInt := ia_add (y := 1) et_6 (by omega) (by omega)
        refine lv_iinc (v := t_6) (lv' := [(2, .int t_6), (5, .int x10_0), (4, .int x10_3), (3, .int x10_2), (0, .ref tp), (1, .ref (K 5))]) hx hb dX8_whichWord_54 hl (k := 3) rfl et_6 (by decide) rfl (fun ls hl => ?_)
        refine lv_iconst (v := 0) hx hb dX8_whichWord_57 (by decide +kernel) ?_
        refine lv_istore_n (lv' := [(3, .int 0), (2, .int t_6), (5, .int x10_0), (4, .int x10_3), (0, .ref tp), (1, .ref (K 5))]) hx hb dX8_whichWord_58 rfl hl (by decide) rfl (fun ls hl => ?_)
        refine lv_iconst (v := 1) hx hb dX8_whichWord_59 (by decide +kernel) ?_
        refine lv_istore (lv' := [(4, .int 1), (3, .int 0), (2, .int t_6), (5, .int x10_0), (0, .ref tp), (1, .ref (K 5))]) hx hb dX8_whichWord_60 hl (by decide) rfl (fun ls hl => ?_)
        refine lv_goto (tgt := 108) hx hb dX8_whichWord_62 (by decide) ?_
        obtain ⟨t_7, et_7⟩ : ∃ zz_ : Int32, x10_0 + Int32.ofInt (1) = zz_ := ⟨_, rfl⟩
        have ft_7 : t_7.toInt = x10_0.toInt + (1 : Int32).toInt := ia_add (y := 1) et_7 (by omega) (by omega)
        refine lv_iinc (v := t_7) (lv' := [(5, .int t_7), (4, .int 1), (3, .int 0), (2, .int t_6), (0, .ref tp), (1, .ref (K 5))]) hx hb dX8_whichWord_108 hl (k := 3) rfl et_7 (by decide) rfl (fun ls hl => ?_)
        refine lv_goto (tgt := 10) hx hb dX8_whichWord_111 (by decide) ?_
        exact ih10 (t_7, t_6, 0, 1) (show 0 ≤ t_7.toInt ∧ t_7.toInt ≤ 4 ∧ 0 ≤ t_6.toInt ∧ t_6.toInt ≤ 4 ∧ 0 ≤ (0 : Int32).toInt ∧ (0 : Int32).toInt ≤ 4 ∧ 0 ≤ (1 : Int32).toInt ∧ (1 : Int32).toInt ≤ 1 ∧ t_6.toInt ≤ t_7.toInt ∧ (0 : Int32).toInt ≤ t_7.toInt from ⟨by omega, by omega, by omega, by omega, by omega, by omega, by omega, by omega, by omega, by omega⟩) (show (4 - t_7.toInt).toNat < (4 - x10_0.toInt).toNat by omega) H locs wt ls hT hW hP hD hS (lv_sub hl [0, 1, 2, 3, 4, 5] rfl)
      · rw [← Int32.toInt_inj] at c_5
        refine lv_iload_n hx hb dX8_whichWord_44 rfl (lv_at hl 2 rfl) ?_
        refine lv_aload_n hx hb dX8_whichWord_45 rfl (lv_at hl 4 rfl) ?_
        refine gq_get hx hb ht hown hK hP i_X8 0 rfl rfl 3 (by decide) wd_159 rfl rfl dX8_whichWord_46 ?_
        refine lv_icmp_ne (tgt := 54) hx hb dX8_whichWord_49 (by decide) (fun c_8 => ?_) (fun c_8 => ?_)
        · rw [← Int32.toInt_inj] at c_8
          obtain ⟨t_9, et_9⟩ : ∃ zz_ : Int32, x10_1 + Int32.ofInt (1) = zz_ := ⟨_, rfl⟩
          have ft_9 : t_9.toInt = x10_1.toInt + (1 : Int32).toInt := ia_add (y := 1) et_9 (by omega) (by omega)
          refine lv_iinc (v := t_9) (lv' := [(2, .int t_9), (5, .int x10_0), (4, .int x10_3), (3, .int x10_2), (0, .ref tp), (1, .ref (K 5))]) hx hb dX8_whichWord_54 hl (k := 3) rfl et_9 (by decide) rfl (fun ls hl => ?_)
          refine lv_iconst (v := 0) hx hb dX8_whichWord_57 (by decide +kernel) ?_
          refine lv_istore_n (lv' := [(3, .int 0), (2, .int t_9), (5, .int x10_0), (4, .int x10_3), (0, .ref tp), (1, .ref (K 5))]) hx hb dX8_whichWord_58 rfl hl (by decide) rfl (fun ls hl => ?_)
          refine lv_iconst (v := 1) hx hb dX8_whichWord_59 (by decide +kernel) ?_
          refine lv_istore (lv' := [(4, .int 1), (3, .int 0), (2, .int t_9), (5, .int x10_0), (0, .ref tp), (1, .ref (K 5))]) hx hb dX8_whichWord_60 hl (by decide) rfl (fun ls hl => ?_)
          refine lv_goto (tgt := 108) hx hb dX8_whichWord_62 (by decide) ?_
          obtain ⟨t_10, et_10⟩ : ∃ zz_ : Int32, x10_0 + Int32.ofInt (1) = zz_ := ⟨_, rfl⟩
          have ft_10 : t_10.toInt = x10_0.toInt + (1 : Int32).toInt := ia_add (y := 1) et_10 (by omega) (by omega)
          refine lv_iinc (v := t_10) (lv' := [(5, .int t_10), (4, .int 1), (3, .int 0), (2, .int t_9), (0, .ref tp), (1, .ref (K 5))]) hx hb dX8_whichWord_108 hl (k := 3) rfl et_10 (by decide) rfl (fun ls hl => ?_)
          refine lv_goto (tgt := 10) hx hb dX8_whichWord_111 (by decide) ?_
          exact ih10 (t_10, t_9, 0, 1) (show 0 ≤ t_10.toInt ∧ t_10.toInt ≤ 4 ∧ 0 ≤ t_9.toInt ∧ t_9.toInt ≤ 4 ∧ 0 ≤ (0 : Int32).toInt ∧ (0 : Int32).toInt ≤ 4 ∧ 0 ≤ (1 : Int32).toInt ∧ (1 : Int32).toInt ≤ 1 ∧ t_9.toInt ≤ t_10.toInt ∧ (0 : Int32).toInt ≤ t_10.toInt from ⟨by omega, by omega, by omega, by omega, by omega, by omega, by omega, by omega, by omega, by omega⟩) (show (4 - t_10.toInt).toNat < (4 - x10_0.toInt).toNat by omega) H locs wt ls hT hW hP hD hS (lv_sub hl [0, 1, 2, 3, 4, 5] rfl)
        · rw [← Int32.toInt_inj] at c_8
          refine lv_iload_n hx hb dX8_whichWord_52 rfl (lv_at hl 3 rfl) ?_
          have hP9 : va_P (gg_D G) classes ([(tp, .inr (8, [.ref bp, .int n, .int at_, .int w_, .int fl])), (bp, .inl (G.2.2 0, 400, .inl bf))] ++ wt) _ := hP
          have hD9 : va_D A ([(tp, .inr (8, [.ref bp, .int n, .int at_, .int w_, .int fl])), (bp, .inl (G.2.2 0, 400, .inl bf))] ++ wt) := hD
          exact W.iret (v := x10_1) hx hb hr (gq_endI wt ⟨hT, hW, (by omega), (by omega)⟩ hP9 hD9 hS) hS.2.2 dX8_whichWord_53
    · rw [← Int32.toInt_inj] at c_4
      refine lv_aload_n hx hb dX8_whichWord_28 rfl (lv_at hl 5 rfl) ?_
      refine lv_iload hx hb dX8_whichWord_29 (lv_at hl 0 rfl) ?_
      refine gt_callI (wr := [(tp, .inr (8, [.ref bp, .int n, .int at_, .int w_, .int fl])), (bp, .inl (G.2.2 0, 400, .inl bf))]) (va_runV (As := [.int x10_0]) (rest := []) ⟨hx, hb, hml, hown, ht⟩ (d_char5 l G Γ H.size wt hT K V x10_0 (by omega) (by omega)) (cwV 1 ht (ts_gV wd_601 wd_602 wd_603 wd_135 wd_604) rfl rfl rfl (by decide +kernel) ⟨Nat.le_of_ble_eq_true rfl, Nat.le_of_ble_eq_true rfl⟩) (gx_preK 5 (by decide) hK (tw_right hP) (tw_rightD hD) hX hS (tw_free hD hS hA)) rfl rfl hl.1 rfl (lv_room (Nat.le_of_ble_eq_true rfl)) dX8_whichWord_31 ⟨Nat.le_of_ble_eq_true rfl, Nat.le_of_ble_eq_true rfl⟩) hP hD hS hA (fun r_11 wt H locs hw hP hD hS => ?_)
      obtain ⟨hT, hkp, rp_r_11⟩ := hw
      have hW := hW.call (show ∀ x ∈ [], x ∈ [] by decide) hkp
      have hP : va_P (gg_D G) classes ([(tp, .inr (8, [.ref bp, .int n, .int at_, .int w_, .int fl])), (bp, .inl (G.2.2 0, 400, .inl bf))] ++ wt) H := hP
      have hD : va_D A ([(tp, .inr (8, [.ref bp, .int n, .int at_, .int w_, .int fl])), (bp, .inl (G.2.2 0, 400, .inl bf))] ++ wt) := hD
      refine lv_bipush (v := 32) hx hb dX8_whichWord_34 (by decide +kernel) ?_
      refine lv_icmp_ne (tgt := 65) hx hb dX8_whichWord_36 (by decide) (fun c_12 => ?_) (fun c_12 => ?_)
      · rw [← Int32.toInt_inj] at c_12
        refine lv_iload hx hb dX8_whichWord_65 (lv_at hl 1 rfl) ?_
        refine lv_if_eq (tgt := 102) hx hb dX8_whichWord_67 (by decide) (fun c_13 => ?_) (fun c_13 => ?_)
        · rw [← Int32.toInt_inj] at c_13
          refine lv_iconst (v := 0) hx hb dX8_whichWord_102 (by decide +kernel) ?_
          refine lv_istore (lv' := [(4, .int 0), (5, .int x10_0), (3, .int x10_2), (2, .int x10_1), (0, .ref tp), (1, .ref (K 5))]) hx hb dX8_whichWord_103 hl (by decide) rfl (fun ls hl => ?_)
          obtain ⟨t_14, et_14⟩ : ∃ zz_ : Int32, x10_2 + Int32.ofInt (1) = zz_ := ⟨_, rfl⟩
          have ft_14 : t_14.toInt = x10_2.toInt + (1 : Int32).toInt := ia_add (y := 1) et_14 (by omega) (by omega)
          refine lv_iinc (v := t_14) (lv' := [(3, .int t_14), (4, .int 0), (5, .int x10_0), (2, .int x10_1), (0, .ref tp), (1, .ref (K 5))]) hx hb dX8_whichWord_105 hl (k := 2) rfl et_14 (by decide) rfl (fun ls hl => ?_)
          obtain ⟨t_15, et_15⟩ : ∃ zz_ : Int32, x10_0 + Int32.ofInt (1) = zz_ := ⟨_, rfl⟩
          have ft_15 : t_15.toInt = x10_0.toInt + (1 : Int32).toInt := ia_add (y := 1) et_15 (by omega) (by omega)
          refine lv_iinc (v := t_15) (lv' := [(5, .int t_15), (3, .int t_14), (4, .int 0), (2, .int x10_1), (0, .ref tp), (1, .ref (K 5))]) hx hb dX8_whichWord_108 hl (k := 2) rfl et_15 (by decide) rfl (fun ls hl => ?_)
          refine lv_goto (tgt := 10) hx hb dX8_whichWord_111 (by decide) ?_
          exact ih10 (t_15, x10_1, t_14, 0) (show 0 ≤ t_15.toInt ∧ t_15.toInt ≤ 4 ∧ 0 ≤ x10_1.toInt ∧ x10_1.toInt ≤ 4 ∧ 0 ≤ t_14.toInt ∧ t_14.toInt ≤ 4 ∧ 0 ≤ (0 : Int32).toInt ∧ (0 : Int32).toInt ≤ 1 ∧ x10_1.toInt ≤ t_15.toInt ∧ t_14.toInt ≤ t_15.toInt from ⟨by omega, by omega, by omega, by omega, by omega, by omega, by omega, by omega, by omega, by omega⟩) (show (4 - t_15.toInt).toNat < (4 - x10_0.toInt).toNat by omega) H locs wt ls hT hW hP hD hS (lv_sub hl [0, 2, 1, 3, 4, 5] rfl)
        · rw [← Int32.toInt_inj] at c_13
          refine lv_iload_n hx hb dX8_whichWord_70 rfl (lv_at hl 2 rfl) ?_
          refine lv_aload_n hx hb dX8_whichWord_71 rfl (lv_at hl 4 rfl) ?_
          refine gq_get hx hb ht hown hK hP i_X8 0 rfl rfl 3 (by decide) wd_159 rfl rfl dX8_whichWord_72 ?_
          refine lv_icmp_ge (tgt := 102) hx hb dX8_whichWord_75 (by decide) (fun c_16 => ?_) (fun c_16 => ?_)
          · rw [Int32.le_iff_toInt_le] at c_16
            refine lv_iconst (v := 0) hx hb dX8_whichWord_102 (by decide +kernel) ?_
            refine lv_istore (lv' := [(4, .int 0), (5, .int x10_0), (3, .int x10_2), (2, .int x10_1), (0, .ref tp), (1, .ref (K 5))]) hx hb dX8_whichWord_103 hl (by decide) rfl (fun ls hl => ?_)
            obtain ⟨t_17, et_17⟩ : ∃ zz_ : Int32, x10_2 + Int32.ofInt (1) = zz_ := ⟨_, rfl⟩
            have ft_17 : t_17.toInt = x10_2.toInt + (1 : Int32).toInt := ia_add (y := 1) et_17 (by omega) (by omega)
            refine lv_iinc (v := t_17) (lv' := [(3, .int t_17), (4, .int 0), (5, .int x10_0), (2, .int x10_1), (0, .ref tp), (1, .ref (K 5))]) hx hb dX8_whichWord_105 hl (k := 2) rfl et_17 (by decide) rfl (fun ls hl => ?_)
            obtain ⟨t_18, et_18⟩ : ∃ zz_ : Int32, x10_0 + Int32.ofInt (1) = zz_ := ⟨_, rfl⟩
            have ft_18 : t_18.toInt = x10_0.toInt + (1 : Int32).toInt := ia_add (y := 1) et_18 (by omega) (by omega)
            refine lv_iinc (v := t_18) (lv' := [(5, .int t_18), (3, .int t_17), (4, .int 0), (2, .int x10_1), (0, .ref tp), (1, .ref (K 5))]) hx hb dX8_whichWord_108 hl (k := 2) rfl et_18 (by decide) rfl (fun ls hl => ?_)
            refine lv_goto (tgt := 10) hx hb dX8_whichWord_111 (by decide) ?_
            exact ih10 (t_18, x10_1, t_17, 0) (show 0 ≤ t_18.toInt ∧ t_18.toInt ≤ 4 ∧ 0 ≤ x10_1.toInt ∧ x10_1.toInt ≤ 4 ∧ 0 ≤ t_17.toInt ∧ t_17.toInt ≤ 4 ∧ 0 ≤ (0 : Int32).toInt ∧ (0 : Int32).toInt ≤ 1 ∧ x10_1.toInt ≤ t_18.toInt ∧ t_17.toInt ≤ t_18.toInt from ⟨by omega, by omega, by omega, by omega, by omega, by omega, by omega, by omega, by omega, by omega⟩) (show (4 - t_18.toInt).toNat < (4 - x10_0.toInt).toNat by omega) H locs wt ls hT hW hP hD hS (lv_sub hl [0, 2, 1, 3, 4, 5] rfl)
          · rw [Int32.le_iff_toInt_le] at c_16
            refine lv_aload_n hx hb dX8_whichWord_78 rfl (lv_at hl 4 rfl) ?_
            refine gq_get hx hb ht hown hK hP i_X8 0 rfl rfl 0 (by decide) wd_156 rfl rfl dX8_whichWord_79 ?_
            refine lv_aload_n hx hb dX8_whichWord_82 rfl (lv_at hl 4 rfl) ?_
            refine gq_get hx hb ht hown hK hP i_X8 0 rfl rfl 2 (by decide) wd_158 rfl rfl dX8_whichWord_83 ?_
            refine lv_iload_n hx hb dX8_whichWord_86 rfl (lv_at hl 2 rfl) ?_
            obtain ⟨t_19, et_19⟩ : ∃ zz_ : Int32, at_ + x10_2 = zz_ := ⟨_, rfl⟩
            refine gq_iadd hx hb t_19 et_19 dX8_whichWord_87 ?_
            have ft_19 := ia_add et_19 (by omega) (by omega)
            obtain ⟨n_20, en_20⟩ : ∃ zz_ : Int32, bf (Int32.toNatClampNeg t_19) = zz_ := ⟨_, rfl⟩
            refine gq_iald hx hb hK hP 1 rfl n_20 (ia_in (n := 400) (by omega) (by omega)) en_20 dX8_whichWord_88 ?_
            refine lv_aload_n hx hb dX8_whichWord_89 rfl (lv_at hl 5 rfl) ?_
            refine lv_iload hx hb dX8_whichWord_90 (lv_at hl 0 rfl) ?_
            refine gt_callI (wr := [(tp, .inr (8, [.ref bp, .int n, .int at_, .int w_, .int fl])), (bp, .inl (G.2.2 0, 400, .inl bf))]) (va_runV (As := [.int x10_0]) (rest := [.int n_20]) ⟨hx, hb, hml, hown, ht⟩ (d_char5 l G Γ H.size wt hT K V x10_0 (by omega) (by omega)) (cwV 1 ht (ts_gV wd_601 wd_602 wd_603 wd_135 wd_604) rfl rfl rfl (by decide +kernel) ⟨Nat.le_of_ble_eq_true rfl, Nat.le_of_ble_eq_true rfl⟩) (gx_preK 5 (by decide) hK (tw_right hP) (tw_rightD hD) hX hS (tw_free hD hS hA)) rfl rfl hl.1 rfl (lv_room (Nat.le_of_ble_eq_true rfl)) dX8_whichWord_92 ⟨Nat.le_of_ble_eq_true rfl, Nat.le_of_ble_eq_true rfl⟩) hP hD hS hA (fun r_21 wt H locs hw hP hD hS => ?_)
            obtain ⟨hT, hkp, rp_r_21⟩ := hw
            have hW := hW.call (show ∀ x ∈ [], x ∈ [] by decide) hkp
            have hP : va_P (gg_D G) classes ([(tp, .inr (8, [.ref bp, .int n, .int at_, .int w_, .int fl])), (bp, .inl (G.2.2 0, 400, .inl bf))] ++ wt) H := hP
            have hD : va_D A ([(tp, .inr (8, [.ref bp, .int n, .int at_, .int w_, .int fl])), (bp, .inl (G.2.2 0, 400, .inl bf))] ++ wt) := hD
            refine lv_icmp_ne (tgt := 102) hx hb dX8_whichWord_95 (by decide) (fun c_22 => ?_) (fun c_22 => ?_)
            · rw [← Int32.toInt_inj] at c_22
              refine lv_iconst (v := 0) hx hb dX8_whichWord_102 (by decide +kernel) ?_
              refine lv_istore (lv' := [(4, .int 0), (5, .int x10_0), (3, .int x10_2), (2, .int x10_1), (0, .ref tp), (1, .ref (K 5))]) hx hb dX8_whichWord_103 hl (by decide) rfl (fun ls hl => ?_)
              obtain ⟨t_23, et_23⟩ : ∃ zz_ : Int32, x10_2 + Int32.ofInt (1) = zz_ := ⟨_, rfl⟩
              have ft_23 : t_23.toInt = x10_2.toInt + (1 : Int32).toInt := ia_add (y := 1) et_23 (by omega) (by omega)
              refine lv_iinc (v := t_23) (lv' := [(3, .int t_23), (4, .int 0), (5, .int x10_0), (2, .int x10_1), (0, .ref tp), (1, .ref (K 5))]) hx hb dX8_whichWord_105 hl (k := 2) rfl et_23 (by decide) rfl (fun ls hl => ?_)
              obtain ⟨t_24, et_24⟩ : ∃ zz_ : Int32, x10_0 + Int32.ofInt (1) = zz_ := ⟨_, rfl⟩
              have ft_24 : t_24.toInt = x10_0.toInt + (1 : Int32).toInt := ia_add (y := 1) et_24 (by omega) (by omega)
              refine lv_iinc (v := t_24) (lv' := [(5, .int t_24), (3, .int t_23), (4, .int 0), (2, .int x10_1), (0, .ref tp), (1, .ref (K 5))]) hx hb dX8_whichWord_108 hl (k := 2) rfl et_24 (by decide) rfl (fun ls hl => ?_)
              refine lv_goto (tgt := 10) hx hb dX8_whichWord_111 (by decide) ?_
              exact ih10 (t_24, x10_1, t_23, 0) (show 0 ≤ t_24.toInt ∧ t_24.toInt ≤ 4 ∧ 0 ≤ x10_1.toInt ∧ x10_1.toInt ≤ 4 ∧ 0 ≤ t_23.toInt ∧ t_23.toInt ≤ 4 ∧ 0 ≤ (0 : Int32).toInt ∧ (0 : Int32).toInt ≤ 1 ∧ x10_1.toInt ≤ t_24.toInt ∧ t_23.toInt ≤ t_24.toInt from ⟨by omega, by omega, by omega, by omega, by omega, by omega, by omega, by omega, by omega, by omega⟩) (show (4 - t_24.toInt).toNat < (4 - x10_0.toInt).toNat by omega) H locs wt ls hT hW hP hD hS (lv_sub hl [0, 2, 1, 3, 4, 5] rfl)
            · rw [← Int32.toInt_inj] at c_22
              refine lv_iconst (v := 1) hx hb dX8_whichWord_98 (by decide +kernel) ?_
              refine lv_goto (tgt := 103) hx hb dX8_whichWord_99 (by decide) ?_
              refine lv_istore (lv' := [(4, .int 1), (5, .int x10_0), (3, .int x10_2), (2, .int x10_1), (0, .ref tp), (1, .ref (K 5))]) hx hb dX8_whichWord_103 hl (by decide) rfl (fun ls hl => ?_)
              obtain ⟨t_25, et_25⟩ : ∃ zz_ : Int32, x10_2 + Int32.ofInt (1) = zz_ := ⟨_, rfl⟩
              have ft_25 : t_25.toInt = x10_2.toInt + (1 : Int32).toInt := ia_add (y := 1) et_25 (by omega) (by omega)
              refine lv_iinc (v := t_25) (lv' := [(3, .int t_25), (4, .int 1), (5, .int x10_0), (2, .int x10_1), (0, .ref tp), (1, .ref (K 5))]) hx hb dX8_whichWord_105 hl (k := 2) rfl et_25 (by decide) rfl (fun ls hl => ?_)
              obtain ⟨t_26, et_26⟩ : ∃ zz_ : Int32, x10_0 + Int32.ofInt (1) = zz_ := ⟨_, rfl⟩
              have ft_26 : t_26.toInt = x10_0.toInt + (1 : Int32).toInt := ia_add (y := 1) et_26 (by omega) (by omega)
              refine lv_iinc (v := t_26) (lv' := [(5, .int t_26), (3, .int t_25), (4, .int 1), (2, .int x10_1), (0, .ref tp), (1, .ref (K 5))]) hx hb dX8_whichWord_108 hl (k := 2) rfl et_26 (by decide) rfl (fun ls hl => ?_)
              refine lv_goto (tgt := 10) hx hb dX8_whichWord_111 (by decide) ?_
              exact ih10 (t_26, x10_1, t_25, 1) (show 0 ≤ t_26.toInt ∧ t_26.toInt ≤ 4 ∧ 0 ≤ x10_1.toInt ∧ x10_1.toInt ≤ 4 ∧ 0 ≤ t_25.toInt ∧ t_25.toInt ≤ 4 ∧ 0 ≤ (1 : Int32).toInt ∧ (1 : Int32).toInt ≤ 1 ∧ x10_1.toInt ≤ t_26.toInt ∧ t_25.toInt ≤ t_26.toInt from ⟨by omega, by omega, by omega, by omega, by omega, by omega, by omega, by omega, by omega, by omega⟩) (show (4 - t_26.toInt).toNat < (4 - x10_0.toInt).toNat by omega) H locs wt ls hT hW hP hD hS (lv_sub hl [0, 2, 1, 3, 4, 5] rfl)
      · rw [← Int32.toInt_inj] at c_12
        refine lv_iload hx hb dX8_whichWord_39 (lv_at hl 1 rfl) ?_
        refine lv_if_eq (tgt := 54) hx hb dX8_whichWord_41 (by decide) (fun c_27 => ?_) (fun c_27 => ?_)
        · rw [← Int32.toInt_inj] at c_27
          obtain ⟨t_28, et_28⟩ : ∃ zz_ : Int32, x10_1 + Int32.ofInt (1) = zz_ := ⟨_, rfl⟩
          have ft_28 : t_28.toInt = x10_1.toInt + (1 : Int32).toInt := ia_add (y := 1) et_28 (by omega) (by omega)
          refine lv_iinc (v := t_28) (lv' := [(2, .int t_28), (5, .int x10_0), (4, .int x10_3), (3, .int x10_2), (0, .ref tp), (1, .ref (K 5))]) hx hb dX8_whichWord_54 hl (k := 3) rfl et_28 (by decide) rfl (fun ls hl => ?_)
          refine lv_iconst (v := 0) hx hb dX8_whichWord_57 (by decide +kernel) ?_
          refine lv_istore_n (lv' := [(3, .int 0), (2, .int t_28), (5, .int x10_0), (4, .int x10_3), (0, .ref tp), (1, .ref (K 5))]) hx hb dX8_whichWord_58 rfl hl (by decide) rfl (fun ls hl => ?_)
          refine lv_iconst (v := 1) hx hb dX8_whichWord_59 (by decide +kernel) ?_
          refine lv_istore (lv' := [(4, .int 1), (3, .int 0), (2, .int t_28), (5, .int x10_0), (0, .ref tp), (1, .ref (K 5))]) hx hb dX8_whichWord_60 hl (by decide) rfl (fun ls hl => ?_)
          refine lv_goto (tgt := 108) hx hb dX8_whichWord_62 (by decide) ?_
          obtain ⟨t_29, et_29⟩ : ∃ zz_ : Int32, x10_0 + Int32.ofInt (1) = zz_ := ⟨_, rfl⟩
          have ft_29 : t_29.toInt = x10_0.toInt + (1 : Int32).toInt := ia_add (y := 1) et_29 (by omega) (by omega)
          refine lv_iinc (v := t_29) (lv' := [(5, .int t_29), (4, .int 1), (3, .int 0), (2, .int t_28), (0, .ref tp), (1, .ref (K 5))]) hx hb dX8_whichWord_108 hl (k := 3) rfl et_29 (by decide) rfl (fun ls hl => ?_)
          refine lv_goto (tgt := 10) hx hb dX8_whichWord_111 (by decide) ?_
          exact ih10 (t_29, t_28, 0, 1) (show 0 ≤ t_29.toInt ∧ t_29.toInt ≤ 4 ∧ 0 ≤ t_28.toInt ∧ t_28.toInt ≤ 4 ∧ 0 ≤ (0 : Int32).toInt ∧ (0 : Int32).toInt ≤ 4 ∧ 0 ≤ (1 : Int32).toInt ∧ (1 : Int32).toInt ≤ 1 ∧ t_28.toInt ≤ t_29.toInt ∧ (0 : Int32).toInt ≤ t_29.toInt from ⟨by omega, by omega, by omega, by omega, by omega, by omega, by omega, by omega, by omega, by omega⟩) (show (4 - t_29.toInt).toNat < (4 - x10_0.toInt).toNat by omega) H locs wt ls hT hW hP hD hS (lv_sub hl [0, 1, 2, 3, 4, 5] rfl)
        · rw [← Int32.toInt_inj] at c_27
          refine lv_iload_n hx hb dX8_whichWord_44 rfl (lv_at hl 2 rfl) ?_
          refine lv_aload_n hx hb dX8_whichWord_45 rfl (lv_at hl 4 rfl) ?_
          refine gq_get hx hb ht hown hK hP i_X8 0 rfl rfl 3 (by decide) wd_159 rfl rfl dX8_whichWord_46 ?_
          refine lv_icmp_ne (tgt := 54) hx hb dX8_whichWord_49 (by decide) (fun c_30 => ?_) (fun c_30 => ?_)
          · rw [← Int32.toInt_inj] at c_30
            obtain ⟨t_31, et_31⟩ : ∃ zz_ : Int32, x10_1 + Int32.ofInt (1) = zz_ := ⟨_, rfl⟩
            have ft_31 : t_31.toInt = x10_1.toInt + (1 : Int32).toInt := ia_add (y := 1) et_31 (by omega) (by omega)
            refine lv_iinc (v := t_31) (lv' := [(2, .int t_31), (5, .int x10_0), (4, .int x10_3), (3, .int x10_2), (0, .ref tp), (1, .ref (K 5))]) hx hb dX8_whichWord_54 hl (k := 3) rfl et_31 (by decide) rfl (fun ls hl => ?_)
            refine lv_iconst (v := 0) hx hb dX8_whichWord_57 (by decide +kernel) ?_
            refine lv_istore_n (lv' := [(3, .int 0), (2, .int t_31), (5, .int x10_0), (4, .int x10_3), (0, .ref tp), (1, .ref (K 5))]) hx hb dX8_whichWord_58 rfl hl (by decide) rfl (fun ls hl => ?_)
            refine lv_iconst (v := 1) hx hb dX8_whichWord_59 (by decide +kernel) ?_
            refine lv_istore (lv' := [(4, .int 1), (3, .int 0), (2, .int t_31), (5, .int x10_0), (0, .ref tp), (1, .ref (K 5))]) hx hb dX8_whichWord_60 hl (by decide) rfl (fun ls hl => ?_)
            refine lv_goto (tgt := 108) hx hb dX8_whichWord_62 (by decide) ?_
            obtain ⟨t_32, et_32⟩ : ∃ zz_ : Int32, x10_0 + Int32.ofInt (1) = zz_ := ⟨_, rfl⟩
            have ft_32 : t_32.toInt = x10_0.toInt + (1 : Int32).toInt := ia_add (y := 1) et_32 (by omega) (by omega)
            refine lv_iinc (v := t_32) (lv' := [(5, .int t_32), (4, .int 1), (3, .int 0), (2, .int t_31), (0, .ref tp), (1, .ref (K 5))]) hx hb dX8_whichWord_108 hl (k := 3) rfl et_32 (by decide) rfl (fun ls hl => ?_)
            refine lv_goto (tgt := 10) hx hb dX8_whichWord_111 (by decide) ?_
            exact ih10 (t_32, t_31, 0, 1) (show 0 ≤ t_32.toInt ∧ t_32.toInt ≤ 4 ∧ 0 ≤ t_31.toInt ∧ t_31.toInt ≤ 4 ∧ 0 ≤ (0 : Int32).toInt ∧ (0 : Int32).toInt ≤ 4 ∧ 0 ≤ (1 : Int32).toInt ∧ (1 : Int32).toInt ≤ 1 ∧ t_31.toInt ≤ t_32.toInt ∧ (0 : Int32).toInt ≤ t_32.toInt from ⟨by omega, by omega, by omega, by omega, by omega, by omega, by omega, by omega, by omega, by omega⟩) (show (4 - t_32.toInt).toNat < (4 - x10_0.toInt).toNat by omega) H locs wt ls hT hW hP hD hS (lv_sub hl [0, 1, 2, 3, 4, 5] rfl)
          · rw [← Int32.toInt_inj] at c_30
            refine lv_iload_n hx hb dX8_whichWord_52 rfl (lv_at hl 3 rfl) ?_
            have hP9 : va_P (gg_D G) classes ([(tp, .inr (8, [.ref bp, .int n, .int at_, .int w_, .int fl])), (bp, .inl (G.2.2 0, 400, .inl bf))] ++ wt) _ := hP
            have hD9 : va_D A ([(tp, .inr (8, [.ref bp, .int n, .int at_, .int w_, .int fl])), (bp, .inl (G.2.2 0, 400, .inl bf))] ++ wt) := hD
            exact W.iret (v := x10_1) hx hb hr (gq_endI wt ⟨hT, hW, (by omega), (by omega)⟩ hP9 hD9 hS) hS.2.2 dX8_whichWord_53
set_option maxHeartbeats 4000000 in
set_option maxRecDepth 100000 in
theorem d_which6 (l : Launch) (G : gg_T) (Γ : Nat → Nat) (sz : Nat) (wt : va_W) (hT : tk_ty G Γ wt) (K : Nat → Nat) (V : Nat → Nat) (tp : Nat) (bp : Nat) (n : Int32) (at_ : Int32) (w_ : Int32) (fl : Int32) (bf : Nat → Int32) (xp1 : 0 ≤ n.toInt) (xp2 : n.toInt ≤ 400) (xp3 : 0 ≤ at_.toInt) (xp4 : 0 ≤ w_.toInt) (xp5 : at_.toInt + w_.toInt ≤ 400) : Met l yX8_whichWord (ts_L yX8_whichWord cX8_whichWord 6 (some .int)) ({ frames := 4, cells := 0, slots := 0, locals := 85 }) (gx_P G K V ([(tp, .inr (8, [.ref bp, .int n, .int at_, .int w_, .int fl])), (bp, .inl (G.2.2 0, 400, .inl bf))] ++ wt) sz [.ref tp, .ref (K 6)]) (gc_I G (va_A ([(tp, .inr (8, [.ref bp, .int n, .int at_, .int w_, .int fl])), (bp, .inl (G.2.2 0, 400, .inl bf))] ++ wt) sz) (fun r (u : va_W) => match u with | wt1 => tk_ty G Γ wt1 ∧ tk_kp [] wt wt1 ∧ -1 ≤ r.toInt ∧ r.toInt ≤ 3) (fun (u : va_W) => match u with | wt1 => [(tp, .inr (8, [.ref bp, .int n, .int at_, .int w_, .int fl])), (bp, .inl (G.2.2 0, 400, .inl bf))] ++ wt1)) 0 0 (va_A ([(tp, .inr (8, [.ref bp, .int n, .int at_, .int w_, .int fl])), (bp, .inl (G.2.2 0, 400, .inl bf))] ++ wt) sz) := by
  refine Met.ofW (cc := cX8_whichWord) (maxL := 6) (ret := (some .int)) (by decide) rfl ?_
  intro p e s m args below meth c s₁ B hml hv
  obtain ⟨rfl, hsz, hP, hK, hD0, hX⟩ := hv
  have hx := B.exec
  have hb := B.bytes
  have hr := B.returns
  have ht := ts_ht (atoms_spec (ws := ts_L yX8_whichWord cX8_whichWord 6 (some .int)) B.pre)
  have hown : s.vm.findClass RX8 = some m.cls := findClass_of_methodNamed B.named
  have hlocks := B.notSynchronized
  subst hsz
  have hD := hD0.self (sz := s.heap.size)
  generalize hAe : va_A ([(tp, .inr (8, [.ref bp, .int n, .int at_, .int w_, .int fl])), (bp, .inl (G.2.2 0, 400, .inl bf))] ++ wt) s.heap.size = A at hD hX ⊢
  have hA : ∀ q : Nat, s.heap.size ≤ q → A q := fun q h => by rw [← hAe]; exact Or.inr h
  clear hAe hD0
  have hS : va_S A s.heap s.heap [] := va_S.rf
  obtain ⟨w0, hw0⟩ : ∃ z, z = wt := ⟨_, rfl⟩
  have hW : tk_kp [] w0 wt := by rw [hw0]; exact tk_kp.rf
  rw [← hw0]
  clear hw0
  have hP : va_P (gg_D G) classes ([(tp, .inr (8, [.ref bp, .int n, .int at_, .int w_, .int fl])), (bp, .inl (G.2.2 0, 400, .inl bf))] ++ wt) s.heap := hP
  have hD : va_D A ([(tp, .inr (8, [.ref bp, .int n, .int at_, .int w_, .int fl])), (bp, .inl (G.2.2 0, 400, .inl bf))] ++ wt) := hD
  have hl := lv_entry ([.ref tp, .ref (K 6)]) (n := 6) (Nat.le_of_ble_eq_true rfl)
  rw [lg_entry_eq]
  generalize (lg_sl ([.ref tp, .ref (K 6)]) ++ List.replicate (6 - (lg_sl ([.ref tp, .ref (K 6)])).length) Slot.unset).toArray = ls at hl ⊢
  have hl : lv_has ls 6 [(0, .ref tp), (1, .ref (K 6))] := hl
  have lm1 : ((-1) : Int32).toInt = -1 := by decide +kernel
  have l0 : (0 : Int32).toInt = 0 := by decide +kernel
  have l1 : (1 : Int32).toInt = 1 := by decide +kernel
  have l2 : (2 : Int32).toInt = 2 := by decide +kernel
  have l32 : (32 : Int32).toInt = 32 := by decide +kernel
  refine lv_iconst (v := 0) hx hb dX8_whichWord_0 (by decide +kernel) ?_
  refine lv_istore_n (lv' := [(2, .int 0), (0, .ref tp), (1, .ref (K 6))]) hx hb dX8_whichWord_1 rfl hl (by decide) rfl (fun ls hl => ?_)
  refine lv_iconst (v := 0) hx hb dX8_whichWord_2 (by decide +kernel) ?_
  refine lv_istore_n (lv' := [(3, .int 0), (2, .int 0), (0, .ref tp), (1, .ref (K 6))]) hx hb dX8_whichWord_3 rfl hl (by decide) rfl (fun ls hl => ?_)
  refine lv_iconst (v := 1) hx hb dX8_whichWord_4 (by decide +kernel) ?_
  refine lv_istore (lv' := [(4, .int 1), (3, .int 0), (2, .int 0), (0, .ref tp), (1, .ref (K 6))]) hx hb dX8_whichWord_5 hl (by decide) rfl (fun ls hl => ?_)
  refine lv_iconst (v := 0) hx hb dX8_whichWord_7 (by decide +kernel) ?_
  refine lv_istore (lv' := [(5, .int 0), (4, .int 1), (3, .int 0), (2, .int 0), (0, .ref tp), (1, .ref (K 6))]) hx hb dX8_whichWord_8 hl (by decide) rfl (fun ls hl => ?_)
  refine tl_loopE (Γ := Γ) (nL := 6) (fun (zz_ : Int32 × Int32 × Int32 × Int32) => match zz_ with | (x10_0, x10_1, x10_2, x10_3) => 0 ≤ x10_0.toInt ∧ x10_0.toInt ≤ 3 ∧ 0 ≤ x10_1.toInt ∧ x10_1.toInt ≤ 3 ∧ 0 ≤ x10_2.toInt ∧ x10_2.toInt ≤ 3 ∧ 0 ≤ x10_3.toInt ∧ x10_3.toInt ≤ 1 ∧ x10_1.toInt ≤ x10_0.toInt ∧ x10_2.toInt ≤ x10_0.toInt) (fun (zz_ : Int32 × Int32 × Int32 × Int32) => match zz_ with | (x10_0, x10_1, x10_2, x10_3) => (3 - x10_0.toInt).toNat) (fun (zz_ : Int32 × Int32 × Int32 × Int32) => match zz_ with | (x10_0, x10_1, x10_2, x10_3) => [(5, .int x10_0), (4, .int x10_3), (3, .int x10_2), (2, .int x10_1), (0, .ref tp), (1, .ref (K 6))]) (fun (zz_ : Int32 × Int32 × Int32 × Int32) => match zz_ with | (x10_0, x10_1, x10_2, x10_3) => [(tp, .inr (8, [.ref bp, .int n, .int at_, .int w_, .int fl])), (bp, .inl (G.2.2 0, 400, .inl bf))]) (fun (zz_ : Int32 × Int32 × Int32 × Int32) (w : va_W) => match zz_ with | (x10_0, x10_1, x10_2, x10_3) => tk_kp [] w0 w) (fun zz_ hI H locs wt ls hT hW hP hD hS hl ih10 => ?_) (0, 0, 0, 1) (show 0 ≤ (0 : Int32).toInt ∧ (0 : Int32).toInt ≤ 3 ∧ 0 ≤ (0 : Int32).toInt ∧ (0 : Int32).toInt ≤ 3 ∧ 0 ≤ (0 : Int32).toInt ∧ (0 : Int32).toInt ≤ 3 ∧ 0 ≤ (1 : Int32).toInt ∧ (1 : Int32).toInt ≤ 1 ∧ (0 : Int32).toInt ≤ (0 : Int32).toInt ∧ (0 : Int32).toInt ≤ (0 : Int32).toInt from ⟨by omega, by omega, by omega, by omega, by omega, by omega, by omega, by omega, by omega, by omega⟩) _ _ wt ls hT hW hP hD hS hl
  obtain ⟨x10_0, x10_1, x10_2, x10_3⟩ := zz_
  have hW : tk_kp [] w0 wt := hW
  have hI : 0 ≤ x10_0.toInt ∧ x10_0.toInt ≤ 3 ∧ 0 ≤ x10_1.toInt ∧ x10_1.toInt ≤ 3 ∧ 0 ≤ x10_2.toInt ∧ x10_2.toInt ≤ 3 ∧ 0 ≤ x10_3.toInt ∧ x10_3.toInt ≤ 1 ∧ x10_1.toInt ≤ x10_0.toInt ∧ x10_2.toInt ≤ x10_0.toInt := hI
  obtain ⟨j10_0, j10_1, j10_2, j10_3, j10_4, j10_5, j10_6, j10_7, j10_8, j10_9⟩ := hI
  have hl : lv_has ls 6 [(5, .int x10_0), (4, .int x10_3), (3, .int x10_2), (2, .int x10_1), (0, .ref tp), (1, .ref (K 6))] := hl
  have hP : va_P (gg_D G) classes ([(tp, .inr (8, [.ref bp, .int n, .int at_, .int w_, .int fl])), (bp, .inl (G.2.2 0, 400, .inl bf))] ++ wt) H := hP
  have hD : va_D A ([(tp, .inr (8, [.ref bp, .int n, .int at_, .int w_, .int fl])), (bp, .inl (G.2.2 0, 400, .inl bf))] ++ wt) := hD
  refine lv_iload hx hb dX8_whichWord_10 (lv_at hl 0 rfl) ?_
  refine lv_aload_n hx hb dX8_whichWord_12 rfl (lv_at hl 5 rfl) ?_
  refine gt_callI (wr := [(tp, .inr (8, [.ref bp, .int n, .int at_, .int w_, .int fl])), (bp, .inl (G.2.2 0, 400, .inl bf))]) (va_runV (As := []) (rest := [.int x10_0]) ⟨hx, hb, hml, hown, ht⟩ (d_length6 l G Γ H.size wt hT K V) (cwV 0 ht (ts_gV wd_591 wd_592 wd_593 wd_135 wd_594) rfl rfl rfl (by decide +kernel) ⟨Nat.le_of_ble_eq_true rfl, Nat.le_of_ble_eq_true rfl⟩) (gx_preK 6 (by decide) hK (tw_right hP) (tw_rightD hD) hX hS (tw_free hD hS hA)) rfl rfl hl.1 rfl (lv_room (Nat.le_of_ble_eq_true rfl)) dX8_whichWord_13 ⟨Nat.le_of_ble_eq_true rfl, Nat.le_of_ble_eq_true rfl⟩) hP hD hS hA (fun r_1 wt H locs hw hP hD hS => ?_)
  obtain ⟨hT, hkp, lo_r_1, hi_r_1⟩ := hw
  have hW := hW.call (show ∀ x ∈ [], x ∈ [] by decide) hkp
  have hP : va_P (gg_D G) classes ([(tp, .inr (8, [.ref bp, .int n, .int at_, .int w_, .int fl])), (bp, .inl (G.2.2 0, 400, .inl bf))] ++ wt) H := hP
  have hD : va_D A ([(tp, .inr (8, [.ref bp, .int n, .int at_, .int w_, .int fl])), (bp, .inl (G.2.2 0, 400, .inl bf))] ++ wt) := hD
  have z_r_1 : r_1 = 2 := by rw [← Int32.toInt_inj]; omega
  subst z_r_1
  refine lv_icmp_gt (tgt := 114) hx hb dX8_whichWord_16 (by decide) (fun c_2 => ?_) (fun c_2 => ?_)
  · rw [Int32.lt_iff_toInt_lt] at c_2
    refine lv_iconst (v := (-1)) hx hb dX8_whichWord_114 (by decide +kernel) ?_
    have hP9 : va_P (gg_D G) classes ([(tp, .inr (8, [.ref bp, .int n, .int at_, .int w_, .int fl])), (bp, .inl (G.2.2 0, 400, .inl bf))] ++ wt) _ := hP
    have hD9 : va_D A ([(tp, .inr (8, [.ref bp, .int n, .int at_, .int w_, .int fl])), (bp, .inl (G.2.2 0, 400, .inl bf))] ++ wt) := hD
    exact W.iret (v := (-1)) hx hb hr (gq_endI wt ⟨hT, hW, (by omega), (by omega)⟩ hP9 hD9 hS) hS.2.2 dX8_whichWord_115
  · rw [Int32.lt_iff_toInt_lt] at c_2
    refine lv_iload hx hb dX8_whichWord_19 (lv_at hl 0 rfl) ?_
    refine lv_aload_n hx hb dX8_whichWord_21 rfl (lv_at hl 5 rfl) ?_
    refine gt_callI (wr := [(tp, .inr (8, [.ref bp, .int n, .int at_, .int w_, .int fl])), (bp, .inl (G.2.2 0, 400, .inl bf))]) (va_runV (As := []) (rest := [.int x10_0]) ⟨hx, hb, hml, hown, ht⟩ (d_length6 l G Γ H.size wt hT K V) (cwV 0 ht (ts_gV wd_591 wd_592 wd_593 wd_135 wd_594) rfl rfl rfl (by decide +kernel) ⟨Nat.le_of_ble_eq_true rfl, Nat.le_of_ble_eq_true rfl⟩) (gx_preK 6 (by decide) hK (tw_right hP) (tw_rightD hD) hX hS (tw_free hD hS hA)) rfl rfl hl.1 rfl (lv_room (Nat.le_of_ble_eq_true rfl)) dX8_whichWord_22 ⟨Nat.le_of_ble_eq_true rfl, Nat.le_of_ble_eq_true rfl⟩) hP hD hS hA (fun r_3 wt H locs hw hP hD hS => ?_)
    obtain ⟨hT, hkp, lo_r_3, hi_r_3⟩ := hw
    have hW := hW.call (show ∀ x ∈ [], x ∈ [] by decide) hkp
    have hP : va_P (gg_D G) classes ([(tp, .inr (8, [.ref bp, .int n, .int at_, .int w_, .int fl])), (bp, .inl (G.2.2 0, 400, .inl bf))] ++ wt) H := hP
    have hD : va_D A ([(tp, .inr (8, [.ref bp, .int n, .int at_, .int w_, .int fl])), (bp, .inl (G.2.2 0, 400, .inl bf))] ++ wt) := hD
    have z_r_3 : r_3 = 2 := by rw [← Int32.toInt_inj]; omega
    subst z_r_3
    refine lv_icmp_eq (tgt := 39) hx hb dX8_whichWord_25 (by decide) (fun c_4 => ?_) (fun c_4 => ?_)
    · rw [← Int32.toInt_inj] at c_4
      refine lv_iload hx hb dX8_whichWord_39 (lv_at hl 1 rfl) ?_
      refine lv_if_eq (tgt := 54) hx hb dX8_whichWord_41 (by decide) (fun c_5 => ?_) (fun c_5 => ?_)
      · rw [← Int32.toInt_inj] at c_5
        obtain ⟨t_6, et_6⟩ : ∃ zz_ : Int32, x10_1 + Int32.ofInt (1) = zz_ := ⟨_, rfl⟩
        have ft_6 : t_6.toInt = x10_1.toInt + (1 : Int32).toInt := ia_add (y := 1) et_6 (by omega) (by omega)
        refine lv_iinc (v := t_6) (lv' := [(2, .int t_6), (5, .int x10_0), (4, .int x10_3), (3, .int x10_2), (0, .ref tp), (1, .ref (K 6))]) hx hb dX8_whichWord_54 hl (k := 3) rfl et_6 (by decide) rfl (fun ls hl => ?_)
        refine lv_iconst (v := 0) hx hb dX8_whichWord_57 (by decide +kernel) ?_
        refine lv_istore_n (lv' := [(3, .int 0), (2, .int t_6), (5, .int x10_0), (4, .int x10_3), (0, .ref tp), (1, .ref (K 6))]) hx hb dX8_whichWord_58 rfl hl (by decide) rfl (fun ls hl => ?_)
        refine lv_iconst (v := 1) hx hb dX8_whichWord_59 (by decide +kernel) ?_
        refine lv_istore (lv' := [(4, .int 1), (3, .int 0), (2, .int t_6), (5, .int x10_0), (0, .ref tp), (1, .ref (K 6))]) hx hb dX8_whichWord_60 hl (by decide) rfl (fun ls hl => ?_)
        refine lv_goto (tgt := 108) hx hb dX8_whichWord_62 (by decide) ?_
        obtain ⟨t_7, et_7⟩ : ∃ zz_ : Int32, x10_0 + Int32.ofInt (1) = zz_ := ⟨_, rfl⟩
        have ft_7 : t_7.toInt = x10_0.toInt + (1 : Int32).toInt := ia_add (y := 1) et_7 (by omega) (by omega)
        refine lv_iinc (v := t_7) (lv' := [(5, .int t_7), (4, .int 1), (3, .int 0), (2, .int t_6), (0, .ref tp), (1, .ref (K 6))]) hx hb dX8_whichWord_108 hl (k := 3) rfl et_7 (by decide) rfl (fun ls hl => ?_)
        refine lv_goto (tgt := 10) hx hb dX8_whichWord_111 (by decide) ?_
        exact ih10 (t_7, t_6, 0, 1) (show 0 ≤ t_7.toInt ∧ t_7.toInt ≤ 3 ∧ 0 ≤ t_6.toInt ∧ t_6.toInt ≤ 3 ∧ 0 ≤ (0 : Int32).toInt ∧ (0 : Int32).toInt ≤ 3 ∧ 0 ≤ (1 : Int32).toInt ∧ (1 : Int32).toInt ≤ 1 ∧ t_6.toInt ≤ t_7.toInt ∧ (0 : Int32).toInt ≤ t_7.toInt from ⟨by omega, by omega, by omega, by omega, by omega, by omega, by omega, by omega, by omega, by omega⟩) (show (3 - t_7.toInt).toNat < (3 - x10_0.toInt).toNat by omega) H locs wt ls hT hW hP hD hS (lv_sub hl [0, 1, 2, 3, 4, 5] rfl)
      · rw [← Int32.toInt_inj] at c_5
        refine lv_iload_n hx hb dX8_whichWord_44 rfl (lv_at hl 2 rfl) ?_
        refine lv_aload_n hx hb dX8_whichWord_45 rfl (lv_at hl 4 rfl) ?_
        refine gq_get hx hb ht hown hK hP i_X8 0 rfl rfl 3 (by decide) wd_159 rfl rfl dX8_whichWord_46 ?_
        refine lv_icmp_ne (tgt := 54) hx hb dX8_whichWord_49 (by decide) (fun c_8 => ?_) (fun c_8 => ?_)
        · rw [← Int32.toInt_inj] at c_8
          obtain ⟨t_9, et_9⟩ : ∃ zz_ : Int32, x10_1 + Int32.ofInt (1) = zz_ := ⟨_, rfl⟩
          have ft_9 : t_9.toInt = x10_1.toInt + (1 : Int32).toInt := ia_add (y := 1) et_9 (by omega) (by omega)
          refine lv_iinc (v := t_9) (lv' := [(2, .int t_9), (5, .int x10_0), (4, .int x10_3), (3, .int x10_2), (0, .ref tp), (1, .ref (K 6))]) hx hb dX8_whichWord_54 hl (k := 3) rfl et_9 (by decide) rfl (fun ls hl => ?_)
          refine lv_iconst (v := 0) hx hb dX8_whichWord_57 (by decide +kernel) ?_
          refine lv_istore_n (lv' := [(3, .int 0), (2, .int t_9), (5, .int x10_0), (4, .int x10_3), (0, .ref tp), (1, .ref (K 6))]) hx hb dX8_whichWord_58 rfl hl (by decide) rfl (fun ls hl => ?_)
          refine lv_iconst (v := 1) hx hb dX8_whichWord_59 (by decide +kernel) ?_
          refine lv_istore (lv' := [(4, .int 1), (3, .int 0), (2, .int t_9), (5, .int x10_0), (0, .ref tp), (1, .ref (K 6))]) hx hb dX8_whichWord_60 hl (by decide) rfl (fun ls hl => ?_)
          refine lv_goto (tgt := 108) hx hb dX8_whichWord_62 (by decide) ?_
          obtain ⟨t_10, et_10⟩ : ∃ zz_ : Int32, x10_0 + Int32.ofInt (1) = zz_ := ⟨_, rfl⟩
          have ft_10 : t_10.toInt = x10_0.toInt + (1 : Int32).toInt := ia_add (y := 1) et_10 (by omega) (by omega)
          refine lv_iinc (v := t_10) (lv' := [(5, .int t_10), (4, .int 1), (3, .int 0), (2, .int t_9), (0, .ref tp), (1, .ref (K 6))]) hx hb dX8_whichWord_108 hl (k := 3) rfl et_10 (by decide) rfl (fun ls hl => ?_)
          refine lv_goto (tgt := 10) hx hb dX8_whichWord_111 (by decide) ?_
          exact ih10 (t_10, t_9, 0, 1) (show 0 ≤ t_10.toInt ∧ t_10.toInt ≤ 3 ∧ 0 ≤ t_9.toInt ∧ t_9.toInt ≤ 3 ∧ 0 ≤ (0 : Int32).toInt ∧ (0 : Int32).toInt ≤ 3 ∧ 0 ≤ (1 : Int32).toInt ∧ (1 : Int32).toInt ≤ 1 ∧ t_9.toInt ≤ t_10.toInt ∧ (0 : Int32).toInt ≤ t_10.toInt from ⟨by omega, by omega, by omega, by omega, by omega, by omega, by omega, by omega, by omega, by omega⟩) (show (3 - t_10.toInt).toNat < (3 - x10_0.toInt).toNat by omega) H locs wt ls hT hW hP hD hS (lv_sub hl [0, 1, 2, 3, 4, 5] rfl)
        · rw [← Int32.toInt_inj] at c_8
          refine lv_iload_n hx hb dX8_whichWord_52 rfl (lv_at hl 3 rfl) ?_
          have hP9 : va_P (gg_D G) classes ([(tp, .inr (8, [.ref bp, .int n, .int at_, .int w_, .int fl])), (bp, .inl (G.2.2 0, 400, .inl bf))] ++ wt) _ := hP
          have hD9 : va_D A ([(tp, .inr (8, [.ref bp, .int n, .int at_, .int w_, .int fl])), (bp, .inl (G.2.2 0, 400, .inl bf))] ++ wt) := hD
          exact W.iret (v := x10_1) hx hb hr (gq_endI wt ⟨hT, hW, (by omega), (by omega)⟩ hP9 hD9 hS) hS.2.2 dX8_whichWord_53
    · rw [← Int32.toInt_inj] at c_4
      refine lv_aload_n hx hb dX8_whichWord_28 rfl (lv_at hl 5 rfl) ?_
      refine lv_iload hx hb dX8_whichWord_29 (lv_at hl 0 rfl) ?_
      refine gt_callI (wr := [(tp, .inr (8, [.ref bp, .int n, .int at_, .int w_, .int fl])), (bp, .inl (G.2.2 0, 400, .inl bf))]) (va_runV (As := [.int x10_0]) (rest := []) ⟨hx, hb, hml, hown, ht⟩ (d_char6 l G Γ H.size wt hT K V x10_0 (by omega) (by omega)) (cwV 1 ht (ts_gV wd_601 wd_602 wd_603 wd_135 wd_604) rfl rfl rfl (by decide +kernel) ⟨Nat.le_of_ble_eq_true rfl, Nat.le_of_ble_eq_true rfl⟩) (gx_preK 6 (by decide) hK (tw_right hP) (tw_rightD hD) hX hS (tw_free hD hS hA)) rfl rfl hl.1 rfl (lv_room (Nat.le_of_ble_eq_true rfl)) dX8_whichWord_31 ⟨Nat.le_of_ble_eq_true rfl, Nat.le_of_ble_eq_true rfl⟩) hP hD hS hA (fun r_11 wt H locs hw hP hD hS => ?_)
      obtain ⟨hT, hkp, rp_r_11⟩ := hw
      have hW := hW.call (show ∀ x ∈ [], x ∈ [] by decide) hkp
      have hP : va_P (gg_D G) classes ([(tp, .inr (8, [.ref bp, .int n, .int at_, .int w_, .int fl])), (bp, .inl (G.2.2 0, 400, .inl bf))] ++ wt) H := hP
      have hD : va_D A ([(tp, .inr (8, [.ref bp, .int n, .int at_, .int w_, .int fl])), (bp, .inl (G.2.2 0, 400, .inl bf))] ++ wt) := hD
      refine lv_bipush (v := 32) hx hb dX8_whichWord_34 (by decide +kernel) ?_
      refine lv_icmp_ne (tgt := 65) hx hb dX8_whichWord_36 (by decide) (fun c_12 => ?_) (fun c_12 => ?_)
      · rw [← Int32.toInt_inj] at c_12
        refine lv_iload hx hb dX8_whichWord_65 (lv_at hl 1 rfl) ?_
        refine lv_if_eq (tgt := 102) hx hb dX8_whichWord_67 (by decide) (fun c_13 => ?_) (fun c_13 => ?_)
        · rw [← Int32.toInt_inj] at c_13
          refine lv_iconst (v := 0) hx hb dX8_whichWord_102 (by decide +kernel) ?_
          refine lv_istore (lv' := [(4, .int 0), (5, .int x10_0), (3, .int x10_2), (2, .int x10_1), (0, .ref tp), (1, .ref (K 6))]) hx hb dX8_whichWord_103 hl (by decide) rfl (fun ls hl => ?_)
          obtain ⟨t_14, et_14⟩ : ∃ zz_ : Int32, x10_2 + Int32.ofInt (1) = zz_ := ⟨_, rfl⟩
          have ft_14 : t_14.toInt = x10_2.toInt + (1 : Int32).toInt := ia_add (y := 1) et_14 (by omega) (by omega)
          refine lv_iinc (v := t_14) (lv' := [(3, .int t_14), (4, .int 0), (5, .int x10_0), (2, .int x10_1), (0, .ref tp), (1, .ref (K 6))]) hx hb dX8_whichWord_105 hl (k := 2) rfl et_14 (by decide) rfl (fun ls hl => ?_)
          obtain ⟨t_15, et_15⟩ : ∃ zz_ : Int32, x10_0 + Int32.ofInt (1) = zz_ := ⟨_, rfl⟩
          have ft_15 : t_15.toInt = x10_0.toInt + (1 : Int32).toInt := ia_add (y := 1) et_15 (by omega) (by omega)
          refine lv_iinc (v := t_15) (lv' := [(5, .int t_15), (3, .int t_14), (4, .int 0), (2, .int x10_1), (0, .ref tp), (1, .ref (K 6))]) hx hb dX8_whichWord_108 hl (k := 2) rfl et_15 (by decide) rfl (fun ls hl => ?_)
          refine lv_goto (tgt := 10) hx hb dX8_whichWord_111 (by decide) ?_
          exact ih10 (t_15, x10_1, t_14, 0) (show 0 ≤ t_15.toInt ∧ t_15.toInt ≤ 3 ∧ 0 ≤ x10_1.toInt ∧ x10_1.toInt ≤ 3 ∧ 0 ≤ t_14.toInt ∧ t_14.toInt ≤ 3 ∧ 0 ≤ (0 : Int32).toInt ∧ (0 : Int32).toInt ≤ 1 ∧ x10_1.toInt ≤ t_15.toInt ∧ t_14.toInt ≤ t_15.toInt from ⟨by omega, by omega, by omega, by omega, by omega, by omega, by omega, by omega, by omega, by omega⟩) (show (3 - t_15.toInt).toNat < (3 - x10_0.toInt).toNat by omega) H locs wt ls hT hW hP hD hS (lv_sub hl [0, 2, 1, 3, 4, 5] rfl)
        · rw [← Int32.toInt_inj] at c_13
          refine lv_iload_n hx hb dX8_whichWord_70 rfl (lv_at hl 2 rfl) ?_
          refine lv_aload_n hx hb dX8_whichWord_71 rfl (lv_at hl 4 rfl) ?_
          refine gq_get hx hb ht hown hK hP i_X8 0 rfl rfl 3 (by decide) wd_159 rfl rfl dX8_whichWord_72 ?_
          refine lv_icmp_ge (tgt := 102) hx hb dX8_whichWord_75 (by decide) (fun c_16 => ?_) (fun c_16 => ?_)
          · rw [Int32.le_iff_toInt_le] at c_16
            refine lv_iconst (v := 0) hx hb dX8_whichWord_102 (by decide +kernel) ?_
            refine lv_istore (lv' := [(4, .int 0), (5, .int x10_0), (3, .int x10_2), (2, .int x10_1), (0, .ref tp), (1, .ref (K 6))]) hx hb dX8_whichWord_103 hl (by decide) rfl (fun ls hl => ?_)
            obtain ⟨t_17, et_17⟩ : ∃ zz_ : Int32, x10_2 + Int32.ofInt (1) = zz_ := ⟨_, rfl⟩
            have ft_17 : t_17.toInt = x10_2.toInt + (1 : Int32).toInt := ia_add (y := 1) et_17 (by omega) (by omega)
            refine lv_iinc (v := t_17) (lv' := [(3, .int t_17), (4, .int 0), (5, .int x10_0), (2, .int x10_1), (0, .ref tp), (1, .ref (K 6))]) hx hb dX8_whichWord_105 hl (k := 2) rfl et_17 (by decide) rfl (fun ls hl => ?_)
            obtain ⟨t_18, et_18⟩ : ∃ zz_ : Int32, x10_0 + Int32.ofInt (1) = zz_ := ⟨_, rfl⟩
            have ft_18 : t_18.toInt = x10_0.toInt + (1 : Int32).toInt := ia_add (y := 1) et_18 (by omega) (by omega)
            refine lv_iinc (v := t_18) (lv' := [(5, .int t_18), (3, .int t_17), (4, .int 0), (2, .int x10_1), (0, .ref tp), (1, .ref (K 6))]) hx hb dX8_whichWord_108 hl (k := 2) rfl et_18 (by decide) rfl (fun ls hl => ?_)
            refine lv_goto (tgt := 10) hx hb dX8_whichWord_111 (by decide) ?_
            exact ih10 (t_18, x10_1, t_17, 0) (show 0 ≤ t_18.toInt ∧ t_18.toInt ≤ 3 ∧ 0 ≤ x10_1.toInt ∧ x10_1.toInt ≤ 3 ∧ 0 ≤ t_17.toInt ∧ t_17.toInt ≤ 3 ∧ 0 ≤ (0 : Int32).toInt ∧ (0 : Int32).toInt ≤ 1 ∧ x10_1.toInt ≤ t_18.toInt ∧ t_17.toInt ≤ t_18.toInt from ⟨by omega, by omega, by omega, by omega, by omega, by omega, by omega, by omega, by omega, by omega⟩) (show (3 - t_18.toInt).toNat < (3 - x10_0.toInt).toNat by omega) H locs wt ls hT hW hP hD hS (lv_sub hl [0, 2, 1, 3, 4, 5] rfl)
          · rw [Int32.le_iff_toInt_le] at c_16
            refine lv_aload_n hx hb dX8_whichWord_78 rfl (lv_at hl 4 rfl) ?_
            refine gq_get hx hb ht hown hK hP i_X8 0 rfl rfl 0 (by decide) wd_156 rfl rfl dX8_whichWord_79 ?_
            refine lv_aload_n hx hb dX8_whichWord_82 rfl (lv_at hl 4 rfl) ?_
            refine gq_get hx hb ht hown hK hP i_X8 0 rfl rfl 2 (by decide) wd_158 rfl rfl dX8_whichWord_83 ?_
            refine lv_iload_n hx hb dX8_whichWord_86 rfl (lv_at hl 2 rfl) ?_
            obtain ⟨t_19, et_19⟩ : ∃ zz_ : Int32, at_ + x10_2 = zz_ := ⟨_, rfl⟩
            refine gq_iadd hx hb t_19 et_19 dX8_whichWord_87 ?_
            have ft_19 := ia_add et_19 (by omega) (by omega)
            obtain ⟨n_20, en_20⟩ : ∃ zz_ : Int32, bf (Int32.toNatClampNeg t_19) = zz_ := ⟨_, rfl⟩
            refine gq_iald hx hb hK hP 1 rfl n_20 (ia_in (n := 400) (by omega) (by omega)) en_20 dX8_whichWord_88 ?_
            refine lv_aload_n hx hb dX8_whichWord_89 rfl (lv_at hl 5 rfl) ?_
            refine lv_iload hx hb dX8_whichWord_90 (lv_at hl 0 rfl) ?_
            refine gt_callI (wr := [(tp, .inr (8, [.ref bp, .int n, .int at_, .int w_, .int fl])), (bp, .inl (G.2.2 0, 400, .inl bf))]) (va_runV (As := [.int x10_0]) (rest := [.int n_20]) ⟨hx, hb, hml, hown, ht⟩ (d_char6 l G Γ H.size wt hT K V x10_0 (by omega) (by omega)) (cwV 1 ht (ts_gV wd_601 wd_602 wd_603 wd_135 wd_604) rfl rfl rfl (by decide +kernel) ⟨Nat.le_of_ble_eq_true rfl, Nat.le_of_ble_eq_true rfl⟩) (gx_preK 6 (by decide) hK (tw_right hP) (tw_rightD hD) hX hS (tw_free hD hS hA)) rfl rfl hl.1 rfl (lv_room (Nat.le_of_ble_eq_true rfl)) dX8_whichWord_92 ⟨Nat.le_of_ble_eq_true rfl, Nat.le_of_ble_eq_true rfl⟩) hP hD hS hA (fun r_21 wt H locs hw hP hD hS => ?_)
            obtain ⟨hT, hkp, rp_r_21⟩ := hw
            have hW := hW.call (show ∀ x ∈ [], x ∈ [] by decide) hkp
            have hP : va_P (gg_D G) classes ([(tp, .inr (8, [.ref bp, .int n, .int at_, .int w_, .int fl])), (bp, .inl (G.2.2 0, 400, .inl bf))] ++ wt) H := hP
            have hD : va_D A ([(tp, .inr (8, [.ref bp, .int n, .int at_, .int w_, .int fl])), (bp, .inl (G.2.2 0, 400, .inl bf))] ++ wt) := hD
            refine lv_icmp_ne (tgt := 102) hx hb dX8_whichWord_95 (by decide) (fun c_22 => ?_) (fun c_22 => ?_)
            · rw [← Int32.toInt_inj] at c_22
              refine lv_iconst (v := 0) hx hb dX8_whichWord_102 (by decide +kernel) ?_
              refine lv_istore (lv' := [(4, .int 0), (5, .int x10_0), (3, .int x10_2), (2, .int x10_1), (0, .ref tp), (1, .ref (K 6))]) hx hb dX8_whichWord_103 hl (by decide) rfl (fun ls hl => ?_)
              obtain ⟨t_23, et_23⟩ : ∃ zz_ : Int32, x10_2 + Int32.ofInt (1) = zz_ := ⟨_, rfl⟩
              have ft_23 : t_23.toInt = x10_2.toInt + (1 : Int32).toInt := ia_add (y := 1) et_23 (by omega) (by omega)
              refine lv_iinc (v := t_23) (lv' := [(3, .int t_23), (4, .int 0), (5, .int x10_0), (2, .int x10_1), (0, .ref tp), (1, .ref (K 6))]) hx hb dX8_whichWord_105 hl (k := 2) rfl et_23 (by decide) rfl (fun ls hl => ?_)
              obtain ⟨t_24, et_24⟩ : ∃ zz_ : Int32, x10_0 + Int32.ofInt (1) = zz_ := ⟨_, rfl⟩
              have ft_24 : t_24.toInt = x10_0.toInt + (1 : Int32).toInt := ia_add (y := 1) et_24 (by omega) (by omega)
              refine lv_iinc (v := t_24) (lv' := [(5, .int t_24), (3, .int t_23), (4, .int 0), (2, .int x10_1), (0, .ref tp), (1, .ref (K 6))]) hx hb dX8_whichWord_108 hl (k := 2) rfl et_24 (by decide) rfl (fun ls hl => ?_)
              refine lv_goto (tgt := 10) hx hb dX8_whichWord_111 (by decide) ?_
              exact ih10 (t_24, x10_1, t_23, 0) (show 0 ≤ t_24.toInt ∧ t_24.toInt ≤ 3 ∧ 0 ≤ x10_1.toInt ∧ x10_1.toInt ≤ 3 ∧ 0 ≤ t_23.toInt ∧ t_23.toInt ≤ 3 ∧ 0 ≤ (0 : Int32).toInt ∧ (0 : Int32).toInt ≤ 1 ∧ x10_1.toInt ≤ t_24.toInt ∧ t_23.toInt ≤ t_24.toInt from ⟨by omega, by omega, by omega, by omega, by omega, by omega, by omega, by omega, by omega, by omega⟩) (show (3 - t_24.toInt).toNat < (3 - x10_0.toInt).toNat by omega) H locs wt ls hT hW hP hD hS (lv_sub hl [0, 2, 1, 3, 4, 5] rfl)
            · rw [← Int32.toInt_inj] at c_22
              refine lv_iconst (v := 1) hx hb dX8_whichWord_98 (by decide +kernel) ?_
              refine lv_goto (tgt := 103) hx hb dX8_whichWord_99 (by decide) ?_
              refine lv_istore (lv' := [(4, .int 1), (5, .int x10_0), (3, .int x10_2), (2, .int x10_1), (0, .ref tp), (1, .ref (K 6))]) hx hb dX8_whichWord_103 hl (by decide) rfl (fun ls hl => ?_)
              obtain ⟨t_25, et_25⟩ : ∃ zz_ : Int32, x10_2 + Int32.ofInt (1) = zz_ := ⟨_, rfl⟩
              have ft_25 : t_25.toInt = x10_2.toInt + (1 : Int32).toInt := ia_add (y := 1) et_25 (by omega) (by omega)
              refine lv_iinc (v := t_25) (lv' := [(3, .int t_25), (4, .int 1), (5, .int x10_0), (2, .int x10_1), (0, .ref tp), (1, .ref (K 6))]) hx hb dX8_whichWord_105 hl (k := 2) rfl et_25 (by decide) rfl (fun ls hl => ?_)
              obtain ⟨t_26, et_26⟩ : ∃ zz_ : Int32, x10_0 + Int32.ofInt (1) = zz_ := ⟨_, rfl⟩
              have ft_26 : t_26.toInt = x10_0.toInt + (1 : Int32).toInt := ia_add (y := 1) et_26 (by omega) (by omega)
              refine lv_iinc (v := t_26) (lv' := [(5, .int t_26), (3, .int t_25), (4, .int 1), (2, .int x10_1), (0, .ref tp), (1, .ref (K 6))]) hx hb dX8_whichWord_108 hl (k := 2) rfl et_26 (by decide) rfl (fun ls hl => ?_)
              refine lv_goto (tgt := 10) hx hb dX8_whichWord_111 (by decide) ?_
              exact ih10 (t_26, x10_1, t_25, 1) (show 0 ≤ t_26.toInt ∧ t_26.toInt ≤ 3 ∧ 0 ≤ x10_1.toInt ∧ x10_1.toInt ≤ 3 ∧ 0 ≤ t_25.toInt ∧ t_25.toInt ≤ 3 ∧ 0 ≤ (1 : Int32).toInt ∧ (1 : Int32).toInt ≤ 1 ∧ x10_1.toInt ≤ t_26.toInt ∧ t_25.toInt ≤ t_26.toInt from ⟨by omega, by omega, by omega, by omega, by omega, by omega, by omega, by omega, by omega, by omega⟩) (show (3 - t_26.toInt).toNat < (3 - x10_0.toInt).toNat by omega) H locs wt ls hT hW hP hD hS (lv_sub hl [0, 2, 1, 3, 4, 5] rfl)
      · rw [← Int32.toInt_inj] at c_12
        refine lv_iload hx hb dX8_whichWord_39 (lv_at hl 1 rfl) ?_
        refine lv_if_eq (tgt := 54) hx hb dX8_whichWord_41 (by decide) (fun c_27 => ?_) (fun c_27 => ?_)
        · rw [← Int32.toInt_inj] at c_27
          obtain ⟨t_28, et_28⟩ : ∃ zz_ : Int32, x10_1 + Int32.ofInt (1) = zz_ := ⟨_, rfl⟩
          have ft_28 : t_28.toInt = x10_1.toInt + (1 : Int32).toInt := ia_add (y := 1) et_28 (by omega) (by omega)
          refine lv_iinc (v := t_28) (lv' := [(2, .int t_28), (5, .int x10_0), (4, .int x10_3), (3, .int x10_2), (0, .ref tp), (1, .ref (K 6))]) hx hb dX8_whichWord_54 hl (k := 3) rfl et_28 (by decide) rfl (fun ls hl => ?_)
          refine lv_iconst (v := 0) hx hb dX8_whichWord_57 (by decide +kernel) ?_
          refine lv_istore_n (lv' := [(3, .int 0), (2, .int t_28), (5, .int x10_0), (4, .int x10_3), (0, .ref tp), (1, .ref (K 6))]) hx hb dX8_whichWord_58 rfl hl (by decide) rfl (fun ls hl => ?_)
          refine lv_iconst (v := 1) hx hb dX8_whichWord_59 (by decide +kernel) ?_
          refine lv_istore (lv' := [(4, .int 1), (3, .int 0), (2, .int t_28), (5, .int x10_0), (0, .ref tp), (1, .ref (K 6))]) hx hb dX8_whichWord_60 hl (by decide) rfl (fun ls hl => ?_)
          refine lv_goto (tgt := 108) hx hb dX8_whichWord_62 (by decide) ?_
          obtain ⟨t_29, et_29⟩ : ∃ zz_ : Int32, x10_0 + Int32.ofInt (1) = zz_ := ⟨_, rfl⟩
          have ft_29 : t_29.toInt = x10_0.toInt + (1 : Int32).toInt := ia_add (y := 1) et_29 (by omega) (by omega)
          refine lv_iinc (v := t_29) (lv' := [(5, .int t_29), (4, .int 1), (3, .int 0), (2, .int t_28), (0, .ref tp), (1, .ref (K 6))]) hx hb dX8_whichWord_108 hl (k := 3) rfl et_29 (by decide) rfl (fun ls hl => ?_)
          refine lv_goto (tgt := 10) hx hb dX8_whichWord_111 (by decide) ?_
          exact ih10 (t_29, t_28, 0, 1) (show 0 ≤ t_29.toInt ∧ t_29.toInt ≤ 3 ∧ 0 ≤ t_28.toInt ∧ t_28.toInt ≤ 3 ∧ 0 ≤ (0 : Int32).toInt ∧ (0 : Int32).toInt ≤ 3 ∧ 0 ≤ (1 : Int32).toInt ∧ (1 : Int32).toInt ≤ 1 ∧ t_28.toInt ≤ t_29.toInt ∧ (0 : Int32).toInt ≤ t_29.toInt from ⟨by omega, by omega, by omega, by omega, by omega, by omega, by omega, by omega, by omega, by omega⟩) (show (3 - t_29.toInt).toNat < (3 - x10_0.toInt).toNat by omega) H locs wt ls hT hW hP hD hS (lv_sub hl [0, 1, 2, 3, 4, 5] rfl)
        · rw [← Int32.toInt_inj] at c_27
          refine lv_iload_n hx hb dX8_whichWord_44 rfl (lv_at hl 2 rfl) ?_
          refine lv_aload_n hx hb dX8_whichWord_45 rfl (lv_at hl 4 rfl) ?_
          refine gq_get hx hb ht hown hK hP i_X8 0 rfl rfl 3 (by decide) wd_159 rfl rfl dX8_whichWord_46 ?_
          refine lv_icmp_ne (tgt := 54) hx hb dX8_whichWord_49 (by decide) (fun c_30 => ?_) (fun c_30 => ?_)
          · rw [← Int32.toInt_inj] at c_30
            obtain ⟨t_31, et_31⟩ : ∃ zz_ : Int32, x10_1 + Int32.ofInt (1) = zz_ := ⟨_, rfl⟩
            have ft_31 : t_31.toInt = x10_1.toInt + (1 : Int32).toInt := ia_add (y := 1) et_31 (by omega) (by omega)
            refine lv_iinc (v := t_31) (lv' := [(2, .int t_31), (5, .int x10_0), (4, .int x10_3), (3, .int x10_2), (0, .ref tp), (1, .ref (K 6))]) hx hb dX8_whichWord_54 hl (k := 3) rfl et_31 (by decide) rfl (fun ls hl => ?_)
            refine lv_iconst (v := 0) hx hb dX8_whichWord_57 (by decide +kernel) ?_
            refine lv_istore_n (lv' := [(3, .int 0), (2, .int t_31), (5, .int x10_0), (4, .int x10_3), (0, .ref tp), (1, .ref (K 6))]) hx hb dX8_whichWord_58 rfl hl (by decide) rfl (fun ls hl => ?_)
            refine lv_iconst (v := 1) hx hb dX8_whichWord_59 (by decide +kernel) ?_
            refine lv_istore (lv' := [(4, .int 1), (3, .int 0), (2, .int t_31), (5, .int x10_0), (0, .ref tp), (1, .ref (K 6))]) hx hb dX8_whichWord_60 hl (by decide) rfl (fun ls hl => ?_)
            refine lv_goto (tgt := 108) hx hb dX8_whichWord_62 (by decide) ?_
            obtain ⟨t_32, et_32⟩ : ∃ zz_ : Int32, x10_0 + Int32.ofInt (1) = zz_ := ⟨_, rfl⟩
            have ft_32 : t_32.toInt = x10_0.toInt + (1 : Int32).toInt := ia_add (y := 1) et_32 (by omega) (by omega)
            refine lv_iinc (v := t_32) (lv' := [(5, .int t_32), (4, .int 1), (3, .int 0), (2, .int t_31), (0, .ref tp), (1, .ref (K 6))]) hx hb dX8_whichWord_108 hl (k := 3) rfl et_32 (by decide) rfl (fun ls hl => ?_)
            refine lv_goto (tgt := 10) hx hb dX8_whichWord_111 (by decide) ?_
            exact ih10 (t_32, t_31, 0, 1) (show 0 ≤ t_32.toInt ∧ t_32.toInt ≤ 3 ∧ 0 ≤ t_31.toInt ∧ t_31.toInt ≤ 3 ∧ 0 ≤ (0 : Int32).toInt ∧ (0 : Int32).toInt ≤ 3 ∧ 0 ≤ (1 : Int32).toInt ∧ (1 : Int32).toInt ≤ 1 ∧ t_31.toInt ≤ t_32.toInt ∧ (0 : Int32).toInt ≤ t_32.toInt from ⟨by omega, by omega, by omega, by omega, by omega, by omega, by omega, by omega, by omega, by omega⟩) (show (3 - t_32.toInt).toNat < (3 - x10_0.toInt).toNat by omega) H locs wt ls hT hW hP hD hS (lv_sub hl [0, 1, 2, 3, 4, 5] rfl)
          · rw [← Int32.toInt_inj] at c_30
            refine lv_iload_n hx hb dX8_whichWord_52 rfl (lv_at hl 3 rfl) ?_
            have hP9 : va_P (gg_D G) classes ([(tp, .inr (8, [.ref bp, .int n, .int at_, .int w_, .int fl])), (bp, .inl (G.2.2 0, 400, .inl bf))] ++ wt) _ := hP
            have hD9 : va_D A ([(tp, .inr (8, [.ref bp, .int n, .int at_, .int w_, .int fl])), (bp, .inl (G.2.2 0, 400, .inl bf))] ++ wt) := hD
            exact W.iret (v := x10_1) hx hb hr (gq_endI wt ⟨hT, hW, (by omega), (by omega)⟩ hP9 hD9 hS) hS.2.2 dX8_whichWord_53

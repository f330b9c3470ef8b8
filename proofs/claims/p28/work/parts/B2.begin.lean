theorem dL_law_19 : decode cL_law 19 = .ok (.aload_n 0, 1) := by decide +kernel
theorem dL_law_20 : decode cL_law 20 = .ok (.arraylength, 1) := by decide +kernel
theorem dL_law_21 : decode cL_law 21 = .ok (.bipush 6, 2) := by decide +kernel
theorem dL_law_23 : decode cL_law 23 = .ok (.isub, 1) := by decide +kernel
theorem dL_law_24 : decode cL_law 24 = .ok (.if_icmp .gt 1077, 3) := by decide +kernel
theorem dL_law_27 : decode cL_law 27 = .ok (.aload_n 0, 1) := by decide +kernel
theorem dL_law_28 : decode cL_law 28 = .ok (.iload_n 3, 1) := by decide +kernel
theorem dL_law_29 : decode cL_law 29 = .ok (.iaload, 1) := by decide +kernel
theorem dL_law_30 : decode cL_law 30 = .ok (.bipush 31, 2) := by decide +kernel
theorem dL_law_32 : decode cL_law 32 = .ok (.iand, 1) := by decide +kernel
theorem dL_law_33 : decode cL_law 33 = .ok (.tableswitch 1062 0 30 #[139, 202, 225, 238, 251, 274, 307, 340, 373, 406, 419, 452, 475, 518, 541, 554, 597, 630, 663, 716, 739, 772, 805, 828, 871, 894, 917, 940, 993, 1016, 1039], 139) := by decide +kernel
theorem dL_law_1101 : decode cL_law 1101 = .ok (.iconst 1, 1) := by decide +kernel
theorem dL_law_1102 : decode cL_law 1102 = .ok (.ireturn, 1) := by decide +kernel
theorem gg_arr {s : State} {args : Array Value} {ty : FieldType} (h : (Cond.arrayClass ty).before args s = true) (hp : ∀ cA, s.vm.findClass ("[" ++ ty.toString) = some cA → va_RA s cA ty) : ∃ cA : ClassId, ArrOfT s cA ty ∧ va_RA s cA ty := by
  obtain ⟨cA, kA, comp, h1, h2, h3⟩ := Cond.arrayClass_spec h
  exact ⟨cA, fun n z => ⟨fun k h => (by cases h), kA, h2, comp, h3⟩, hp cA h1⟩
theorem gg_ovr {s : State} {C : String} (h : va_AO C s) : ∃ cA : ClassId, ArrOfT s cA (.object C) ∧ va_RA s cA (.object C) := by
  obtain ⟨comp, c, k, h1, h2, h3, h4, h5⟩ := Cond.arrayOver_spec h
  exact ⟨c, fun n z => ⟨fun k h => (by cases h), k, h3, comp, h4⟩, k, comp, h3, h4, h1, h5⟩
set_option maxHeartbeats 4000000 in
theorem gg_start {s : State} {args : Array Value} (hts : ∀ w ∈ lw_tbl, w.before args s = true) : ∃ G : gg_T, gg_K G s := by
  have ht : ∀ w ∈ tb_L, w.before args s = true := fun w h => hts w (List.mem_filter.mp h).1
  obtain ⟨c0, i0, k0⟩ := u_known (C := RX0) (T := TX0) (N := 4) (n := 4) ht i_X0 (ht _ wd_402)
  obtain ⟨c1, i1, k1⟩ := u_known (C := RX1) (T := TX1) (N := 6) (n := 6) ht i_X1 (ht _ wd_368)
  obtain ⟨c2, i2, k2⟩ := u_known (C := RX2) (T := TX2) (N := 4) (n := 4) ht i_X2 (ht _ wd_311)
  obtain ⟨c3, i3, k3⟩ := u_known (C := RX3) (T := TX3) (N := 3) (n := 3) ht i_X3 (ht _ wd_291)
  obtain ⟨c4, i4, k4⟩ := u_known (C := RX4) (T := TX4) (N := 9) (n := 9) ht i_X4 (ht _ wd_332)
  obtain ⟨c5, i5, k5⟩ := u_known (C := RX5) (T := TX5) (N := 5) (n := 5) ht i_X5 (ht _ wd_423)
  obtain ⟨c6, i6, k6⟩ := u_known (C := RX6) (T := TX6) (N := 4) (n := 4) ht i_X6 (ht _ wd_472)
  obtain ⟨c7, i7, k7⟩ := u_known (C := RX7) (T := TX7) (N := 10) (n := 10) ht i_X7 (ht _ wd_226)
  obtain ⟨c8, i8, k8⟩ := u_known (C := RX8) (T := TX8) (N := 5) (n := 5) ht i_X8 (ht _ wd_151)
  obtain ⟨c9, i9, k9⟩ := u_known (C := RX9) (T := TX9) (N := 9) (n := 9) ht i_X9 (ht _ wd_174)
  obtain ⟨c10, i10, k10⟩ := u_known (C := RX10) (T := TX10) (N := 4) (n := 4) ht i_X10 (ht _ wd_449)
  obtain ⟨c11, i11, k11⟩ := u_known (C := RX11) (T := TX11) (N := 16) (n := 16) ht i_X11 (ht _ wd_143)
  obtain ⟨c12, i12, k12⟩ := u_known (C := RX12) (T := TX12) (N := 37) (n := 37) ht i_X12 (ht _ wd_1247)
  obtain ⟨a0, p0⟩ := gg_arr (ty := .int) (ht _ wd_172) (fun _ h => h)
  obtain ⟨a1, p1⟩ := gg_arr (ty := .long) (ht _ wd_365) (fun _ h => h)
  obtain ⟨a2, p2⟩ := gg_arr (ty := .byte) (ht _ wd_703) (fun _ h => h)
  obtain ⟨a3, p3⟩ := gg_arr (ty := .boolean) (ht _ wd_1364) (fun _ h => h)
  have o0 : va_AO "SilentSale$State" s := va_AO.of (hts _ (List.mem_of_getElem? (i := 297) (by decide +kernel)))
  obtain ⟨a4, p4⟩ := gg_ovr o0
  have o1 : va_AO "SilentSale$Rule" s := va_AO.of (hts _ (List.mem_of_getElem? (i := 331) (by decide +kernel)))
  obtain ⟨a5, p5⟩ := gg_ovr o1
  have o2 : va_AO "SilentSale$Image" s := va_AO.of (hts _ (List.mem_of_getElem? (i := 367) (by decide +kernel)))
  obtain ⟨a6, p6⟩ := gg_ovr o2
  refine ⟨(fun k => match k with | 0 => c0 | 1 => c1 | 2 => c2 | 3 => c3 | 4 => c4 | 5 => c5 | 6 => c6 | 7 => c7 | 8 => c8 | 9 => c9 | 10 => c10 | 11 => c11 | _ => c12, fun k => match k with | 0 => i0 | 1 => i1 | 2 => i2 | 3 => i3 | 4 => i4 | 5 => i5 | 6 => i6 | 7 => i7 | 8 => i8 | 9 => i9 | 10 => i10 | 11 => i11 | _ => i12, fun k => match k with | 0 => a0 | 1 => a1 | 2 => a2 | 3 => a3 | 4 => a4 | 5 => a5 | _ => a6), ⟨fun c q hq => ?_, fun k q hk => ?_⟩, fun w hw g => ?_, o0, o1, o2⟩
  · match c, hq with
    | 0, hq => cases hq; exact k0
    | 1, hq => cases hq; exact k1
    | 2, hq => cases hq; exact k2
    | 3, hq => cases hq; exact k3
    | 4, hq => cases hq; exact k4
    | 5, hq => cases hq; exact k5
    | 6, hq => cases hq; exact k6
    | 7, hq => cases hq; exact k7
    | 8, hq => cases hq; exact k8
    | 9, hq => cases hq; exact k9
    | 10, hq => cases hq; exact k10
    | 11, hq => cases hq; exact k11
    | 12, hq => cases hq; exact k12
    | n + 13, hq => exact absurd hq (by simp [classes])
  · match k, hk with
    | 0, hk => cases hk; exact p0
    | 1, hk => cases hk; exact p1
    | 2, hk => cases hk; exact p2
    | 3, hk => cases hk; exact p3
    | 4, hk => cases hk; exact p4
    | 5, hk => cases hk; exact p5
    | 6, hk => cases hk; exact p6
    | n + 7, hk => exact absurd hk (by simp)
  · cases w with
    | methodLinkNest a i x h => exact va_Nw.of rfl (hts _ hw)
    | _ => cases g
set_option maxRecDepth 100000 in
theorem sx_m0 : ∀ j : Nat, j < 27 → Cond.eq (.elem (Term.field (Term.string "SilentSale$Terms" 73) "java/lang/String" "value" "[B") (.int (Int32.ofNat j))) (.int ((sx_b 0).getD j 0)) ∈ flatC (Jvm.Cond.and given_1 narrow_1) := by decide +kernel
theorem sx_s0 {s : State} {args : Array Value} {A : Nat → Prop} (hgv : (Jvm.Cond.and given_1 narrow_1).before args s = true) (hA : ∀ a : Nat, a < s.heap.size → ¬ A a) : ∃ k v : Nat, (va_O "java/lang/String" k A s s.heap ∧ va_OF "java/lang/String" "coder" "B" (.int 0) k A s s.heap ∧ va_OF "java/lang/String" "value" "[B" (.ref v) k A s s.heap ∧ va_T .byte v (sx_b 0).length (fun j => .int ((sx_b 0).getD j 0)) A s s.heap) ∧ (Term.string "SilentSale$Terms" 73).eval args s none [] s = some (.ref k) := by
  have hs := flat_of_before _ hgv
  have a1 : ∀ i : Nat, i < 1 → ([27] : List Nat).getD i 0 < 2 ^ 31 := by
    intro i hi
    obtain rfl : i = 0 := by omega
    decide
  have a2 : (Cond.exactly (Term.string "SilentSale$Terms" 73) "java/lang/String").before args s = true := hs _ (by decide +kernel)
  have a3 : (Cond.eq (.field (Term.string "SilentSale$Terms" 73) "java/lang/String" "coder" "B") (.int 0)).before args s = true := hs _ (by decide +kernel)
  have a4 : (Cond.arrayOf (Term.field (Term.string "SilentSale$Terms" 73) "java/lang/String" "value" "[B") .byte).before args s = true := hs _ (by decide +kernel)
  have a5 : ∀ i : Nat, i < 1 → (Cond.eq (.length (Term.field (Term.string "SilentSale$Terms" 73) "java/lang/String" "value" "[B")) (.int (Int32.ofNat (([27] : List Nat).getD i 0)))).before args s = true := by
    intro i hi
    obtain rfl : i = 0 := by omega
    exact hs (Cond.eq (.length (Term.field (Term.string "SilentSale$Terms" 73) "java/lang/String" "value" "[B")) (.int 27)) (by decide +kernel)
  have a6 : ∀ i : Nat, i < 1 → ∀ j : Nat, j < ([27] : List Nat).getD i 0 → (Cond.eq (.elem (Term.field (Term.string "SilentSale$Terms" 73) "java/lang/String" "value" "[B") (.int (Int32.ofNat j))) (.int ((([sx_b 0] : List (List Int32)).getD i []).getD j 0))).before args s = true := by
    intro i hi j hj
    obtain rfl : i = 0 := by omega
    exact hs _ (sx_m0 j hj)
  obtain ⟨adK, adV, hS, hE⟩ := vk_Sof (args := args) (s := s) (N := 1) (tm := fun _ => (Term.string "SilentSale$Terms" 73)) (len := [27]) (byt := [sx_b 0]) (A := A) a1 (fun _ _ => a2) (fun _ _ => a3) (fun _ _ => a4) a5 a6 (fun i j hi hj hn => absurd (show i = j by omega) hn) hA
  exact ⟨adK 0, adV 0, hS.1 0 (by decide), hE 0 (by decide)⟩
set_option maxRecDepth 100000 in
theorem sx_m1 : ∀ j : Nat, j < 5 → Cond.eq (.elem (Term.field (Term.string "SilentSale$Rule" 79) "java/lang/String" "value" "[B") (.int (Int32.ofNat j))) (.int ((sx_b 1).getD j 0)) ∈ flatC (Jvm.Cond.and given_1 narrow_1) := by decide +kernel
theorem sx_s1 {s : State} {args : Array Value} {A : Nat → Prop} (hgv : (Jvm.Cond.and given_1 narrow_1).before args s = true) (hA : ∀ a : Nat, a < s.heap.size → ¬ A a) : ∃ k v : Nat, (va_O "java/lang/String" k A s s.heap ∧ va_OF "java/lang/String" "coder" "B" (.int 0) k A s s.heap ∧ va_OF "java/lang/String" "value" "[B" (.ref v) k A s s.heap ∧ va_T .byte v (sx_b 1).length (fun j => .int ((sx_b 1).getD j 0)) A s s.heap) ∧ (Term.string "SilentSale$Rule" 79).eval args s none [] s = some (.ref k) := by
  have hs := flat_of_before _ hgv
  have a1 : ∀ i : Nat, i < 1 → ([5] : List Nat).getD i 0 < 2 ^ 31 := by
    intro i hi
    obtain rfl : i = 0 := by omega
    decide
  have a2 : (Cond.exactly (Term.string "SilentSale$Rule" 79) "java/lang/String").before args s = true := hs _ (by decide +kernel)
  have a3 : (Cond.eq (.field (Term.string "SilentSale$Rule" 79) "java/lang/String" "coder" "B") (.int 0)).before args s = true := hs _ (by decide +kernel)
  have a4 : (Cond.arrayOf (Term.field (Term.string "SilentSale$Rule" 79) "java/lang/String" "value" "[B") .byte).before args s = true := hs _ (by decide +kernel)
  have a5 : ∀ i : Nat, i < 1 → (Cond.eq (.length (Term.field (Term.string "SilentSale$Rule" 79) "java/lang/String" "value" "[B")) (.int (Int32.ofNat (([5] : List Nat).getD i 0)))).before args s = true := by
    intro i hi
    obtain rfl : i = 0 := by omega
    exact hs (Cond.eq (.length (Term.field (Term.string "SilentSale$Rule" 79) "java/lang/String" "value" "[B")) (.int 5)) (by decide +kernel)
  have a6 : ∀ i : Nat, i < 1 → ∀ j : Nat, j < ([5] : List Nat).getD i 0 → (Cond.eq (.elem (Term.field (Term.string "SilentSale$Rule" 79) "java/lang/String" "value" "[B") (.int (Int32.ofNat j))) (.int ((([sx_b 1] : List (List Int32)).getD i []).getD j 0))).before args s = true := by
    intro i hi j hj
    obtain rfl : i = 0 := by omega
    exact hs _ (sx_m1 j hj)
  obtain ⟨adK, adV, hS, hE⟩ := vk_Sof (args := args) (s := s) (N := 1) (tm := fun _ => (Term.string "SilentSale$Rule" 79)) (len := [5]) (byt := [sx_b 1]) (A := A) a1 (fun _ _ => a2) (fun _ _ => a3) (fun _ _ => a4) a5 a6 (fun i j hi hj hn => absurd (show i = j by omega) hn) hA
  exact ⟨adK 0, adV 0, hS.1 0 (by decide), hE 0 (by decide)⟩
set_option maxRecDepth 100000 in
theorem sx_m2 : ∀ j : Nat, j < 64 → Cond.eq (.elem (Term.field (Term.string "SilentSale$Rule" 130) "java/lang/String" "value" "[B") (.int (Int32.ofNat j))) (.int ((sx_b 2).getD j 0)) ∈ flatC (Jvm.Cond.and given_1 narrow_1) := by decide +kernel
theorem sx_s2 {s : State} {args : Array Value} {A : Nat → Prop} (hgv : (Jvm.Cond.and given_1 narrow_1).before args s = true) (hA : ∀ a : Nat, a < s.heap.size → ¬ A a) : ∃ k v : Nat, (va_O "java/lang/String" k A s s.heap ∧ va_OF "java/lang/String" "coder" "B" (.int 0) k A s s.heap ∧ va_OF "java/lang/String" "value" "[B" (.ref v) k A s s.heap ∧ va_T .byte v (sx_b 2).length (fun j => .int ((sx_b 2).getD j 0)) A s s.heap) ∧ (Term.string "SilentSale$Rule" 130).eval args s none [] s = some (.ref k) := by
  have hs := flat_of_before _ hgv
  have a1 : ∀ i : Nat, i < 1 → ([64] : List Nat).getD i 0 < 2 ^ 31 := by
    intro i hi
    obtain rfl : i = 0 := by omega
    decide
  have a2 : (Cond.exactly (Term.string "SilentSale$Rule" 130) "java/lang/String").before args s = true := hs _ (by decide +kernel)
  have a3 : (Cond.eq (.field (Term.string "SilentSale$Rule" 130) "java/lang/String" "coder" "B") (.int 0)).before args s = true := hs _ (by decide +kernel)
  have a4 : (Cond.arrayOf (Term.field (Term.string "SilentSale$Rule" 130) "java/lang/String" "value" "[B") .byte).before args s = true := hs _ (by decide +kernel)
  have a5 : ∀ i : Nat, i < 1 → (Cond.eq (.length (Term.field (Term.string "SilentSale$Rule" 130) "java/lang/String" "value" "[B")) (.int (Int32.ofNat (([64] : List Nat).getD i 0)))).before args s = true := by
    intro i hi
    obtain rfl : i = 0 := by omega
    exact hs (Cond.eq (.length (Term.field (Term.string "SilentSale$Rule" 130) "java/lang/String" "value" "[B")) (.int 64)) (by decide +kernel)
  have a6 : ∀ i : Nat, i < 1 → ∀ j : Nat, j < ([64] : List Nat).getD i 0 → (Cond.eq (.elem (Term.field (Term.string "SilentSale$Rule" 130) "java/lang/String" "value" "[B") (.int (Int32.ofNat j))) (.int ((([sx_b 2] : List (List Int32)).getD i []).getD j 0))).before args s = true := by
    intro i hi j hj
    obtain rfl : i = 0 := by omega
    exact hs _ (sx_m2 j hj)
  obtain ⟨adK, adV, hS, hE⟩ := vk_Sof (args := args) (s := s) (N := 1) (tm := fun _ => (Term.string "SilentSale$Rule" 130)) (len := [64]) (byt := [sx_b 2]) (A := A) a1 (fun _ _ => a2) (fun _ _ => a3) (fun _ _ => a4) a5 a6 (fun i j hi hj hn => absurd (show i = j by omega) hn) hA
  exact ⟨adK 0, adV 0, hS.1 0 (by decide), hE 0 (by decide)⟩
set_option maxRecDepth 100000 in
theorem sx_m3 : ∀ j : Nat, j < 2 → Cond.eq (.elem (Term.field (Term.string "SilentSale$Rule" 58) "java/lang/String" "value" "[B") (.int (Int32.ofNat j))) (.int ((sx_b 3).getD j 0)) ∈ flatC (Jvm.Cond.and given_1 narrow_1) := by decide +kernel
theorem sx_s3 {s : State} {args : Array Value} {A : Nat → Prop} (hgv : (Jvm.Cond.and given_1 narrow_1).before args s = true) (hA : ∀ a : Nat, a < s.heap.size → ¬ A a) : ∃ k v : Nat, (va_O "java/lang/String" k A s s.heap ∧ va_OF "java/lang/String" "coder" "B" (.int 0) k A s s.heap ∧ va_OF "java/lang/String" "value" "[B" (.ref v) k A s s.heap ∧ va_T .byte v (sx_b 3).length (fun j => .int ((sx_b 3).getD j 0)) A s s.heap) ∧ (Term.string "SilentSale$Rule" 58).eval args s none [] s = some (.ref k) := by
  have hs := flat_of_before _ hgv
  have a1 : ∀ i : Nat, i < 1 → ([2] : List Nat).getD i 0 < 2 ^ 31 := by
    intro i hi
    obtain rfl : i = 0 := by omega
    decide
  have a2 : (Cond.exactly (Term.string "SilentSale$Rule" 58) "java/lang/String").before args s = true := hs _ (by decide +kernel)
  have a3 : (Cond.eq (.field (Term.string "SilentSale$Rule" 58) "java/lang/String" "coder" "B") (.int 0)).before args s = true := hs _ (by decide +kernel)
  have a4 : (Cond.arrayOf (Term.field (Term.string "SilentSale$Rule" 58) "java/lang/String" "value" "[B") .byte).before args s = true := hs _ (by decide +kernel)
  have a5 : ∀ i : Nat, i < 1 → (Cond.eq (.length (Term.field (Term.string "SilentSale$Rule" 58) "java/lang/String" "value" "[B")) (.int (Int32.ofNat (([2] : List Nat).getD i 0)))).before args s = true := by
    intro i hi
    obtain rfl : i = 0 := by omega
    exact hs (Cond.eq (.length (Term.field (Term.string "SilentSale$Rule" 58) "java/lang/String" "value" "[B")) (.int 2)) (by decide +kernel)
  have a6 : ∀ i : Nat, i < 1 → ∀ j : Nat, j < ([2] : List Nat).getD i 0 → (Cond.eq (.elem (Term.field (Term.string "SilentSale$Rule" 58) "java/lang/String" "value" "[B") (.int (Int32.ofNat j))) (.int ((([sx_b 3] : List (List Int32)).getD i []).getD j 0))).before args s = true := by
    intro i hi j hj
    obtain rfl : i = 0 := by omega
    exact hs _ (sx_m3 j hj)
  obtain ⟨adK, adV, hS, hE⟩ := vk_Sof (args := args) (s := s) (N := 1) (tm := fun _ => (Term.string "SilentSale$Rule" 58)) (len := [2]) (byt := [sx_b 3]) (A := A) a1 (fun _ _ => a2) (fun _ _ => a3) (fun _ _ => a4) a5 a6 (fun i j hi hj hn => absurd (show i = j by omega) hn) hA
  exact ⟨adK 0, adV 0, hS.1 0 (by decide), hE 0 (by decide)⟩
set_option maxRecDepth 100000 in
theorem sx_m4 : ∀ j : Nat, j < 3 → Cond.eq (.elem (Term.field (Term.string "SilentSale$Rule" 94) "java/lang/String" "value" "[B") (.int (Int32.ofNat j))) (.int ((sx_b 4).getD j 0)) ∈ flatC (Jvm.Cond.and given_1 narrow_1) := by decide +kernel
theorem sx_s4 {s : State} {args : Array Value} {A : Nat → Prop} (hgv : (Jvm.Cond.and given_1 narrow_1).before args s = true) (hA : ∀ a : Nat, a < s.heap.size → ¬ A a) : ∃ k v : Nat, (va_O "java/lang/String" k A s s.heap ∧ va_OF "java/lang/String" "coder" "B" (.int 0) k A s s.heap ∧ va_OF "java/lang/String" "value" "[B" (.ref v) k A s s.heap ∧ va_T .byte v (sx_b 4).length (fun j => .int ((sx_b 4).getD j 0)) A s s.heap) ∧ (Term.string "SilentSale$Rule" 94).eval args s none [] s = some (.ref k) := by
  have hs := flat_of_before _ hgv
  have a1 : ∀ i : Nat, i < 1 → ([3] : List Nat).getD i 0 < 2 ^ 31 := by
    intro i hi
    obtain rfl : i = 0 := by omega
    decide
  have a2 : (Cond.exactly (Term.string "SilentSale$Rule" 94) "java/lang/String").before args s = true := hs _ (by decide +kernel)
  have a3 : (Cond.eq (.field (Term.string "SilentSale$Rule" 94) "java/lang/String" "coder" "B") (.int 0)).before args s = true := hs _ (by decide +kernel)
  have a4 : (Cond.arrayOf (Term.field (Term.string "SilentSale$Rule" 94) "java/lang/String" "value" "[B") .byte).before args s = true := hs _ (by decide +kernel)
  have a5 : ∀ i : Nat, i < 1 → (Cond.eq (.length (Term.field (Term.string "SilentSale$Rule" 94) "java/lang/String" "value" "[B")) (.int (Int32.ofNat (([3] : List Nat).getD i 0)))).before args s = true := by
    intro i hi
    obtain rfl : i = 0 := by omega
    exact hs (Cond.eq (.length (Term.field (Term.string "SilentSale$Rule" 94) "java/lang/String" "value" "[B")) (.int 3)) (by decide +kernel)
  have a6 : ∀ i : Nat, i < 1 → ∀ j : Nat, j < ([3] : List Nat).getD i 0 → (Cond.eq (.elem (Term.field (Term.string "SilentSale$Rule" 94) "java/lang/String" "value" "[B") (.int (Int32.ofNat j))) (.int ((([sx_b 4] : List (List Int32)).getD i []).getD j 0))).before args s = true := by
    intro i hi j hj
    obtain rfl : i = 0 := by omega
    exact hs _ (sx_m4 j hj)
  obtain ⟨adK, adV, hS, hE⟩ := vk_Sof (args := args) (s := s) (N := 1) (tm := fun _ => (Term.string "SilentSale$Rule" 94)) (len := [3]) (byt := [sx_b 4]) (A := A) a1 (fun _ _ => a2) (fun _ _ => a3) (fun _ _ => a4) a5 a6 (fun i j hi hj hn => absurd (show i = j by omega) hn) hA
  exact ⟨adK 0, adV 0, hS.1 0 (by decide), hE 0 (by decide)⟩
set_option maxRecDepth 100000 in
theorem sx_m5 : ∀ j : Nat, j < 3 → Cond.eq (.elem (Term.field (Term.string "SilentSale$Rule" 113) "java/lang/String" "value" "[B") (.int (Int32.ofNat j))) (.int ((sx_b 5).getD j 0)) ∈ flatC (Jvm.Cond.and given_1 narrow_1) := by decide +kernel
theorem sx_s5 {s : State} {args : Array Value} {A : Nat → Prop} (hgv : (Jvm.Cond.and given_1 narrow_1).before args s = true) (hA : ∀ a : Nat, a < s.heap.size → ¬ A a) : ∃ k v : Nat, (va_O "java/lang/String" k A s s.heap ∧ va_OF "java/lang/String" "coder" "B" (.int 0) k A s s.heap ∧ va_OF "java/lang/String" "value" "[B" (.ref v) k A s s.heap ∧ va_T .byte v (sx_b 5).length (fun j => .int ((sx_b 5).getD j 0)) A s s.heap) ∧ (Term.string "SilentSale$Rule" 113).eval args s none [] s = some (.ref k) := by
  have hs := flat_of_before _ hgv
  have a1 : ∀ i : Nat, i < 1 → ([3] : List Nat).getD i 0 < 2 ^ 31 := by
    intro i hi
    obtain rfl : i = 0 := by omega
    decide
  have a2 : (Cond.exactly (Term.string "SilentSale$Rule" 113) "java/lang/String").before args s = true := hs _ (by decide +kernel)
  have a3 : (Cond.eq (.field (Term.string "SilentSale$Rule" 113) "java/lang/String" "coder" "B") (.int 0)).before args s = true := hs _ (by decide +kernel)
  have a4 : (Cond.arrayOf (Term.field (Term.string "SilentSale$Rule" 113) "java/lang/String" "value" "[B") .byte).before args s = true := hs _ (by decide +kernel)
  have a5 : ∀ i : Nat, i < 1 → (Cond.eq (.length (Term.field (Term.string "SilentSale$Rule" 113) "java/lang/String" "value" "[B")) (.int (Int32.ofNat (([3] : List Nat).getD i 0)))).before args s = true := by
    intro i hi
    obtain rfl : i = 0 := by omega
    exact hs (Cond.eq (.length (Term.field (Term.string "SilentSale$Rule" 113) "java/lang/String" "value" "[B")) (.int 3)) (by decide +kernel)
  have a6 : ∀ i : Nat, i < 1 → ∀ j : Nat, j < ([3] : List Nat).getD i 0 → (Cond.eq (.elem (Term.field (Term.string "SilentSale$Rule" 113) "java/lang/String" "value" "[B") (.int (Int32.ofNat j))) (.int ((([sx_b 5] : List (List Int32)).getD i []).getD j 0))).before args s = true := by
    intro i hi j hj
    obtain rfl : i = 0 := by omega
    exact hs _ (sx_m5 j hj)
  obtain ⟨adK, adV, hS, hE⟩ := vk_Sof (args := args) (s := s) (N := 1) (tm := fun _ => (Term.string "SilentSale$Rule" 113)) (len := [3]) (byt := [sx_b 5]) (A := A) a1 (fun _ _ => a2) (fun _ _ => a3) (fun _ _ => a4) a5 a6 (fun i j hi hj hn => absurd (show i = j by omega) hn) hA
  exact ⟨adK 0, adV 0, hS.1 0 (by decide), hE 0 (by decide)⟩
set_option maxRecDepth 100000 in
theorem sx_m6 : ∀ j : Nat, j < 2 → Cond.eq (.elem (Term.field (Term.string "SilentSale$Rule" 115) "java/lang/String" "value" "[B") (.int (Int32.ofNat j))) (.int ((sx_b 6).getD j 0)) ∈ flatC (Jvm.Cond.and given_1 narrow_1) := by decide +kernel
theorem sx_s6 {s : State} {args : Array Value} {A : Nat → Prop} (hgv : (Jvm.Cond.and given_1 narrow_1).before args s = true) (hA : ∀ a : Nat, a < s.heap.size → ¬ A a) : ∃ k v : Nat, (va_O "java/lang/String" k A s s.heap ∧ va_OF "java/lang/String" "coder" "B" (.int 0) k A s s.heap ∧ va_OF "java/lang/String" "value" "[B" (.ref v) k A s s.heap ∧ va_T .byte v (sx_b 6).length (fun j => .int ((sx_b 6).getD j 0)) A s s.heap) ∧ (Term.string "SilentSale$Rule" 115).eval args s none [] s = some (.ref k) := by
  have hs := flat_of_before _ hgv
  have a1 : ∀ i : Nat, i < 1 → ([2] : List Nat).getD i 0 < 2 ^ 31 := by
    intro i hi
    obtain rfl : i = 0 := by omega
    decide
  have a2 : (Cond.exactly (Term.string "SilentSale$Rule" 115) "java/lang/String").before args s = true := hs _ (by decide +kernel)
  have a3 : (Cond.eq (.field (Term.string "SilentSale$Rule" 115) "java/lang/String" "coder" "B") (.int 0)).before args s = true := hs _ (by decide +kernel)
  have a4 : (Cond.arrayOf (Term.field (Term.string "SilentSale$Rule" 115) "java/lang/String" "value" "[B") .byte).before args s = true := hs _ (by decide +kernel)
  have a5 : ∀ i : Nat, i < 1 → (Cond.eq (.length (Term.field (Term.string "SilentSale$Rule" 115) "java/lang/String" "value" "[B")) (.int (Int32.ofNat (([2] : List Nat).getD i 0)))).before args s = true := by
    intro i hi
    obtain rfl : i = 0 := by omega
    exact hs (Cond.eq (.length (Term.field (Term.string "SilentSale$Rule" 115) "java/lang/String" "value" "[B")) (.int 2)) (by decide +kernel)
  have a6 : ∀ i : Nat, i < 1 → ∀ j : Nat, j < ([2] : List Nat).getD i 0 → (Cond.eq (.elem (Term.field (Term.string "SilentSale$Rule" 115) "java/lang/String" "value" "[B") (.int (Int32.ofNat j))) (.int ((([sx_b 6] : List (List Int32)).getD i []).getD j 0))).before args s = true := by
    intro i hi j hj
    obtain rfl : i = 0 := by omega
    exact hs _ (sx_m6 j hj)
  obtain ⟨adK, adV, hS, hE⟩ := vk_Sof (args := args) (s := s) (N := 1) (tm := fun _ => (Term.string "SilentSale$Rule" 115)) (len := [2]) (byt := [sx_b 6]) (A := A) a1 (fun _ _ => a2) (fun _ _ => a3) (fun _ _ => a4) a5 a6 (fun i j hi hj hn => absurd (show i = j by omega) hn) hA
  exact ⟨adK 0, adV 0, hS.1 0 (by decide), hE 0 (by decide)⟩
theorem sx_start {s : State} {args : Array Value} {A : Nat → Prop} (hts : ∀ w ∈ lw_tbl, w.before args s = true) (hgv : (Jvm.Cond.and given_1 narrow_1).before args s = true) (hA : ∀ a : Nat, a < s.heap.size → ¬ A a) : ∃ K V : Nat → Nat, sx_G K V A s s.heap := by
  have hs := flat_of_before _ hgv
  obtain ⟨k0, v0, h0, e0⟩ := sx_s0 hgv hA
  obtain ⟨k1, v1, h1, e1⟩ := sx_s1 hgv hA
  obtain ⟨k2, v2, h2, e2⟩ := sx_s2 hgv hA
  obtain ⟨k3, v3, h3, e3⟩ := sx_s3 hgv hA
  obtain ⟨k4, v4, h4, e4⟩ := sx_s4 hgv hA
  obtain ⟨k5, v5, h5, e5⟩ := sx_s5 hgv hA
  obtain ⟨k6, v6, h6, e6⟩ := sx_s6 hgv hA
  have z1 := va_Zof (C := "java/lang/String") (n := "COMPACT_STRINGS") (d := "Z") (v := .int 1) (hts _ (List.mem_of_getElem? (i := 600) (by decide +kernel))) (hts _ (List.mem_of_getElem? (i := 135) (by decide +kernel))) (va_eqi (hs _ (by decide +kernel))) hA
  have z2 := va_Zqof (C := "jdk/internal/util/Preconditions") (n := "SIOOBE_FORMATTER") (d := "Ljava/util/function/BiFunction;") (hts _ (List.mem_of_getElem? (i := 616) (by decide +kernel))) (hts _ (List.mem_of_getElem? (i := 137) (by decide +kernel))) (hs _ (by decide +kernel)) hA
  have r0 : vk_R "SilentSale$Terms" 73 "sale bidder lot worth trick" k0 s := vk_R.of (A := args) (hts _ (List.mem_of_getElem? (i := 586) (by decide +kernel))) e0
  have r1 : vk_R "SilentSale$Rule" 79 "speak" k1 s := vk_R.of (A := args) (hts _ (List.mem_of_getElem? (i := 716) (by decide +kernel))) e1
  have r2 : vk_R "SilentSale$Rule" 130 "bidder lot worth purse patience minute others tricked best rooms" k2 s := vk_R.of (A := args) (hts _ (List.mem_of_getElem? (i := 729) (by decide +kernel))) e2
  have r3 : vk_R "SilentSale$Rule" 58 "if" k3 s := vk_R.of (A := args) (hts _ (List.mem_of_getElem? (i := 748) (by decide +kernel))) e3
  have r4 : vk_R "SilentSale$Rule" 94 "not" k4 s := vk_R.of (A := args) (hts _ (List.mem_of_getElem? (i := 759) (by decide +kernel))) e4
  have r5 : vk_R "SilentSale$Rule" 113 "and" k5 s := vk_R.of (A := args) (hts _ (List.mem_of_getElem? (i := 776) (by decide +kernel))) e5
  have r6 : vk_R "SilentSale$Rule" 115 "or" k6 s := vk_R.of (A := args) (hts _ (List.mem_of_getElem? (i := 777) (by decide +kernel))) e6
  refine ⟨fun i => match i with | 0 => k0 | 1 => k1 | 2 => k2 | 3 => k3 | 4 => k4 | 5 => k5 | _ => k6, fun i => match i with | 0 => v0 | 1 => v1 | 2 => v2 | 3 => v3 | 4 => v4 | 5 => v5 | _ => v6, fun i hi => ?_, z1, z2, r0, r1, r2, r3, r4, r5, r6⟩
  rcases (show i = 0 ∨ i = 1 ∨ i = 2 ∨ i = 3 ∨ i = 4 ∨ i = 5 ∨ i = 6 by omega) with rfl | rfl | rfl | rfl | rfl | rfl | rfl
  · exact h0
  · exact h1
  · exact h2
  · exact h3
  · exact h4
  · exact h5
  · exact h6

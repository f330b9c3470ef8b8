theorem lw_J.s {h0 : Nat} {tp : Nat} {bp : Nat} {m0 : Nat} {ra1 : Nat} {ra2 : Nat} {ra3 : Nat} {ra4 : Nat} {ra5 : Nat} {ra6 : Nat} {ra7 : Nat} {ra8 : Nat} {ra9 : Nat} {ra10 : Nat} {ra11 : Nat} {ra12 : Nat} {am : Nat → Nat} {ia : Nat → Nat} {fi : Nat → Option Nat} {H : Heap} {locs : List Loc} {H0 : Heap} {A : Nat → Prop} {Γ : Nat → Nat} {G : gg_T} (J : lw_J G Γ A H0 h0 tp bp m0 ra1 ra2 ra3 ra4 ra5 ra6 ra7 ra8 ra9 ra10 ra11 ra12 am ia fi H locs) : va_S A H0 H locs := by
  obtain ⟨wt, rc, fo, xx, n, at_, w_, fl, bf, md, ix, v1, v2, v8, v9, v10, v11, v12, v13, v14, v16, v18, v21, v22, v23, v24, v25, v27, v32, imd, imx, imf, im, ws, kp, ft, rd, op, bt, ln, cs, cl, sg, sd, hT, hP, hD, hS, hrest⟩ := J
  exact hS
set_option maxHeartbeats 4000000 in
theorem lw_out {p : Program} {l : Launch} {e : Env} {s : State} {m : MethodId} {below : List Frame} {meth : Method} {c : Code} {b L : Nat} {xs : Nat → Int32} (C0 : lw_At p s m meth c b L xs) (hL : L ≤ 3072) {A : Nat → Prop} (hA2 : ∀ q : Nat, A q → s.heap.size ≤ q) {m0 h0 : Nat} {H : Heap} {locs : List Loc} (hS : va_S A s.heap H locs) {ls : Array Slot} {i : Int32} (hl : lv_has ls 4 [(3, .int i), (2, .ref m0), (1, .ref h0), (0, .ref b)]) (hi0 : 0 ≤ i.toInt ∧ i.toInt ≤ L) (h6 : (L : Int) < i.toInt + 6) : W p l e room_1 s m #[Value.ref b] below meth c H locs 430 10514 (lw_Z below #[Value.ref b] s) (F0 m 18 ls []) := by
  obtain ⟨hx, hb, hr, hml, hown, hts, hX_, hbl, hlocks, hgv⟩ := id C0
  have ht : ∀ w ∈ tb_L, w.before #[Value.ref b] s = true := fun w h => hts w (List.mem_filter.mp h).1
  have hbA : ¬ A b := fun h => Nat.not_le.mpr hbl (hA2 b h)
  have l6 : (6 : Int32).toInt = 6 := by decide +kernel
  have lL : (Int32.ofNat L).toInt = (L : Int) := Int32.toInt_ofNat_of_lt (by omega)
  refine lv_iload_n hx hb dL_law_18 rfl (lv_at hl 0 rfl) ?_
  refine lv_aload_n hx hb dL_law_19 rfl (lv_at hl 3 rfl) ?_
  refine va_slen hx hb hX_ hbl hbA hS dL_law_20 ?_
  refine lv_bipush (v := 6) hx hb dL_law_21 (by decide +kernel) ?_
  obtain ⟨t, et⟩ : ∃ zz_ : Int32, Int32.ofNat L - 6 = zz_ := ⟨_, rfl⟩
  refine gq_isub hx hb t et dL_law_23 ?_
  have ft := ia_sub et (by omega) (by omega)
  refine lv_icmp_gt (tgt := 1101) hx hb dL_law_24 (by decide) (fun _ => ?_) (fun c0 => False.elim (by rw [Int32.lt_iff_toInt_lt] at c0; omega))
  refine lv_iconst (v := 1) hx hb dL_law_1101 (by decide) ?_
  refine va_forget (fun q hq => hA2 _ (hS.2.2 q hq)) ?_
  refine W.widen (k := 600000) (n := 7302249) (Nat.le_of_ble_eq_true rfl) (Nat.le_of_ble_eq_true rfl) ?_
  exact lw_ret hx hb hr hlocks dL_law_1102
set_option maxHeartbeats 8000000 in
set_option maxRecDepth 100000 in
theorem lw_loop {p : Program} {l : Launch} {e : Env} {s : State} {m : MethodId} {below : List Frame} {meth : Method} {c : Code} {b L : Nat} {xs : Nat → Int32} (C0 : lw_At p s m meth c b L xs) (hL : L ≤ 3072) {G : gg_T} {Γ : Nat → Nat} {K V : Nat → Nat} {A : Nat → Prop} (hA : ∀ q : Nat, s.heap.size ≤ q → A q) (hA2 : ∀ q : Nat, A q → s.heap.size ≤ q) (hK : gg_K G s) (hX : sx_G K V A s s.heap) {h0 : Nat} {tp : Nat} {bp : Nat} {m0 : Nat} {ra1 : Nat} {ra2 : Nat} {ra3 : Nat} {ra4 : Nat} {ra5 : Nat} {ra6 : Nat} {ra7 : Nat} {ra8 : Nat} {ra9 : Nat} {ra10 : Nat} {ra11 : Nat} {ra12 : Nat} {am : Nat → Nat} {ia : Nat → Nat} {fi : Nat → Option Nat} (kr1 : Γ ra1 = 10) (kr2 : Γ ra2 = 10) (kr3 : Γ ra3 = 8) (kr4 : Γ ra4 = 8) (kr5 : Γ ra5 = 4) (kr6 : Γ ra6 = 3) (kr7 : Γ ra7 = 41) (kr9 : Γ ra9 = 1) (kr10 : Γ ra10 = 6) (kr11 : Γ ra11 = 11) (kr12 : Γ ra12 = 7) (k17 : Γ (am 17) = 32) (k19 : Γ (am 19) = 30) (k30 : Γ (am 30) = 28) (k31 : Γ (am 31) = 28) (hfi : ∀ j : Nat, j < 4 → fi j = some (ia j)) (him : ∀ j : Nat, j < 4 → Γ (ia j) = 2) (hinj : ∀ i j : Nat, i < 4 → j < 4 → ia i = ia j → i = j) : ∀ (k : Nat) (i : Int32), 0 ≤ i.toInt → (L : Int) < i.toInt + 6 + 6 * k → ∀ (H : Heap) (locs : List Loc) (ls : Array Slot), i.toInt ≤ L → lw_J G Γ A s.heap h0 tp bp m0 ra1 ra2 ra3 ra4 ra5 ra6 ra7 ra8 ra9 ra10 ra11 ra12 am ia fi H locs → lv_has ls 4 [(3, .int i), (2, .ref m0), (1, .ref h0), (0, .ref b)] → W p l e room_1 s m #[Value.ref b] below meth c H locs 430 10514 (lw_Z below #[Value.ref b] s) (F0 m 18 ls []) := by
  obtain ⟨hx, hb, hr, hml, hown, hts, hX_, hbl, hlocks, hgv⟩ := id C0
  have ht : ∀ w ∈ tb_L, w.before #[Value.ref b] s = true := fun w h => hts w (List.mem_filter.mp h).1
  have hbA : ¬ A b := fun h => Nat.not_le.mpr hbl (hA2 b h)
  intro k
  induction k with
  | zero =>
    intro i hi0 hk H locs ls hiL J hl
    exact lw_out C0 hL hA2 (lw_J.s J) hl (by omega) (by omega)
  | succ k ihk =>
    intro i hi0 hk H locs ls hiL J hl
    by_cases h6 : (L : Int) < i.toInt + 6
    · exact lw_out C0 hL hA2 (lw_J.s J) hl (by omega) (by omega)
    have ih : ∀ (H : Heap) (locs : List Loc) (ls : Array Slot) (i1 : Int32), i1.toInt = i.toInt + 6 → lw_J G Γ A s.heap h0 tp bp m0 ra1 ra2 ra3 ra4 ra5 ra6 ra7 ra8 ra9 ra10 ra11 ra12 am ia fi H locs → lv_has ls 4 [(3, .int i1), (2, .ref m0), (1, .ref h0), (0, .ref b)] → W p l e room_1 s m #[Value.ref b] below meth c H locs 430 10514 (lw_Z below #[Value.ref b] s) (F0 m 18 ls []) := fun H locs ls i1 e1 J hl => ihk i1 (by omega) (by omega) H locs ls (by omega) J hl
    have hS := lw_J.s J
    have l6 : (6 : Int32).toInt = 6 := by decide +kernel
    have lL : (Int32.ofNat L).toInt = (L : Int) := Int32.toInt_ofNat_of_lt (by omega)
    refine lv_iload_n hx hb dL_law_18 rfl (lv_at hl 0 rfl) ?_
    refine lv_aload_n hx hb dL_law_19 rfl (lv_at hl 3 rfl) ?_
    refine va_slen hx hb hX_ hbl hbA hS dL_law_20 ?_
    refine lv_bipush (v := 6) hx hb dL_law_21 (by decide +kernel) ?_
    obtain ⟨t, et⟩ : ∃ zz_ : Int32, Int32.ofNat L - 6 = zz_ := ⟨_, rfl⟩
    refine gq_isub hx hb t et dL_law_23 ?_
    have ft := ia_sub et (by omega) (by omega)
    refine lv_icmp_gt (tgt := 1101) hx hb dL_law_24 (by decide) (fun c0 => False.elim (by rw [Int32.lt_iff_toInt_lt] at c0; omega)) (fun _ => ?_)
    refine lv_aload_n hx hb dL_law_27 rfl (lv_at hl 3 rfl) ?_
    refine lv_iload_n hx hb dL_law_28 rfl (lv_at hl 0 rfl) ?_
    refine va_sld hx hb hX_ hbl hbA hS (ia_in (by omega) (by omega)) dL_law_29 ?_
    refine lv_bipush (v := 31) hx hb dL_law_30 (by decide +kernel) ?_
    obtain ⟨j, hj, ej⟩ := pk_andE (xs (Int32.toNatClampNeg i)) (m := 31) 5 (by decide +kernel)
    refine gq_iand hx hb (nI j) ej dL_law_32 ?_
    rcases (show j = 0 ∨ j = 1 ∨ j = 2 ∨ j = 3 ∨ j = 4 ∨ j = 5 ∨ j = 6 ∨ j = 7 ∨ j = 8 ∨ j = 9 ∨ j = 10 ∨ j = 11 ∨ j = 12 ∨ j = 13 ∨ j = 14 ∨ j = 15 ∨ j = 16 ∨ j = 17 ∨ j = 18 ∨ j = 19 ∨ j = 20 ∨ j = 21 ∨ j = 22 ∨ j = 23 ∨ j = 24 ∨ j = 25 ∨ j = 26 ∨ j = 27 ∨ j = 28 ∨ j = 29 ∨ j = 30 ∨ j = 31 by omega) with rfl | rfl | rfl | rfl | rfl | rfl | rfl | rfl | rfl | rfl | rfl | rfl | rfl | rfl | rfl | rfl | rfl | rfl | rfl | rfl | rfl | rfl | rfl | rfl | rfl | rfl | rfl | rfl | rfl | rfl | rfl | rfl
    · refine lv_tableIn (x := nI 0) (off := 139) (tgt := 172) hx hb dL_law_33 (by decide +kernel) (by decide +kernel) (by decide +kernel) (by decide) ?_
      exact lw_c0 C0 hL hA hA2 hK hX kr1 kr2 kr3 kr4 kr5 kr6 kr7 kr9 kr10 kr11 kr12 k17 k19 k30 k31 hfi him hinj hi0 (by omega) ih J hl
    · refine lv_tableIn (x := nI 1) (off := 202) (tgt := 235) hx hb dL_law_33 (by decide +kernel) (by decide +kernel) (by decide +kernel) (by decide) ?_
      exact lw_c1 C0 hL hA hA2 hK hX kr1 kr2 kr3 kr4 kr5 kr6 kr7 kr9 kr10 kr11 kr12 k17 k19 k30 k31 hfi him hinj hi0 (by omega) ih J hl
    · refine lv_tableIn (x := nI 2) (off := 225) (tgt := 258) hx hb dL_law_33 (by decide +kernel) (by decide +kernel) (by decide +kernel) (by decide) ?_
      exact lw_c2 C0 hL hA hA2 hK hX kr1 kr2 kr3 kr4 kr5 kr6 kr7 kr9 kr10 kr11 kr12 k17 k19 k30 k31 hfi him hinj hi0 (by omega) ih J hl
    · refine lv_tableIn (x := nI 3) (off := 238) (tgt := 271) hx hb dL_law_33 (by decide +kernel) (by decide +kernel) (by decide +kernel) (by decide) ?_
      exact lw_c3 C0 hL hA hA2 hK hX kr1 kr2 kr3 kr4 kr5 kr6 kr7 kr9 kr10 kr11 kr12 k17 k19 k30 k31 hfi him hinj hi0 (by omega) ih J hl
    · refine lv_tableIn (x := nI 4) (off := 251) (tgt := 284) hx hb dL_law_33 (by decide +kernel) (by decide +kernel) (by decide +kernel) (by decide) ?_
      exact lw_c4 C0 hL hA hA2 hK hX kr1 kr2 kr3 kr4 kr5 kr6 kr7 kr9 kr10 kr11 kr12 k17 k19 k30 k31 hfi him hinj hi0 (by omega) ih J hl
    · refine lv_tableIn (x := nI 5) (off := 274) (tgt := 307) hx hb dL_law_33 (by decide +kernel) (by decide +kernel) (by decide +kernel) (by decide) ?_
      exact lw_c5 C0 hL hA hA2 hK hX kr1 kr2 kr3 kr4 kr5 kr6 kr7 kr9 kr10 kr11 kr12 k17 k19 k30 k31 hfi him hinj hi0 (by omega) ih J hl
    · refine lv_tableIn (x := nI 6) (off := 307) (tgt := 340) hx hb dL_law_33 (by decide +kernel) (by decide +kernel) (by decide +kernel) (by decide) ?_
      exact lw_c6 C0 hL hA hA2 hK hX kr1 kr2 kr3 kr4 kr5 kr6 kr7 kr9 kr10 kr11 kr12 k17 k19 k30 k31 hfi him hinj hi0 (by omega) ih J hl
    · refine lv_tableIn (x := nI 7) (off := 340) (tgt := 373) hx hb dL_law_33 (by decide +kernel) (by decide +kernel) (by decide +kernel) (by decide) ?_
      exact lw_c7 C0 hL hA hA2 hK hX kr1 kr2 kr3 kr4 kr5 kr6 kr7 kr9 kr10 kr11 kr12 k17 k19 k30 k31 hfi him hinj hi0 (by omega) ih J hl
    · refine lv_tableIn (x := nI 8) (off := 373) (tgt := 406) hx hb dL_law_33 (by decide +kernel) (by decide +kernel) (by decide +kernel) (by decide) ?_
      exact lw_c8 C0 hL hA hA2 hK hX kr1 kr2 kr3 kr4 kr5 kr6 kr7 kr9 kr10 kr11 kr12 k17 k19 k30 k31 hfi him hinj hi0 (by omega) ih J hl
    · refine lv_tableIn (x := nI 9) (off := 406) (tgt := 439) hx hb dL_law_33 (by decide +kernel) (by decide +kernel) (by decide +kernel) (by decide) ?_
      exact lw_c9 C0 hL hA hA2 hK hX kr1 kr2 kr3 kr4 kr5 kr6 kr7 kr9 kr10 kr11 kr12 k17 k19 k30 k31 hfi him hinj hi0 (by omega) ih J hl
    · refine lv_tableIn (x := nI 10) (off := 419) (tgt := 452) hx hb dL_law_33 (by decide +kernel) (by decide +kernel) (by decide +kernel) (by decide) ?_
      exact lw_c10 C0 hL hA hA2 hK hX kr1 kr2 kr3 kr4 kr5 kr6 kr7 kr9 kr10 kr11 kr12 k17 k19 k30 k31 hfi him hinj hi0 (by omega) ih J hl
    · refine lv_tableIn (x := nI 11) (off := 452) (tgt := 485) hx hb dL_law_33 (by decide +kernel) (by decide +kernel) (by decide +kernel) (by decide) ?_
      exact lw_c11 C0 hL hA hA2 hK hX kr1 kr2 kr3 kr4 kr5 kr6 kr7 kr9 kr10 kr11 kr12 k17 k19 k30 k31 hfi him hinj hi0 (by omega) ih J hl
    · refine lv_tableIn (x := nI 12) (off := 475) (tgt := 508) hx hb dL_law_33 (by decide +kernel) (by decide +kernel) (by decide +kernel) (by decide) ?_
      exact lw_c12 C0 hL hA hA2 hK hX kr1 kr2 kr3 kr4 kr5 kr6 kr7 kr9 kr10 kr11 kr12 k17 k19 k30 k31 hfi him hinj hi0 (by omega) ih J hl
    · refine lv_tableIn (x := nI 13) (off := 518) (tgt := 551) hx hb dL_law_33 (by decide +kernel) (by decide +kernel) (by decide +kernel) (by decide) ?_
      exact lw_c13 C0 hL hA hA2 hK hX kr1 kr2 kr3 kr4 kr5 kr6 kr7 kr9 kr10 kr11 kr12 k17 k19 k30 k31 hfi him hinj hi0 (by omega) ih J hl
    · refine lv_tableIn (x := nI 14) (off := 541) (tgt := 574) hx hb dL_law_33 (by decide +kernel) (by decide +kernel) (by decide +kernel) (by decide) ?_
      exact lw_c14 C0 hL hA hA2 hK hX kr1 kr2 kr3 kr4 kr5 kr6 kr7 kr9 kr10 kr11 kr12 k17 k19 k30 k31 hfi him hinj hi0 (by omega) ih J hl
    · refine lv_tableIn (x := nI 15) (off := 554) (tgt := 587) hx hb dL_law_33 (by decide +kernel) (by decide +kernel) (by decide +kernel) (by decide) ?_
      exact lw_c15 C0 hL hA hA2 hK hX kr1 kr2 kr3 kr4 kr5 kr6 kr7 kr9 kr10 kr11 kr12 k17 k19 k30 k31 hfi him hinj hi0 (by omega) ih J hl
    · refine lv_tableIn (x := nI 16) (off := 597) (tgt := 630) hx hb dL_law_33 (by decide +kernel) (by decide +kernel) (by decide +kernel) (by decide) ?_
      exact lw_c16 C0 hL hA hA2 hK hX kr1 kr2 kr3 kr4 kr5 kr6 kr7 kr9 kr10 kr11 kr12 k17 k19 k30 k31 hfi him hinj hi0 (by omega) ih J hl
    · refine lv_tableIn (x := nI 17) (off := 630) (tgt := 663) hx hb dL_law_33 (by decide +kernel) (by decide +kernel) (by decide +kernel) (by decide) ?_
      exact lw_c17 C0 hL hA hA2 hK hX kr1 kr2 kr3 kr4 kr5 kr6 kr7 kr9 kr10 kr11 kr12 k17 k19 k30 k31 hfi him hinj hi0 (by omega) ih J hl
    · refine lv_tableIn (x := nI 18) (off := 663) (tgt := 696) hx hb dL_law_33 (by decide +kernel) (by decide +kernel) (by decide +kernel) (by decide) ?_
      exact lw_c18 C0 hL hA hA2 hK hX kr1 kr2 kr3 kr4 kr5 kr6 kr7 kr9 kr10 kr11 kr12 k17 k19 k30 k31 hfi him hinj hi0 (by omega) ih J hl
    · refine lv_tableIn (x := nI 19) (off := 716) (tgt := 749) hx hb dL_law_33 (by decide +kernel) (by decide +kernel) (by decide +kernel) (by decide) ?_
      exact lw_c19 C0 hL hA hA2 hK hX kr1 kr2 kr3 kr4 kr5 kr6 kr7 kr9 kr10 kr11 kr12 k17 k19 k30 k31 hfi him hinj hi0 (by omega) ih J hl
    · refine lv_tableIn (x := nI 20) (off := 739) (tgt := 772) hx hb dL_law_33 (by decide +kernel) (by decide +kernel) (by decide +kernel) (by decide) ?_
      exact lw_c20 C0 hL hA hA2 hK hX kr1 kr2 kr3 kr4 kr5 kr6 kr7 kr9 kr10 kr11 kr12 k17 k19 k30 k31 hfi him hinj hi0 (by omega) ih J hl
    · refine lv_tableIn (x := nI 21) (off := 772) (tgt := 805) hx hb dL_law_33 (by decide +kernel) (by decide +kernel) (by decide +kernel) (by decide) ?_
      exact lw_c21 C0 hL hA hA2 hK hX kr1 kr2 kr3 kr4 kr5 kr6 kr7 kr9 kr10 kr11 kr12 k17 k19 k30 k31 hfi him hinj hi0 (by omega) ih J hl
    · refine lv_tableIn (x := nI 22) (off := 805) (tgt := 838) hx hb dL_law_33 (by decide +kernel) (by decide +kernel) (by decide +kernel) (by decide) ?_
      exact lw_c22 C0 hL hA hA2 hK hX kr1 kr2 kr3 kr4 kr5 kr6 kr7 kr9 kr10 kr11 kr12 k17 k19 k30 k31 hfi him hinj hi0 (by omega) ih J hl
    · refine lv_tableIn (x := nI 23) (off := 828) (tgt := 861) hx hb dL_law_33 (by decide +kernel) (by decide +kernel) (by decide +kernel) (by decide) ?_
      exact lw_c23 C0 hL hA hA2 hK hX kr1 kr2 kr3 kr4 kr5 kr6 kr7 kr9 kr10 kr11 kr12 k17 k19 k30 k31 hfi him hinj hi0 (by omega) ih J hl
    · refine lv_tableIn (x := nI 24) (off := 871) (tgt := 904) hx hb dL_law_33 (by decide +kernel) (by decide +kernel) (by decide +kernel) (by decide) ?_
      exact lw_c24 C0 hL hA hA2 hK hX kr1 kr2 kr3 kr4 kr5 kr6 kr7 kr9 kr10 kr11 kr12 k17 k19 k30 k31 hfi him hinj hi0 (by omega) ih J hl
    · refine lv_tableIn (x := nI 25) (off := 894) (tgt := 927) hx hb dL_law_33 (by decide +kernel) (by decide +kernel) (by decide +kernel) (by decide) ?_
      exact lw_c25 C0 hL hA hA2 hK hX kr1 kr2 kr3 kr4 kr5 kr6 kr7 kr9 kr10 kr11 kr12 k17 k19 k30 k31 hfi him hinj hi0 (by omega) ih J hl
    · refine lv_tableIn (x := nI 26) (off := 917) (tgt := 950) hx hb dL_law_33 (by decide +kernel) (by decide +kernel) (by decide +kernel) (by decide) ?_
      exact lw_c26 C0 hL hA hA2 hK hX kr1 kr2 kr3 kr4 kr5 kr6 kr7 kr9 kr10 kr11 kr12 k17 k19 k30 k31 hfi him hinj hi0 (by omega) ih J hl
    · refine lv_tableIn (x := nI 27) (off := 940) (tgt := 973) hx hb dL_law_33 (by decide +kernel) (by decide +kernel) (by decide +kernel) (by decide) ?_
      exact lw_c27 C0 hL hA hA2 hK hX kr1 kr2 kr3 kr4 kr5 kr6 kr7 kr9 kr10 kr11 kr12 k17 k19 k30 k31 hfi him hinj hi0 (by omega) ih J hl
    · refine lv_tableIn (x := nI 28) (off := 993) (tgt := 1026) hx hb dL_law_33 (by decide +kernel) (by decide +kernel) (by decide +kernel) (by decide) ?_
      exact lw_c28 C0 hL hA hA2 hK hX kr1 kr2 kr3 kr4 kr5 kr6 kr7 kr9 kr10 kr11 kr12 k17 k19 k30 k31 hfi him hinj hi0 (by omega) ih J hl
    · refine lv_tableIn (x := nI 29) (off := 1016) (tgt := 1049) hx hb dL_law_33 (by decide +kernel) (by decide +kernel) (by decide +kernel) (by decide) ?_
      exact lw_c29 C0 hL hA hA2 hK hX kr1 kr2 kr3 kr4 kr5 kr6 kr7 kr9 kr10 kr11 kr12 k17 k19 k30 k31 hfi him hinj hi0 (by omega) ih J hl
    · refine lv_tableIn (x := nI 30) (off := 1039) (tgt := 1072) hx hb dL_law_33 (by decide +kernel) (by decide +kernel) (by decide +kernel) (by decide) ?_
      exact lw_c30 C0 hL hA hA2 hK hX kr1 kr2 kr3 kr4 kr5 kr6 kr7 kr9 kr10 kr11 kr12 k17 k19 k30 k31 hfi him hinj hi0 (by omega) ih J hl
    · refine lv_tableOut (x := nI 31) (tgt := 1095) hx hb dL_law_33 (by decide +kernel) (by decide) ?_
      exact lw_c31 C0 hL hA hA2 hK hX kr1 kr2 kr3 kr4 kr5 kr6 kr7 kr9 kr10 kr11 kr12 k17 k19 k30 k31 hfi him hinj hi0 (by omega) ih J hl
set_option maxHeartbeats 16000000 in
set_option maxRecDepth 100000 in
theorem whole_start {p : Program} {e : Env} {s : State} {m : MethodId} {below : List Frame} {meth : Method} {c : Code} (l : Launch) (hflags : l.flags = flags0) {b L : Nat} {xs : Nat → Int32} (hL : L ≤ 3072) (C0 : lw_At p s m meth c b L xs) : W p l e room_1 s m #[Value.ref b] below meth c s.heap [] 0 0 (lw_Z below #[Value.ref b] s) (entryFrame m ([Value.ref b] : List Value).toArray 4) := by
  obtain ⟨A, hAe⟩ : ∃ A : Nat → Prop, A = fun q : Nat => s.heap.size ≤ q := ⟨_, rfl⟩
  have hA : ∀ q : Nat, s.heap.size ≤ q → A q := fun q h => by rw [hAe]; exact h
  have hA2 : ∀ q : Nat, A q → s.heap.size ≤ q := fun q h => by rw [hAe] at h; exact h
  obtain ⟨hx, hb, hr, hml, hown, hts, hX_, hbl, hlocks, hgv⟩ := id C0
  have ht : ∀ w ∈ tb_L, w.before #[Value.ref b] s = true := fun w h => hts w (List.mem_filter.mp h).1
  have hbA : ¬ A b := fun h => Nat.not_le.mpr hbl (hA2 b h)
  have l0 : (0 : Int32).toInt = 0 := by decide +kernel
  have lm1 : ((-1) : Int32).toInt = -1 := by decide +kernel
  obtain ⟨G, hK⟩ := gg_start hts
  obtain ⟨K, V, hX⟩ := sx_start hts hgv (A := A) (fun a h h2 => Nat.not_le.mpr h (hA2 a h2))
  have hS : va_S A s.heap s.heap [] := va_S.rf
  obtain ⟨Γ, hΓ0⟩ : ∃ z : Nat → Nat, z = fun _ => 0 := ⟨_, rfl⟩
  obtain ⟨wt, hwt⟩ : ∃ z : va_W, z = [] := ⟨_, rfl⟩
  have hT : tk_ty G Γ wt := fun a h => absurd (by rw [hΓ0]) h
  have hP : va_P (gg_D G) classes ([] ++ wt) s.heap := by rw [hwt]; exact fun k q h => by simp at h
  have hD : va_D A ([] ++ wt) := by rw [hwt]; exact ⟨fun i j p q h => by simp at h, fun k q h => by simp at h⟩
  have hE : tk_ext Γ Γ := tk_ext.rf
  clear hΓ0 hwt
  have hW : tk_kp [709] wt wt := tk_kp.rf
  have hl := lv_entry ([.ref b]) (n := 4) (Nat.le_of_ble_eq_true rfl)
  rw [lg_entry_eq]
  generalize (lg_sl ([.ref b]) ++ List.replicate (4 - (lg_sl ([.ref b])).length) Slot.unset).toArray = ls at hl ⊢
  have hl : lv_has ls 4 [(0, .ref b)] := hl
  refine gq_new (ci := 11) hx hb ht hown i_X11 tyX11 tyX11_ok wd_142 wd_143 wd_122 hK hP hD hS hA rfl [.null, .null, .null, .null, .null, .null, .null, .null, .null, .null, .null, .null, .null, .int 0, .int 0, .int 0] df_X11 1 16 (Nat.le_of_ble_eq_true rfl) (Nat.le_of_ble_eq_true rfl) (Nat.le_of_ble_eq_true rfl) (Nat.le_of_ble_eq_true rfl) dL_law_0 (fun q_1 H hP hD hS => ?_)
  have hP : va_P (gg_D G) classes ([(q_1, .inr (11, [.null, .null, .null, .null, .null, .null, .null, .null, .null, .null, .null, .null, .null, .int 0, .int 0, .int 0]))] ++ wt) H := tw_newP hP
  have hD : va_D A ([(q_1, .inr (11, [.null, .null, .null, .null, .null, .null, .null, .null, .null, .null, .null, .null, .null, .int 0, .int 0, .int 0]))] ++ wt) := tw_newD hD
  refine lv_dup hx hb dL_law_3 rfl ?_
  have hP : va_P (gg_D G) classes ([] ++ ([(q_1, .inr (11, [.null, .null, .null, .null, .null, .null, .null, .null, .null, .null, .null, .null, .null, .int 0, .int 0, .int 0]))] ++ wt)) H := hP
  have hD : va_D A ([] ++ ([(q_1, .inr (11, [.null, .null, .null, .null, .null, .null, .null, .null, .null, .null, .null, .null, .null, .int 0, .int 0, .int 0]))] ++ wt)) := hD
  refine gt_callV (wr := []) (va_runI (As := []) (rest := [.ref q_1]) ⟨hx, hb, hml, hown, ht⟩ (d_i_Sale l G Γ H.size wt hT q_1) (cwI 0 ht (tb_good (ts_good wd_146)) rfl rfl rfl (ht _ wd_122) (ht _ wd_144) (ht _ wd_145) rfl (by decide +kernel) ⟨Nat.le_of_ble_eq_true rfl, Nat.le_of_ble_eq_true rfl⟩) (gc_preS hK (tw_right hP) (tw_rightD hD)) rfl rfl hl.1 rfl (lv_room (Nat.le_of_ble_eq_true rfl)) dL_law_4 ⟨Nat.le_of_ble_eq_true rfl, Nat.le_of_ble_eq_true rfl⟩) hP hD hS hA (fun u H locs hw hP hD hS => ?_)
  obtain ⟨Γ9, y_3, y_4, y_5, y_6, y_7, y_8, y_9, y_10, y_11, y_12, y_13, y_14, y_15, y_16, y_17, y_18, wt⟩ := u
  obtain ⟨hT, hkp, hxe, w_19, w_20, w_21, w_22, w_23, w_24, w_25, w_26, w_27, w_28, w_29, w_30, w_31, w_32, w_33, w_34⟩ := hw
  have hW := hW.call (show ∀ x ∈ [709], x ∈ [709] by decide) hkp
  have hE := hE.tr hxe
  clear hxe
  obtain ⟨Γ, hΓ9⟩ : ∃ z, z = Γ9 := ⟨_, rfl⟩
  subst hΓ9
  have hP : va_P (gg_D G) classes ([(q_1, .inr (11, [.ref y_3, .ref y_5, .ref y_6, .ref y_7, .ref y_8, .ref y_9, .ref y_10, .ref y_11, .ref y_12, .ref y_13, .ref y_14, .ref y_15, .ref y_16, .int 0, .int (-1), .int 0])), (y_3, .inr (8, [.ref y_4, .int 0, .int 0, .int 0, .int 0])), (y_4, .inl (G.2.2 0, 400, .inl (fun _ => 0))), (y_12, .inl (G.2.2 6, 4, .inr (.inr (.inr (.inr y_17)))))] ++ wt) H := hP
  have hD : va_D A ([(q_1, .inr (11, [.ref y_3, .ref y_5, .ref y_6, .ref y_7, .ref y_8, .ref y_9, .ref y_10, .ref y_11, .ref y_12, .ref y_13, .ref y_14, .ref y_15, .ref y_16, .int 0, .int (-1), .int 0])), (y_3, .inr (8, [.ref y_4, .int 0, .int 0, .int 0, .int 0])), (y_4, .inl (G.2.2 0, 400, .inl (fun _ => 0))), (y_12, .inl (G.2.2 6, 4, .inr (.inr (.inr (.inr y_17)))))] ++ wt) := hD
  have kr1 := w_19
  have kr2 := w_20
  have kr3 := w_21
  have kr4 := w_22
  have kr5 := w_23
  have kr6 := w_24
  have kr7 := w_25
  have kr9 := w_26
  have kr10 := w_27
  have kr11 := w_28
  have kr12 := w_29
  have hfi := w_30
  have him := w_31
  have hinj := w_32
  have hmd0 := w_33
  have hix0 := w_34
  refine W.widen (k := 410) (n := 5414) (Nat.le_of_ble_eq_true rfl) (Nat.le_of_ble_eq_true rfl) ?_
  refine lv_astore_n (lv' := [(1, .ref q_1), (0, .ref b)]) hx hb dL_law_7 rfl hl (by decide) rfl (fun ls hl => ?_)
  refine gq_new (ci := 12) hx hb ht hown i_X12 tyX12 tyX12_ok wd_1246 wd_1247 wd_134 hK hP hD hS hA rfl [.null, .int 0, .int 0, .null, .null, .null, .null, .null, .int 0, .int 0, .int 0, .int 0, .int 0, .int 0, .int 0, .null, .int 0, .null, .int 0, .null, .null, .int 0, .int 0, .int 0, .int 0, .int 0, .null, .int 0, .null, .null, .null, .null, .long 0, .null, .null, .null, .null] df_X12 411 5451 (Nat.le_of_ble_eq_true rfl) (Nat.le_of_ble_eq_true rfl) (Nat.le_of_ble_eq_true rfl) (Nat.le_of_ble_eq_true rfl) dL_law_8 (fun q_35 H hP hD hS => ?_)
  have hP : va_P (gg_D G) classes ([(q_1, .inr (11, [.ref y_3, .ref y_5, .ref y_6, .ref y_7, .ref y_8, .ref y_9, .ref y_10, .ref y_11, .ref y_12, .ref y_13, .ref y_14, .ref y_15, .ref y_16, .int 0, .int (-1), .int 0])), (y_3, .inr (8, [.ref y_4, .int 0, .int 0, .int 0, .int 0])), (y_4, .inl (G.2.2 0, 400, .inl (fun _ => 0))), (y_12, .inl (G.2.2 6, 4, .inr (.inr (.inr (.inr y_17))))), (q_35, .inr (12, [.null, .int 0, .int 0, .null, .null, .null, .null, .null, .int 0, .int 0, .int 0, .int 0, .int 0, .int 0, .int 0, .null, .int 0, .null, .int 0, .null, .null, .int 0, .int 0, .int 0, .int 0, .int 0, .null, .int 0, .null, .null, .null, .null, .long 0, .null, .null, .null, .null]))] ++ wt) H := tw_newP hP
  have hD : va_D A ([(q_1, .inr (11, [.ref y_3, .ref y_5, .ref y_6, .ref y_7, .ref y_8, .ref y_9, .ref y_10, .ref y_11, .ref y_12, .ref y_13, .ref y_14, .ref y_15, .ref y_16, .int 0, .int (-1), .int 0])), (y_3, .inr (8, [.ref y_4, .int 0, .int 0, .int 0, .int 0])), (y_4, .inl (G.2.2 0, 400, .inl (fun _ => 0))), (y_12, .inl (G.2.2 6, 4, .inr (.inr (.inr (.inr y_17))))), (q_35, .inr (12, [.null, .int 0, .int 0, .null, .null, .null, .null, .null, .int 0, .int 0, .int 0, .int 0, .int 0, .int 0, .int 0, .null, .int 0, .null, .int 0, .null, .null, .int 0, .int 0, .int 0, .int 0, .int 0, .null, .int 0, .null, .null, .null, .null, .long 0, .null, .null, .null, .null]))] ++ wt) := tw_newD hD
  refine lv_dup hx hb dL_law_11 rfl ?_
  have hP : va_P (gg_D G) classes ([(q_1, .inr (11, [.ref y_3, .ref y_5, .ref y_6, .ref y_7, .ref y_8, .ref y_9, .ref y_10, .ref y_11, .ref y_12, .ref y_13, .ref y_14, .ref y_15, .ref y_16, .int 0, .int (-1), .int 0])), (y_3, .inr (8, [.ref y_4, .int 0, .int 0, .int 0, .int 0])), (y_4, .inl (G.2.2 0, 400, .inl (fun _ => 0))), (y_12, .inl (G.2.2 6, 4, .inr (.inr (.inr (.inr y_17)))))] ++ ([(q_35, .inr (12, [.null, .int 0, .int 0, .null, .null, .null, .null, .null, .int 0, .int 0, .int 0, .int 0, .int 0, .int 0, .int 0, .null, .int 0, .null, .int 0, .null, .null, .int 0, .int 0, .int 0, .int 0, .int 0, .null, .int 0, .null, .null, .null, .null, .long 0, .null, .null, .null, .null]))] ++ wt)) H := hP
  have hD : va_D A ([(q_1, .inr (11, [.ref y_3, .ref y_5, .ref y_6, .ref y_7, .ref y_8, .ref y_9, .ref y_10, .ref y_11, .ref y_12, .ref y_13, .ref y_14, .ref y_15, .ref y_16, .int 0, .int (-1), .int 0])), (y_3, .inr (8, [.ref y_4, .int 0, .int 0, .int 0, .int 0])), (y_4, .inl (G.2.2 0, 400, .inl (fun _ => 0))), (y_12, .inl (G.2.2 6, 4, .inr (.inr (.inr (.inr y_17)))))] ++ ([(q_35, .inr (12, [.null, .int 0, .int 0, .null, .null, .null, .null, .null, .int 0, .int 0, .int 0, .int 0, .int 0, .int 0, .int 0, .null, .int 0, .null, .int 0, .null, .null, .int 0, .int 0, .int 0, .int 0, .int 0, .null, .int 0, .null, .null, .null, .null, .long 0, .null, .null, .null, .null]))] ++ wt)) := hD
  refine gt_callV (wr := [(q_1, .inr (11, [.ref y_3, .ref y_5, .ref y_6, .ref y_7, .ref y_8, .ref y_9, .ref y_10, .ref y_11, .ref y_12, .ref y_13, .ref y_14, .ref y_15, .ref y_16, .int 0, .int (-1), .int 0])), (y_3, .inr (8, [.ref y_4, .int 0, .int 0, .int 0, .int 0])), (y_4, .inl (G.2.2 0, 400, .inl (fun _ => 0))), (y_12, .inl (G.2.2 6, 4, .inr (.inr (.inr (.inr y_17)))))]) (va_runI (As := []) (rest := [.ref q_35]) ⟨hx, hb, hml, hown, ht⟩ (d_i_Model l G Γ H.size wt hT q_35) (cwI 0 ht (tb_good (ts_good wd_1250)) rfl rfl rfl (ht _ wd_134) (ht _ wd_1248) (ht _ wd_1249) rfl (by decide +kernel) ⟨Nat.le_of_ble_eq_true rfl, Nat.le_of_ble_eq_true rfl⟩) (gc_preS hK (tw_right hP) (tw_rightD hD)) rfl rfl hl.1 rfl (lv_room (Nat.le_of_ble_eq_true rfl)) dL_law_12 ⟨Nat.le_of_ble_eq_true rfl, Nat.le_of_ble_eq_true rfl⟩) hP hD hS hA (fun u H locs hw hP hD hS => ?_)
  obtain ⟨Γ9, y_37, wt⟩ := u
  obtain ⟨hT, hkp, hxe, w_38, w_39, w_40, w_41⟩ := hw
  have hW := hW.call (show ∀ x ∈ [], x ∈ [709] by decide) hkp
  have hmd0 := fun j hj => hkp _ _ _ _ (by decide) (by decide) (hmd0 j hj)
  have hix0 := fun j hj => hkp _ _ _ _ (by decide) (by decide) (hix0 j hj)
  have him := fun j hj => hxe.of (k := 2) (by decide) (him j hj)
  have kr1 := hxe.of (by decide) kr1
  have kr2 := hxe.of (by decide) kr2
  have kr3 := hxe.of (by decide) kr3
  have kr4 := hxe.of (by decide) kr4
  have kr5 := hxe.of (by decide) kr5
  have kr6 := hxe.of (by decide) kr6
  have kr7 := hxe.of (by decide) kr7
  have kr9 := hxe.of (by decide) kr9
  have kr10 := hxe.of (by decide) kr10
  have kr11 := hxe.of (by decide) kr11
  have kr12 := hxe.of (by decide) kr12
  have hE := hE.tr hxe
  clear hxe
  obtain ⟨Γ, hΓ9⟩ : ∃ z, z = Γ9 := ⟨_, rfl⟩
  subst hΓ9
  have hP : va_P (gg_D G) classes ([(q_1, .inr (11, [.ref y_3, .ref y_5, .ref y_6, .ref y_7, .ref y_8, .ref y_9, .ref y_10, .ref y_11, .ref y_12, .ref y_13, .ref y_14, .ref y_15, .ref y_16, .int 0, .int (-1), .int 0])), (y_3, .inr (8, [.ref y_4, .int 0, .int 0, .int 0, .int 0])), (y_4, .inl (G.2.2 0, 400, .inl (fun _ => 0))), (y_12, .inl (G.2.2 6, 4, .inr (.inr (.inr (.inr y_17))))), ((y_37 36), .inl (G.2.2 3, 4, .inl (fun _ => 0))), ((y_37 35), .inl (G.2.2 0, 4, .inl (fun _ => 0))), ((y_37 34), .inl (G.2.2 0, 4, .inl (fun _ => 0))), ((y_37 33), .inl (G.2.2 0, 440, .inl (fun _ => 0))), ((y_37 26), .inl (G.2.2 0, 760, .inl (fun _ => 0))), ((y_37 28), .inl (G.2.2 0, 38, .inl (fun _ => 0))), ((y_37 29), .inl (G.2.2 3, 7, .inl (fun _ => 0))), ((y_37 7), .inl (G.2.2 0, 79, .inl (fun _ => 0))), ((y_37 15), .inl (G.2.2 0, 400, .inl (fun _ => 0))), ((y_37 0), .inl (G.2.2 2, 400, .inl (fun _ => 0))), ((y_37 4), .inl (G.2.2 0, 7, .inl (fun _ => 0))), ((y_37 6), .inl (G.2.2 0, 6, .inl (fun _ => 0))), ((y_37 5), .inl (G.2.2 0, 288, .inl (fun _ => 0))), ((y_37 3), .inl (G.2.2 0, 2400, .inl (fun _ => 0))), ((y_37 20), .inl (G.2.2 0, 110, .inl (fun _ => 0))), (q_35, .inr (12, [.ref (y_37 0), .int 0, .int 0, .ref (y_37 3), .ref (y_37 4), .ref (y_37 5), .ref (y_37 6), .ref (y_37 7), .int 0, .int 0, .int 0, .int 0, .int 0, .int 0, .int 0, .ref (y_37 15), .int 0, .ref (y_37 17), .int 0, .ref (y_37 19), .ref (y_37 20), .int (-1), .int 0, .int 0, .int (-1), .int 0, .ref (y_37 26), .int 0, .ref (y_37 28), .ref (y_37 29), .ref (y_37 30), .ref (y_37 31), .long 0, .ref (y_37 33), .ref (y_37 34), .ref (y_37 35), .ref (y_37 36)]))] ++ wt) H := hP
  have hD : va_D A ([(q_1, .inr (11, [.ref y_3, .ref y_5, .ref y_6, .ref y_7, .ref y_8, .ref y_9, .ref y_10, .ref y_11, .ref y_12, .ref y_13, .ref y_14, .ref y_15, .ref y_16, .int 0, .int (-1), .int 0])), (y_3, .inr (8, [.ref y_4, .int 0, .int 0, .int 0, .int 0])), (y_4, .inl (G.2.2 0, 400, .inl (fun _ => 0))), (y_12, .inl (G.2.2 6, 4, .inr (.inr (.inr (.inr y_17))))), ((y_37 36), .inl (G.2.2 3, 4, .inl (fun _ => 0))), ((y_37 35), .inl (G.2.2 0, 4, .inl (fun _ => 0))), ((y_37 34), .inl (G.2.2 0, 4, .inl (fun _ => 0))), ((y_37 33), .inl (G.2.2 0, 440, .inl (fun _ => 0))), ((y_37 26), .inl (G.2.2 0, 760, .inl (fun _ => 0))), ((y_37 28), .inl (G.2.2 0, 38, .inl (fun _ => 0))), ((y_37 29), .inl (G.2.2 3, 7, .inl (fun _ => 0))), ((y_37 7), .inl (G.2.2 0, 79, .inl (fun _ => 0))), ((y_37 15), .inl (G.2.2 0, 400, .inl (fun _ => 0))), ((y_37 0), .inl (G.2.2 2, 400, .inl (fun _ => 0))), ((y_37 4), .inl (G.2.2 0, 7, .inl (fun _ => 0))), ((y_37 6), .inl (G.2.2 0, 6, .inl (fun _ => 0))), ((y_37 5), .inl (G.2.2 0, 288, .inl (fun _ => 0))), ((y_37 3), .inl (G.2.2 0, 2400, .inl (fun _ => 0))), ((y_37 20), .inl (G.2.2 0, 110, .inl (fun _ => 0))), (q_35, .inr (12, [.ref (y_37 0), .int 0, .int 0, .ref (y_37 3), .ref (y_37 4), .ref (y_37 5), .ref (y_37 6), .ref (y_37 7), .int 0, .int 0, .int 0, .int 0, .int 0, .int 0, .int 0, .ref (y_37 15), .int 0, .ref (y_37 17), .int 0, .ref (y_37 19), .ref (y_37 20), .int (-1), .int 0, .int 0, .int (-1), .int 0, .ref (y_37 26), .int 0, .ref (y_37 28), .ref (y_37 29), .ref (y_37 30), .ref (y_37 31), .long 0, .ref (y_37 33), .ref (y_37 34), .ref (y_37 35), .ref (y_37 36)]))] ++ wt) := hD
  have k17 := w_38
  have k19 := w_39
  have k30 := w_40
  have k31 := w_41
  refine W.widen (k := 430) (n := 10514) (Nat.le_of_ble_eq_true rfl) (Nat.le_of_ble_eq_true rfl) ?_
  refine lv_astore_n (lv' := [(2, .ref q_35), (1, .ref q_1), (0, .ref b)]) hx hb dL_law_15 rfl hl (by decide) rfl (fun ls hl => ?_)
  refine lv_iconst (v := 0) hx hb dL_law_16 (by decide +kernel) ?_
  refine lv_istore_n (lv' := [(3, .int 0), (2, .ref q_35), (1, .ref q_1), (0, .ref b)]) hx hb dL_law_17 rfl hl (by decide) rfl (fun ls hl => ?_)
  have hP := tw_permP (we' := [(q_1, .inr (11, [.ref y_3, .ref y_5, .ref y_6, .ref y_7, .ref y_8, .ref y_9, .ref y_10, .ref y_11, .ref y_12, .ref y_13, .ref y_14, .ref y_15, .ref y_16, .int 0, .int (-1), .int 0])), (y_3, .inr (8, [.ref y_4, .int 0, .int 0, .int 0, .int 0])), (y_4, .inl (G.2.2 0, 400, .inl (fun _ => 0))), (y_12, .inl (G.2.2 6, 4, .inr (.inr (.inr (.inr y_17))))), ((y_37 36), .inl (G.2.2 3, 4, .inl (fun _ => 0))), ((y_37 35), .inl (G.2.2 0, 4, .inl (fun _ => 0))), ((y_37 34), .inl (G.2.2 0, 4, .inl (fun _ => 0))), ((y_37 33), .inl (G.2.2 0, 440, .inl (fun _ => 0))), ((y_37 26), .inl (G.2.2 0, 760, .inl (fun _ => 0))), ((y_37 28), .inl (G.2.2 0, 38, .inl (fun _ => 0))), ((y_37 29), .inl (G.2.2 3, 7, .inl (fun _ => 0))), ((y_37 7), .inl (G.2.2 0, 79, .inl (fun _ => 0))), ((y_37 15), .inl (G.2.2 0, 400, .inl (fun _ => 0))), ((y_37 0), .inl (G.2.2 2, 400, .inl (fun _ => 0))), ((y_37 4), .inl (G.2.2 0, 7, .inl (fun _ => 0))), ((y_37 6), .inl (G.2.2 0, 6, .inl (fun _ => 0))), ((y_37 5), .inl (G.2.2 0, 288, .inl (fun _ => 0))), ((y_37 3), .inl (G.2.2 0, 2400, .inl (fun _ => 0))), ((y_37 20), .inl (G.2.2 0, 110, .inl (fun _ => 0))), (q_35, .inr (12, [.ref (y_37 0), .int 0, .int 0, .ref (y_37 3), .ref (y_37 4), .ref (y_37 5), .ref (y_37 6), .ref (y_37 7), .int 0, .int 0, .int 0, .int 0, .int 0, .int 0, .int 0, .ref (y_37 15), .int 0, .ref (y_37 17), .int 0, .ref (y_37 19), .ref (y_37 20), .int (-1), .int 0, .int 0, .int (-1), .int 0, .ref (y_37 26), .int 0, .ref (y_37 28), .ref (y_37 29), .ref (y_37 30), .ref (y_37 31), .long 0, .ref (y_37 33), .ref (y_37 34), .ref (y_37 35), .ref (y_37 36)]))]) [0, 1, 2, 3, 4, 5, 6, 7, 8, 9, 10, 11, 12, 13, 14, 15, 16, 17, 18, 19] rfl hP
  have hD := tw_permD (we' := [(q_1, .inr (11, [.ref y_3, .ref y_5, .ref y_6, .ref y_7, .ref y_8, .ref y_9, .ref y_10, .ref y_11, .ref y_12, .ref y_13, .ref y_14, .ref y_15, .ref y_16, .int 0, .int (-1), .int 0])), (y_3, .inr (8, [.ref y_4, .int 0, .int 0, .int 0, .int 0])), (y_4, .inl (G.2.2 0, 400, .inl (fun _ => 0))), (y_12, .inl (G.2.2 6, 4, .inr (.inr (.inr (.inr y_17))))), ((y_37 36), .inl (G.2.2 3, 4, .inl (fun _ => 0))), ((y_37 35), .inl (G.2.2 0, 4, .inl (fun _ => 0))), ((y_37 34), .inl (G.2.2 0, 4, .inl (fun _ => 0))), ((y_37 33), .inl (G.2.2 0, 440, .inl (fun _ => 0))), ((y_37 26), .inl (G.2.2 0, 760, .inl (fun _ => 0))), ((y_37 28), .inl (G.2.2 0, 38, .inl (fun _ => 0))), ((y_37 29), .inl (G.2.2 3, 7, .inl (fun _ => 0))), ((y_37 7), .inl (G.2.2 0, 79, .inl (fun _ => 0))), ((y_37 15), .inl (G.2.2 0, 400, .inl (fun _ => 0))), ((y_37 0), .inl (G.2.2 2, 400, .inl (fun _ => 0))), ((y_37 4), .inl (G.2.2 0, 7, .inl (fun _ => 0))), ((y_37 6), .inl (G.2.2 0, 6, .inl (fun _ => 0))), ((y_37 5), .inl (G.2.2 0, 288, .inl (fun _ => 0))), ((y_37 3), .inl (G.2.2 0, 2400, .inl (fun _ => 0))), ((y_37 20), .inl (G.2.2 0, 110, .inl (fun _ => 0))), (q_35, .inr (12, [.ref (y_37 0), .int 0, .int 0, .ref (y_37 3), .ref (y_37 4), .ref (y_37 5), .ref (y_37 6), .ref (y_37 7), .int 0, .int 0, .int 0, .int 0, .int 0, .int 0, .int 0, .ref (y_37 15), .int 0, .ref (y_37 17), .int 0, .ref (y_37 19), .ref (y_37 20), .int (-1), .int 0, .int 0, .int (-1), .int 0, .ref (y_37 26), .int 0, .ref (y_37 28), .ref (y_37 29), .ref (y_37 30), .ref (y_37 31), .long 0, .ref (y_37 33), .ref (y_37 34), .ref (y_37 35), .ref (y_37 36)]))]) [0, 1, 2, 3, 4, 5, 6, 7, 8, 9, 10, 11, 12, 13, 14, 15, 16, 17, 18, 19] (by decide) rfl hD
  have J : lw_J G Γ A s.heap q_1 y_3 y_4 q_35 y_5 y_6 y_7 y_8 y_9 y_10 y_11 y_12 y_13 y_14 y_15 y_16 y_37 y_18 y_17 H locs := ⟨wt, 0, (-1), 0, 0, 0, 0, 0, (fun _ => 0), (fun _ => 0), (fun _ => 0), 0, 0, 0, 0, 0, 0, 0, 0, 0, 0, 0, (-1), 0, 0, (-1), 0, 0, 0, (fun _ => 0), (fun _ => 0), (fun _ => 0), (fun _ => 0), (fun _ => 0), (fun _ => 0), (fun _ => 0), (fun _ => 0), (fun _ => 0), (fun _ => 0), (fun _ => 0), (fun _ => 0), (fun _ => 0), (fun _ => 0), (fun _ => 0), hT, hP, hD, hS, (by omega), (by omega), (by omega), (by omega), (by omega), (by omega), (by omega), (by omega), (by omega), (by omega), (by omega), (by omega), (by omega), (by omega), (by omega), (by omega), (by omega), (by omega), (by omega), (by omega), (by omega), (by omega), (by omega), (by omega), (by omega), (by omega), hmd0, hix0, SD.zero, (rRU.zero l0), (fun j hj => by omega), rIM.zero, rIF.zero, (by omega), (fun _ _ => Iff.rfl), (fun _ _ _ => rfl)⟩
  exact lw_loop C0 hL hA hA2 hK hX kr1 kr2 kr3 kr4 kr5 kr6 kr7 kr9 kr10 kr11 kr12 k17 k19 k30 k31 hfi him hinj 3072 0 (by omega) (by omega) _ _ _ (by omega) J (lv_sub hl [0, 1, 2, 3] rfl)

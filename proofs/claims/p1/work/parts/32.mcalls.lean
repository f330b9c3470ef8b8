set_option maxHeartbeats 4000000 in
set_option maxRecDepth 100000 in
theorem c_M_feed (l : Launch) (G : gg_T) (sz : Nat) (h0 : Nat) (am : Nat → Nat) (a : Int32) (b : Int32) (c1 : Int32) (d1 : Int32) (e1 : Int32) : Met l yX12_feed (ts_L yX12_feed cX12_feed 6 (some .int)) ({ frames := 1, cells := 0, slots := 0, locals := 22 }) (gc_P G [(h0, .inr (12, [.ref (am 0), .int 0, .int 0, .ref (am 1), .ref (am 2), .ref (am 3), .ref (am 4), .ref (am 5), .int 0, .int 0, .int 0, .int 0, .int 0, .int 0, .int 0, .ref (am 6), .int 0, .ref (am 7), .int 0, .ref (am 8), .ref (am 9), .int (-1), .int 0, .int 0, .int (-1), .int 0, .ref (am 10), .int 0, .ref (am 11), .ref (am 12), .ref (am 13), .ref (am 14), .long 0, .ref (am 15), .ref (am 16), .ref (am 17), .ref (am 18)])), ((am 0), .inl (G.2.2 2, 400, .inl (fun _ => 0)))] sz [.ref h0, .int a, .int b, .int c1, .int d1, .int e1]) (gc_I G (va_A [(h0, .inr (12, [.ref (am 0), .int 0, .int 0, .ref (am 1), .ref (am 2), .ref (am 3), .ref (am 4), .ref (am 5), .int 0, .int 0, .int 0, .int 0, .int 0, .int 0, .int 0, .ref (am 6), .int 0, .ref (am 7), .int 0, .ref (am 8), .ref (am 9), .int (-1), .int 0, .int 0, .int (-1), .int 0, .ref (am 10), .int 0, .ref (am 11), .ref (am 12), .ref (am 13), .ref (am 14), .long 0, .ref (am 15), .ref (am 16), .ref (am 17), .ref (am 18)])), ((am 0), .inl (G.2.2 2, 400, .inl (fun _ => 0)))] sz) (fun r (_ : Unit) => r = 20) (fun _ => [])) 0 0 (va_A [(h0, .inr (12, [.ref (am 0), .int 0, .int 0, .ref (am 1), .ref (am 2), .ref (am 3), .ref (am 4), .ref (am 5), .int 0, .int 0, .int 0, .int 0, .int 0, .int 0, .int 0, .ref (am 6), .int 0, .ref (am 7), .int 0, .ref (am 8), .ref (am 9), .int (-1), .int 0, .int 0, .int (-1), .int 0, .ref (am 10), .int 0, .ref (am 11), .ref (am 12), .ref (am 13), .ref (am 14), .long 0, .ref (am 15), .ref (am 16), .ref (am 17), .ref (am 18)])), ((am 0), .inl (G.2.2 2, 400, .inl (fun _ => 0)))] sz) := by
  refine Met.ofW (cc := cX12_feed) (maxL := 6) (ret := (some .int)) (by decide) rfl ?_
  intro p e s m args below meth c s₁ B hml hv
  obtain ⟨rfl, hsz, hP, hK, hD0⟩ := hv
  have hx := B.exec
  have hb := B.bytes
  have hr := B.returns
  have ht := ts_ht (atoms_spec (ws := ts_L yX12_feed cX12_feed 6 (some .int)) B.pre)
  have hown : s.vm.findClass RX12 = some m.cls := findClass_of_methodNamed B.named
  have hlocks := B.notSynchronized
  subst hsz
  have hD := hD0.self (sz := s.heap.size)
  generalize hAe : va_A [(h0, .inr (12, [.ref (am 0), .int 0, .int 0, .ref (am 1), .ref (am 2), .ref (am 3), .ref (am 4), .ref (am 5), .int 0, .int 0, .int 0, .int 0, .int 0, .int 0, .int 0, .ref (am 6), .int 0, .ref (am 7), .int 0, .ref (am 8), .ref (am 9), .int (-1), .int 0, .int 0, .int (-1), .int 0, .ref (am 10), .int 0, .ref (am 11), .ref (am 12), .ref (am 13), .ref (am 14), .long 0, .ref (am 15), .ref (am 16), .ref (am 17), .ref (am 18)])), ((am 0), .inl (G.2.2 2, 400, .inl (fun _ => 0)))] s.heap.size = A at hD ⊢
  have hA : ∀ q : Nat, s.heap.size ≤ q → A q := fun q h => by rw [← hAe]; exact Or.inr h
  have hS : va_S A s.heap s.heap [] := va_S.rf
  have hl := lv_entry ([.ref h0, .int a, .int b, .int c1, .int d1, .int e1]) (n := 6) (Nat.le_of_ble_eq_true rfl)
  rw [lg_entry_eq]
  generalize (lg_sl ([.ref h0, .int a, .int b, .int c1, .int d1, .int e1]) ++ List.replicate (6 - (lg_sl ([.ref h0, .int a, .int b, .int c1, .int d1, .int e1])).length) Slot.unset).toArray = ls at hl ⊢
  have hl : lv_has ls 6 [(0, .ref h0), (1, .int a), (2, .int b), (3, .int c1), (4, .int d1), (5, .int e1)] := hl
  refine lv_aload_n hx hb dX12_feed_0 rfl (lv_at hl 0 rfl) ?_
  refine gq_get hx hb ht hown hK hP i_X12 0 rfl rfl 1 (by decide) wd_1253 rfl rfl dX12_feed_1 ?_
  refine lv_bipush (v := 20) hx hb dX12_feed_4 (by decide +kernel) ?_
  refine gq_iadd hx hb 20 (by decide +kernel) dX12_feed_6 ?_
  refine lv_sipush (v := 400) hx hb dX12_feed_7 (by decide +kernel) ?_
  refine lv_icmp_le (tgt := 15) hx hb dX12_feed_10 (by decide) (fun _ => ?_) (fun c0 => absurd (by decide +kernel) c0)
  refine lv_aload_n hx hb dX12_feed_15 rfl (lv_at hl 0 rfl) ?_
  refine lv_iload_n hx hb dX12_feed_16 rfl (lv_at hl 1 rfl) ?_
  have hPc := hP.sub (ws' := [(h0, .inr (12, [.ref (am 0), .int 0, .int 0, .ref (am 1), .ref (am 2), .ref (am 3), .ref (am 4), .ref (am 5), .int 0, .int 0, .int 0, .int 0, .int 0, .int 0, .int 0, .ref (am 6), .int 0, .ref (am 7), .int 0, .ref (am 8), .ref (am 9), .int (-1), .int 0, .int 0, .int (-1), .int 0, .ref (am 10), .int 0, .ref (am 11), .ref (am 12), .ref (am 13), .ref (am 14), .long 0, .ref (am 15), .ref (am 16), .ref (am 17), .ref (am 18)])), ((am 0), .inl (G.2.2 2, 400, .inl (fun _ => 0)))]) [0, 1] rfl
  have hDc := hD.sub (ws' := [(h0, .inr (12, [.ref (am 0), .int 0, .int 0, .ref (am 1), .ref (am 2), .ref (am 3), .ref (am 4), .ref (am 5), .int 0, .int 0, .int 0, .int 0, .int 0, .int 0, .int 0, .ref (am 6), .int 0, .ref (am 7), .int 0, .ref (am 8), .ref (am 9), .int (-1), .int 0, .int 0, .int (-1), .int 0, .ref (am 10), .int 0, .ref (am 11), .ref (am 12), .ref (am 13), .ref (am 14), .long 0, .ref (am 15), .ref (am 16), .ref (am 17), .ref (am 18)])), ((am 0), .inl (G.2.2 2, 400, .inl (fun _ => 0)))]) [0, 1] (by decide) rfl
  refine gq_callV (wr := []) (va_runV (As := [.int a]) (rest := []) ⟨hx, hb, hml, hown, ht⟩ (c_M_four0 l G H.size h0 am a (fun _ => 0)) (cwV 1 ht (ts_gV wd_1369 wd_1371 wd_38 wd_134 wd_1372) rfl rfl rfl (by decide +kernel) ⟨Nat.le_of_ble_eq_true rfl, Nat.le_of_ble_eq_true rfl⟩) (gc_preV (ci := 12) (q0 := 0) hK hPc hDc rfl rfl) rfl rfl hl.1 rfl (lv_room (Nat.le_of_ble_eq_true rfl)) dX12_feed_17 ⟨Nat.le_of_ble_eq_true rfl, Nat.le_of_ble_eq_true rfl⟩) hP hD hS hA [0, 1] [] rfl rfl (by decide) (by decide) (fun u H locs hw hP hD hS => ?_)
  obtain ⟨u_1, rfl⟩ : ∃ z, z = u := ⟨_, rfl⟩
  have hP : va_P (gg_D G) classes [(h0, .inr (12, [.ref (am 0), .int 4, .int 0, .ref (am 1), .ref (am 2), .ref (am 3), .ref (am 4), .ref (am 5), .int 0, .int 0, .int 0, .int 0, .int 0, .int 0, .int 0, .ref (am 6), .int 0, .ref (am 7), .int 0, .ref (am 8), .ref (am 9), .int (-1), .int 0, .int 0, .int (-1), .int 0, .ref (am 10), .int 0, .ref (am 11), .ref (am 12), .ref (am 13), .ref (am 14), .long 0, .ref (am 15), .ref (am 16), .ref (am 17), .ref (am 18)])), ((am 0), .inl (G.2.2 2, 400, .inl u_1))] H := hP
  have hD : va_D A [(h0, .inr (12, [.ref (am 0), .int 4, .int 0, .ref (am 1), .ref (am 2), .ref (am 3), .ref (am 4), .ref (am 5), .int 0, .int 0, .int 0, .int 0, .int 0, .int 0, .int 0, .ref (am 6), .int 0, .ref (am 7), .int 0, .ref (am 8), .ref (am 9), .int (-1), .int 0, .int 0, .int (-1), .int 0, .ref (am 10), .int 0, .ref (am 11), .ref (am 12), .ref (am 13), .ref (am 14), .long 0, .ref (am 15), .ref (am 16), .ref (am 17), .ref (am 18)])), ((am 0), .inl (G.2.2 2, 400, .inl u_1))] := hD
  refine lv_aload_n hx hb dX12_feed_20 rfl (lv_at hl 0 rfl) ?_
  refine lv_iload_n hx hb dX12_feed_21 rfl (lv_at hl 2 rfl) ?_
  have hPc := hP.sub (ws' := [(h0, .inr (12, [.ref (am 0), .int 4, .int 0, .ref (am 1), .ref (am 2), .ref (am 3), .ref (am 4), .ref (am 5), .int 0, .int 0, .int 0, .int 0, .int 0, .int 0, .int 0, .ref (am 6), .int 0, .ref (am 7), .int 0, .ref (am 8), .ref (am 9), .int (-1), .int 0, .int 0, .int (-1), .int 0, .ref (am 10), .int 0, .ref (am 11), .ref (am 12), .ref (am 13), .ref (am 14), .long 0, .ref (am 15), .ref (am 16), .ref (am 17), .ref (am 18)])), ((am 0), .inl (G.2.2 2, 400, .inl u_1))]) [0, 1] rfl
  have hDc := hD.sub (ws' := [(h0, .inr (12, [.ref (am 0), .int 4, .int 0, .ref (am 1), .ref (am 2), .ref (am 3), .ref (am 4), .ref (am 5), .int 0, .int 0, .int 0, .int 0, .int 0, .int 0, .int 0, .ref (am 6), .int 0, .ref (am 7), .int 0, .ref (am 8), .ref (am 9), .int (-1), .int 0, .int 0, .int (-1), .int 0, .ref (am 10), .int 0, .ref (am 11), .ref (am 12), .ref (am 13), .ref (am 14), .long 0, .ref (am 15), .ref (am 16), .ref (am 17), .ref (am 18)])), ((am 0), .inl (G.2.2 2, 400, .inl u_1))]) [0, 1] (by decide) rfl
  refine gq_callV (wr := []) (va_runV (As := [.int b]) (rest := []) ⟨hx, hb, hml, hown, ht⟩ (c_M_four4 l G H.size h0 am b u_1) (cwV 1 ht (ts_gV wd_1369 wd_1371 wd_38 wd_134 wd_1372) rfl rfl rfl (by decide +kernel) ⟨Nat.le_of_ble_eq_true rfl, Nat.le_of_ble_eq_true rfl⟩) (gc_preV (ci := 12) (q0 := 0) hK hPc hDc rfl rfl) rfl rfl hl.1 rfl (lv_room (Nat.le_of_ble_eq_true rfl)) dX12_feed_22 ⟨Nat.le_of_ble_eq_true rfl, Nat.le_of_ble_eq_true rfl⟩) hP hD hS hA [0, 1] [] rfl rfl (by decide) (by decide) (fun u H locs hw hP hD hS => ?_)
  obtain ⟨u_2, rfl⟩ : ∃ z, z = u := ⟨_, rfl⟩
  have hP : va_P (gg_D G) classes [(h0, .inr (12, [.ref (am 0), .int 8, .int 0, .ref (am 1), .ref (am 2), .ref (am 3), .ref (am 4), .ref (am 5), .int 0, .int 0, .int 0, .int 0, .int 0, .int 0, .int 0, .ref (am 6), .int 0, .ref (am 7), .int 0, .ref (am 8), .ref (am 9), .int (-1), .int 0, .int 0, .int (-1), .int 0, .ref (am 10), .int 0, .ref (am 11), .ref (am 12), .ref (am 13), .ref (am 14), .long 0, .ref (am 15), .ref (am 16), .ref (am 17), .ref (am 18)])), ((am 0), .inl (G.2.2 2, 400, .inl u_2))] H := hP
  have hD : va_D A [(h0, .inr (12, [.ref (am 0), .int 8, .int 0, .ref (am 1), .ref (am 2), .ref (am 3), .ref (am 4), .ref (am 5), .int 0, .int 0, .int 0, .int 0, .int 0, .int 0, .int 0, .ref (am 6), .int 0, .ref (am 7), .int 0, .ref (am 8), .ref (am 9), .int (-1), .int 0, .int 0, .int (-1), .int 0, .ref (am 10), .int 0, .ref (am 11), .ref (am 12), .ref (am 13), .ref (am 14), .long 0, .ref (am 15), .ref (am 16), .ref (am 17), .ref (am 18)])), ((am 0), .inl (G.2.2 2, 400, .inl u_2))] := hD
  refine lv_aload_n hx hb dX12_feed_25 rfl (lv_at hl 0 rfl) ?_
  refine lv_iload_n hx hb dX12_feed_26 rfl (lv_at hl 3 rfl) ?_
  have hPc := hP.sub (ws' := [(h0, .inr (12, [.ref (am 0), .int 8, .int 0, .ref (am 1), .ref (am 2), .ref (am 3), .ref (am 4), .ref (am 5), .int 0, .int 0, .int 0, .int 0, .int 0, .int 0, .int 0, .ref (am 6), .int 0, .ref (am 7), .int 0, .ref (am 8), .ref (am 9), .int (-1), .int 0, .int 0, .int (-1), .int 0, .ref (am 10), .int 0, .ref (am 11), .ref (am 12), .ref (am 13), .ref (am 14), .long 0, .ref (am 15), .ref (am 16), .ref (am 17), .ref (am 18)])), ((am 0), .inl (G.2.2 2, 400, .inl u_2))]) [0, 1] rfl
  have hDc := hD.sub (ws' := [(h0, .inr (12, [.ref (am 0), .int 8, .int 0, .ref (am 1), .ref (am 2), .ref (am 3), .ref (am 4), .ref (am 5), .int 0, .int 0, .int 0, .int 0, .int 0, .int 0, .int 0, .ref (am 6), .int 0, .ref (am 7), .int 0, .ref (am 8), .ref (am 9), .int (-1), .int 0, .int 0, .int (-1), .int 0, .ref (am 10), .int 0, .ref (am 11), .ref (am 12), .ref (am 13), .ref (am 14), .long 0, .ref (am 15), .ref (am 16), .ref (am 17), .ref (am 18)])), ((am 0), .inl (G.2.2 2, 400, .inl u_2))]) [0, 1] (by decide) rfl
  refine gq_callV (wr := []) (va_runV (As := [.int c1]) (rest := []) ⟨hx, hb, hml, hown, ht⟩ (c_M_four8 l G H.size h0 am c1 u_2) (cwV 1 ht (ts_gV wd_1369 wd_1371 wd_38 wd_134 wd_1372) rfl rfl rfl (by decide +kernel) ⟨Nat.le_of_ble_eq_true rfl, Nat.le_of_ble_eq_true rfl⟩) (gc_preV (ci := 12) (q0 := 0) hK hPc hDc rfl rfl) rfl rfl hl.1 rfl (lv_room (Nat.le_of_ble_eq_true rfl)) dX12_feed_27 ⟨Nat.le_of_ble_eq_true rfl, Nat.le_of_ble_eq_true rfl⟩) hP hD hS hA [0, 1] [] rfl rfl (by decide) (by decide) (fun u H locs hw hP hD hS => ?_)
  obtain ⟨u_3, rfl⟩ : ∃ z, z = u := ⟨_, rfl⟩
  have hP : va_P (gg_D G) classes [(h0, .inr (12, [.ref (am 0), .int 12, .int 0, .ref (am 1), .ref (am 2), .ref (am 3), .ref (am 4), .ref (am 5), .int 0, .int 0, .int 0, .int 0, .int 0, .int 0, .int 0, .ref (am 6), .int 0, .ref (am 7), .int 0, .ref (am 8), .ref (am 9), .int (-1), .int 0, .int 0, .int (-1), .int 0, .ref (am 10), .int 0, .ref (am 11), .ref (am 12), .ref (am 13), .ref (am 14), .long 0, .ref (am 15), .ref (am 16), .ref (am 17), .ref (am 18)])), ((am 0), .inl (G.2.2 2, 400, .inl u_3))] H := hP
  have hD : va_D A [(h0, .inr (12, [.ref (am 0), .int 12, .int 0, .ref (am 1), .ref (am 2), .ref (am 3), .ref (am 4), .ref (am 5), .int 0, .int 0, .int 0, .int 0, .int 0, .int 0, .int 0, .ref (am 6), .int 0, .ref (am 7), .int 0, .ref (am 8), .ref (am 9), .int (-1), .int 0, .int 0, .int (-1), .int 0, .ref (am 10), .int 0, .ref (am 11), .ref (am 12), .ref (am 13), .ref (am 14), .long 0, .ref (am 15), .ref (am 16), .ref (am 17), .ref (am 18)])), ((am 0), .inl (G.2.2 2, 400, .inl u_3))] := hD
  refine lv_aload_n hx hb dX12_feed_30 rfl (lv_at hl 0 rfl) ?_
  refine lv_iload hx hb dX12_feed_31 (lv_at hl 4 rfl) ?_
  have hPc := hP.sub (ws' := [(h0, .inr (12, [.ref (am 0), .int 12, .int 0, .ref (am 1), .ref (am 2), .ref (am 3), .ref (am 4), .ref (am 5), .int 0, .int 0, .int 0, .int 0, .int 0, .int 0, .int 0, .ref (am 6), .int 0, .ref (am 7), .int 0, .ref (am 8), .ref (am 9), .int (-1), .int 0, .int 0, .int (-1), .int 0, .ref (am 10), .int 0, .ref (am 11), .ref (am 12), .ref (am 13), .ref (am 14), .long 0, .ref (am 15), .ref (am 16), .ref (am 17), .ref (am 18)])), ((am 0), .inl (G.2.2 2, 400, .inl u_3))]) [0, 1] rfl
  have hDc := hD.sub (ws' := [(h0, .inr (12, [.ref (am 0), .int 12, .int 0, .ref (am 1), .ref (am 2), .ref (am 3), .ref (am 4), .ref (am 5), .int 0, .int 0, .int 0, .int 0, .int 0, .int 0, .int 0, .ref (am 6), .int 0, .ref (am 7), .int 0, .ref (am 8), .ref (am 9), .int (-1), .int 0, .int 0, .int (-1), .int 0, .ref (am 10), .int 0, .ref (am 11), .ref (am 12), .ref (am 13), .ref (am 14), .long 0, .ref (am 15), .ref (am 16), .ref (am 17), .ref (am 18)])), ((am 0), .inl (G.2.2 2, 400, .inl u_3))]) [0, 1] (by decide) rfl
  refine gq_callV (wr := []) (va_runV (As := [.int d1]) (rest := []) ⟨hx, hb, hml, hown, ht⟩ (c_M_four12 l G H.size h0 am d1 u_3) (cwV 1 ht (ts_gV wd_1369 wd_1371 wd_38 wd_134 wd_1372) rfl rfl rfl (by decide +kernel) ⟨Nat.le_of_ble_eq_true rfl, Nat.le_of_ble_eq_true rfl⟩) (gc_preV (ci := 12) (q0 := 0) hK hPc hDc rfl rfl) rfl rfl hl.1 rfl (lv_room (Nat.le_of_ble_eq_true rfl)) dX12_feed_33 ⟨Nat.le_of_ble_eq_true rfl, Nat.le_of_ble_eq_true rfl⟩) hP hD hS hA [0, 1] [] rfl rfl (by decide) (by decide) (fun u H locs hw hP hD hS => ?_)
  obtain ⟨u_4, rfl⟩ : ∃ z, z = u := ⟨_, rfl⟩
  have hP : va_P (gg_D G) classes [(h0, .inr (12, [.ref (am 0), .int 16, .int 0, .ref (am 1), .ref (am 2), .ref (am 3), .ref (am 4), .ref (am 5), .int 0, .int 0, .int 0, .int 0, .int 0, .int 0, .int 0, .ref (am 6), .int 0, .ref (am 7), .int 0, .ref (am 8), .ref (am 9), .int (-1), .int 0, .int 0, .int (-1), .int 0, .ref (am 10), .int 0, .ref (am 11), .ref (am 12), .ref (am 13), .ref (am 14), .long 0, .ref (am 15), .ref (am 16), .ref (am 17), .ref (am 18)])), ((am 0), .inl (G.2.2 2, 400, .inl u_4))] H := hP
  have hD : va_D A [(h0, .inr (12, [.ref (am 0), .int 16, .int 0, .ref (am 1), .ref (am 2), .ref (am 3), .ref (am 4), .ref (am 5), .int 0, .int 0, .int 0, .int 0, .int 0, .int 0, .int 0, .ref (am 6), .int 0, .ref (am 7), .int 0, .ref (am 8), .ref (am 9), .int (-1), .int 0, .int 0, .int (-1), .int 0, .ref (am 10), .int 0, .ref (am 11), .ref (am 12), .ref (am 13), .ref (am 14), .long 0, .ref (am 15), .ref (am 16), .ref (am 17), .ref (am 18)])), ((am 0), .inl (G.2.2 2, 400, .inl u_4))] := hD
  refine lv_aload_n hx hb dX12_feed_36 rfl (lv_at hl 0 rfl) ?_
  refine lv_iload hx hb dX12_feed_37 (lv_at hl 5 rfl) ?_
  have hPc := hP.sub (ws' := [(h0, .inr (12, [.ref (am 0), .int 16, .int 0, .ref (am 1), .ref (am 2), .ref (am 3), .ref (am 4), .ref (am 5), .int 0, .int 0, .int 0, .int 0, .int 0, .int 0, .int 0, .ref (am 6), .int 0, .ref (am 7), .int 0, .ref (am 8), .ref (am 9), .int (-1), .int 0, .int 0, .int (-1), .int 0, .ref (am 10), .int 0, .ref (am 11), .ref (am 12), .ref (am 13), .ref (am 14), .long 0, .ref (am 15), .ref (am 16), .ref (am 17), .ref (am 18)])), ((am 0), .inl (G.2.2 2, 400, .inl u_4))]) [0, 1] rfl
  have hDc := hD.sub (ws' := [(h0, .inr (12, [.ref (am 0), .int 16, .int 0, .ref (am 1), .ref (am 2), .ref (am 3), .ref (am 4), .ref (am 5), .int 0, .int 0, .int 0, .int 0, .int 0, .int 0, .int 0, .ref (am 6), .int 0, .ref (am 7), .int 0, .ref (am 8), .ref (am 9), .int (-1), .int 0, .int 0, .int (-1), .int 0, .ref (am 10), .int 0, .ref (am 11), .ref (am 12), .ref (am 13), .ref (am 14), .long 0, .ref (am 15), .ref (am 16), .ref (am 17), .ref (am 18)])), ((am 0), .inl (G.2.2 2, 400, .inl u_4))]) [0, 1] (by decide) rfl
  refine gq_callV (wr := []) (va_runV (As := [.int e1]) (rest := []) ⟨hx, hb, hml, hown, ht⟩ (c_M_four16 l G H.size h0 am e1 u_4) (cwV 1 ht (ts_gV wd_1369 wd_1371 wd_38 wd_134 wd_1372) rfl rfl rfl (by decide +kernel) ⟨Nat.le_of_ble_eq_true rfl, Nat.le_of_ble_eq_true rfl⟩) (gc_preV (ci := 12) (q0 := 0) hK hPc hDc rfl rfl) rfl rfl hl.1 rfl (lv_room (Nat.le_of_ble_eq_true rfl)) dX12_feed_39 ⟨Nat.le_of_ble_eq_true rfl, Nat.le_of_ble_eq_true rfl⟩) hP hD hS hA [0, 1] [] rfl rfl (by decide) (by decide) (fun u H locs hw hP hD hS => ?_)
  obtain ⟨u_5, rfl⟩ : ∃ z, z = u := ⟨_, rfl⟩
  have hP : va_P (gg_D G) classes [(h0, .inr (12, [.ref (am 0), .int 20, .int 0, .ref (am 1), .ref (am 2), .ref (am 3), .ref (am 4), .ref (am 5), .int 0, .int 0, .int 0, .int 0, .int 0, .int 0, .int 0, .ref (am 6), .int 0, .ref (am 7), .int 0, .ref (am 8), .ref (am 9), .int (-1), .int 0, .int 0, .int (-1), .int 0, .ref (am 10), .int 0, .ref (am 11), .ref (am 12), .ref (am 13), .ref (am 14), .long 0, .ref (am 15), .ref (am 16), .ref (am 17), .ref (am 18)])), ((am 0), .inl (G.2.2 2, 400, .inl u_5))] H := hP
  have hD : va_D A [(h0, .inr (12, [.ref (am 0), .int 20, .int 0, .ref (am 1), .ref (am 2), .ref (am 3), .ref (am 4), .ref (am 5), .int 0, .int 0, .int 0, .int 0, .int 0, .int 0, .int 0, .ref (am 6), .int 0, .ref (am 7), .int 0, .ref (am 8), .ref (am 9), .int (-1), .int 0, .int 0, .int (-1), .int 0, .ref (am 10), .int 0, .ref (am 11), .ref (am 12), .ref (am 13), .ref (am 14), .long 0, .ref (am 15), .ref (am 16), .ref (am 17), .ref (am 18)])), ((am 0), .inl (G.2.2 2, 400, .inl u_5))] := hD
  refine lv_aload_n hx hb dX12_feed_42 rfl (lv_at hl 0 rfl) ?_
  refine gq_get hx hb ht hown hK hP i_X12 0 rfl rfl 1 (by decide) wd_1253 rfl rfl dX12_feed_43 ?_
  have hP9 := hP.sub (ws' := []) [] rfl
  have hD9 := hD.sub (ws' := []) [] (by decide) rfl
  exact W.iret (v := 20) hx hb hr (gq_endI () rfl hP9 hD9 hS) hS.2.2 dX12_feed_46
set_option maxHeartbeats 4000000 in
set_option maxRecDepth 100000 in
theorem c_M_end (l : Launch) (G : gg_T) (sz : Nat) (h0 : Nat) (am : Nat → Nat) (n : Int32) : Met l yX12_end (ts_L yX12_end cX12_end 2 (some .int)) ({ frames := 0, cells := 0, slots := 0, locals := 0 }) (gc_P G [(h0, .inr (12, [.ref (am 0), .int 0, .int 0, .ref (am 1), .ref (am 2), .ref (am 3), .ref (am 4), .ref (am 5), .int 0, .int 0, .int 0, .int 0, .int 0, .int 0, .int 0, .ref (am 6), .int 0, .ref (am 7), .int 0, .ref (am 8), .ref (am 9), .int (-1), .int 0, .int 0, .int (-1), .int 0, .ref (am 10), .int 0, .ref (am 11), .ref (am 12), .ref (am 13), .ref (am 14), .long 0, .ref (am 15), .ref (am 16), .ref (am 17), .ref (am 18)]))] sz [.ref h0, .int n]) (gc_I G (va_A [(h0, .inr (12, [.ref (am 0), .int 0, .int 0, .ref (am 1), .ref (am 2), .ref (am 3), .ref (am 4), .ref (am 5), .int 0, .int 0, .int 0, .int 0, .int 0, .int 0, .int 0, .ref (am 6), .int 0, .ref (am 7), .int 0, .ref (am 8), .ref (am 9), .int (-1), .int 0, .int 0, .int (-1), .int 0, .ref (am 10), .int 0, .ref (am 11), .ref (am 12), .ref (am 13), .ref (am 14), .long 0, .ref (am 15), .ref (am 16), .ref (am 17), .ref (am 18)]))] sz) (fun r (_ : Unit) => r = (if n = 0 then 0 else -1)) (fun _ => [])) 0 0 (va_A [(h0, .inr (12, [.ref (am 0), .int 0, .int 0, .ref (am 1), .ref (am 2), .ref (am 3), .ref (am 4), .ref (am 5), .int 0, .int 0, .int 0, .int 0, .int 0, .int 0, .int 0, .ref (am 6), .int 0, .ref (am 7), .int 0, .ref (am 8), .ref (am 9), .int (-1), .int 0, .int 0, .int (-1), .int 0, .ref (am 10), .int 0, .ref (am 11), .ref (am 12), .ref (am 13), .ref (am 14), .long 0, .ref (am 15), .ref (am 16), .ref (am 17), .ref (am 18)]))] sz) := by
  refine Met.ofW (cc := cX12_end) (maxL := 2) (ret := (some .int)) (by decide) rfl ?_
  intro p e s m args below meth c s₁ B hml hv
  obtain ⟨rfl, hsz, hP, hK, hD0⟩ := hv
  have hx := B.exec
  have hb := B.bytes
  have hr := B.returns
  have ht := ts_ht (atoms_spec (ws := ts_L yX12_end cX12_end 2 (some .int)) B.pre)
  have hown : s.vm.findClass RX12 = some m.cls := findClass_of_methodNamed B.named
  have hlocks := B.notSynchronized
  subst hsz
  have hD := hD0.self (sz := s.heap.size)
  generalize hAe : va_A [(h0, .inr (12, [.ref (am 0), .int 0, .int 0, .ref (am 1), .ref (am 2), .ref (am 3), .ref (am 4), .ref (am 5), .int 0, .int 0, .int 0, .int 0, .int 0, .int 0, .int 0, .ref (am 6), .int 0, .ref (am 7), .int 0, .ref (am 8), .ref (am 9), .int (-1), .int 0, .int 0, .int (-1), .int 0, .ref (am 10), .int 0, .ref (am 11), .ref (am 12), .ref (am 13), .ref (am 14), .long 0, .ref (am 15), .ref (am 16), .ref (am 17), .ref (am 18)]))] s.heap.size = A at hD ⊢
  have hA : ∀ q : Nat, s.heap.size ≤ q → A q := fun q h => by rw [← hAe]; exact Or.inr h
  have hS : va_S A s.heap s.heap [] := va_S.rf
  have hl := lv_entry ([.ref h0, .int n]) (n := 2) (Nat.le_of_ble_eq_true rfl)
  rw [lg_entry_eq]
  generalize (lg_sl ([.ref h0, .int n]) ++ List.replicate (2 - (lg_sl ([.ref h0, .int n])).length) Slot.unset).toArray = ls at hl ⊢
  have hl : lv_has ls 2 [(0, .ref h0), (1, .int n)] := hl
  by_cases c_1 : n = 0
  · subst c_1
    refine lv_iload_n hx hb dX12_end_0 rfl (lv_at hl 1 rfl) ?_
    refine lv_if_lt (tgt := 12) hx hb dX12_end_1 (by decide) (fun c0 => absurd c0 (by decide +kernel)) (fun _ => ?_)
    refine lv_iload_n hx hb dX12_end_4 rfl (lv_at hl 1 rfl) ?_
    refine lv_aload_n hx hb dX12_end_5 rfl (lv_at hl 0 rfl) ?_
    refine gq_get hx hb ht hown hK hP i_X12 0 rfl rfl 1 (by decide) wd_1253 rfl rfl dX12_end_6 ?_
    refine lv_icmp_le (tgt := 14) hx hb dX12_end_9 (by decide) (fun _ => ?_) (fun c0 => absurd (by decide +kernel) c0)
    refine lv_aload_n hx hb dX12_end_14 rfl (lv_at hl 0 rfl) ?_
    refine lv_iload_n hx hb dX12_end_15 rfl (lv_at hl 1 rfl) ?_
    refine gq_put (ws' := [(h0, .inr (12, [.ref (am 0), .int 0, .int 0, .ref (am 1), .ref (am 2), .ref (am 3), .ref (am 4), .ref (am 5), .int 0, .int 0, .int 0, .int 0, .int 0, .int 0, .int 0, .ref (am 6), .int 0, .ref (am 7), .int 0, .ref (am 8), .ref (am 9), .int (-1), .int 0, .int 0, .int (-1), .int 0, .ref (am 10), .int 0, .ref (am 11), .ref (am 12), .ref (am 13), .ref (am 14), .long 0, .ref (am 15), .ref (am 16), .ref (am 17), .ref (am 18)]))]) hx hb ht hown hK hP hD hS i_X12 tyX12 tyX12_ok nmX12 0 rfl rfl 1 (by decide) wd_1253 rfl rfl rfl rfl (Nat.le_of_ble_eq_true rfl) rfl dX12_end_16 (fun H locs hP hD hS => ?_)
    refine lv_iload_n hx hb dX12_end_19 rfl (lv_at hl 1 rfl) ?_
    have hP9 := hP.sub (ws' := []) [] rfl
    have hD9 := hD.sub (ws' := []) [] (by decide) rfl
    exact W.iret (v := 0) hx hb hr (gq_endI () (by decide +kernel) hP9 hD9 hS) hS.2.2 dX12_end_20
  · refine lv_iload_n hx hb dX12_end_0 rfl (lv_at hl 1 rfl) ?_
    refine lv_if_lt (tgt := 12) hx hb dX12_end_1 (by decide) (fun c_2 => ?_) (fun c_2 => ?_)
    · refine lv_iconst (v := (-1)) hx hb dX12_end_12 (by decide) ?_
      have hP9 := hP.sub (ws' := []) [] rfl
      have hD9 := hD.sub (ws' := []) [] (by decide) rfl
      exact W.iret (v := (-1)) hx hb hr (gq_endI () (if_neg c_1).symm hP9 hD9 hS) hS.2.2 dX12_end_13
    · refine lv_iload_n hx hb dX12_end_4 rfl (lv_at hl 1 rfl) ?_
      refine lv_aload_n hx hb dX12_end_5 rfl (lv_at hl 0 rfl) ?_
      refine gq_get hx hb ht hown hK hP i_X12 0 rfl rfl 1 (by decide) wd_1253 rfl rfl dX12_end_6 ?_
      refine lv_icmp_le (tgt := 14) hx hb dX12_end_9 (by decide) (fun c0 => False.elim (by have k0 : (0 : Int32).toInt = 0 := by decide +kernel; simp only [Int32.lt_iff_toInt_lt, Int32.le_iff_toInt_le, ← Int32.toInt_inj] at c_1 c_2 c0; omega)) (fun _ => ?_)
      refine lv_iconst (v := (-1)) hx hb dX12_end_12 (by decide) ?_
      have hP9 := hP.sub (ws' := []) [] rfl
      have hD9 := hD.sub (ws' := []) [] (by decide) rfl
      exact W.iret (v := (-1)) hx hb hr (gq_endI () (if_neg c_1).symm hP9 hD9 hS) hS.2.2 dX12_end_13
set_option maxHeartbeats 4000000 in
set_option maxRecDepth 100000 in
theorem c_M_sale (l : Launch) (G : gg_T) (sz : Nat) (h0 : Nat) (am : Nat → Nat) : Met l yX12_sale (ts_L yX12_sale cX12_sale 2 (some .int)) ({ frames := 5, cells := 0, slots := 0, locals := 109 }) (gc_P G [(h0, .inr (12, [.ref (am 0), .int 0, .int 0, .ref (am 1), .ref (am 2), .ref (am 3), .ref (am 4), .ref (am 5), .int 0, .int 0, .int 0, .int 0, .int 0, .int 0, .int 0, .ref (am 6), .int 0, .ref (am 7), .int 0, .ref (am 8), .ref (am 9), .int (-1), .int 0, .int 0, .int (-1), .int 0, .ref (am 10), .int 0, .ref (am 11), .ref (am 12), .ref (am 13), .ref (am 14), .long 0, .ref (am 15), .ref (am 16), .ref (am 17), .ref (am 18)])), ((am 5), .inl (G.2.2 0, 79, .inl (fun _ => 0))), ((am 2), .inl (G.2.2 0, 7, .inl (fun _ => 0)))] sz [.ref h0]) (gc_I G (va_A [(h0, .inr (12, [.ref (am 0), .int 0, .int 0, .ref (am 1), .ref (am 2), .ref (am 3), .ref (am 4), .ref (am 5), .int 0, .int 0, .int 0, .int 0, .int 0, .int 0, .int 0, .ref (am 6), .int 0, .ref (am 7), .int 0, .ref (am 8), .ref (am 9), .int (-1), .int 0, .int 0, .int (-1), .int 0, .ref (am 10), .int 0, .ref (am 11), .ref (am 12), .ref (am 13), .ref (am 14), .long 0, .ref (am 15), .ref (am 16), .ref (am 17), .ref (am 18)])), ((am 5), .inl (G.2.2 0, 79, .inl (fun _ => 0))), ((am 2), .inl (G.2.2 0, 7, .inl (fun _ => 0)))] sz) (fun r (_ : Unit) => r = (-3)) (fun _ => [])) 0 0 (va_A [(h0, .inr (12, [.ref (am 0), .int 0, .int 0, .ref (am 1), .ref (am 2), .ref (am 3), .ref (am 4), .ref (am 5), .int 0, .int 0, .int 0, .int 0, .int 0, .int 0, .int 0, .ref (am 6), .int 0, .ref (am 7), .int 0, .ref (am 8), .ref (am 9), .int (-1), .int 0, .int 0, .int (-1), .int 0, .ref (am 10), .int 0, .ref (am 11), .ref (am 12), .ref (am 13), .ref (am 14), .long 0, .ref (am 15), .ref (am 16), .ref (am 17), .ref (am 18)])), ((am 5), .inl (G.2.2 0, 79, .inl (fun _ => 0))), ((am 2), .inl (G.2.2 0, 7, .inl (fun _ => 0)))] sz) := by
  refine Met.ofW (cc := cX12_sale) (maxL := 2) (ret := (some .int)) (by decide) rfl ?_
  intro p e s m args below meth c s₁ B hml hv
  obtain ⟨rfl, hsz, hP, hK, hD0⟩ := hv
  have hx := B.exec
  have hb := B.bytes
  have hr := B.returns
  have ht := ts_ht (atoms_spec (ws := ts_L yX12_sale cX12_sale 2 (some .int)) B.pre)
  have hown : s.vm.findClass RX12 = some m.cls := findClass_of_methodNamed B.named
  have hlocks := B.notSynchronized
  subst hsz
  have hD := hD0.self (sz := s.heap.size)
  generalize hAe : va_A [(h0, .inr (12, [.ref (am 0), .int 0, .int 0, .ref (am 1), .ref (am 2), .ref (am 3), .ref (am 4), .ref (am 5), .int 0, .int 0, .int 0, .int 0, .int 0, .int 0, .int 0, .ref (am 6), .int 0, .ref (am 7), .int 0, .ref (am 8), .ref (am 9), .int (-1), .int 0, .int 0, .int (-1), .int 0, .ref (am 10), .int 0, .ref (am 11), .ref (am 12), .ref (am 13), .ref (am 14), .long 0, .ref (am 15), .ref (am 16), .ref (am 17), .ref (am 18)])), ((am 5), .inl (G.2.2 0, 79, .inl (fun _ => 0))), ((am 2), .inl (G.2.2 0, 7, .inl (fun _ => 0)))] s.heap.size = A at hD ⊢
  have hA : ∀ q : Nat, s.heap.size ≤ q → A q := fun q h => by rw [← hAe]; exact Or.inr h
  have hS : va_S A s.heap s.heap [] := va_S.rf
  have hl := lv_entry ([.ref h0]) (n := 2) (Nat.le_of_ble_eq_true rfl)
  rw [lg_entry_eq]
  generalize (lg_sl ([.ref h0]) ++ List.replicate (2 - (lg_sl ([.ref h0])).length) Slot.unset).toArray = ls at hl ⊢
  have hl : lv_has ls 2 [(0, .ref h0)] := hl
  refine lv_aload_n hx hb dX12_sale_0 rfl (lv_at hl 0 rfl) ?_
  refine lv_bipush (v := 6) hx hb dX12_sale_1 (by decide +kernel) ?_
  refine gq_put (ws' := [(h0, .inr (12, [.ref (am 0), .int 0, .int 0, .ref (am 1), .ref (am 2), .ref (am 3), .ref (am 4), .ref (am 5), .int 0, .int 0, .int 0, .int 6, .int 0, .int 0, .int 0, .ref (am 6), .int 0, .ref (am 7), .int 0, .ref (am 8), .ref (am 9), .int (-1), .int 0, .int 0, .int (-1), .int 0, .ref (am 10), .int 0, .ref (am 11), .ref (am 12), .ref (am 13), .ref (am 14), .long 0, .ref (am 15), .ref (am 16), .ref (am 17), .ref (am 18)])), ((am 5), .inl (G.2.2 0, 79, .inl (fun _ => 0))), ((am 2), .inl (G.2.2 0, 7, .inl (fun _ => 0)))]) hx hb ht hown hK hP hD hS i_X12 tyX12 tyX12_ok nmX12 0 rfl rfl 11 (by decide) wd_1263 rfl rfl rfl rfl (Nat.le_of_ble_eq_true rfl) rfl dX12_sale_3 (fun H locs hP hD hS => ?_)
  refine lv_iconst (v := 0) hx hb dX12_sale_6 (by decide) ?_
  refine lv_istore_n (lv' := [(1, .int 0), (0, .ref h0)]) hx hb dX12_sale_7 rfl hl (by decide) rfl (fun ls hl => ?_)
  refine lp_cnt (ws := [(h0, .inr (12, [.ref (am 0), .int 0, .int 0, .ref (am 1), .ref (am 2), .ref (am 3), .ref (am 4), .ref (am 5), .int 0, .int 0, .int 0, .int 6, .int 0, .int 0, .int 0, .ref (am 6), .int 0, .ref (am 7), .int 0, .ref (am 8), .ref (am 9), .int (-1), .int 0, .int 0, .int (-1), .int 0, .ref (am 10), .int 0, .ref (am 11), .ref (am 12), .ref (am 13), .ref (am 14), .long 0, .ref (am 15), .ref (am 16), .ref (am 17), .ref (am 18)])), ((am 5), .inl (G.2.2 0, 79, .inl (fun _ => 0))), ((am 2), .inl (G.2.2 0, 7, .inl (fun _ => 0)))]) (nL := 2) 79 (fun z => [(1, .int z), (0, .ref h0)]) (fun H locs ls hP hD hS hl => ?_) (fun i hi_ H locs ls hP hD hS hl ih => ?_) 0 (Nat.zero_le _) H locs ls hP hD hS hl
  · have hl : lv_has ls 2 [(1, .int 79), (0, .ref h0)] := hl
    refine lv_iload_n hx hb dX12_sale_8 rfl (lv_at hl 0 rfl) ?_
    refine lv_bipush (v := 79) hx hb dX12_sale_9 (by decide +kernel) ?_
    refine lv_icmp_ge (tgt := 27) hx hb dX12_sale_11 (by decide) (fun _ => ?_) (fun c0 => absurd (by decide +kernel) c0)
    refine lv_aload_n hx hb dX12_sale_27 rfl (lv_at hl 1 rfl) ?_
    have hPc := hP.sub (ws' := [(h0, .inr (12, [.ref (am 0), .int 0, .int 0, .ref (am 1), .ref (am 2), .ref (am 3), .ref (am 4), .ref (am 5), .int 0, .int 0, .int 0, .int 6, .int 0, .int 0, .int 0, .ref (am 6), .int 0, .ref (am 7), .int 0, .ref (am 8), .ref (am 9), .int (-1), .int 0, .int 0, .int (-1), .int 0, .ref (am 10), .int 0, .ref (am 11), .ref (am 12), .ref (am 13), .ref (am 14), .long 0, .ref (am 15), .ref (am 16), .ref (am 17), .ref (am 18)])), ((am 2), .inl (G.2.2 0, 7, .inl (fun _ => 0)))]) [0, 2] rfl
    have hDc := hD.sub (ws' := [(h0, .inr (12, [.ref (am 0), .int 0, .int 0, .ref (am 1), .ref (am 2), .ref (am 3), .ref (am 4), .ref (am 5), .int 0, .int 0, .int 0, .int 6, .int 0, .int 0, .int 0, .ref (am 6), .int 0, .ref (am 7), .int 0, .ref (am 8), .ref (am 9), .int (-1), .int 0, .int 0, .int (-1), .int 0, .ref (am 10), .int 0, .ref (am 11), .ref (am 12), .ref (am 13), .ref (am 14), .long 0, .ref (am 15), .ref (am 16), .ref (am 17), .ref (am 18)])), ((am 2), .inl (G.2.2 0, 7, .inl (fun _ => 0)))]) [0, 2] (by decide) rfl
    refine gq_callI (wr := [((am 5), .inl (G.2.2 0, 79, .inl (fun _ => 0)))]) (va_runV (As := []) (rest := []) ⟨hx, hb, hml, hown, ht⟩ (c_M_readsAll_6 l G H.size h0 am) (cwV 0 ht (ts_gV wd_1381 wd_1383 wd_39 wd_134 wd_1384) rfl rfl rfl (by decide +kernel) ⟨Nat.le_of_ble_eq_true rfl, Nat.le_of_ble_eq_true rfl⟩) (gc_preV (ci := 12) (q0 := 0) hK hPc hDc rfl rfl) rfl rfl hl.1 rfl (lv_room (Nat.le_of_ble_eq_true rfl)) dX12_sale_28 ⟨Nat.le_of_ble_eq_true rfl, Nat.le_of_ble_eq_true rfl⟩) hP hD hS hA [0, 2] [1] rfl rfl (by decide) (by decide) (fun r u H locs hw hP hD hS => ?_)
    have hw : r = 0 := hw
    subst hw
    have hP : va_P (gg_D G) classes [((am 5), .inl (G.2.2 0, 79, .inl (fun _ => 0))), (h0, .inr (12, [.ref (am 0), .int 0, .int 0, .ref (am 1), .ref (am 2), .ref (am 3), .ref (am 4), .ref (am 5), .int 0, .int 1, .int 0, .int 6, .int 0, .int 0, .int 0, .ref (am 6), .int 0, .ref (am 7), .int 0, .ref (am 8), .ref (am 9), .int (-1), .int 0, .int 0, .int (-1), .int 0, .ref (am 10), .int 0, .ref (am 11), .ref (am 12), .ref (am 13), .ref (am 14), .long 0, .ref (am 15), .ref (am 16), .ref (am 17), .ref (am 18)])), ((am 2), .inl (G.2.2 0, 7, .inl (fun _ => 0)))] H := hP
    have hD : va_D A [((am 5), .inl (G.2.2 0, 79, .inl (fun _ => 0))), (h0, .inr (12, [.ref (am 0), .int 0, .int 0, .ref (am 1), .ref (am 2), .ref (am 3), .ref (am 4), .ref (am 5), .int 0, .int 1, .int 0, .int 6, .int 0, .int 0, .int 0, .ref (am 6), .int 0, .ref (am 7), .int 0, .ref (am 8), .ref (am 9), .int (-1), .int 0, .int 0, .int (-1), .int 0, .ref (am 10), .int 0, .ref (am 11), .ref (am 12), .ref (am 13), .ref (am 14), .long 0, .ref (am 15), .ref (am 16), .ref (am 17), .ref (am 18)])), ((am 2), .inl (G.2.2 0, 7, .inl (fun _ => 0)))] := hD
    refine lv_if_ne (tgt := 42) hx hb dX12_sale_31 (by decide) (fun c0 => absurd (by decide +kernel) c0) (fun _ => ?_)
    refine lv_bipush (v := (-2)) hx hb dX12_sale_34 (by decide +kernel) ?_
    refine lv_aload_n hx hb dX12_sale_36 rfl (lv_at hl 1 rfl) ?_
    refine gq_get hx hb ht hown hK hP i_X12 1 rfl rfl 9 (by decide) wd_1261 rfl rfl dX12_sale_37 ?_
    refine gq_isub hx hb (-3) (by decide +kernel) dX12_sale_40 ?_
    have hP9 := hP.sub (ws' := []) [] rfl
    have hD9 := hD.sub (ws' := []) [] (by decide) rfl
    exact W.iret (v := (-3)) hx hb hr (gq_endI () rfl hP9 hD9 hS) hS.2.2 dX12_sale_41
  · have hl : lv_has ls 2 [(1, .int (nI i)), (0, .ref h0)] := hl
    refine lv_iload_n hx hb dX12_sale_8 rfl (lv_at hl 0 rfl) ?_
    refine lv_bipush (v := 79) hx hb dX12_sale_9 (by decide +kernel) ?_
    refine lv_icmp_ge (tgt := 27) hx hb dX12_sale_11 (by decide) (fun c0 => absurd c0 (nI_ge hi_ (by decide))) (fun _ => ?_)
    refine lv_aload_n hx hb dX12_sale_14 rfl (lv_at hl 1 rfl) ?_
    refine gq_get hx hb ht hown hK hP i_X12 0 rfl rfl 7 (by decide) wd_1259 rfl rfl dX12_sale_15 ?_
    refine lv_iload_n hx hb dX12_sale_18 rfl (lv_at hl 0 rfl) ?_
    refine lv_iconst (v := 0) hx hb dX12_sale_19 (by decide) ?_
    refine gq_iast (ws' := [(h0, .inr (12, [.ref (am 0), .int 0, .int 0, .ref (am 1), .ref (am 2), .ref (am 3), .ref (am 4), .ref (am 5), .int 0, .int 0, .int 0, .int 6, .int 0, .int 0, .int 0, .ref (am 6), .int 0, .ref (am 7), .int 0, .ref (am 8), .ref (am 9), .int (-1), .int 0, .int 0, .int (-1), .int 0, .ref (am 10), .int 0, .ref (am 11), .ref (am 12), .ref (am 13), .ref (am 14), .long 0, .ref (am 15), .ref (am 16), .ref (am 17), .ref (am 18)])), ((am 5), .inl (G.2.2 0, 79, .inl (fun _ => 0))), ((am 2), .inl (G.2.2 0, 7, .inl (fun _ => 0)))]) hx hb hK hP hD hS 1 rfl (fun _ => 0) (vp_in_nI (by omega) (by decide)) (up_z _ _) rfl dX12_sale_20 (fun H locs hP hD hS => ?_)
    refine lv_iinc (v := (nI (i + 1))) (lv' := [(1, .int (nI (i + 1))), (0, .ref h0)]) hx hb dX12_sale_21 hl (k := 0) rfl (nI_1 i) (by decide) rfl (fun ls hl => ?_)
    refine lv_goto (tgt := 8) hx hb dX12_sale_24 (by decide) ?_
    exact ih H locs ls hP hD hS (lv_sub hl [0, 1] rfl)
set_option maxHeartbeats 4000000 in
set_option maxRecDepth 100000 in
theorem c_M_rule (l : Launch) (G : gg_T) (sz : Nat) (h0 : Nat) (am : Nat → Nat) : Met l yX12_rule (ts_L yX12_rule cX12_rule 1 (some .int)) ({ frames := 4, cells := 0, slots := 0, locals := 89 }) (gc_P G [(h0, .inr (12, [.ref (am 0), .int 0, .int 0, .ref (am 1), .ref (am 2), .ref (am 3), .ref (am 4), .ref (am 5), .int 0, .int 0, .int 0, .int 0, .int 0, .int 0, .int 0, .ref (am 6), .int 0, .ref (am 7), .int 0, .ref (am 8), .ref (am 9), .int (-1), .int 0, .int 0, .int (-1), .int 0, .ref (am 10), .int 0, .ref (am 11), .ref (am 12), .ref (am 13), .ref (am 14), .long 0, .ref (am 15), .ref (am 16), .ref (am 17), .ref (am 18)])), ((am 4), .inl (G.2.2 0, 6, .inl (fun _ => 0))), ((am 2), .inl (G.2.2 0, 7, .inl (fun _ => 0)))] sz [.ref h0]) (gc_I G (va_A [(h0, .inr (12, [.ref (am 0), .int 0, .int 0, .ref (am 1), .ref (am 2), .ref (am 3), .ref (am 4), .ref (am 5), .int 0, .int 0, .int 0, .int 0, .int 0, .int 0, .int 0, .ref (am 6), .int 0, .ref (am 7), .int 0, .ref (am 8), .ref (am 9), .int (-1), .int 0, .int 0, .int (-1), .int 0, .ref (am 10), .int 0, .ref (am 11), .ref (am 12), .ref (am 13), .ref (am 14), .long 0, .ref (am 15), .ref (am 16), .ref (am 17), .ref (am 18)])), ((am 4), .inl (G.2.2 0, 6, .inl (fun _ => 0))), ((am 2), .inl (G.2.2 0, 7, .inl (fun _ => 0)))] sz) (fun r (_ : Unit) => r = (-3)) (fun _ => [])) 0 0 (va_A [(h0, .inr (12, [.ref (am 0), .int 0, .int 0, .ref (am 1), .ref (am 2), .ref (am 3), .ref (am 4), .ref (am 5), .int 0, .int 0, .int 0, .int 0, .int 0, .int 0, .int 0, .ref (am 6), .int 0, .ref (am 7), .int 0, .ref (am 8), .ref (am 9), .int (-1), .int 0, .int 0, .int (-1), .int 0, .ref (am 10), .int 0, .ref (am 11), .ref (am 12), .ref (am 13), .ref (am 14), .long 0, .ref (am 15), .ref (am 16), .ref (am 17), .ref (am 18)])), ((am 4), .inl (G.2.2 0, 6, .inl (fun _ => 0))), ((am 2), .inl (G.2.2 0, 7, .inl (fun _ => 0)))] sz) := by
  refine Met.ofW (cc := cX12_rule) (maxL := 1) (ret := (some .int)) (by decide) rfl ?_
  intro p e s m args below meth c s₁ B hml hv
  obtain ⟨rfl, hsz, hP, hK, hD0⟩ := hv
  have hx := B.exec
  have hb := B.bytes
  have hr := B.returns
  have ht := ts_ht (atoms_spec (ws := ts_L yX12_rule cX12_rule 1 (some .int)) B.pre)
  have hown : s.vm.findClass RX12 = some m.cls := findClass_of_methodNamed B.named
  have hlocks := B.notSynchronized
  subst hsz
  have hD := hD0.self (sz := s.heap.size)
  generalize hAe : va_A [(h0, .inr (12, [.ref (am 0), .int 0, .int 0, .ref (am 1), .ref (am 2), .ref (am 3), .ref (am 4), .ref (am 5), .int 0, .int 0, .int 0, .int 0, .int 0, .int 0, .int 0, .ref (am 6), .int 0, .ref (am 7), .int 0, .ref (am 8), .ref (am 9), .int (-1), .int 0, .int 0, .int (-1), .int 0, .ref (am 10), .int 0, .ref (am 11), .ref (am 12), .ref (am 13), .ref (am 14), .long 0, .ref (am 15), .ref (am 16), .ref (am 17), .ref (am 18)])), ((am 4), .inl (G.2.2 0, 6, .inl (fun _ => 0))), ((am 2), .inl (G.2.2 0, 7, .inl (fun _ => 0)))] s.heap.size = A at hD ⊢
  have hA : ∀ q : Nat, s.heap.size ≤ q → A q := fun q h => by rw [← hAe]; exact Or.inr h
  have hS : va_S A s.heap s.heap [] := va_S.rf
  have hl := lv_entry ([.ref h0]) (n := 1) (Nat.le_of_ble_eq_true rfl)
  rw [lg_entry_eq]
  generalize (lg_sl ([.ref h0]) ++ List.replicate (1 - (lg_sl ([.ref h0])).length) Slot.unset).toArray = ls at hl ⊢
  have hl : lv_has ls 1 [(0, .ref h0)] := hl
  refine lv_aload_n hx hb dX12_rule_0 rfl (lv_at hl 0 rfl) ?_
  refine gq_get hx hb ht hown hK hP i_X12 0 rfl rfl 2 (by decide) wd_1254 rfl rfl dX12_rule_1 ?_
  refine lv_bipush (v := 6) hx hb dX12_rule_4 (by decide +kernel) ?_
  refine lv_icmp_ne (tgt := 11) hx hb dX12_rule_6 (by decide) (fun _ => ?_) (fun c0 => absurd c0 (by decide +kernel))
  refine lv_aload_n hx hb dX12_rule_11 rfl (lv_at hl 0 rfl) ?_
  refine lv_aload_n hx hb dX12_rule_12 rfl (lv_at hl 0 rfl) ?_
  refine gq_get hx hb ht hown hK hP i_X12 0 rfl rfl 2 (by decide) wd_1254 rfl rfl dX12_rule_13 ?_
  refine gq_put (ws' := [(h0, .inr (12, [.ref (am 0), .int 0, .int 0, .ref (am 1), .ref (am 2), .ref (am 3), .ref (am 4), .ref (am 5), .int 0, .int 0, .int 0, .int 0, .int 0, .int 0, .int 0, .ref (am 6), .int 0, .ref (am 7), .int 0, .ref (am 8), .ref (am 9), .int (-1), .int 0, .int 0, .int (-1), .int 0, .ref (am 10), .int 0, .ref (am 11), .ref (am 12), .ref (am 13), .ref (am 14), .long 0, .ref (am 15), .ref (am 16), .ref (am 17), .ref (am 18)])), ((am 4), .inl (G.2.2 0, 6, .inl (fun _ => 0))), ((am 2), .inl (G.2.2 0, 7, .inl (fun _ => 0)))]) hx hb ht hown hK hP hD hS i_X12 tyX12 tyX12_ok nmX12 0 rfl rfl 11 (by decide) wd_1263 rfl rfl rfl rfl (Nat.le_of_ble_eq_true rfl) rfl dX12_rule_16 (fun H locs hP hD hS => ?_)
  refine lv_aload_n hx hb dX12_rule_19 rfl (lv_at hl 0 rfl) ?_
  refine gq_get hx hb ht hown hK hP i_X12 0 rfl rfl 6 (by decide) wd_1258 rfl rfl dX12_rule_20 ?_
  refine lv_aload_n hx hb dX12_rule_23 rfl (lv_at hl 0 rfl) ?_
  refine gq_get hx hb ht hown hK hP i_X12 0 rfl rfl 11 (by decide) wd_1263 rfl rfl dX12_rule_24 ?_
  refine lv_iconst (v := 0) hx hb dX12_rule_27 (by decide) ?_
  refine gq_iast (ws' := [(h0, .inr (12, [.ref (am 0), .int 0, .int 0, .ref (am 1), .ref (am 2), .ref (am 3), .ref (am 4), .ref (am 5), .int 0, .int 0, .int 0, .int 0, .int 0, .int 0, .int 0, .ref (am 6), .int 0, .ref (am 7), .int 0, .ref (am 8), .ref (am 9), .int (-1), .int 0, .int 0, .int (-1), .int 0, .ref (am 10), .int 0, .ref (am 11), .ref (am 12), .ref (am 13), .ref (am 14), .long 0, .ref (am 15), .ref (am 16), .ref (am 17), .ref (am 18)])), ((am 4), .inl (G.2.2 0, 6, .inl (fun _ => 0))), ((am 2), .inl (G.2.2 0, 7, .inl (fun _ => 0)))]) hx hb hK hP hD hS 1 rfl (fun _ => 0) (by unfold vp_in; decide +kernel) (up_z _ _) rfl dX12_rule_28 (fun H locs hP hD hS => ?_)
  refine lv_aload_n hx hb dX12_rule_29 rfl (lv_at hl 0 rfl) ?_
  have hPc := hP.sub (ws' := [(h0, .inr (12, [.ref (am 0), .int 0, .int 0, .ref (am 1), .ref (am 2), .ref (am 3), .ref (am 4), .ref (am 5), .int 0, .int 0, .int 0, .int 0, .int 0, .int 0, .int 0, .ref (am 6), .int 0, .ref (am 7), .int 0, .ref (am 8), .ref (am 9), .int (-1), .int 0, .int 0, .int (-1), .int 0, .ref (am 10), .int 0, .ref (am 11), .ref (am 12), .ref (am 13), .ref (am 14), .long 0, .ref (am 15), .ref (am 16), .ref (am 17), .ref (am 18)])), ((am 2), .inl (G.2.2 0, 7, .inl (fun _ => 0)))]) [0, 2] rfl
  have hDc := hD.sub (ws' := [(h0, .inr (12, [.ref (am 0), .int 0, .int 0, .ref (am 1), .ref (am 2), .ref (am 3), .ref (am 4), .ref (am 5), .int 0, .int 0, .int 0, .int 0, .int 0, .int 0, .int 0, .ref (am 6), .int 0, .ref (am 7), .int 0, .ref (am 8), .ref (am 9), .int (-1), .int 0, .int 0, .int (-1), .int 0, .ref (am 10), .int 0, .ref (am 11), .ref (am 12), .ref (am 13), .ref (am 14), .long 0, .ref (am 15), .ref (am 16), .ref (am 17), .ref (am 18)])), ((am 2), .inl (G.2.2 0, 7, .inl (fun _ => 0)))]) [0, 2] (by decide) rfl
  refine gq_callI (wr := [((am 4), .inl (G.2.2 0, 6, .inl (fun _ => 0)))]) (va_runV (As := []) (rest := []) ⟨hx, hb, hml, hown, ht⟩ (c_M_readsAll_0 l G H.size h0 am) (cwV 0 ht (ts_gV wd_1381 wd_1383 wd_39 wd_134 wd_1384) rfl rfl rfl (by decide +kernel) ⟨Nat.le_of_ble_eq_true rfl, Nat.le_of_ble_eq_true rfl⟩) (gc_preV (ci := 12) (q0 := 0) hK hPc hDc rfl rfl) rfl rfl hl.1 rfl (lv_room (Nat.le_of_ble_eq_true rfl)) dX12_rule_30 ⟨Nat.le_of_ble_eq_true rfl, Nat.le_of_ble_eq_true rfl⟩) hP hD hS hA [0, 2] [1] rfl rfl (by decide) (by decide) (fun r u H locs hw hP hD hS => ?_)
  have hw : r = 0 := hw
  subst hw
  have hP : va_P (gg_D G) classes [((am 4), .inl (G.2.2 0, 6, .inl (fun _ => 0))), (h0, .inr (12, [.ref (am 0), .int 0, .int 0, .ref (am 1), .ref (am 2), .ref (am 3), .ref (am 4), .ref (am 5), .int 0, .int 1, .int 0, .int 0, .int 0, .int 0, .int 0, .ref (am 6), .int 0, .ref (am 7), .int 0, .ref (am 8), .ref (am 9), .int (-1), .int 0, .int 0, .int (-1), .int 0, .ref (am 10), .int 0, .ref (am 11), .ref (am 12), .ref (am 13), .ref (am 14), .long 0, .ref (am 15), .ref (am 16), .ref (am 17), .ref (am 18)])), ((am 2), .inl (G.2.2 0, 7, .inl (fun _ => 0)))] H := hP
  have hD : va_D A [((am 4), .inl (G.2.2 0, 6, .inl (fun _ => 0))), (h0, .inr (12, [.ref (am 0), .int 0, .int 0, .ref (am 1), .ref (am 2), .ref (am 3), .ref (am 4), .ref (am 5), .int 0, .int 1, .int 0, .int 0, .int 0, .int 0, .int 0, .ref (am 6), .int 0, .ref (am 7), .int 0, .ref (am 8), .ref (am 9), .int (-1), .int 0, .int 0, .int (-1), .int 0, .ref (am 10), .int 0, .ref (am 11), .ref (am 12), .ref (am 13), .ref (am 14), .long 0, .ref (am 15), .ref (am 16), .ref (am 17), .ref (am 18)])), ((am 2), .inl (G.2.2 0, 7, .inl (fun _ => 0)))] := hD
  refine lv_if_ne (tgt := 44) hx hb dX12_rule_33 (by decide) (fun c0 => absurd (by decide +kernel) c0) (fun _ => ?_)
  refine lv_bipush (v := (-2)) hx hb dX12_rule_36 (by decide +kernel) ?_
  refine lv_aload_n hx hb dX12_rule_38 rfl (lv_at hl 0 rfl) ?_
  refine gq_get hx hb ht hown hK hP i_X12 1 rfl rfl 9 (by decide) wd_1261 rfl rfl dX12_rule_39 ?_
  refine gq_isub hx hb (-3) (by decide +kernel) dX12_rule_42 ?_
  have hP9 := hP.sub (ws' := []) [] rfl
  have hD9 := hD.sub (ws' := []) [] (by decide) rfl
  exact W.iret (v := (-3)) hx hb hr (gq_endI () rfl hP9 hD9 hS) hS.2.2 dX12_rule_43
set_option maxHeartbeats 4000000 in
set_option maxRecDepth 100000 in
theorem c_M_force (l : Launch) (G : gg_T) (sz : Nat) (h0 : Nat) (am : Nat → Nat) (n : Int32) : Met l yX12_force (ts_L yX12_force cX12_force 3 (some .int)) ({ frames := 1, cells := 0, slots := 0, locals := 21 }) (gc_P G [(h0, .inr (12, [.ref (am 0), .int 0, .int 0, .ref (am 1), .ref (am 2), .ref (am 3), .ref (am 4), .ref (am 5), .int 0, .int 0, .int 0, .int 0, .int 0, .int 0, .int 0, .ref (am 6), .int 0, .ref (am 7), .int 0, .ref (am 8), .ref (am 9), .int (-1), .int 0, .int 0, .int (-1), .int 0, .ref (am 10), .int 0, .ref (am 11), .ref (am 12), .ref (am 13), .ref (am 14), .long 0, .ref (am 15), .ref (am 16), .ref (am 17), .ref (am 18)]))] sz [.ref h0, .int n]) (gc_I G (va_A [(h0, .inr (12, [.ref (am 0), .int 0, .int 0, .ref (am 1), .ref (am 2), .ref (am 3), .ref (am 4), .ref (am 5), .int 0, .int 0, .int 0, .int 0, .int 0, .int 0, .int 0, .ref (am 6), .int 0, .ref (am 7), .int 0, .ref (am 8), .ref (am 9), .int (-1), .int 0, .int 0, .int (-1), .int 0, .ref (am 10), .int 0, .ref (am 11), .ref (am 12), .ref (am 13), .ref (am 14), .long 0, .ref (am 15), .ref (am 16), .ref (am 17), .ref (am 18)]))] sz) (fun r (_ : Unit) => r = (if n = -1 then -1 else -2)) (fun _ => [])) 0 0 (va_A [(h0, .inr (12, [.ref (am 0), .int 0, .int 0, .ref (am 1), .ref (am 2), .ref (am 3), .ref (am 4), .ref (am 5), .int 0, .int 0, .int 0, .int 0, .int 0, .int 0, .int 0, .ref (am 6), .int 0, .ref (am 7), .int 0, .ref (am 8), .ref (am 9), .int (-1), .int 0, .int 0, .int (-1), .int 0, .ref (am 10), .int 0, .ref (am 11), .ref (am 12), .ref (am 13), .ref (am 14), .long 0, .ref (am 15), .ref (am 16), .ref (am 17), .ref (am 18)]))] sz) := by
  refine Met.ofW (cc := cX12_force) (maxL := 3) (ret := (some .int)) (by decide) rfl ?_
  intro p e s m args below meth c s₁ B hml hv
  obtain ⟨rfl, hsz, hP, hK, hD0⟩ := hv
  have hx := B.exec
  have hb := B.bytes
  have hr := B.returns
  have ht := ts_ht (atoms_spec (ws := ts_L yX12_force cX12_force 3 (some .int)) B.pre)
  have hown : s.vm.findClass RX12 = some m.cls := findClass_of_methodNamed B.named
  have hlocks := B.notSynchronized
  subst hsz
  have hD := hD0.self (sz := s.heap.size)
  generalize hAe : va_A [(h0, .inr (12, [.ref (am 0), .int 0, .int 0, .ref (am 1), .ref (am 2), .ref (am 3), .ref (am 4), .ref (am 5), .int 0, .int 0, .int 0, .int 0, .int 0, .int 0, .int 0, .ref (am 6), .int 0, .ref (am 7), .int 0, .ref (am 8), .ref (am 9), .int (-1), .int 0, .int 0, .int (-1), .int 0, .ref (am 10), .int 0, .ref (am 11), .ref (am 12), .ref (am 13), .ref (am 14), .long 0, .ref (am 15), .ref (am 16), .ref (am 17), .ref (am 18)]))] s.heap.size = A at hD ⊢
  have hA : ∀ q : Nat, s.heap.size ≤ q → A q := fun q h => by rw [← hAe]; exact Or.inr h
  have hS : va_S A s.heap s.heap [] := va_S.rf
  have hl := lv_entry ([.ref h0, .int n]) (n := 3) (Nat.le_of_ble_eq_true rfl)
  rw [lg_entry_eq]
  generalize (lg_sl ([.ref h0, .int n]) ++ List.replicate (3 - (lg_sl ([.ref h0, .int n])).length) Slot.unset).toArray = ls at hl ⊢
  have hl : lv_has ls 3 [(0, .ref h0), (1, .int n)] := hl
  by_cases c_1 : n = (-1)
  · subst c_1
    refine lv_iload_n hx hb dX12_force_0 rfl (lv_at hl 1 rfl) ?_
    refine lv_iconst (v := (-1)) hx hb dX12_force_1 (by decide) ?_
    refine lv_icmp_eq (tgt := 16) hx hb dX12_force_2 (by decide) (fun _ => ?_) (fun c0 => absurd (by decide +kernel) c0)
    refine lv_aload_n hx hb dX12_force_16 rfl (lv_at hl 0 rfl) ?_
    refine gq_get hx hb ht hown hK hP i_X12 0 rfl rfl 21 (by decide) wd_1273 rfl rfl dX12_force_17 ?_
    refine lv_istore_n (lv' := [(2, .int (-1)), (0, .ref h0), (1, .int (-1))]) hx hb dX12_force_20 rfl hl (by decide) rfl (fun ls hl => ?_)
    refine lv_aload_n hx hb dX12_force_21 rfl (lv_at hl 1 rfl) ?_
    refine lv_iload_n hx hb dX12_force_22 rfl (lv_at hl 2 rfl) ?_
    refine gq_put (ws' := [(h0, .inr (12, [.ref (am 0), .int 0, .int 0, .ref (am 1), .ref (am 2), .ref (am 3), .ref (am 4), .ref (am 5), .int 0, .int 0, .int 0, .int 0, .int 0, .int 0, .int 0, .ref (am 6), .int 0, .ref (am 7), .int 0, .ref (am 8), .ref (am 9), .int (-1), .int 0, .int 0, .int (-1), .int 0, .ref (am 10), .int 0, .ref (am 11), .ref (am 12), .ref (am 13), .ref (am 14), .long 0, .ref (am 15), .ref (am 16), .ref (am 17), .ref (am 18)]))]) hx hb ht hown hK hP hD hS i_X12 tyX12 tyX12_ok nmX12 0 rfl rfl 21 (by decide) wd_1273 rfl rfl rfl rfl (Nat.le_of_ble_eq_true rfl) rfl dX12_force_23 (fun H locs hP hD hS => ?_)
    refine lv_iload_n hx hb dX12_force_26 rfl (lv_at hl 0 rfl) ?_
    have hP9 := hP.sub (ws' := []) [] rfl
    have hD9 := hD.sub (ws' := []) [] (by decide) rfl
    exact W.iret (v := (-1)) hx hb hr (gq_endI () (by decide +kernel) hP9 hD9 hS) hS.2.2 dX12_force_27
  · refine lv_iload_n hx hb dX12_force_0 rfl (lv_at hl 1 rfl) ?_
    refine lv_iconst (v := (-1)) hx hb dX12_force_1 (by decide) ?_
    refine lv_icmp_eq (tgt := 16) hx hb dX12_force_2 (by decide) (fun c0 => False.elim (by have k0 : ((-1) : Int32).toInt = -1 := by decide +kernel; simp only [Int32.lt_iff_toInt_lt, Int32.le_iff_toInt_le, ← Int32.toInt_inj] at c_1 c0; omega)) (fun _ => ?_)
    refine lv_aload_n hx hb dX12_force_5 rfl (lv_at hl 0 rfl) ?_
    refine lv_iload_n hx hb dX12_force_6 rfl (lv_at hl 1 rfl) ?_
    have hPc := hP.sub (ws' := [(h0, .inr (12, [.ref (am 0), .int 0, .int 0, .ref (am 1), .ref (am 2), .ref (am 3), .ref (am 4), .ref (am 5), .int 0, .int 0, .int 0, .int 0, .int 0, .int 0, .int 0, .ref (am 6), .int 0, .ref (am 7), .int 0, .ref (am 8), .ref (am 9), .int (-1), .int 0, .int 0, .int (-1), .int 0, .ref (am 10), .int 0, .ref (am 11), .ref (am 12), .ref (am 13), .ref (am 14), .long 0, .ref (am 15), .ref (am 16), .ref (am 17), .ref (am 18)]))]) [0] rfl
    have hDc := hD.sub (ws' := [(h0, .inr (12, [.ref (am 0), .int 0, .int 0, .ref (am 1), .ref (am 2), .ref (am 3), .ref (am 4), .ref (am 5), .int 0, .int 0, .int 0, .int 0, .int 0, .int 0, .int 0, .ref (am 6), .int 0, .ref (am 7), .int 0, .ref (am 8), .ref (am 9), .int (-1), .int 0, .int 0, .int (-1), .int 0, .ref (am 10), .int 0, .ref (am 11), .ref (am 12), .ref (am 13), .ref (am 14), .long 0, .ref (am 15), .ref (am 16), .ref (am 17), .ref (am 18)]))]) [0] (by decide) rfl
    refine gq_callI (wr := []) (va_runV (As := [.int n]) (rest := []) ⟨hx, hb, hml, hown, ht⟩ (c_M_isRule l G H.size h0 am n) (cwV 1 ht (ts_gV wd_1545 wd_1547 wd_72 wd_134 wd_1548) rfl rfl rfl (by decide +kernel) ⟨Nat.le_of_ble_eq_true rfl, Nat.le_of_ble_eq_true rfl⟩) (gc_preV (ci := 12) (q0 := 0) hK hPc hDc rfl rfl) rfl rfl hl.1 rfl (lv_room (Nat.le_of_ble_eq_true rfl)) dX12_force_7 ⟨Nat.le_of_ble_eq_true rfl, Nat.le_of_ble_eq_true rfl⟩) hP hD hS hA [0] [] rfl rfl (by decide) (by decide) (fun r u H locs hw hP hD hS => ?_)
    have hw : r = 0 := hw
    subst hw
    have hP : va_P (gg_D G) classes [(h0, .inr (12, [.ref (am 0), .int 0, .int 0, .ref (am 1), .ref (am 2), .ref (am 3), .ref (am 4), .ref (am 5), .int 0, .int 0, .int 0, .int 0, .int 0, .int 0, .int 0, .ref (am 6), .int 0, .ref (am 7), .int 0, .ref (am 8), .ref (am 9), .int (-1), .int 0, .int 0, .int (-1), .int 0, .ref (am 10), .int 0, .ref (am 11), .ref (am 12), .ref (am 13), .ref (am 14), .long 0, .ref (am 15), .ref (am 16), .ref (am 17), .ref (am 18)]))] H := hP
    have hD : va_D A [(h0, .inr (12, [.ref (am 0), .int 0, .int 0, .ref (am 1), .ref (am 2), .ref (am 3), .ref (am 4), .ref (am 5), .int 0, .int 0, .int 0, .int 0, .int 0, .int 0, .int 0, .ref (am 6), .int 0, .ref (am 7), .int 0, .ref (am 8), .ref (am 9), .int (-1), .int 0, .int 0, .int (-1), .int 0, .ref (am 10), .int 0, .ref (am 11), .ref (am 12), .ref (am 13), .ref (am 14), .long 0, .ref (am 15), .ref (am 16), .ref (am 17), .ref (am 18)]))] := hD
    refine lv_if_ne (tgt := 16) hx hb dX12_force_10 (by decide) (fun c0 => absurd (by decide +kernel) c0) (fun _ => ?_)
    refine lv_bipush (v := (-2)) hx hb dX12_force_13 (by decide +kernel) ?_
    have hP9 := hP.sub (ws' := []) [] rfl
    have hD9 := hD.sub (ws' := []) [] (by decide) rfl
    exact W.iret (v := (-2)) hx hb hr (gq_endI () (if_neg c_1).symm hP9 hD9 hS) hS.2.2 dX12_force_15
set_option maxHeartbeats 4000000 in
set_option maxRecDepth 100000 in
theorem c_M_bidder (l : Launch) (G : gg_T) (sz : Nat) (h0 : Nat) (am : Nat → Nat) (b : Int32) (w : Int32) : Met l yX12_bidder (ts_L yX12_bidder cX12_bidder 3 (some .int)) ({ frames := 1, cells := 0, slots := 0, locals := 21 }) (gc_P G [(h0, .inr (12, [.ref (am 0), .int 0, .int 0, .ref (am 1), .ref (am 2), .ref (am 3), .ref (am 4), .ref (am 5), .int 0, .int 0, .int 0, .int 0, .int 0, .int 0, .int 0, .ref (am 6), .int 0, .ref (am 7), .int 0, .ref (am 8), .ref (am 9), .int (-1), .int 0, .int 0, .int (-1), .int 0, .ref (am 10), .int 0, .ref (am 11), .ref (am 12), .ref (am 13), .ref (am 14), .long 0, .ref (am 15), .ref (am 16), .ref (am 17), .ref (am 18)])), ((am 9), .inl (G.2.2 0, 110, .inl (fun _ => 0)))] sz [.ref h0, .int b, .int w]) (gc_I G (va_A [(h0, .inr (12, [.ref (am 0), .int 0, .int 0, .ref (am 1), .ref (am 2), .ref (am 3), .ref (am 4), .ref (am 5), .int 0, .int 0, .int 0, .int 0, .int 0, .int 0, .int 0, .ref (am 6), .int 0, .ref (am 7), .int 0, .ref (am 8), .ref (am 9), .int (-1), .int 0, .int 0, .int (-1), .int 0, .ref (am 10), .int 0, .ref (am 11), .ref (am 12), .ref (am 13), .ref (am 14), .long 0, .ref (am 15), .ref (am 16), .ref (am 17), .ref (am 18)])), ((am 9), .inl (G.2.2 0, 110, .inl (fun _ => 0)))] sz) (fun r (_ : Unit) => r = (-1000)) (fun _ => [])) 0 0 (va_A [(h0, .inr (12, [.ref (am 0), .int 0, .int 0, .ref (am 1), .ref (am 2), .ref (am 3), .ref (am 4), .ref (am 5), .int 0, .int 0, .int 0, .int 0, .int 0, .int 0, .int 0, .ref (am 6), .int 0, .ref (am 7), .int 0, .ref (am 8), .ref (am 9), .int (-1), .int 0, .int 0, .int (-1), .int 0, .ref (am 10), .int 0, .ref (am 11), .ref (am 12), .ref (am 13), .ref (am 14), .long 0, .ref (am 15), .ref (am 16), .ref (am 17), .ref (am 18)])), ((am 9), .inl (G.2.2 0, 110, .inl (fun _ => 0)))] sz) := by
  refine Met.ofW (cc := cX12_bidder) (maxL := 3) (ret := (some .int)) (by decide) rfl ?_
  intro p e s m args below meth c s₁ B hml hv
  obtain ⟨rfl, hsz, hP, hK, hD0⟩ := hv
  have hx := B.exec
  have hb := B.bytes
  have hr := B.returns
  have ht := ts_ht (atoms_spec (ws := ts_L yX12_bidder cX12_bidder 3 (some .int)) B.pre)
  have hown : s.vm.findClass RX12 = some m.cls := findClass_of_methodNamed B.named
  have hlocks := B.notSynchronized
  subst hsz
  have hD := hD0.self (sz := s.heap.size)
  generalize hAe : va_A [(h0, .inr (12, [.ref (am 0), .int 0, .int 0, .ref (am 1), .ref (am 2), .ref (am 3), .ref (am 4), .ref (am 5), .int 0, .int 0, .int 0, .int 0, .int 0, .int 0, .int 0, .ref (am 6), .int 0, .ref (am 7), .int 0, .ref (am 8), .ref (am 9), .int (-1), .int 0, .int 0, .int (-1), .int 0, .ref (am 10), .int 0, .ref (am 11), .ref (am 12), .ref (am 13), .ref (am 14), .long 0, .ref (am 15), .ref (am 16), .ref (am 17), .ref (am 18)])), ((am 9), .inl (G.2.2 0, 110, .inl (fun _ => 0)))] s.heap.size = A at hD ⊢
  have hA : ∀ q : Nat, s.heap.size ≤ q → A q := fun q h => by rw [← hAe]; exact Or.inr h
  have hS : va_S A s.heap s.heap [] := va_S.rf
  have hl := lv_entry ([.ref h0, .int b, .int w]) (n := 3) (Nat.le_of_ble_eq_true rfl)
  rw [lg_entry_eq]
  generalize (lg_sl ([.ref h0, .int b, .int w]) ++ List.replicate (3 - (lg_sl ([.ref h0, .int b, .int w])).length) Slot.unset).toArray = ls at hl ⊢
  have hl : lv_has ls 3 [(0, .ref h0), (1, .int b), (2, .int w)] := hl
  refine lv_aload_n hx hb dX12_bidder_0 rfl (lv_at hl 0 rfl) ?_
  refine lv_iload_n hx hb dX12_bidder_1 rfl (lv_at hl 1 rfl) ?_
  have hPc := hP.sub (ws' := [(h0, .inr (12, [.ref (am 0), .int 0, .int 0, .ref (am 1), .ref (am 2), .ref (am 3), .ref (am 4), .ref (am 5), .int 0, .int 0, .int 0, .int 0, .int 0, .int 0, .int 0, .ref (am 6), .int 0, .ref (am 7), .int 0, .ref (am 8), .ref (am 9), .int (-1), .int 0, .int 0, .int (-1), .int 0, .ref (am 10), .int 0, .ref (am 11), .ref (am 12), .ref (am 13), .ref (am 14), .long 0, .ref (am 15), .ref (am 16), .ref (am 17), .ref (am 18)])), ((am 9), .inl (G.2.2 0, 110, .inl (fun _ => 0)))]) [0, 1] rfl
  have hDc := hD.sub (ws' := [(h0, .inr (12, [.ref (am 0), .int 0, .int 0, .ref (am 1), .ref (am 2), .ref (am 3), .ref (am 4), .ref (am 5), .int 0, .int 0, .int 0, .int 0, .int 0, .int 0, .int 0, .ref (am 6), .int 0, .ref (am 7), .int 0, .ref (am 8), .ref (am 9), .int (-1), .int 0, .int 0, .int (-1), .int 0, .ref (am 10), .int 0, .ref (am 11), .ref (am 12), .ref (am 13), .ref (am 14), .long 0, .ref (am 15), .ref (am 16), .ref (am 17), .ref (am 18)])), ((am 9), .inl (G.2.2 0, 110, .inl (fun _ => 0)))]) [0, 1] (by decide) rfl
  refine gq_callI (wr := []) (va_runV (As := [.int b]) (rest := []) ⟨hx, hb, hml, hown, ht⟩ (c_M_isBidder l G H.size h0 am b) (cwV 1 ht (ts_gV wd_1553 wd_1555 wd_73 wd_134 wd_1556) rfl rfl rfl (by decide +kernel) ⟨Nat.le_of_ble_eq_true rfl, Nat.le_of_ble_eq_true rfl⟩) (gc_preV (ci := 12) (q0 := 0) hK hPc hDc rfl rfl) rfl rfl hl.1 rfl (lv_room (Nat.le_of_ble_eq_true rfl)) dX12_bidder_2 ⟨Nat.le_of_ble_eq_true rfl, Nat.le_of_ble_eq_true rfl⟩) hP hD hS hA [0, 1] [] rfl rfl (by decide) (by decide) (fun r u H locs hw hP hD hS => ?_)
  have hw : r = 0 := hw
  subst hw
  have hP : va_P (gg_D G) classes [(h0, .inr (12, [.ref (am 0), .int 0, .int 0, .ref (am 1), .ref (am 2), .ref (am 3), .ref (am 4), .ref (am 5), .int 0, .int 0, .int 0, .int 0, .int 0, .int 0, .int 0, .ref (am 6), .int 0, .ref (am 7), .int 0, .ref (am 8), .ref (am 9), .int (-1), .int 0, .int 0, .int (-1), .int 0, .ref (am 10), .int 0, .ref (am 11), .ref (am 12), .ref (am 13), .ref (am 14), .long 0, .ref (am 15), .ref (am 16), .ref (am 17), .ref (am 18)])), ((am 9), .inl (G.2.2 0, 110, .inl (fun _ => 0)))] H := hP
  have hD : va_D A [(h0, .inr (12, [.ref (am 0), .int 0, .int 0, .ref (am 1), .ref (am 2), .ref (am 3), .ref (am 4), .ref (am 5), .int 0, .int 0, .int 0, .int 0, .int 0, .int 0, .int 0, .ref (am 6), .int 0, .ref (am 7), .int 0, .ref (am 8), .ref (am 9), .int (-1), .int 0, .int 0, .int (-1), .int 0, .ref (am 10), .int 0, .ref (am 11), .ref (am 12), .ref (am 13), .ref (am 14), .long 0, .ref (am 15), .ref (am 16), .ref (am 17), .ref (am 18)])), ((am 9), .inl (G.2.2 0, 110, .inl (fun _ => 0)))] := hD
  refine lv_if_eq (tgt := 20) hx hb dX12_bidder_5 (by decide) (fun _ => ?_) (fun c0 => absurd (by decide +kernel) c0)
  refine lv_sipush (v := (-1000)) hx hb dX12_bidder_20 (by decide +kernel) ?_
  have hP9 := hP.sub (ws' := []) [] rfl
  have hD9 := hD.sub (ws' := []) [] (by decide) rfl
  exact W.iret (v := (-1000)) hx hb hr (gq_endI () rfl hP9 hD9 hS) hS.2.2 dX12_bidder_23
set_option maxHeartbeats 4000000 in
set_option maxRecDepth 100000 in
theorem c_M_lot (l : Launch) (G : gg_T) (sz : Nat) (h0 : Nat) (am : Nat → Nat) (b : Int32) (w : Int32) : Met l yX12_lot (ts_L yX12_lot cX12_lot 3 (some .int)) ({ frames := 1, cells := 0, slots := 0, locals := 21 }) (gc_P G [(h0, .inr (12, [.ref (am 0), .int 0, .int 0, .ref (am 1), .ref (am 2), .ref (am 3), .ref (am 4), .ref (am 5), .int 0, .int 0, .int 0, .int 0, .int 0, .int 0, .int 0, .ref (am 6), .int 0, .ref (am 7), .int 0, .ref (am 8), .ref (am 9), .int (-1), .int 0, .int 0, .int (-1), .int 0, .ref (am 10), .int 0, .ref (am 11), .ref (am 12), .ref (am 13), .ref (am 14), .long 0, .ref (am 15), .ref (am 16), .ref (am 17), .ref (am 18)])), ((am 9), .inl (G.2.2 0, 110, .inl (fun _ => 0)))] sz [.ref h0, .int b, .int w]) (gc_I G (va_A [(h0, .inr (12, [.ref (am 0), .int 0, .int 0, .ref (am 1), .ref (am 2), .ref (am 3), .ref (am 4), .ref (am 5), .int 0, .int 0, .int 0, .int 0, .int 0, .int 0, .int 0, .ref (am 6), .int 0, .ref (am 7), .int 0, .ref (am 8), .ref (am 9), .int (-1), .int 0, .int 0, .int (-1), .int 0, .ref (am 10), .int 0, .ref (am 11), .ref (am 12), .ref (am 13), .ref (am 14), .long 0, .ref (am 15), .ref (am 16), .ref (am 17), .ref (am 18)])), ((am 9), .inl (G.2.2 0, 110, .inl (fun _ => 0)))] sz) (fun r (_ : Unit) => r = (-2)) (fun _ => [])) 0 0 (va_A [(h0, .inr (12, [.ref (am 0), .int 0, .int 0, .ref (am 1), .ref (am 2), .ref (am 3), .ref (am 4), .ref (am 5), .int 0, .int 0, .int 0, .int 0, .int 0, .int 0, .int 0, .ref (am 6), .int 0, .ref (am 7), .int 0, .ref (am 8), .ref (am 9), .int (-1), .int 0, .int 0, .int (-1), .int 0, .ref (am 10), .int 0, .ref (am 11), .ref (am 12), .ref (am 13), .ref (am 14), .long 0, .ref (am 15), .ref (am 16), .ref (am 17), .ref (am 18)])), ((am 9), .inl (G.2.2 0, 110, .inl (fun _ => 0)))] sz) := by
  refine Met.ofW (cc := cX12_lot) (maxL := 3) (ret := (some .int)) (by decide) rfl ?_
  intro p e s m args below meth c s₁ B hml hv
  obtain ⟨rfl, hsz, hP, hK, hD0⟩ := hv
  have hx := B.exec
  have hb := B.bytes
  have hr := B.returns
  have ht := ts_ht (atoms_spec (ws := ts_L yX12_lot cX12_lot 3 (some .int)) B.pre)
  have hown : s.vm.findClass RX12 = some m.cls := findClass_of_methodNamed B.named
  have hlocks := B.notSynchronized
  subst hsz
  have hD := hD0.self (sz := s.heap.size)
  generalize hAe : va_A [(h0, .inr (12, [.ref (am 0), .int 0, .int 0, .ref (am 1), .ref (am 2), .ref (am 3), .ref (am 4), .ref (am 5), .int 0, .int 0, .int 0, .int 0, .int 0, .int 0, .int 0, .ref (am 6), .int 0, .ref (am 7), .int 0, .ref (am 8), .ref (am 9), .int (-1), .int 0, .int 0, .int (-1), .int 0, .ref (am 10), .int 0, .ref (am 11), .ref (am 12), .ref (am 13), .ref (am 14), .long 0, .ref (am 15), .ref (am 16), .ref (am 17), .ref (am 18)])), ((am 9), .inl (G.2.2 0, 110, .inl (fun _ => 0)))] s.heap.size = A at hD ⊢
  have hA : ∀ q : Nat, s.heap.size ≤ q → A q := fun q h => by rw [← hAe]; exact Or.inr h
  have hS : va_S A s.heap s.heap [] := va_S.rf
  have hl := lv_entry ([.ref h0, .int b, .int w]) (n := 3) (Nat.le_of_ble_eq_true rfl)
  rw [lg_entry_eq]
  generalize (lg_sl ([.ref h0, .int b, .int w]) ++ List.replicate (3 - (lg_sl ([.ref h0, .int b, .int w])).length) Slot.unset).toArray = ls at hl ⊢
  have hl : lv_has ls 3 [(0, .ref h0), (1, .int b), (2, .int w)] := hl
  refine lv_aload_n hx hb dX12_lot_0 rfl (lv_at hl 0 rfl) ?_
  refine lv_iload_n hx hb dX12_lot_1 rfl (lv_at hl 1 rfl) ?_
  have hPc := hP.sub (ws' := [(h0, .inr (12, [.ref (am 0), .int 0, .int 0, .ref (am 1), .ref (am 2), .ref (am 3), .ref (am 4), .ref (am 5), .int 0, .int 0, .int 0, .int 0, .int 0, .int 0, .int 0, .ref (am 6), .int 0, .ref (am 7), .int 0, .ref (am 8), .ref (am 9), .int (-1), .int 0, .int 0, .int (-1), .int 0, .ref (am 10), .int 0, .ref (am 11), .ref (am 12), .ref (am 13), .ref (am 14), .long 0, .ref (am 15), .ref (am 16), .ref (am 17), .ref (am 18)])), ((am 9), .inl (G.2.2 0, 110, .inl (fun _ => 0)))]) [0, 1] rfl
  have hDc := hD.sub (ws' := [(h0, .inr (12, [.ref (am 0), .int 0, .int 0, .ref (am 1), .ref (am 2), .ref (am 3), .ref (am 4), .ref (am 5), .int 0, .int 0, .int 0, .int 0, .int 0, .int 0, .int 0, .ref (am 6), .int 0, .ref (am 7), .int 0, .ref (am 8), .ref (am 9), .int (-1), .int 0, .int 0, .int (-1), .int 0, .ref (am 10), .int 0, .ref (am 11), .ref (am 12), .ref (am 13), .ref (am 14), .long 0, .ref (am 15), .ref (am 16), .ref (am 17), .ref (am 18)])), ((am 9), .inl (G.2.2 0, 110, .inl (fun _ => 0)))]) [0, 1] (by decide) rfl
  refine gq_callI (wr := []) (va_runV (As := [.int b]) (rest := []) ⟨hx, hb, hml, hown, ht⟩ (c_M_isLot l G H.size h0 am b) (cwV 1 ht (ts_gV wd_1582 wd_1584 wd_79 wd_134 wd_1585) rfl rfl rfl (by decide +kernel) ⟨Nat.le_of_ble_eq_true rfl, Nat.le_of_ble_eq_true rfl⟩) (gc_preV (ci := 12) (q0 := 0) hK hPc hDc rfl rfl) rfl rfl hl.1 rfl (lv_room (Nat.le_of_ble_eq_true rfl)) dX12_lot_2 ⟨Nat.le_of_ble_eq_true rfl, Nat.le_of_ble_eq_true rfl⟩) hP hD hS hA [0, 1] [] rfl rfl (by decide) (by decide) (fun r u H locs hw hP hD hS => ?_)
  have hw : r = 0 := hw
  subst hw
  have hP : va_P (gg_D G) classes [(h0, .inr (12, [.ref (am 0), .int 0, .int 0, .ref (am 1), .ref (am 2), .ref (am 3), .ref (am 4), .ref (am 5), .int 0, .int 0, .int 0, .int 0, .int 0, .int 0, .int 0, .ref (am 6), .int 0, .ref (am 7), .int 0, .ref (am 8), .ref (am 9), .int (-1), .int 0, .int 0, .int (-1), .int 0, .ref (am 10), .int 0, .ref (am 11), .ref (am 12), .ref (am 13), .ref (am 14), .long 0, .ref (am 15), .ref (am 16), .ref (am 17), .ref (am 18)])), ((am 9), .inl (G.2.2 0, 110, .inl (fun _ => 0)))] H := hP
  have hD : va_D A [(h0, .inr (12, [.ref (am 0), .int 0, .int 0, .ref (am 1), .ref (am 2), .ref (am 3), .ref (am 4), .ref (am 5), .int 0, .int 0, .int 0, .int 0, .int 0, .int 0, .int 0, .ref (am 6), .int 0, .ref (am 7), .int 0, .ref (am 8), .ref (am 9), .int (-1), .int 0, .int 0, .int (-1), .int 0, .ref (am 10), .int 0, .ref (am 11), .ref (am 12), .ref (am 13), .ref (am 14), .long 0, .ref (am 15), .ref (am 16), .ref (am 17), .ref (am 18)])), ((am 9), .inl (G.2.2 0, 110, .inl (fun _ => 0)))] := hD
  refine lv_if_eq (tgt := 20) hx hb dX12_lot_5 (by decide) (fun _ => ?_) (fun c0 => absurd (by decide +kernel) c0)
  refine lv_bipush (v := (-2)) hx hb dX12_lot_20 (by decide +kernel) ?_
  have hP9 := hP.sub (ws' := []) [] rfl
  have hD9 := hD.sub (ws' := []) [] (by decide) rfl
  exact W.iret (v := (-2)) hx hb hr (gq_endI () rfl hP9 hD9 hS) hS.2.2 dX12_lot_22
set_option maxHeartbeats 4000000 in
set_option maxRecDepth 100000 in
theorem c_M_worth (l : Launch) (G : gg_T) (sz : Nat) (h0 : Nat) (am : Nat → Nat) (b : Int32) (w : Int32) : Met l yX12_worth (ts_L yX12_worth cX12_worth 3 (some .int)) ({ frames := 1, cells := 0, slots := 0, locals := 21 }) (gc_P G [(h0, .inr (12, [.ref (am 0), .int 0, .int 0, .ref (am 1), .ref (am 2), .ref (am 3), .ref (am 4), .ref (am 5), .int 0, .int 0, .int 0, .int 0, .int 0, .int 0, .int 0, .ref (am 6), .int 0, .ref (am 7), .int 0, .ref (am 8), .ref (am 9), .int (-1), .int 0, .int 0, .int (-1), .int 0, .ref (am 10), .int 0, .ref (am 11), .ref (am 12), .ref (am 13), .ref (am 14), .long 0, .ref (am 15), .ref (am 16), .ref (am 17), .ref (am 18)])), ((am 9), .inl (G.2.2 0, 110, .inl (fun _ => 0)))] sz [.ref h0, .int b, .int w]) (gc_I G (va_A [(h0, .inr (12, [.ref (am 0), .int 0, .int 0, .ref (am 1), .ref (am 2), .ref (am 3), .ref (am 4), .ref (am 5), .int 0, .int 0, .int 0, .int 0, .int 0, .int 0, .int 0, .ref (am 6), .int 0, .ref (am 7), .int 0, .ref (am 8), .ref (am 9), .int (-1), .int 0, .int 0, .int (-1), .int 0, .ref (am 10), .int 0, .ref (am 11), .ref (am 12), .ref (am 13), .ref (am 14), .long 0, .ref (am 15), .ref (am 16), .ref (am 17), .ref (am 18)])), ((am 9), .inl (G.2.2 0, 110, .inl (fun _ => 0)))] sz) (fun r (_ : Unit) => r = (-1)) (fun _ => [])) 0 0 (va_A [(h0, .inr (12, [.ref (am 0), .int 0, .int 0, .ref (am 1), .ref (am 2), .ref (am 3), .ref (am 4), .ref (am 5), .int 0, .int 0, .int 0, .int 0, .int 0, .int 0, .int 0, .ref (am 6), .int 0, .ref (am 7), .int 0, .ref (am 8), .ref (am 9), .int (-1), .int 0, .int 0, .int (-1), .int 0, .ref (am 10), .int 0, .ref (am 11), .ref (am 12), .ref (am 13), .ref (am 14), .long 0, .ref (am 15), .ref (am 16), .ref (am 17), .ref (am 18)])), ((am 9), .inl (G.2.2 0, 110, .inl (fun _ => 0)))] sz) := by
  refine Met.ofW (cc := cX12_worth) (maxL := 3) (ret := (some .int)) (by decide) rfl ?_
  intro p e s m args below meth c s₁ B hml hv
  obtain ⟨rfl, hsz, hP, hK, hD0⟩ := hv
  have hx := B.exec
  have hb := B.bytes
  have hr := B.returns
  have ht := ts_ht (atoms_spec (ws := ts_L yX12_worth cX12_worth 3 (some .int)) B.pre)
  have hown : s.vm.findClass RX12 = some m.cls := findClass_of_methodNamed B.named
  have hlocks := B.notSynchronized
  subst hsz
  have hD := hD0.self (sz := s.heap.size)
  generalize hAe : va_A [(h0, .inr (12, [.ref (am 0), .int 0, .int 0, .ref (am 1), .ref (am 2), .ref (am 3), .ref (am 4), .ref (am 5), .int 0, .int 0, .int 0, .int 0, .int 0, .int 0, .int 0, .ref (am 6), .int 0, .ref (am 7), .int 0, .ref (am 8), .ref (am 9), .int (-1), .int 0, .int 0, .int (-1), .int 0, .ref (am 10), .int 0, .ref (am 11), .ref (am 12), .ref (am 13), .ref (am 14), .long 0, .ref (am 15), .ref (am 16), .ref (am 17), .ref (am 18)])), ((am 9), .inl (G.2.2 0, 110, .inl (fun _ => 0)))] s.heap.size = A at hD ⊢
  have hA : ∀ q : Nat, s.heap.size ≤ q → A q := fun q h => by rw [← hAe]; exact Or.inr h
  have hS : va_S A s.heap s.heap [] := va_S.rf
  have hl := lv_entry ([.ref h0, .int b, .int w]) (n := 3) (Nat.le_of_ble_eq_true rfl)
  rw [lg_entry_eq]
  generalize (lg_sl ([.ref h0, .int b, .int w]) ++ List.replicate (3 - (lg_sl ([.ref h0, .int b, .int w])).length) Slot.unset).toArray = ls at hl ⊢
  have hl : lv_has ls 3 [(0, .ref h0), (1, .int b), (2, .int w)] := hl
  refine lv_aload_n hx hb dX12_worth_0 rfl (lv_at hl 0 rfl) ?_
  refine lv_iload_n hx hb dX12_worth_1 rfl (lv_at hl 1 rfl) ?_
  have hPc := hP.sub (ws' := [(h0, .inr (12, [.ref (am 0), .int 0, .int 0, .ref (am 1), .ref (am 2), .ref (am 3), .ref (am 4), .ref (am 5), .int 0, .int 0, .int 0, .int 0, .int 0, .int 0, .int 0, .ref (am 6), .int 0, .ref (am 7), .int 0, .ref (am 8), .ref (am 9), .int (-1), .int 0, .int 0, .int (-1), .int 0, .ref (am 10), .int 0, .ref (am 11), .ref (am 12), .ref (am 13), .ref (am 14), .long 0, .ref (am 15), .ref (am 16), .ref (am 17), .ref (am 18)])), ((am 9), .inl (G.2.2 0, 110, .inl (fun _ => 0)))]) [0, 1] rfl
  have hDc := hD.sub (ws' := [(h0, .inr (12, [.ref (am 0), .int 0, .int 0, .ref (am 1), .ref (am 2), .ref (am 3), .ref (am 4), .ref (am 5), .int 0, .int 0, .int 0, .int 0, .int 0, .int 0, .int 0, .ref (am 6), .int 0, .ref (am 7), .int 0, .ref (am 8), .ref (am 9), .int (-1), .int 0, .int 0, .int (-1), .int 0, .ref (am 10), .int 0, .ref (am 11), .ref (am 12), .ref (am 13), .ref (am 14), .long 0, .ref (am 15), .ref (am 16), .ref (am 17), .ref (am 18)])), ((am 9), .inl (G.2.2 0, 110, .inl (fun _ => 0)))]) [0, 1] (by decide) rfl
  refine gq_callI (wr := []) (va_runV (As := [.int b]) (rest := []) ⟨hx, hb, hml, hown, ht⟩ (c_M_isBidder l G H.size h0 am b) (cwV 1 ht (ts_gV wd_1553 wd_1555 wd_73 wd_134 wd_1556) rfl rfl rfl (by decide +kernel) ⟨Nat.le_of_ble_eq_true rfl, Nat.le_of_ble_eq_true rfl⟩) (gc_preV (ci := 12) (q0 := 0) hK hPc hDc rfl rfl) rfl rfl hl.1 rfl (lv_room (Nat.le_of_ble_eq_true rfl)) dX12_worth_2 ⟨Nat.le_of_ble_eq_true rfl, Nat.le_of_ble_eq_true rfl⟩) hP hD hS hA [0, 1] [] rfl rfl (by decide) (by decide) (fun r u H locs hw hP hD hS => ?_)
  have hw : r = 0 := hw
  subst hw
  have hP : va_P (gg_D G) classes [(h0, .inr (12, [.ref (am 0), .int 0, .int 0, .ref (am 1), .ref (am 2), .ref (am 3), .ref (am 4), .ref (am 5), .int 0, .int 0, .int 0, .int 0, .int 0, .int 0, .int 0, .ref (am 6), .int 0, .ref (am 7), .int 0, .ref (am 8), .ref (am 9), .int (-1), .int 0, .int 0, .int (-1), .int 0, .ref (am 10), .int 0, .ref (am 11), .ref (am 12), .ref (am 13), .ref (am 14), .long 0, .ref (am 15), .ref (am 16), .ref (am 17), .ref (am 18)])), ((am 9), .inl (G.2.2 0, 110, .inl (fun _ => 0)))] H := hP
  have hD : va_D A [(h0, .inr (12, [.ref (am 0), .int 0, .int 0, .ref (am 1), .ref (am 2), .ref (am 3), .ref (am 4), .ref (am 5), .int 0, .int 0, .int 0, .int 0, .int 0, .int 0, .int 0, .ref (am 6), .int 0, .ref (am 7), .int 0, .ref (am 8), .ref (am 9), .int (-1), .int 0, .int 0, .int (-1), .int 0, .ref (am 10), .int 0, .ref (am 11), .ref (am 12), .ref (am 13), .ref (am 14), .long 0, .ref (am 15), .ref (am 16), .ref (am 17), .ref (am 18)])), ((am 9), .inl (G.2.2 0, 110, .inl (fun _ => 0)))] := hD
  refine lv_if_eq (tgt := 25) hx hb dX12_worth_5 (by decide) (fun _ => ?_) (fun c0 => absurd (by decide +kernel) c0)
  refine lv_iconst (v := (-1)) hx hb dX12_worth_25 (by decide) ?_
  have hP9 := hP.sub (ws' := []) [] rfl
  have hD9 := hD.sub (ws' := []) [] (by decide) rfl
  exact W.iret (v := (-1)) hx hb hr (gq_endI () rfl hP9 hD9 hS) hS.2.2 dX12_worth_26
set_option maxHeartbeats 4000000 in
set_option maxRecDepth 100000 in
theorem c_M_trick (l : Launch) (G : gg_T) (sz : Nat) (h0 : Nat) (am : Nat → Nat) (b : Int32) (w : Int32) : Met l yX12_trick (ts_L yX12_trick cX12_trick 3 (some .int)) ({ frames := 1, cells := 0, slots := 0, locals := 21 }) (gc_P G [(h0, .inr (12, [.ref (am 0), .int 0, .int 0, .ref (am 1), .ref (am 2), .ref (am 3), .ref (am 4), .ref (am 5), .int 0, .int 0, .int 0, .int 0, .int 0, .int 0, .int 0, .ref (am 6), .int 0, .ref (am 7), .int 0, .ref (am 8), .ref (am 9), .int (-1), .int 0, .int 0, .int (-1), .int 0, .ref (am 10), .int 0, .ref (am 11), .ref (am 12), .ref (am 13), .ref (am 14), .long 0, .ref (am 15), .ref (am 16), .ref (am 17), .ref (am 18)])), ((am 9), .inl (G.2.2 0, 110, .inl (fun _ => 0)))] sz [.ref h0, .int b, .int w]) (gc_I G (va_A [(h0, .inr (12, [.ref (am 0), .int 0, .int 0, .ref (am 1), .ref (am 2), .ref (am 3), .ref (am 4), .ref (am 5), .int 0, .int 0, .int 0, .int 0, .int 0, .int 0, .int 0, .ref (am 6), .int 0, .ref (am 7), .int 0, .ref (am 8), .ref (am 9), .int (-1), .int 0, .int 0, .int (-1), .int 0, .ref (am 10), .int 0, .ref (am 11), .ref (am 12), .ref (am 13), .ref (am 14), .long 0, .ref (am 15), .ref (am 16), .ref (am 17), .ref (am 18)])), ((am 9), .inl (G.2.2 0, 110, .inl (fun _ => 0)))] sz) (fun r (_ : Unit) => r = (-1)) (fun _ => [])) 0 0 (va_A [(h0, .inr (12, [.ref (am 0), .int 0, .int 0, .ref (am 1), .ref (am 2), .ref (am 3), .ref (am 4), .ref (am 5), .int 0, .int 0, .int 0, .int 0, .int 0, .int 0, .int 0, .ref (am 6), .int 0, .ref (am 7), .int 0, .ref (am 8), .ref (am 9), .int (-1), .int 0, .int 0, .int (-1), .int 0, .ref (am 10), .int 0, .ref (am 11), .ref (am 12), .ref (am 13), .ref (am 14), .long 0, .ref (am 15), .ref (am 16), .ref (am 17), .ref (am 18)])), ((am 9), .inl (G.2.2 0, 110, .inl (fun _ => 0)))] sz) := by
  refine Met.ofW (cc := cX12_trick) (maxL := 3) (ret := (some .int)) (by decide) rfl ?_
  intro p e s m args below meth c s₁ B hml hv
  obtain ⟨rfl, hsz, hP, hK, hD0⟩ := hv
  have hx := B.exec
  have hb := B.bytes
  have hr := B.returns
  have ht := ts_ht (atoms_spec (ws := ts_L yX12_trick cX12_trick 3 (some .int)) B.pre)
  have hown : s.vm.findClass RX12 = some m.cls := findClass_of_methodNamed B.named
  have hlocks := B.notSynchronized
  subst hsz
  have hD := hD0.self (sz := s.heap.size)
  generalize hAe : va_A [(h0, .inr (12, [.ref (am 0), .int 0, .int 0, .ref (am 1), .ref (am 2), .ref (am 3), .ref (am 4), .ref (am 5), .int 0, .int 0, .int 0, .int 0, .int 0, .int 0, .int 0, .ref (am 6), .int 0, .ref (am 7), .int 0, .ref (am 8), .ref (am 9), .int (-1), .int 0, .int 0, .int (-1), .int 0, .ref (am 10), .int 0, .ref (am 11), .ref (am 12), .ref (am 13), .ref (am 14), .long 0, .ref (am 15), .ref (am 16), .ref (am 17), .ref (am 18)])), ((am 9), .inl (G.2.2 0, 110, .inl (fun _ => 0)))] s.heap.size = A at hD ⊢
  have hA : ∀ q : Nat, s.heap.size ≤ q → A q := fun q h => by rw [← hAe]; exact Or.inr h
  have hS : va_S A s.heap s.heap [] := va_S.rf
  have hl := lv_entry ([.ref h0, .int b, .int w]) (n := 3) (Nat.le_of_ble_eq_true rfl)
  rw [lg_entry_eq]
  generalize (lg_sl ([.ref h0, .int b, .int w]) ++ List.replicate (3 - (lg_sl ([.ref h0, .int b, .int w])).length) Slot.unset).toArray = ls at hl ⊢
  have hl : lv_has ls 3 [(0, .ref h0), (1, .int b), (2, .int w)] := hl
  refine lv_aload_n hx hb dX12_trick_0 rfl (lv_at hl 0 rfl) ?_
  refine lv_iload_n hx hb dX12_trick_1 rfl (lv_at hl 1 rfl) ?_
  have hPc := hP.sub (ws' := [(h0, .inr (12, [.ref (am 0), .int 0, .int 0, .ref (am 1), .ref (am 2), .ref (am 3), .ref (am 4), .ref (am 5), .int 0, .int 0, .int 0, .int 0, .int 0, .int 0, .int 0, .ref (am 6), .int 0, .ref (am 7), .int 0, .ref (am 8), .ref (am 9), .int (-1), .int 0, .int 0, .int (-1), .int 0, .ref (am 10), .int 0, .ref (am 11), .ref (am 12), .ref (am 13), .ref (am 14), .long 0, .ref (am 15), .ref (am 16), .ref (am 17), .ref (am 18)])), ((am 9), .inl (G.2.2 0, 110, .inl (fun _ => 0)))]) [0, 1] rfl
  have hDc := hD.sub (ws' := [(h0, .inr (12, [.ref (am 0), .int 0, .int 0, .ref (am 1), .ref (am 2), .ref (am 3), .ref (am 4), .ref (am 5), .int 0, .int 0, .int 0, .int 0, .int 0, .int 0, .int 0, .ref (am 6), .int 0, .ref (am 7), .int 0, .ref (am 8), .ref (am 9), .int (-1), .int 0, .int 0, .int (-1), .int 0, .ref (am 10), .int 0, .ref (am 11), .ref (am 12), .ref (am 13), .ref (am 14), .long 0, .ref (am 15), .ref (am 16), .ref (am 17), .ref (am 18)])), ((am 9), .inl (G.2.2 0, 110, .inl (fun _ => 0)))]) [0, 1] (by decide) rfl
  refine gq_callI (wr := []) (va_runV (As := [.int b]) (rest := []) ⟨hx, hb, hml, hown, ht⟩ (c_M_isTrick l G H.size h0 am b) (cwV 1 ht (ts_gV wd_1607 wd_1609 wd_83 wd_134 wd_1610) rfl rfl rfl (by decide +kernel) ⟨Nat.le_of_ble_eq_true rfl, Nat.le_of_ble_eq_true rfl⟩) (gc_preV (ci := 12) (q0 := 0) hK hPc hDc rfl rfl) rfl rfl hl.1 rfl (lv_room (Nat.le_of_ble_eq_true rfl)) dX12_trick_2 ⟨Nat.le_of_ble_eq_true rfl, Nat.le_of_ble_eq_true rfl⟩) hP hD hS hA [0, 1] [] rfl rfl (by decide) (by decide) (fun r u H locs hw hP hD hS => ?_)
  have hw : r = 0 := hw
  subst hw
  have hP : va_P (gg_D G) classes [(h0, .inr (12, [.ref (am 0), .int 0, .int 0, .ref (am 1), .ref (am 2), .ref (am 3), .ref (am 4), .ref (am 5), .int 0, .int 0, .int 0, .int 0, .int 0, .int 0, .int 0, .ref (am 6), .int 0, .ref (am 7), .int 0, .ref (am 8), .ref (am 9), .int (-1), .int 0, .int 0, .int (-1), .int 0, .ref (am 10), .int 0, .ref (am 11), .ref (am 12), .ref (am 13), .ref (am 14), .long 0, .ref (am 15), .ref (am 16), .ref (am 17), .ref (am 18)])), ((am 9), .inl (G.2.2 0, 110, .inl (fun _ => 0)))] H := hP
  have hD : va_D A [(h0, .inr (12, [.ref (am 0), .int 0, .int 0, .ref (am 1), .ref (am 2), .ref (am 3), .ref (am 4), .ref (am 5), .int 0, .int 0, .int 0, .int 0, .int 0, .int 0, .int 0, .ref (am 6), .int 0, .ref (am 7), .int 0, .ref (am 8), .ref (am 9), .int (-1), .int 0, .int 0, .int (-1), .int 0, .ref (am 10), .int 0, .ref (am 11), .ref (am 12), .ref (am 13), .ref (am 14), .long 0, .ref (am 15), .ref (am 16), .ref (am 17), .ref (am 18)])), ((am 9), .inl (G.2.2 0, 110, .inl (fun _ => 0)))] := hD
  refine lv_if_eq (tgt := 34) hx hb dX12_trick_5 (by decide) (fun _ => ?_) (fun c0 => absurd (by decide +kernel) c0)
  refine lv_iconst (v := (-1)) hx hb dX12_trick_34 (by decide) ?_
  have hP9 := hP.sub (ws' := []) [] rfl
  have hD9 := hD.sub (ws' := []) [] (by decide) rfl
  exact W.iret (v := (-1)) hx hb hr (gq_endI () rfl hP9 hD9 hS) hS.2.2 dX12_trick_35
set_option maxHeartbeats 4000000 in
set_option maxRecDepth 100000 in
theorem c_M_minute (l : Launch) (G : gg_T) (sz : Nat) (h0 : Nat) (am : Nat → Nat) : Met l yX12_minute (ts_L yX12_minute cX12_minute 1 (some .int)) ({ frames := 1, cells := 0, slots := 0, locals := 23 }) (gc_P G [(h0, .inr (12, [.ref (am 0), .int 0, .int 0, .ref (am 1), .ref (am 2), .ref (am 3), .ref (am 4), .ref (am 5), .int 0, .int 0, .int 0, .int 0, .int 0, .int 0, .int 0, .ref (am 6), .int 0, .ref (am 7), .int 0, .ref (am 8), .ref (am 9), .int (-1), .int 0, .int 0, .int (-1), .int 0, .ref (am 10), .int 0, .ref (am 11), .ref (am 12), .ref (am 13), .ref (am 14), .long 0, .ref (am 15), .ref (am 16), .ref (am 17), .ref (am 18)])), ((am 9), .inl (G.2.2 0, 110, .inl (fun _ => 0)))] sz [.ref h0]) (gc_I G (va_A [(h0, .inr (12, [.ref (am 0), .int 0, .int 0, .ref (am 1), .ref (am 2), .ref (am 3), .ref (am 4), .ref (am 5), .int 0, .int 0, .int 0, .int 0, .int 0, .int 0, .int 0, .ref (am 6), .int 0, .ref (am 7), .int 0, .ref (am 8), .ref (am 9), .int (-1), .int 0, .int 0, .int (-1), .int 0, .ref (am 10), .int 0, .ref (am 11), .ref (am 12), .ref (am 13), .ref (am 14), .long 0, .ref (am 15), .ref (am 16), .ref (am 17), .ref (am 18)])), ((am 9), .inl (G.2.2 0, 110, .inl (fun _ => 0)))] sz) (fun r (_ : Unit) => r = (-1)) (fun _ => [])) 0 0 (va_A [(h0, .inr (12, [.ref (am 0), .int 0, .int 0, .ref (am 1), .ref (am 2), .ref (am 3), .ref (am 4), .ref (am 5), .int 0, .int 0, .int 0, .int 0, .int 0, .int 0, .int 0, .ref (am 6), .int 0, .ref (am 7), .int 0, .ref (am 8), .ref (am 9), .int (-1), .int 0, .int 0, .int (-1), .int 0, .ref (am 10), .int 0, .ref (am 11), .ref (am 12), .ref (am 13), .ref (am 14), .long 0, .ref (am 15), .ref (am 16), .ref (am 17), .ref (am 18)])), ((am 9), .inl (G.2.2 0, 110, .inl (fun _ => 0)))] sz) := by
  refine Met.ofW (cc := cX12_minute) (maxL := 1) (ret := (some .int)) (by decide) rfl ?_
  intro p e s m args below meth c s₁ B hml hv
  obtain ⟨rfl, hsz, hP, hK, hD0⟩ := hv
  have hx := B.exec
  have hb := B.bytes
  have hr := B.returns
  have ht := ts_ht (atoms_spec (ws := ts_L yX12_minute cX12_minute 1 (some .int)) B.pre)
  have hown : s.vm.findClass RX12 = some m.cls := findClass_of_methodNamed B.named
  have hlocks := B.notSynchronized
  subst hsz
  have hD := hD0.self (sz := s.heap.size)
  generalize hAe : va_A [(h0, .inr (12, [.ref (am 0), .int 0, .int 0, .ref (am 1), .ref (am 2), .ref (am 3), .ref (am 4), .ref (am 5), .int 0, .int 0, .int 0, .int 0, .int 0, .int 0, .int 0, .ref (am 6), .int 0, .ref (am 7), .int 0, .ref (am 8), .ref (am 9), .int (-1), .int 0, .int 0, .int (-1), .int 0, .ref (am 10), .int 0, .ref (am 11), .ref (am 12), .ref (am 13), .ref (am 14), .long 0, .ref (am 15), .ref (am 16), .ref (am 17), .ref (am 18)])), ((am 9), .inl (G.2.2 0, 110, .inl (fun _ => 0)))] s.heap.size = A at hD ⊢
  have hA : ∀ q : Nat, s.heap.size ≤ q → A q := fun q h => by rw [← hAe]; exact Or.inr h
  have hS : va_S A s.heap s.heap [] := va_S.rf
  have hl := lv_entry ([.ref h0]) (n := 1) (Nat.le_of_ble_eq_true rfl)
  rw [lg_entry_eq]
  generalize (lg_sl ([.ref h0]) ++ List.replicate (1 - (lg_sl ([.ref h0])).length) Slot.unset).toArray = ls at hl ⊢
  have hl : lv_has ls 1 [(0, .ref h0)] := hl
  refine lv_aload_n hx hb dX12_minute_0 rfl (lv_at hl 0 rfl) ?_
  refine lv_iconst (v := 1) hx hb dX12_minute_1 (by decide) ?_
  have hPc := hP.sub (ws' := [(h0, .inr (12, [.ref (am 0), .int 0, .int 0, .ref (am 1), .ref (am 2), .ref (am 3), .ref (am 4), .ref (am 5), .int 0, .int 0, .int 0, .int 0, .int 0, .int 0, .int 0, .ref (am 6), .int 0, .ref (am 7), .int 0, .ref (am 8), .ref (am 9), .int (-1), .int 0, .int 0, .int (-1), .int 0, .ref (am 10), .int 0, .ref (am 11), .ref (am 12), .ref (am 13), .ref (am 14), .long 0, .ref (am 15), .ref (am 16), .ref (am 17), .ref (am 18)])), ((am 9), .inl (G.2.2 0, 110, .inl (fun _ => 0)))]) [0, 1] rfl
  have hDc := hD.sub (ws' := [(h0, .inr (12, [.ref (am 0), .int 0, .int 0, .ref (am 1), .ref (am 2), .ref (am 3), .ref (am 4), .ref (am 5), .int 0, .int 0, .int 0, .int 0, .int 0, .int 0, .int 0, .ref (am 6), .int 0, .ref (am 7), .int 0, .ref (am 8), .ref (am 9), .int (-1), .int 0, .int 0, .int (-1), .int 0, .ref (am 10), .int 0, .ref (am 11), .ref (am 12), .ref (am 13), .ref (am 14), .long 0, .ref (am 15), .ref (am 16), .ref (am 17), .ref (am 18)])), ((am 9), .inl (G.2.2 0, 110, .inl (fun _ => 0)))]) [0, 1] (by decide) rfl
  refine gq_callI (wr := []) (va_runV (As := [.int 1]) (rest := []) ⟨hx, hb, hml, hown, ht⟩ (c_M_lotsIn1 l G H.size h0 am) (cwV 1 ht (ts_gV wd_1619 wd_1621 wd_84 wd_134 wd_1622) rfl rfl rfl (by decide +kernel) ⟨Nat.le_of_ble_eq_true rfl, Nat.le_of_ble_eq_true rfl⟩) (gc_preV (ci := 12) (q0 := 0) hK hPc hDc rfl rfl) rfl rfl hl.1 rfl (lv_room (Nat.le_of_ble_eq_true rfl)) dX12_minute_2 ⟨Nat.le_of_ble_eq_true rfl, Nat.le_of_ble_eq_true rfl⟩) hP hD hS hA [0, 1] [] rfl rfl (by decide) (by decide) (fun r u H locs hw hP hD hS => ?_)
  have hw : r = 0 := hw
  subst hw
  have hP : va_P (gg_D G) classes [(h0, .inr (12, [.ref (am 0), .int 0, .int 0, .ref (am 1), .ref (am 2), .ref (am 3), .ref (am 4), .ref (am 5), .int 0, .int 0, .int 0, .int 0, .int 0, .int 0, .int 0, .ref (am 6), .int 0, .ref (am 7), .int 0, .ref (am 8), .ref (am 9), .int (-1), .int 0, .int 0, .int (-1), .int 0, .ref (am 10), .int 0, .ref (am 11), .ref (am 12), .ref (am 13), .ref (am 14), .long 0, .ref (am 15), .ref (am 16), .ref (am 17), .ref (am 18)])), ((am 9), .inl (G.2.2 0, 110, .inl (fun _ => 0)))] H := hP
  have hD : va_D A [(h0, .inr (12, [.ref (am 0), .int 0, .int 0, .ref (am 1), .ref (am 2), .ref (am 3), .ref (am 4), .ref (am 5), .int 0, .int 0, .int 0, .int 0, .int 0, .int 0, .int 0, .ref (am 6), .int 0, .ref (am 7), .int 0, .ref (am 8), .ref (am 9), .int (-1), .int 0, .int 0, .int (-1), .int 0, .ref (am 10), .int 0, .ref (am 11), .ref (am 12), .ref (am 13), .ref (am 14), .long 0, .ref (am 15), .ref (am 16), .ref (am 17), .ref (am 18)])), ((am 9), .inl (G.2.2 0, 110, .inl (fun _ => 0)))] := hD
  refine lv_if_eq (tgt := 21) hx hb dX12_minute_5 (by decide) (fun _ => ?_) (fun c0 => absurd (by decide +kernel) c0)
  refine lv_iconst (v := (-1)) hx hb dX12_minute_21 (by decide) ?_
  have hP9 := hP.sub (ws' := []) [] rfl
  have hD9 := hD.sub (ws' := []) [] (by decide) rfl
  exact W.iret (v := (-1)) hx hb hr (gq_endI () rfl hP9 hD9 hS) hS.2.2 dX12_minute_22
set_option maxHeartbeats 4000000 in
set_option maxRecDepth 100000 in
theorem c_M_sit (l : Launch) (G : gg_T) (sz : Nat) (h0 : Nat) (am : Nat → Nat) (b : Int32) (w : Int32) : Met l yX12_sit (ts_L yX12_sit cX12_sit 4 (some .int)) ({ frames := 1, cells := 0, slots := 0, locals := 21 }) (gc_P G [(h0, .inr (12, [.ref (am 0), .int 0, .int 0, .ref (am 1), .ref (am 2), .ref (am 3), .ref (am 4), .ref (am 5), .int 0, .int 0, .int 0, .int 0, .int 0, .int 0, .int 0, .ref (am 6), .int 0, .ref (am 7), .int 0, .ref (am 8), .ref (am 9), .int (-1), .int 0, .int 0, .int (-1), .int 0, .ref (am 10), .int 0, .ref (am 11), .ref (am 12), .ref (am 13), .ref (am 14), .long 0, .ref (am 15), .ref (am 16), .ref (am 17), .ref (am 18)])), ((am 9), .inl (G.2.2 0, 110, .inl (fun _ => 0)))] sz [.ref h0, .int b, .int w]) (gc_I G (va_A [(h0, .inr (12, [.ref (am 0), .int 0, .int 0, .ref (am 1), .ref (am 2), .ref (am 3), .ref (am 4), .ref (am 5), .int 0, .int 0, .int 0, .int 0, .int 0, .int 0, .int 0, .ref (am 6), .int 0, .ref (am 7), .int 0, .ref (am 8), .ref (am 9), .int (-1), .int 0, .int 0, .int (-1), .int 0, .ref (am 10), .int 0, .ref (am 11), .ref (am 12), .ref (am 13), .ref (am 14), .long 0, .ref (am 15), .ref (am 16), .ref (am 17), .ref (am 18)])), ((am 9), .inl (G.2.2 0, 110, .inl (fun _ => 0)))] sz) (fun r (_ : Unit) => r = (-2)) (fun _ => [])) 0 0 (va_A [(h0, .inr (12, [.ref (am 0), .int 0, .int 0, .ref (am 1), .ref (am 2), .ref (am 3), .ref (am 4), .ref (am 5), .int 0, .int 0, .int 0, .int 0, .int 0, .int 0, .int 0, .ref (am 6), .int 0, .ref (am 7), .int 0, .ref (am 8), .ref (am 9), .int (-1), .int 0, .int 0, .int (-1), .int 0, .ref (am 10), .int 0, .ref (am 11), .ref (am 12), .ref (am 13), .ref (am 14), .long 0, .ref (am 15), .ref (am 16), .ref (am 17), .ref (am 18)])), ((am 9), .inl (G.2.2 0, 110, .inl (fun _ => 0)))] sz) := by
  refine Met.ofW (cc := cX12_sit) (maxL := 4) (ret := (some .int)) (by decide) rfl ?_
  intro p e s m args below meth c s₁ B hml hv
  obtain ⟨rfl, hsz, hP, hK, hD0⟩ := hv
  have hx := B.exec
  have hb := B.bytes
  have hr := B.returns
  have ht := ts_ht (atoms_spec (ws := ts_L yX12_sit cX12_sit 4 (some .int)) B.pre)
  have hown : s.vm.findClass RX12 = some m.cls := findClass_of_methodNamed B.named
  have hlocks := B.notSynchronized
  subst hsz
  have hD := hD0.self (sz := s.heap.size)
  generalize hAe : va_A [(h0, .inr (12, [.ref (am 0), .int 0, .int 0, .ref (am 1), .ref (am 2), .ref (am 3), .ref (am 4), .ref (am 5), .int 0, .int 0, .int 0, .int 0, .int 0, .int 0, .int 0, .ref (am 6), .int 0, .ref (am 7), .int 0, .ref (am 8), .ref (am 9), .int (-1), .int 0, .int 0, .int (-1), .int 0, .ref (am 10), .int 0, .ref (am 11), .ref (am 12), .ref (am 13), .ref (am 14), .long 0, .ref (am 15), .ref (am 16), .ref (am 17), .ref (am 18)])), ((am 9), .inl (G.2.2 0, 110, .inl (fun _ => 0)))] s.heap.size = A at hD ⊢
  have hA : ∀ q : Nat, s.heap.size ≤ q → A q := fun q h => by rw [← hAe]; exact Or.inr h
  have hS : va_S A s.heap s.heap [] := va_S.rf
  have hl := lv_entry ([.ref h0, .int b, .int w]) (n := 4) (Nat.le_of_ble_eq_true rfl)
  rw [lg_entry_eq]
  generalize (lg_sl ([.ref h0, .int b, .int w]) ++ List.replicate (4 - (lg_sl ([.ref h0, .int b, .int w])).length) Slot.unset).toArray = ls at hl ⊢
  have hl : lv_has ls 4 [(0, .ref h0), (1, .int b), (2, .int w)] := hl
  refine lv_aload_n hx hb dX12_sit_0 rfl (lv_at hl 0 rfl) ?_
  refine lv_iload_n hx hb dX12_sit_1 rfl (lv_at hl 1 rfl) ?_
  have hPc := hP.sub (ws' := [(h0, .inr (12, [.ref (am 0), .int 0, .int 0, .ref (am 1), .ref (am 2), .ref (am 3), .ref (am 4), .ref (am 5), .int 0, .int 0, .int 0, .int 0, .int 0, .int 0, .int 0, .ref (am 6), .int 0, .ref (am 7), .int 0, .ref (am 8), .ref (am 9), .int (-1), .int 0, .int 0, .int (-1), .int 0, .ref (am 10), .int 0, .ref (am 11), .ref (am 12), .ref (am 13), .ref (am 14), .long 0, .ref (am 15), .ref (am 16), .ref (am 17), .ref (am 18)])), ((am 9), .inl (G.2.2 0, 110, .inl (fun _ => 0)))]) [0, 1] rfl
  have hDc := hD.sub (ws' := [(h0, .inr (12, [.ref (am 0), .int 0, .int 0, .ref (am 1), .ref (am 2), .ref (am 3), .ref (am 4), .ref (am 5), .int 0, .int 0, .int 0, .int 0, .int 0, .int 0, .int 0, .ref (am 6), .int 0, .ref (am 7), .int 0, .ref (am 8), .ref (am 9), .int (-1), .int 0, .int 0, .int (-1), .int 0, .ref (am 10), .int 0, .ref (am 11), .ref (am 12), .ref (am 13), .ref (am 14), .long 0, .ref (am 15), .ref (am 16), .ref (am 17), .ref (am 18)])), ((am 9), .inl (G.2.2 0, 110, .inl (fun _ => 0)))]) [0, 1] (by decide) rfl
  refine gq_callI (wr := []) (va_runV (As := [.int b]) (rest := []) ⟨hx, hb, hml, hown, ht⟩ (c_M_isBidder l G H.size h0 am b) (cwV 1 ht (ts_gV wd_1553 wd_1555 wd_73 wd_134 wd_1556) rfl rfl rfl (by decide +kernel) ⟨Nat.le_of_ble_eq_true rfl, Nat.le_of_ble_eq_true rfl⟩) (gc_preV (ci := 12) (q0 := 0) hK hPc hDc rfl rfl) rfl rfl hl.1 rfl (lv_room (Nat.le_of_ble_eq_true rfl)) dX12_sit_2 ⟨Nat.le_of_ble_eq_true rfl, Nat.le_of_ble_eq_true rfl⟩) hP hD hS hA [0, 1] [] rfl rfl (by decide) (by decide) (fun r u H locs hw hP hD hS => ?_)
  have hw : r = 0 := hw
  subst hw
  have hP : va_P (gg_D G) classes [(h0, .inr (12, [.ref (am 0), .int 0, .int 0, .ref (am 1), .ref (am 2), .ref (am 3), .ref (am 4), .ref (am 5), .int 0, .int 0, .int 0, .int 0, .int 0, .int 0, .int 0, .ref (am 6), .int 0, .ref (am 7), .int 0, .ref (am 8), .ref (am 9), .int (-1), .int 0, .int 0, .int (-1), .int 0, .ref (am 10), .int 0, .ref (am 11), .ref (am 12), .ref (am 13), .ref (am 14), .long 0, .ref (am 15), .ref (am 16), .ref (am 17), .ref (am 18)])), ((am 9), .inl (G.2.2 0, 110, .inl (fun _ => 0)))] H := hP
  have hD : va_D A [(h0, .inr (12, [.ref (am 0), .int 0, .int 0, .ref (am 1), .ref (am 2), .ref (am 3), .ref (am 4), .ref (am 5), .int 0, .int 0, .int 0, .int 0, .int 0, .int 0, .int 0, .ref (am 6), .int 0, .ref (am 7), .int 0, .ref (am 8), .ref (am 9), .int (-1), .int 0, .int 0, .int (-1), .int 0, .ref (am 10), .int 0, .ref (am 11), .ref (am 12), .ref (am 13), .ref (am 14), .long 0, .ref (am 15), .ref (am 16), .ref (am 17), .ref (am 18)])), ((am 9), .inl (G.2.2 0, 110, .inl (fun _ => 0)))] := hD
  refine lv_if_eq (tgt := 26) hx hb dX12_sit_5 (by decide) (fun _ => ?_) (fun c0 => absurd (by decide +kernel) c0)
  refine lv_bipush (v := (-2)) hx hb dX12_sit_26 (by decide +kernel) ?_
  have hP9 := hP.sub (ws' := []) [] rfl
  have hD9 := hD.sub (ws' := []) [] (by decide) rfl
  exact W.iret (v := (-2)) hx hb hr (gq_endI () rfl hP9 hD9 hS) hS.2.2 dX12_sit_28
set_option maxHeartbeats 4000000 in
set_option maxRecDepth 100000 in
theorem c_M_bell (l : Launch) (G : gg_T) (sz : Nat) (h0 : Nat) (am : Nat → Nat) (b : Int32) : Met l yX12_bell (ts_L yX12_bell cX12_bell 3 (some .int)) ({ frames := 1, cells := 0, slots := 0, locals := 21 }) (gc_P G [(h0, .inr (12, [.ref (am 0), .int 0, .int 0, .ref (am 1), .ref (am 2), .ref (am 3), .ref (am 4), .ref (am 5), .int 0, .int 0, .int 0, .int 0, .int 0, .int 0, .int 0, .ref (am 6), .int 0, .ref (am 7), .int 0, .ref (am 8), .ref (am 9), .int (-1), .int 0, .int 0, .int (-1), .int 0, .ref (am 10), .int 0, .ref (am 11), .ref (am 12), .ref (am 13), .ref (am 14), .long 0, .ref (am 15), .ref (am 16), .ref (am 17), .ref (am 18)])), ((am 9), .inl (G.2.2 0, 110, .inl (fun _ => 0)))] sz [.ref h0, .int b]) (gc_I G (va_A [(h0, .inr (12, [.ref (am 0), .int 0, .int 0, .ref (am 1), .ref (am 2), .ref (am 3), .ref (am 4), .ref (am 5), .int 0, .int 0, .int 0, .int 0, .int 0, .int 0, .int 0, .ref (am 6), .int 0, .ref (am 7), .int 0, .ref (am 8), .ref (am 9), .int (-1), .int 0, .int 0, .int (-1), .int 0, .ref (am 10), .int 0, .ref (am 11), .ref (am 12), .ref (am 13), .ref (am 14), .long 0, .ref (am 15), .ref (am 16), .ref (am 17), .ref (am 18)])), ((am 9), .inl (G.2.2 0, 110, .inl (fun _ => 0)))] sz) (fun r (_ : Unit) => r = (-1)) (fun _ => [])) 0 0 (va_A [(h0, .inr (12, [.ref (am 0), .int 0, .int 0, .ref (am 1), .ref (am 2), .ref (am 3), .ref (am 4), .ref (am 5), .int 0, .int 0, .int 0, .int 0, .int 0, .int 0, .int 0, .ref (am 6), .int 0, .ref (am 7), .int 0, .ref (am 8), .ref (am 9), .int (-1), .int 0, .int 0, .int (-1), .int 0, .ref (am 10), .int 0, .ref (am 11), .ref (am 12), .ref (am 13), .ref (am 14), .long 0, .ref (am 15), .ref (am 16), .ref (am 17), .ref (am 18)])), ((am 9), .inl (G.2.2 0, 110, .inl (fun _ => 0)))] sz) := by
  refine Met.ofW (cc := cX12_bell) (maxL := 3) (ret := (some .int)) (by decide) rfl ?_
  intro p e s m args below meth c s₁ B hml hv
  obtain ⟨rfl, hsz, hP, hK, hD0⟩ := hv
  have hx := B.exec
  have hb := B.bytes
  have hr := B.returns
  have ht := ts_ht (atoms_spec (ws := ts_L yX12_bell cX12_bell 3 (some .int)) B.pre)
  have hown : s.vm.findClass RX12 = some m.cls := findClass_of_methodNamed B.named
  have hlocks := B.notSynchronized
  subst hsz
  have hD := hD0.self (sz := s.heap.size)
  generalize hAe : va_A [(h0, .inr (12, [.ref (am 0), .int 0, .int 0, .ref (am 1), .ref (am 2), .ref (am 3), .ref (am 4), .ref (am 5), .int 0, .int 0, .int 0, .int 0, .int 0, .int 0, .int 0, .ref (am 6), .int 0, .ref (am 7), .int 0, .ref (am 8), .ref (am 9), .int (-1), .int 0, .int 0, .int (-1), .int 0, .ref (am 10), .int 0, .ref (am 11), .ref (am 12), .ref (am 13), .ref (am 14), .long 0, .ref (am 15), .ref (am 16), .ref (am 17), .ref (am 18)])), ((am 9), .inl (G.2.2 0, 110, .inl (fun _ => 0)))] s.heap.size = A at hD ⊢
  have hA : ∀ q : Nat, s.heap.size ≤ q → A q := fun q h => by rw [← hAe]; exact Or.inr h
  have hS : va_S A s.heap s.heap [] := va_S.rf
  have hl := lv_entry ([.ref h0, .int b]) (n := 3) (Nat.le_of_ble_eq_true rfl)
  rw [lg_entry_eq]
  generalize (lg_sl ([.ref h0, .int b]) ++ List.replicate (3 - (lg_sl ([.ref h0, .int b])).length) Slot.unset).toArray = ls at hl ⊢
  have hl : lv_has ls 3 [(0, .ref h0), (1, .int b)] := hl
  refine lv_aload_n hx hb dX12_bell_0 rfl (lv_at hl 0 rfl) ?_
  refine lv_iload_n hx hb dX12_bell_1 rfl (lv_at hl 1 rfl) ?_
  have hPc := hP.sub (ws' := [(h0, .inr (12, [.ref (am 0), .int 0, .int 0, .ref (am 1), .ref (am 2), .ref (am 3), .ref (am 4), .ref (am 5), .int 0, .int 0, .int 0, .int 0, .int 0, .int 0, .int 0, .ref (am 6), .int 0, .ref (am 7), .int 0, .ref (am 8), .ref (am 9), .int (-1), .int 0, .int 0, .int (-1), .int 0, .ref (am 10), .int 0, .ref (am 11), .ref (am 12), .ref (am 13), .ref (am 14), .long 0, .ref (am 15), .ref (am 16), .ref (am 17), .ref (am 18)])), ((am 9), .inl (G.2.2 0, 110, .inl (fun _ => 0)))]) [0, 1] rfl
  have hDc := hD.sub (ws' := [(h0, .inr (12, [.ref (am 0), .int 0, .int 0, .ref (am 1), .ref (am 2), .ref (am 3), .ref (am 4), .ref (am 5), .int 0, .int 0, .int 0, .int 0, .int 0, .int 0, .int 0, .ref (am 6), .int 0, .ref (am 7), .int 0, .ref (am 8), .ref (am 9), .int (-1), .int 0, .int 0, .int (-1), .int 0, .ref (am 10), .int 0, .ref (am 11), .ref (am 12), .ref (am 13), .ref (am 14), .long 0, .ref (am 15), .ref (am 16), .ref (am 17), .ref (am 18)])), ((am 9), .inl (G.2.2 0, 110, .inl (fun _ => 0)))]) [0, 1] (by decide) rfl
  refine gq_callI (wr := []) (va_runV (As := [.int b]) (rest := []) ⟨hx, hb, hml, hown, ht⟩ (c_M_isLot l G H.size h0 am b) (cwV 1 ht (ts_gV wd_1582 wd_1584 wd_79 wd_134 wd_1585) rfl rfl rfl (by decide +kernel) ⟨Nat.le_of_ble_eq_true rfl, Nat.le_of_ble_eq_true rfl⟩) (gc_preV (ci := 12) (q0 := 0) hK hPc hDc rfl rfl) rfl rfl hl.1 rfl (lv_room (Nat.le_of_ble_eq_true rfl)) dX12_bell_2 ⟨Nat.le_of_ble_eq_true rfl, Nat.le_of_ble_eq_true rfl⟩) hP hD hS hA [0, 1] [] rfl rfl (by decide) (by decide) (fun r u H locs hw hP hD hS => ?_)
  have hw : r = 0 := hw
  subst hw
  have hP : va_P (gg_D G) classes [(h0, .inr (12, [.ref (am 0), .int 0, .int 0, .ref (am 1), .ref (am 2), .ref (am 3), .ref (am 4), .ref (am 5), .int 0, .int 0, .int 0, .int 0, .int 0, .int 0, .int 0, .ref (am 6), .int 0, .ref (am 7), .int 0, .ref (am 8), .ref (am 9), .int (-1), .int 0, .int 0, .int (-1), .int 0, .ref (am 10), .int 0, .ref (am 11), .ref (am 12), .ref (am 13), .ref (am 14), .long 0, .ref (am 15), .ref (am 16), .ref (am 17), .ref (am 18)])), ((am 9), .inl (G.2.2 0, 110, .inl (fun _ => 0)))] H := hP
  have hD : va_D A [(h0, .inr (12, [.ref (am 0), .int 0, .int 0, .ref (am 1), .ref (am 2), .ref (am 3), .ref (am 4), .ref (am 5), .int 0, .int 0, .int 0, .int 0, .int 0, .int 0, .int 0, .ref (am 6), .int 0, .ref (am 7), .int 0, .ref (am 8), .ref (am 9), .int (-1), .int 0, .int 0, .int (-1), .int 0, .ref (am 10), .int 0, .ref (am 11), .ref (am 12), .ref (am 13), .ref (am 14), .long 0, .ref (am 15), .ref (am 16), .ref (am 17), .ref (am 18)])), ((am 9), .inl (G.2.2 0, 110, .inl (fun _ => 0)))] := hD
  refine lv_if_eq (tgt := 16) hx hb dX12_bell_5 (by decide) (fun _ => ?_) (fun c0 => absurd (by decide +kernel) c0)
  refine lv_iconst (v := (-1)) hx hb dX12_bell_16 (by decide) ?_
  have hP9 := hP.sub (ws' := []) [] rfl
  have hD9 := hD.sub (ws' := []) [] (by decide) rfl
  exact W.iret (v := (-1)) hx hb hr (gq_endI () rfl hP9 hD9 hS) hS.2.2 dX12_bell_17
set_option maxHeartbeats 4000000 in
set_option maxRecDepth 100000 in
theorem c_M_play (l : Launch) (G : gg_T) (sz : Nat) (h0 : Nat) (am : Nat → Nat) (b : Int32) (w : Int32) (z : Int32) : Met l yX12_play (ts_L yX12_play cX12_play 4 (some .int)) ({ frames := 1, cells := 0, slots := 0, locals := 21 }) (gc_P G [(h0, .inr (12, [.ref (am 0), .int 0, .int 0, .ref (am 1), .ref (am 2), .ref (am 3), .ref (am 4), .ref (am 5), .int 0, .int 0, .int 0, .int 0, .int 0, .int 0, .int 0, .ref (am 6), .int 0, .ref (am 7), .int 0, .ref (am 8), .ref (am 9), .int (-1), .int 0, .int 0, .int (-1), .int 0, .ref (am 10), .int 0, .ref (am 11), .ref (am 12), .ref (am 13), .ref (am 14), .long 0, .ref (am 15), .ref (am 16), .ref (am 17), .ref (am 18)])), ((am 9), .inl (G.2.2 0, 110, .inl (fun _ => 0)))] sz [.ref h0, .int b, .int w, .int z]) (gc_I G (va_A [(h0, .inr (12, [.ref (am 0), .int 0, .int 0, .ref (am 1), .ref (am 2), .ref (am 3), .ref (am 4), .ref (am 5), .int 0, .int 0, .int 0, .int 0, .int 0, .int 0, .int 0, .ref (am 6), .int 0, .ref (am 7), .int 0, .ref (am 8), .ref (am 9), .int (-1), .int 0, .int 0, .int (-1), .int 0, .ref (am 10), .int 0, .ref (am 11), .ref (am 12), .ref (am 13), .ref (am 14), .long 0, .ref (am 15), .ref (am 16), .ref (am 17), .ref (am 18)])), ((am 9), .inl (G.2.2 0, 110, .inl (fun _ => 0)))] sz) (fun r (_ : Unit) => r = (-1)) (fun _ => [])) 0 0 (va_A [(h0, .inr (12, [.ref (am 0), .int 0, .int 0, .ref (am 1), .ref (am 2), .ref (am 3), .ref (am 4), .ref (am 5), .int 0, .int 0, .int 0, .int 0, .int 0, .int 0, .int 0, .ref (am 6), .int 0, .ref (am 7), .int 0, .ref (am 8), .ref (am 9), .int (-1), .int 0, .int 0, .int (-1), .int 0, .ref (am 10), .int 0, .ref (am 11), .ref (am 12), .ref (am 13), .ref (am 14), .long 0, .ref (am 15), .ref (am 16), .ref (am 17), .ref (am 18)])), ((am 9), .inl (G.2.2 0, 110, .inl (fun _ => 0)))] sz) := by
  refine Met.ofW (cc := cX12_play) (maxL := 4) (ret := (some .int)) (by decide) rfl ?_
  intro p e s m args below meth c s₁ B hml hv
  obtain ⟨rfl, hsz, hP, hK, hD0⟩ := hv
  have hx := B.exec
  have hb := B.bytes
  have hr := B.returns
  have ht := ts_ht (atoms_spec (ws := ts_L yX12_play cX12_play 4 (some .int)) B.pre)
  have hown : s.vm.findClass RX12 = some m.cls := findClass_of_methodNamed B.named
  have hlocks := B.notSynchronized
  subst hsz
  have hD := hD0.self (sz := s.heap.size)
  generalize hAe : va_A [(h0, .inr (12, [.ref (am 0), .int 0, .int 0, .ref (am 1), .ref (am 2), .ref (am 3), .ref (am 4), .ref (am 5), .int 0, .int 0, .int 0, .int 0, .int 0, .int 0, .int 0, .ref (am 6), .int 0, .ref (am 7), .int 0, .ref (am 8), .ref (am 9), .int (-1), .int 0, .int 0, .int (-1), .int 0, .ref (am 10), .int 0, .ref (am 11), .ref (am 12), .ref (am 13), .ref (am 14), .long 0, .ref (am 15), .ref (am 16), .ref (am 17), .ref (am 18)])), ((am 9), .inl (G.2.2 0, 110, .inl (fun _ => 0)))] s.heap.size = A at hD ⊢
  have hA : ∀ q : Nat, s.heap.size ≤ q → A q := fun q h => by rw [← hAe]; exact Or.inr h
  have hS : va_S A s.heap s.heap [] := va_S.rf
  have hl := lv_entry ([.ref h0, .int b, .int w, .int z]) (n := 4) (Nat.le_of_ble_eq_true rfl)
  rw [lg_entry_eq]
  generalize (lg_sl ([.ref h0, .int b, .int w, .int z]) ++ List.replicate (4 - (lg_sl ([.ref h0, .int b, .int w, .int z])).length) Slot.unset).toArray = ls at hl ⊢
  have hl : lv_has ls 4 [(0, .ref h0), (1, .int b), (2, .int w), (3, .int z)] := hl
  refine lv_aload_n hx hb dX12_play_0 rfl (lv_at hl 0 rfl) ?_
  refine lv_iload_n hx hb dX12_play_1 rfl (lv_at hl 1 rfl) ?_
  have hPc := hP.sub (ws' := [(h0, .inr (12, [.ref (am 0), .int 0, .int 0, .ref (am 1), .ref (am 2), .ref (am 3), .ref (am 4), .ref (am 5), .int 0, .int 0, .int 0, .int 0, .int 0, .int 0, .int 0, .ref (am 6), .int 0, .ref (am 7), .int 0, .ref (am 8), .ref (am 9), .int (-1), .int 0, .int 0, .int (-1), .int 0, .ref (am 10), .int 0, .ref (am 11), .ref (am 12), .ref (am 13), .ref (am 14), .long 0, .ref (am 15), .ref (am 16), .ref (am 17), .ref (am 18)])), ((am 9), .inl (G.2.2 0, 110, .inl (fun _ => 0)))]) [0, 1] rfl
  have hDc := hD.sub (ws' := [(h0, .inr (12, [.ref (am 0), .int 0, .int 0, .ref (am 1), .ref (am 2), .ref (am 3), .ref (am 4), .ref (am 5), .int 0, .int 0, .int 0, .int 0, .int 0, .int 0, .int 0, .ref (am 6), .int 0, .ref (am 7), .int 0, .ref (am 8), .ref (am 9), .int (-1), .int 0, .int 0, .int (-1), .int 0, .ref (am 10), .int 0, .ref (am 11), .ref (am 12), .ref (am 13), .ref (am 14), .long 0, .ref (am 15), .ref (am 16), .ref (am 17), .ref (am 18)])), ((am 9), .inl (G.2.2 0, 110, .inl (fun _ => 0)))]) [0, 1] (by decide) rfl
  refine gq_callI (wr := []) (va_runV (As := [.int b]) (rest := []) ⟨hx, hb, hml, hown, ht⟩ (c_M_isBidder l G H.size h0 am b) (cwV 1 ht (ts_gV wd_1553 wd_1555 wd_73 wd_134 wd_1556) rfl rfl rfl (by decide +kernel) ⟨Nat.le_of_ble_eq_true rfl, Nat.le_of_ble_eq_true rfl⟩) (gc_preV (ci := 12) (q0 := 0) hK hPc hDc rfl rfl) rfl rfl hl.1 rfl (lv_room (Nat.le_of_ble_eq_true rfl)) dX12_play_2 ⟨Nat.le_of_ble_eq_true rfl, Nat.le_of_ble_eq_true rfl⟩) hP hD hS hA [0, 1] [] rfl rfl (by decide) (by decide) (fun r u H locs hw hP hD hS => ?_)
  have hw : r = 0 := hw
  subst hw
  have hP : va_P (gg_D G) classes [(h0, .inr (12, [.ref (am 0), .int 0, .int 0, .ref (am 1), .ref (am 2), .ref (am 3), .ref (am 4), .ref (am 5), .int 0, .int 0, .int 0, .int 0, .int 0, .int 0, .int 0, .ref (am 6), .int 0, .ref (am 7), .int 0, .ref (am 8), .ref (am 9), .int (-1), .int 0, .int 0, .int (-1), .int 0, .ref (am 10), .int 0, .ref (am 11), .ref (am 12), .ref (am 13), .ref (am 14), .long 0, .ref (am 15), .ref (am 16), .ref (am 17), .ref (am 18)])), ((am 9), .inl (G.2.2 0, 110, .inl (fun _ => 0)))] H := hP
  have hD : va_D A [(h0, .inr (12, [.ref (am 0), .int 0, .int 0, .ref (am 1), .ref (am 2), .ref (am 3), .ref (am 4), .ref (am 5), .int 0, .int 0, .int 0, .int 0, .int 0, .int 0, .int 0, .ref (am 6), .int 0, .ref (am 7), .int 0, .ref (am 8), .ref (am 9), .int (-1), .int 0, .int 0, .int (-1), .int 0, .ref (am 10), .int 0, .ref (am 11), .ref (am 12), .ref (am 13), .ref (am 14), .long 0, .ref (am 15), .ref (am 16), .ref (am 17), .ref (am 18)])), ((am 9), .inl (G.2.2 0, 110, .inl (fun _ => 0)))] := hD
  refine lv_if_eq (tgt := 34) hx hb dX12_play_5 (by decide) (fun _ => ?_) (fun c0 => absurd (by decide +kernel) c0)
  refine lv_iconst (v := (-1)) hx hb dX12_play_34 (by decide) ?_
  have hP9 := hP.sub (ws' := []) [] rfl
  have hD9 := hD.sub (ws' := []) [] (by decide) rfl
  exact W.iret (v := (-1)) hx hb hr (gq_endI () rfl hP9 hD9 hS) hS.2.2 dX12_play_35
set_option maxHeartbeats 4000000 in
set_option maxRecDepth 100000 in
theorem c_M_fire (l : Launch) (G : gg_T) (sz : Nat) (h0 : Nat) (am : Nat → Nat) (b : Int32) : Met l yX12_fire (ts_L yX12_fire cX12_fire 4 (some .int)) ({ frames := 1, cells := 0, slots := 0, locals := 21 }) (gc_P G [(h0, .inr (12, [.ref (am 0), .int 0, .int 0, .ref (am 1), .ref (am 2), .ref (am 3), .ref (am 4), .ref (am 5), .int 0, .int 0, .int 0, .int 0, .int 0, .int 0, .int 0, .ref (am 6), .int 0, .ref (am 7), .int 0, .ref (am 8), .ref (am 9), .int (-1), .int 0, .int 0, .int (-1), .int 0, .ref (am 10), .int 0, .ref (am 11), .ref (am 12), .ref (am 13), .ref (am 14), .long 0, .ref (am 15), .ref (am 16), .ref (am 17), .ref (am 18)])), ((am 9), .inl (G.2.2 0, 110, .inl (fun _ => 0)))] sz [.ref h0, .int b]) (gc_I G (va_A [(h0, .inr (12, [.ref (am 0), .int 0, .int 0, .ref (am 1), .ref (am 2), .ref (am 3), .ref (am 4), .ref (am 5), .int 0, .int 0, .int 0, .int 0, .int 0, .int 0, .int 0, .ref (am 6), .int 0, .ref (am 7), .int 0, .ref (am 8), .ref (am 9), .int (-1), .int 0, .int 0, .int (-1), .int 0, .ref (am 10), .int 0, .ref (am 11), .ref (am 12), .ref (am 13), .ref (am 14), .long 0, .ref (am 15), .ref (am 16), .ref (am 17), .ref (am 18)])), ((am 9), .inl (G.2.2 0, 110, .inl (fun _ => 0)))] sz) (fun r (_ : Unit) => r = (-1)) (fun _ => [])) 0 0 (va_A [(h0, .inr (12, [.ref (am 0), .int 0, .int 0, .ref (am 1), .ref (am 2), .ref (am 3), .ref (am 4), .ref (am 5), .int 0, .int 0, .int 0, .int 0, .int 0, .int 0, .int 0, .ref (am 6), .int 0, .ref (am 7), .int 0, .ref (am 8), .ref (am 9), .int (-1), .int 0, .int 0, .int (-1), .int 0, .ref (am 10), .int 0, .ref (am 11), .ref (am 12), .ref (am 13), .ref (am 14), .long 0, .ref (am 15), .ref (am 16), .ref (am 17), .ref (am 18)])), ((am 9), .inl (G.2.2 0, 110, .inl (fun _ => 0)))] sz) := by
  refine Met.ofW (cc := cX12_fire) (maxL := 4) (ret := (some .int)) (by decide) rfl ?_
  intro p e s m args below meth c s₁ B hml hv
  obtain ⟨rfl, hsz, hP, hK, hD0⟩ := hv
  have hx := B.exec
  have hb := B.bytes
  have hr := B.returns
  have ht := ts_ht (atoms_spec (ws := ts_L yX12_fire cX12_fire 4 (some .int)) B.pre)
  have hown : s.vm.findClass RX12 = some m.cls := findClass_of_methodNamed B.named
  have hlocks := B.notSynchronized
  subst hsz
  have hD := hD0.self (sz := s.heap.size)
  generalize hAe : va_A [(h0, .inr (12, [.ref (am 0), .int 0, .int 0, .ref (am 1), .ref (am 2), .ref (am 3), .ref (am 4), .ref (am 5), .int 0, .int 0, .int 0, .int 0, .int 0, .int 0, .int 0, .ref (am 6), .int 0, .ref (am 7), .int 0, .ref (am 8), .ref (am 9), .int (-1), .int 0, .int 0, .int (-1), .int 0, .ref (am 10), .int 0, .ref (am 11), .ref (am 12), .ref (am 13), .ref (am 14), .long 0, .ref (am 15), .ref (am 16), .ref (am 17), .ref (am 18)])), ((am 9), .inl (G.2.2 0, 110, .inl (fun _ => 0)))] s.heap.size = A at hD ⊢
  have hA : ∀ q : Nat, s.heap.size ≤ q → A q := fun q h => by rw [← hAe]; exact Or.inr h
  have hS : va_S A s.heap s.heap [] := va_S.rf
  have hl := lv_entry ([.ref h0, .int b]) (n := 4) (Nat.le_of_ble_eq_true rfl)
  rw [lg_entry_eq]
  generalize (lg_sl ([.ref h0, .int b]) ++ List.replicate (4 - (lg_sl ([.ref h0, .int b])).length) Slot.unset).toArray = ls at hl ⊢
  have hl : lv_has ls 4 [(0, .ref h0), (1, .int b)] := hl
  refine lv_aload_n hx hb dX12_fire_0 rfl (lv_at hl 0 rfl) ?_
  refine lv_iload_n hx hb dX12_fire_1 rfl (lv_at hl 1 rfl) ?_
  have hPc := hP.sub (ws' := [(h0, .inr (12, [.ref (am 0), .int 0, .int 0, .ref (am 1), .ref (am 2), .ref (am 3), .ref (am 4), .ref (am 5), .int 0, .int 0, .int 0, .int 0, .int 0, .int 0, .int 0, .ref (am 6), .int 0, .ref (am 7), .int 0, .ref (am 8), .ref (am 9), .int (-1), .int 0, .int 0, .int (-1), .int 0, .ref (am 10), .int 0, .ref (am 11), .ref (am 12), .ref (am 13), .ref (am 14), .long 0, .ref (am 15), .ref (am 16), .ref (am 17), .ref (am 18)])), ((am 9), .inl (G.2.2 0, 110, .inl (fun _ => 0)))]) [0, 1] rfl
  have hDc := hD.sub (ws' := [(h0, .inr (12, [.ref (am 0), .int 0, .int 0, .ref (am 1), .ref (am 2), .ref (am 3), .ref (am 4), .ref (am 5), .int 0, .int 0, .int 0, .int 0, .int 0, .int 0, .int 0, .ref (am 6), .int 0, .ref (am 7), .int 0, .ref (am 8), .ref (am 9), .int (-1), .int 0, .int 0, .int (-1), .int 0, .ref (am 10), .int 0, .ref (am 11), .ref (am 12), .ref (am 13), .ref (am 14), .long 0, .ref (am 15), .ref (am 16), .ref (am 17), .ref (am 18)])), ((am 9), .inl (G.2.2 0, 110, .inl (fun _ => 0)))]) [0, 1] (by decide) rfl
  refine gq_callI (wr := []) (va_runV (As := [.int b]) (rest := []) ⟨hx, hb, hml, hown, ht⟩ (c_M_isLot l G H.size h0 am b) (cwV 1 ht (ts_gV wd_1582 wd_1584 wd_79 wd_134 wd_1585) rfl rfl rfl (by decide +kernel) ⟨Nat.le_of_ble_eq_true rfl, Nat.le_of_ble_eq_true rfl⟩) (gc_preV (ci := 12) (q0 := 0) hK hPc hDc rfl rfl) rfl rfl hl.1 rfl (lv_room (Nat.le_of_ble_eq_true rfl)) dX12_fire_2 ⟨Nat.le_of_ble_eq_true rfl, Nat.le_of_ble_eq_true rfl⟩) hP hD hS hA [0, 1] [] rfl rfl (by decide) (by decide) (fun r u H locs hw hP hD hS => ?_)
  have hw : r = 0 := hw
  subst hw
  have hP : va_P (gg_D G) classes [(h0, .inr (12, [.ref (am 0), .int 0, .int 0, .ref (am 1), .ref (am 2), .ref (am 3), .ref (am 4), .ref (am 5), .int 0, .int 0, .int 0, .int 0, .int 0, .int 0, .int 0, .ref (am 6), .int 0, .ref (am 7), .int 0, .ref (am 8), .ref (am 9), .int (-1), .int 0, .int 0, .int (-1), .int 0, .ref (am 10), .int 0, .ref (am 11), .ref (am 12), .ref (am 13), .ref (am 14), .long 0, .ref (am 15), .ref (am 16), .ref (am 17), .ref (am 18)])), ((am 9), .inl (G.2.2 0, 110, .inl (fun _ => 0)))] H := hP
  have hD : va_D A [(h0, .inr (12, [.ref (am 0), .int 0, .int 0, .ref (am 1), .ref (am 2), .ref (am 3), .ref (am 4), .ref (am 5), .int 0, .int 0, .int 0, .int 0, .int 0, .int 0, .int 0, .ref (am 6), .int 0, .ref (am 7), .int 0, .ref (am 8), .ref (am 9), .int (-1), .int 0, .int 0, .int (-1), .int 0, .ref (am 10), .int 0, .ref (am 11), .ref (am 12), .ref (am 13), .ref (am 14), .long 0, .ref (am 15), .ref (am 16), .ref (am 17), .ref (am 18)])), ((am 9), .inl (G.2.2 0, 110, .inl (fun _ => 0)))] := hD
  refine lv_if_eq (tgt := 18) hx hb dX12_fire_5 (by decide) (fun _ => ?_) (fun c0 => absurd (by decide +kernel) c0)
  refine lv_iconst (v := (-1)) hx hb dX12_fire_18 (by decide) ?_
  have hP9 := hP.sub (ws' := []) [] rfl
  have hD9 := hD.sub (ws' := []) [] (by decide) rfl
  exact W.iret (v := (-1)) hx hb hr (gq_endI () rfl hP9 hD9 hS) hS.2.2 dX12_fire_19
set_option maxHeartbeats 4000000 in
set_option maxRecDepth 100000 in
theorem c_M_ahead (l : Launch) (G : gg_T) (sz : Nat) (h0 : Nat) (am : Nat → Nat) (b : Int32) (w : Int32) (z : Int32) : Met l yX12_ahead (ts_L yX12_ahead cX12_ahead 5 (some .int)) ({ frames := 1, cells := 0, slots := 0, locals := 20 }) (gc_P G [(h0, .inr (12, [.ref (am 0), .int 0, .int 0, .ref (am 1), .ref (am 2), .ref (am 3), .ref (am 4), .ref (am 5), .int 0, .int 0, .int 0, .int 0, .int 0, .int 0, .int 0, .ref (am 6), .int 0, .ref (am 7), .int 0, .ref (am 8), .ref (am 9), .int (-1), .int 0, .int 0, .int (-1), .int 0, .ref (am 10), .int 0, .ref (am 11), .ref (am 12), .ref (am 13), .ref (am 14), .long 0, .ref (am 15), .ref (am 16), .ref (am 17), .ref (am 18)])), ((am 9), .inl (G.2.2 0, 110, .inl (fun _ => 0)))] sz [.ref h0, .int b, .int w, .int z]) (gc_I G (va_A [(h0, .inr (12, [.ref (am 0), .int 0, .int 0, .ref (am 1), .ref (am 2), .ref (am 3), .ref (am 4), .ref (am 5), .int 0, .int 0, .int 0, .int 0, .int 0, .int 0, .int 0, .ref (am 6), .int 0, .ref (am 7), .int 0, .ref (am 8), .ref (am 9), .int (-1), .int 0, .int 0, .int (-1), .int 0, .ref (am 10), .int 0, .ref (am 11), .ref (am 12), .ref (am 13), .ref (am 14), .long 0, .ref (am 15), .ref (am 16), .ref (am 17), .ref (am 18)])), ((am 9), .inl (G.2.2 0, 110, .inl (fun _ => 0)))] sz) (fun r (_ : Unit) => r = (-1000)) (fun _ => [])) 0 0 (va_A [(h0, .inr (12, [.ref (am 0), .int 0, .int 0, .ref (am 1), .ref (am 2), .ref (am 3), .ref (am 4), .ref (am 5), .int 0, .int 0, .int 0, .int 0, .int 0, .int 0, .int 0, .ref (am 6), .int 0, .ref (am 7), .int 0, .ref (am 8), .ref (am 9), .int (-1), .int 0, .int 0, .int (-1), .int 0, .ref (am 10), .int 0, .ref (am 11), .ref (am 12), .ref (am 13), .ref (am 14), .long 0, .ref (am 15), .ref (am 16), .ref (am 17), .ref (am 18)])), ((am 9), .inl (G.2.2 0, 110, .inl (fun _ => 0)))] sz) := by
  refine Met.ofW (cc := cX12_ahead) (maxL := 5) (ret := (some .int)) (by decide) rfl ?_
  intro p e s m args below meth c s₁ B hml hv
  obtain ⟨rfl, hsz, hP, hK, hD0⟩ := hv
  have hx := B.exec
  have hb := B.bytes
  have hr := B.returns
  have ht := ts_ht (atoms_spec (ws := ts_L yX12_ahead cX12_ahead 5 (some .int)) B.pre)
  have hown : s.vm.findClass RX12 = some m.cls := findClass_of_methodNamed B.named
  have hlocks := B.notSynchronized
  subst hsz
  have hD := hD0.self (sz := s.heap.size)
  generalize hAe : va_A [(h0, .inr (12, [.ref (am 0), .int 0, .int 0, .ref (am 1), .ref (am 2), .ref (am 3), .ref (am 4), .ref (am 5), .int 0, .int 0, .int 0, .int 0, .int 0, .int 0, .int 0, .ref (am 6), .int 0, .ref (am 7), .int 0, .ref (am 8), .ref (am 9), .int (-1), .int 0, .int 0, .int (-1), .int 0, .ref (am 10), .int 0, .ref (am 11), .ref (am 12), .ref (am 13), .ref (am 14), .long 0, .ref (am 15), .ref (am 16), .ref (am 17), .ref (am 18)])), ((am 9), .inl (G.2.2 0, 110, .inl (fun _ => 0)))] s.heap.size = A at hD ⊢
  have hA : ∀ q : Nat, s.heap.size ≤ q → A q := fun q h => by rw [← hAe]; exact Or.inr h
  have hS : va_S A s.heap s.heap [] := va_S.rf
  have hl := lv_entry ([.ref h0, .int b, .int w, .int z]) (n := 5) (Nat.le_of_ble_eq_true rfl)
  rw [lg_entry_eq]
  generalize (lg_sl ([.ref h0, .int b, .int w, .int z]) ++ List.replicate (5 - (lg_sl ([.ref h0, .int b, .int w, .int z])).length) Slot.unset).toArray = ls at hl ⊢
  have hl : lv_has ls 5 [(0, .ref h0), (1, .int b), (2, .int w), (3, .int z)] := hl
  refine lv_aload_n hx hb dX12_ahead_0 rfl (lv_at hl 0 rfl) ?_
  have hPc := hP.sub (ws' := [(h0, .inr (12, [.ref (am 0), .int 0, .int 0, .ref (am 1), .ref (am 2), .ref (am 3), .ref (am 4), .ref (am 5), .int 0, .int 0, .int 0, .int 0, .int 0, .int 0, .int 0, .ref (am 6), .int 0, .ref (am 7), .int 0, .ref (am 8), .ref (am 9), .int (-1), .int 0, .int 0, .int (-1), .int 0, .ref (am 10), .int 0, .ref (am 11), .ref (am 12), .ref (am 13), .ref (am 14), .long 0, .ref (am 15), .ref (am 16), .ref (am 17), .ref (am 18)])), ((am 9), .inl (G.2.2 0, 110, .inl (fun _ => 0)))]) [0, 1] rfl
  have hDc := hD.sub (ws' := [(h0, .inr (12, [.ref (am 0), .int 0, .int 0, .ref (am 1), .ref (am 2), .ref (am 3), .ref (am 4), .ref (am 5), .int 0, .int 0, .int 0, .int 0, .int 0, .int 0, .int 0, .ref (am 6), .int 0, .ref (am 7), .int 0, .ref (am 8), .ref (am 9), .int (-1), .int 0, .int 0, .int (-1), .int 0, .ref (am 10), .int 0, .ref (am 11), .ref (am 12), .ref (am 13), .ref (am 14), .long 0, .ref (am 15), .ref (am 16), .ref (am 17), .ref (am 18)])), ((am 9), .inl (G.2.2 0, 110, .inl (fun _ => 0)))]) [0, 1] (by decide) rfl
  refine gq_callI (wr := []) (va_runV (As := []) (rest := []) ⟨hx, hb, hml, hown, ht⟩ (c_M_isSale l G H.size h0 am) (cwV 0 ht (ts_gV wd_1720 wd_1722 wd_102 wd_134 wd_1723) rfl rfl rfl (by decide +kernel) ⟨Nat.le_of_ble_eq_true rfl, Nat.le_of_ble_eq_true rfl⟩) (gc_preV (ci := 12) (q0 := 0) hK hPc hDc rfl rfl) rfl rfl hl.1 rfl (lv_room (Nat.le_of_ble_eq_true rfl)) dX12_ahead_1 ⟨Nat.le_of_ble_eq_true rfl, Nat.le_of_ble_eq_true rfl⟩) hP hD hS hA [0, 1] [] rfl rfl (by decide) (by decide) (fun r u H locs hw hP hD hS => ?_)
  have hw : r = 0 := hw
  subst hw
  have hP : va_P (gg_D G) classes [(h0, .inr (12, [.ref (am 0), .int 0, .int 0, .ref (am 1), .ref (am 2), .ref (am 3), .ref (am 4), .ref (am 5), .int 0, .int 0, .int 0, .int 0, .int 0, .int 0, .int 0, .ref (am 6), .int 0, .ref (am 7), .int 0, .ref (am 8), .ref (am 9), .int (-1), .int 0, .int 0, .int (-1), .int 0, .ref (am 10), .int 0, .ref (am 11), .ref (am 12), .ref (am 13), .ref (am 14), .long 0, .ref (am 15), .ref (am 16), .ref (am 17), .ref (am 18)])), ((am 9), .inl (G.2.2 0, 110, .inl (fun _ => 0)))] H := hP
  have hD : va_D A [(h0, .inr (12, [.ref (am 0), .int 0, .int 0, .ref (am 1), .ref (am 2), .ref (am 3), .ref (am 4), .ref (am 5), .int 0, .int 0, .int 0, .int 0, .int 0, .int 0, .int 0, .ref (am 6), .int 0, .ref (am 7), .int 0, .ref (am 8), .ref (am 9), .int (-1), .int 0, .int 0, .int (-1), .int 0, .ref (am 10), .int 0, .ref (am 11), .ref (am 12), .ref (am 13), .ref (am 14), .long 0, .ref (am 15), .ref (am 16), .ref (am 17), .ref (am 18)])), ((am 9), .inl (G.2.2 0, 110, .inl (fun _ => 0)))] := hD
  refine lv_if_eq (tgt := 54) hx hb dX12_ahead_4 (by decide) (fun _ => ?_) (fun c0 => absurd (by decide +kernel) c0)
  refine lv_sipush (v := (-1000)) hx hb dX12_ahead_54 (by decide +kernel) ?_
  have hP9 := hP.sub (ws' := []) [] rfl
  have hD9 := hD.sub (ws' := []) [] (by decide) rfl
  exact W.iret (v := (-1000)) hx hb hr (gq_endI () rfl hP9 hD9 hS) hS.2.2 dX12_ahead_57
set_option maxHeartbeats 4000000 in
set_option maxRecDepth 100000 in
theorem c_M_ends (l : Launch) (G : gg_T) (sz : Nat) (h0 : Nat) (am : Nat → Nat) (b : Int32) (w : Int32) : Met l yX12_ends (ts_L yX12_ends cX12_ends 5 (some .int)) ({ frames := 1, cells := 0, slots := 0, locals := 21 }) (gc_P G [(h0, .inr (12, [.ref (am 0), .int 0, .int 0, .ref (am 1), .ref (am 2), .ref (am 3), .ref (am 4), .ref (am 5), .int 0, .int 0, .int 0, .int 0, .int 0, .int 0, .int 0, .ref (am 6), .int 0, .ref (am 7), .int 0, .ref (am 8), .ref (am 9), .int (-1), .int 0, .int 0, .int (-1), .int 0, .ref (am 10), .int 0, .ref (am 11), .ref (am 12), .ref (am 13), .ref (am 14), .long 0, .ref (am 15), .ref (am 16), .ref (am 17), .ref (am 18)])), ((am 9), .inl (G.2.2 0, 110, .inl (fun _ => 0)))] sz [.ref h0, .int b, .int w]) (gc_I G (va_A [(h0, .inr (12, [.ref (am 0), .int 0, .int 0, .ref (am 1), .ref (am 2), .ref (am 3), .ref (am 4), .ref (am 5), .int 0, .int 0, .int 0, .int 0, .int 0, .int 0, .int 0, .ref (am 6), .int 0, .ref (am 7), .int 0, .ref (am 8), .ref (am 9), .int (-1), .int 0, .int 0, .int (-1), .int 0, .ref (am 10), .int 0, .ref (am 11), .ref (am 12), .ref (am 13), .ref (am 14), .long 0, .ref (am 15), .ref (am 16), .ref (am 17), .ref (am 18)])), ((am 9), .inl (G.2.2 0, 110, .inl (fun _ => 0)))] sz) (fun r (_ : Unit) => r = (-2)) (fun _ => [])) 0 0 (va_A [(h0, .inr (12, [.ref (am 0), .int 0, .int 0, .ref (am 1), .ref (am 2), .ref (am 3), .ref (am 4), .ref (am 5), .int 0, .int 0, .int 0, .int 0, .int 0, .int 0, .int 0, .ref (am 6), .int 0, .ref (am 7), .int 0, .ref (am 8), .ref (am 9), .int (-1), .int 0, .int 0, .int (-1), .int 0, .ref (am 10), .int 0, .ref (am 11), .ref (am 12), .ref (am 13), .ref (am 14), .long 0, .ref (am 15), .ref (am 16), .ref (am 17), .ref (am 18)])), ((am 9), .inl (G.2.2 0, 110, .inl (fun _ => 0)))] sz) := by
  refine Met.ofW (cc := cX12_ends) (maxL := 5) (ret := (some .int)) (by decide) rfl ?_
  intro p e s m args below meth c s₁ B hml hv
  obtain ⟨rfl, hsz, hP, hK, hD0⟩ := hv
  have hx := B.exec
  have hb := B.bytes
  have hr := B.returns
  have ht := ts_ht (atoms_spec (ws := ts_L yX12_ends cX12_ends 5 (some .int)) B.pre)
  have hown : s.vm.findClass RX12 = some m.cls := findClass_of_methodNamed B.named
  have hlocks := B.notSynchronized
  subst hsz
  have hD := hD0.self (sz := s.heap.size)
  generalize hAe : va_A [(h0, .inr (12, [.ref (am 0), .int 0, .int 0, .ref (am 1), .ref (am 2), .ref (am 3), .ref (am 4), .ref (am 5), .int 0, .int 0, .int 0, .int 0, .int 0, .int 0, .int 0, .ref (am 6), .int 0, .ref (am 7), .int 0, .ref (am 8), .ref (am 9), .int (-1), .int 0, .int 0, .int (-1), .int 0, .ref (am 10), .int 0, .ref (am 11), .ref (am 12), .ref (am 13), .ref (am 14), .long 0, .ref (am 15), .ref (am 16), .ref (am 17), .ref (am 18)])), ((am 9), .inl (G.2.2 0, 110, .inl (fun _ => 0)))] s.heap.size = A at hD ⊢
  have hA : ∀ q : Nat, s.heap.size ≤ q → A q := fun q h => by rw [← hAe]; exact Or.inr h
  have hS : va_S A s.heap s.heap [] := va_S.rf
  have hl := lv_entry ([.ref h0, .int b, .int w]) (n := 5) (Nat.le_of_ble_eq_true rfl)
  rw [lg_entry_eq]
  generalize (lg_sl ([.ref h0, .int b, .int w]) ++ List.replicate (5 - (lg_sl ([.ref h0, .int b, .int w])).length) Slot.unset).toArray = ls at hl ⊢
  have hl : lv_has ls 5 [(0, .ref h0), (1, .int b), (2, .int w)] := hl
  refine lv_aload_n hx hb dX12_ends_0 rfl (lv_at hl 0 rfl) ?_
  refine lv_iload_n hx hb dX12_ends_1 rfl (lv_at hl 1 rfl) ?_
  have hPc := hP.sub (ws' := [(h0, .inr (12, [.ref (am 0), .int 0, .int 0, .ref (am 1), .ref (am 2), .ref (am 3), .ref (am 4), .ref (am 5), .int 0, .int 0, .int 0, .int 0, .int 0, .int 0, .int 0, .ref (am 6), .int 0, .ref (am 7), .int 0, .ref (am 8), .ref (am 9), .int (-1), .int 0, .int 0, .int (-1), .int 0, .ref (am 10), .int 0, .ref (am 11), .ref (am 12), .ref (am 13), .ref (am 14), .long 0, .ref (am 15), .ref (am 16), .ref (am 17), .ref (am 18)])), ((am 9), .inl (G.2.2 0, 110, .inl (fun _ => 0)))]) [0, 1] rfl
  have hDc := hD.sub (ws' := [(h0, .inr (12, [.ref (am 0), .int 0, .int 0, .ref (am 1), .ref (am 2), .ref (am 3), .ref (am 4), .ref (am 5), .int 0, .int 0, .int 0, .int 0, .int 0, .int 0, .int 0, .ref (am 6), .int 0, .ref (am 7), .int 0, .ref (am 8), .ref (am 9), .int (-1), .int 0, .int 0, .int (-1), .int 0, .ref (am 10), .int 0, .ref (am 11), .ref (am 12), .ref (am 13), .ref (am 14), .long 0, .ref (am 15), .ref (am 16), .ref (am 17), .ref (am 18)])), ((am 9), .inl (G.2.2 0, 110, .inl (fun _ => 0)))]) [0, 1] (by decide) rfl
  refine gq_callI (wr := []) (va_runV (As := [.int b]) (rest := []) ⟨hx, hb, hml, hown, ht⟩ (c_M_isLot l G H.size h0 am b) (cwV 1 ht (ts_gV wd_1582 wd_1584 wd_79 wd_134 wd_1585) rfl rfl rfl (by decide +kernel) ⟨Nat.le_of_ble_eq_true rfl, Nat.le_of_ble_eq_true rfl⟩) (gc_preV (ci := 12) (q0 := 0) hK hPc hDc rfl rfl) rfl rfl hl.1 rfl (lv_room (Nat.le_of_ble_eq_true rfl)) dX12_ends_2 ⟨Nat.le_of_ble_eq_true rfl, Nat.le_of_ble_eq_true rfl⟩) hP hD hS hA [0, 1] [] rfl rfl (by decide) (by decide) (fun r u H locs hw hP hD hS => ?_)
  have hw : r = 0 := hw
  subst hw
  have hP : va_P (gg_D G) classes [(h0, .inr (12, [.ref (am 0), .int 0, .int 0, .ref (am 1), .ref (am 2), .ref (am 3), .ref (am 4), .ref (am 5), .int 0, .int 0, .int 0, .int 0, .int 0, .int 0, .int 0, .ref (am 6), .int 0, .ref (am 7), .int 0, .ref (am 8), .ref (am 9), .int (-1), .int 0, .int 0, .int (-1), .int 0, .ref (am 10), .int 0, .ref (am 11), .ref (am 12), .ref (am 13), .ref (am 14), .long 0, .ref (am 15), .ref (am 16), .ref (am 17), .ref (am 18)])), ((am 9), .inl (G.2.2 0, 110, .inl (fun _ => 0)))] H := hP
  have hD : va_D A [(h0, .inr (12, [.ref (am 0), .int 0, .int 0, .ref (am 1), .ref (am 2), .ref (am 3), .ref (am 4), .ref (am 5), .int 0, .int 0, .int 0, .int 0, .int 0, .int 0, .int 0, .ref (am 6), .int 0, .ref (am 7), .int 0, .ref (am 8), .ref (am 9), .int (-1), .int 0, .int 0, .int (-1), .int 0, .ref (am 10), .int 0, .ref (am 11), .ref (am 12), .ref (am 13), .ref (am 14), .long 0, .ref (am 15), .ref (am 16), .ref (am 17), .ref (am 18)])), ((am 9), .inl (G.2.2 0, 110, .inl (fun _ => 0)))] := hD
  refine lv_if_eq (tgt := 30) hx hb dX12_ends_5 (by decide) (fun _ => ?_) (fun c0 => absurd (by decide +kernel) c0)
  refine lv_bipush (v := (-2)) hx hb dX12_ends_30 (by decide +kernel) ?_
  have hP9 := hP.sub (ws' := []) [] rfl
  have hD9 := hD.sub (ws' := []) [] (by decide) rfl
  exact W.iret (v := (-2)) hx hb hr (gq_endI () rfl hP9 hD9 hS) hS.2.2 dX12_ends_32
set_option maxHeartbeats 4000000 in
set_option maxRecDepth 100000 in
theorem c_M_hold (l : Launch) (G : gg_T) (sz : Nat) (h0 : Nat) (am : Nat → Nat) (b : Int32) (w : Int32) : Met l yX12_hold (ts_L yX12_hold cX12_hold 8 (some .int)) ({ frames := 1, cells := 0, slots := 0, locals := 21 }) (gc_P G [(h0, .inr (12, [.ref (am 0), .int 0, .int 0, .ref (am 1), .ref (am 2), .ref (am 3), .ref (am 4), .ref (am 5), .int 0, .int 0, .int 0, .int 0, .int 0, .int 0, .int 0, .ref (am 6), .int 0, .ref (am 7), .int 0, .ref (am 8), .ref (am 9), .int (-1), .int 0, .int 0, .int (-1), .int 0, .ref (am 10), .int 0, .ref (am 11), .ref (am 12), .ref (am 13), .ref (am 14), .long 0, .ref (am 15), .ref (am 16), .ref (am 17), .ref (am 18)])), ((am 9), .inl (G.2.2 0, 110, .inl (fun _ => 0)))] sz [.ref h0, .int b, .int w]) (gc_I G (va_A [(h0, .inr (12, [.ref (am 0), .int 0, .int 0, .ref (am 1), .ref (am 2), .ref (am 3), .ref (am 4), .ref (am 5), .int 0, .int 0, .int 0, .int 0, .int 0, .int 0, .int 0, .ref (am 6), .int 0, .ref (am 7), .int 0, .ref (am 8), .ref (am 9), .int (-1), .int 0, .int 0, .int (-1), .int 0, .ref (am 10), .int 0, .ref (am 11), .ref (am 12), .ref (am 13), .ref (am 14), .long 0, .ref (am 15), .ref (am 16), .ref (am 17), .ref (am 18)])), ((am 9), .inl (G.2.2 0, 110, .inl (fun _ => 0)))] sz) (fun r (_ : Unit) => r = (-1000)) (fun _ => [])) 0 0 (va_A [(h0, .inr (12, [.ref (am 0), .int 0, .int 0, .ref (am 1), .ref (am 2), .ref (am 3), .ref (am 4), .ref (am 5), .int 0, .int 0, .int 0, .int 0, .int 0, .int 0, .int 0, .ref (am 6), .int 0, .ref (am 7), .int 0, .ref (am 8), .ref (am 9), .int (-1), .int 0, .int 0, .int (-1), .int 0, .ref (am 10), .int 0, .ref (am 11), .ref (am 12), .ref (am 13), .ref (am 14), .long 0, .ref (am 15), .ref (am 16), .ref (am 17), .ref (am 18)])), ((am 9), .inl (G.2.2 0, 110, .inl (fun _ => 0)))] sz) := by
  refine Met.ofW (cc := cX12_hold) (maxL := 8) (ret := (some .int)) (by decide) rfl ?_
  intro p e s m args below meth c s₁ B hml hv
  obtain ⟨rfl, hsz, hP, hK, hD0⟩ := hv
  have hx := B.exec
  have hb := B.bytes
  have hr := B.returns
  have ht := ts_ht (atoms_spec (ws := ts_L yX12_hold cX12_hold 8 (some .int)) B.pre)
  have hown : s.vm.findClass RX12 = some m.cls := findClass_of_methodNamed B.named
  have hlocks := B.notSynchronized
  subst hsz
  have hD := hD0.self (sz := s.heap.size)
  generalize hAe : va_A [(h0, .inr (12, [.ref (am 0), .int 0, .int 0, .ref (am 1), .ref (am 2), .ref (am 3), .ref (am 4), .ref (am 5), .int 0, .int 0, .int 0, .int 0, .int 0, .int 0, .int 0, .ref (am 6), .int 0, .ref (am 7), .int 0, .ref (am 8), .ref (am 9), .int (-1), .int 0, .int 0, .int (-1), .int 0, .ref (am 10), .int 0, .ref (am 11), .ref (am 12), .ref (am 13), .ref (am 14), .long 0, .ref (am 15), .ref (am 16), .ref (am 17), .ref (am 18)])), ((am 9), .inl (G.2.2 0, 110, .inl (fun _ => 0)))] s.heap.size = A at hD ⊢
  have hA : ∀ q : Nat, s.heap.size ≤ q → A q := fun q h => by rw [← hAe]; exact Or.inr h
  have hS : va_S A s.heap s.heap [] := va_S.rf
  have hl := lv_entry ([.ref h0, .int b, .int w]) (n := 8) (Nat.le_of_ble_eq_true rfl)
  rw [lg_entry_eq]
  generalize (lg_sl ([.ref h0, .int b, .int w]) ++ List.replicate (8 - (lg_sl ([.ref h0, .int b, .int w])).length) Slot.unset).toArray = ls at hl ⊢
  have hl : lv_has ls 8 [(0, .ref h0), (1, .int b), (2, .int w)] := hl
  refine lv_aload_n hx hb dX12_hold_0 rfl (lv_at hl 0 rfl) ?_
  refine lv_iload_n hx hb dX12_hold_1 rfl (lv_at hl 1 rfl) ?_
  have hPc := hP.sub (ws' := [(h0, .inr (12, [.ref (am 0), .int 0, .int 0, .ref (am 1), .ref (am 2), .ref (am 3), .ref (am 4), .ref (am 5), .int 0, .int 0, .int 0, .int 0, .int 0, .int 0, .int 0, .ref (am 6), .int 0, .ref (am 7), .int 0, .ref (am 8), .ref (am 9), .int (-1), .int 0, .int 0, .int (-1), .int 0, .ref (am 10), .int 0, .ref (am 11), .ref (am 12), .ref (am 13), .ref (am 14), .long 0, .ref (am 15), .ref (am 16), .ref (am 17), .ref (am 18)])), ((am 9), .inl (G.2.2 0, 110, .inl (fun _ => 0)))]) [0, 1] rfl
  have hDc := hD.sub (ws' := [(h0, .inr (12, [.ref (am 0), .int 0, .int 0, .ref (am 1), .ref (am 2), .ref (am 3), .ref (am 4), .ref (am 5), .int 0, .int 0, .int 0, .int 0, .int 0, .int 0, .int 0, .ref (am 6), .int 0, .ref (am 7), .int 0, .ref (am 8), .ref (am 9), .int (-1), .int 0, .int 0, .int (-1), .int 0, .ref (am 10), .int 0, .ref (am 11), .ref (am 12), .ref (am 13), .ref (am 14), .long 0, .ref (am 15), .ref (am 16), .ref (am 17), .ref (am 18)])), ((am 9), .inl (G.2.2 0, 110, .inl (fun _ => 0)))]) [0, 1] (by decide) rfl
  refine gq_callI (wr := []) (va_runV (As := [.int b]) (rest := []) ⟨hx, hb, hml, hown, ht⟩ (c_M_isBidder l G H.size h0 am b) (cwV 1 ht (ts_gV wd_1553 wd_1555 wd_73 wd_134 wd_1556) rfl rfl rfl (by decide +kernel) ⟨Nat.le_of_ble_eq_true rfl, Nat.le_of_ble_eq_true rfl⟩) (gc_preV (ci := 12) (q0 := 0) hK hPc hDc rfl rfl) rfl rfl hl.1 rfl (lv_room (Nat.le_of_ble_eq_true rfl)) dX12_hold_2 ⟨Nat.le_of_ble_eq_true rfl, Nat.le_of_ble_eq_true rfl⟩) hP hD hS hA [0, 1] [] rfl rfl (by decide) (by decide) (fun r u H locs hw hP hD hS => ?_)
  have hw : r = 0 := hw
  subst hw
  have hP : va_P (gg_D G) classes [(h0, .inr (12, [.ref (am 0), .int 0, .int 0, .ref (am 1), .ref (am 2), .ref (am 3), .ref (am 4), .ref (am 5), .int 0, .int 0, .int 0, .int 0, .int 0, .int 0, .int 0, .ref (am 6), .int 0, .ref (am 7), .int 0, .ref (am 8), .ref (am 9), .int (-1), .int 0, .int 0, .int (-1), .int 0, .ref (am 10), .int 0, .ref (am 11), .ref (am 12), .ref (am 13), .ref (am 14), .long 0, .ref (am 15), .ref (am 16), .ref (am 17), .ref (am 18)])), ((am 9), .inl (G.2.2 0, 110, .inl (fun _ => 0)))] H := hP
  have hD : va_D A [(h0, .inr (12, [.ref (am 0), .int 0, .int 0, .ref (am 1), .ref (am 2), .ref (am 3), .ref (am 4), .ref (am 5), .int 0, .int 0, .int 0, .int 0, .int 0, .int 0, .int 0, .ref (am 6), .int 0, .ref (am 7), .int 0, .ref (am 8), .ref (am 9), .int (-1), .int 0, .int 0, .int (-1), .int 0, .ref (am 10), .int 0, .ref (am 11), .ref (am 12), .ref (am 13), .ref (am 14), .long 0, .ref (am 15), .ref (am 16), .ref (am 17), .ref (am 18)])), ((am 9), .inl (G.2.2 0, 110, .inl (fun _ => 0)))] := hD
  refine lv_if_eq (tgt := 26) hx hb dX12_hold_5 (by decide) (fun _ => ?_) (fun c0 => absurd (by decide +kernel) c0)
  refine lv_sipush (v := (-1000)) hx hb dX12_hold_26 (by decide +kernel) ?_
  have hP9 := hP.sub (ws' := []) [] rfl
  have hD9 := hD.sub (ws' := []) [] (by decide) rfl
  exact W.iret (v := (-1000)) hx hb hr (gq_endI () rfl hP9 hD9 hS) hS.2.2 dX12_hold_29
set_option maxHeartbeats 4000000 in
set_option maxRecDepth 100000 in
theorem c_M_rests (l : Launch) (G : gg_T) (sz : Nat) (h0 : Nat) (am : Nat → Nat) (b : Int32) (w : Int32) (z : Int32) (y : Int32) : Met l yX12_rests (ts_L yX12_rests cX12_rests 8 (some .int)) ({ frames := 1, cells := 0, slots := 0, locals := 21 }) (gc_P G [(h0, .inr (12, [.ref (am 0), .int 0, .int 0, .ref (am 1), .ref (am 2), .ref (am 3), .ref (am 4), .ref (am 5), .int 0, .int 0, .int 0, .int 0, .int 0, .int 0, .int 0, .ref (am 6), .int 0, .ref (am 7), .int 0, .ref (am 8), .ref (am 9), .int (-1), .int 0, .int 0, .int (-1), .int 0, .ref (am 10), .int 0, .ref (am 11), .ref (am 12), .ref (am 13), .ref (am 14), .long 0, .ref (am 15), .ref (am 16), .ref (am 17), .ref (am 18)])), ((am 9), .inl (G.2.2 0, 110, .inl (fun _ => 0)))] sz [.ref h0, .int b, .int w, .int z, .int y]) (gc_I G (va_A [(h0, .inr (12, [.ref (am 0), .int 0, .int 0, .ref (am 1), .ref (am 2), .ref (am 3), .ref (am 4), .ref (am 5), .int 0, .int 0, .int 0, .int 0, .int 0, .int 0, .int 0, .ref (am 6), .int 0, .ref (am 7), .int 0, .ref (am 8), .ref (am 9), .int (-1), .int 0, .int 0, .int (-1), .int 0, .ref (am 10), .int 0, .ref (am 11), .ref (am 12), .ref (am 13), .ref (am 14), .long 0, .ref (am 15), .ref (am 16), .ref (am 17), .ref (am 18)])), ((am 9), .inl (G.2.2 0, 110, .inl (fun _ => 0)))] sz) (fun r (_ : Unit) => r = (-1)) (fun _ => [])) 0 0 (va_A [(h0, .inr (12, [.ref (am 0), .int 0, .int 0, .ref (am 1), .ref (am 2), .ref (am 3), .ref (am 4), .ref (am 5), .int 0, .int 0, .int 0, .int 0, .int 0, .int 0, .int 0, .ref (am 6), .int 0, .ref (am 7), .int 0, .ref (am 8), .ref (am 9), .int (-1), .int 0, .int 0, .int (-1), .int 0, .ref (am 10), .int 0, .ref (am 11), .ref (am 12), .ref (am 13), .ref (am 14), .long 0, .ref (am 15), .ref (am 16), .ref (am 17), .ref (am 18)])), ((am 9), .inl (G.2.2 0, 110, .inl (fun _ => 0)))] sz) := by
  refine Met.ofW (cc := cX12_rests) (maxL := 8) (ret := (some .int)) (by decide) rfl ?_
  intro p e s m args below meth c s₁ B hml hv
  obtain ⟨rfl, hsz, hP, hK, hD0⟩ := hv
  have hx := B.exec
  have hb := B.bytes
  have hr := B.returns
  have ht := ts_ht (atoms_spec (ws := ts_L yX12_rests cX12_rests 8 (some .int)) B.pre)
  have hown : s.vm.findClass RX12 = some m.cls := findClass_of_methodNamed B.named
  have hlocks := B.notSynchronized
  subst hsz
  have hD := hD0.self (sz := s.heap.size)
  generalize hAe : va_A [(h0, .inr (12, [.ref (am 0), .int 0, .int 0, .ref (am 1), .ref (am 2), .ref (am 3), .ref (am 4), .ref (am 5), .int 0, .int 0, .int 0, .int 0, .int 0, .int 0, .int 0, .ref (am 6), .int 0, .ref (am 7), .int 0, .ref (am 8), .ref (am 9), .int (-1), .int 0, .int 0, .int (-1), .int 0, .ref (am 10), .int 0, .ref (am 11), .ref (am 12), .ref (am 13), .ref (am 14), .long 0, .ref (am 15), .ref (am 16), .ref (am 17), .ref (am 18)])), ((am 9), .inl (G.2.2 0, 110, .inl (fun _ => 0)))] s.heap.size = A at hD ⊢
  have hA : ∀ q : Nat, s.heap.size ≤ q → A q := fun q h => by rw [← hAe]; exact Or.inr h
  have hS : va_S A s.heap s.heap [] := va_S.rf
  have hl := lv_entry ([.ref h0, .int b, .int w, .int z, .int y]) (n := 8) (Nat.le_of_ble_eq_true rfl)
  rw [lg_entry_eq]
  generalize (lg_sl ([.ref h0, .int b, .int w, .int z, .int y]) ++ List.replicate (8 - (lg_sl ([.ref h0, .int b, .int w, .int z, .int y])).length) Slot.unset).toArray = ls at hl ⊢
  have hl : lv_has ls 8 [(0, .ref h0), (1, .int b), (2, .int w), (3, .int z), (4, .int y)] := hl
  refine lv_aload_n hx hb dX12_rests_0 rfl (lv_at hl 0 rfl) ?_
  refine lv_iload_n hx hb dX12_rests_1 rfl (lv_at hl 1 rfl) ?_
  have hPc := hP.sub (ws' := [(h0, .inr (12, [.ref (am 0), .int 0, .int 0, .ref (am 1), .ref (am 2), .ref (am 3), .ref (am 4), .ref (am 5), .int 0, .int 0, .int 0, .int 0, .int 0, .int 0, .int 0, .ref (am 6), .int 0, .ref (am 7), .int 0, .ref (am 8), .ref (am 9), .int (-1), .int 0, .int 0, .int (-1), .int 0, .ref (am 10), .int 0, .ref (am 11), .ref (am 12), .ref (am 13), .ref (am 14), .long 0, .ref (am 15), .ref (am 16), .ref (am 17), .ref (am 18)])), ((am 9), .inl (G.2.2 0, 110, .inl (fun _ => 0)))]) [0, 1] rfl
  have hDc := hD.sub (ws' := [(h0, .inr (12, [.ref (am 0), .int 0, .int 0, .ref (am 1), .ref (am 2), .ref (am 3), .ref (am 4), .ref (am 5), .int 0, .int 0, .int 0, .int 0, .int 0, .int 0, .int 0, .ref (am 6), .int 0, .ref (am 7), .int 0, .ref (am 8), .ref (am 9), .int (-1), .int 0, .int 0, .int (-1), .int 0, .ref (am 10), .int 0, .ref (am 11), .ref (am 12), .ref (am 13), .ref (am 14), .long 0, .ref (am 15), .ref (am 16), .ref (am 17), .ref (am 18)])), ((am 9), .inl (G.2.2 0, 110, .inl (fun _ => 0)))]) [0, 1] (by decide) rfl
  refine gq_callI (wr := []) (va_runV (As := [.int b]) (rest := []) ⟨hx, hb, hml, hown, ht⟩ (c_M_isBidder l G H.size h0 am b) (cwV 1 ht (ts_gV wd_1553 wd_1555 wd_73 wd_134 wd_1556) rfl rfl rfl (by decide +kernel) ⟨Nat.le_of_ble_eq_true rfl, Nat.le_of_ble_eq_true rfl⟩) (gc_preV (ci := 12) (q0 := 0) hK hPc hDc rfl rfl) rfl rfl hl.1 rfl (lv_room (Nat.le_of_ble_eq_true rfl)) dX12_rests_2 ⟨Nat.le_of_ble_eq_true rfl, Nat.le_of_ble_eq_true rfl⟩) hP hD hS hA [0, 1] [] rfl rfl (by decide) (by decide) (fun r u H locs hw hP hD hS => ?_)
  have hw : r = 0 := hw
  subst hw
  have hP : va_P (gg_D G) classes [(h0, .inr (12, [.ref (am 0), .int 0, .int 0, .ref (am 1), .ref (am 2), .ref (am 3), .ref (am 4), .ref (am 5), .int 0, .int 0, .int 0, .int 0, .int 0, .int 0, .int 0, .ref (am 6), .int 0, .ref (am 7), .int 0, .ref (am 8), .ref (am 9), .int (-1), .int 0, .int 0, .int (-1), .int 0, .ref (am 10), .int 0, .ref (am 11), .ref (am 12), .ref (am 13), .ref (am 14), .long 0, .ref (am 15), .ref (am 16), .ref (am 17), .ref (am 18)])), ((am 9), .inl (G.2.2 0, 110, .inl (fun _ => 0)))] H := hP
  have hD : va_D A [(h0, .inr (12, [.ref (am 0), .int 0, .int 0, .ref (am 1), .ref (am 2), .ref (am 3), .ref (am 4), .ref (am 5), .int 0, .int 0, .int 0, .int 0, .int 0, .int 0, .int 0, .ref (am 6), .int 0, .ref (am 7), .int 0, .ref (am 8), .ref (am 9), .int (-1), .int 0, .int 0, .int (-1), .int 0, .ref (am 10), .int 0, .ref (am 11), .ref (am 12), .ref (am 13), .ref (am 14), .long 0, .ref (am 15), .ref (am 16), .ref (am 17), .ref (am 18)])), ((am 9), .inl (G.2.2 0, 110, .inl (fun _ => 0)))] := hD
  refine lv_if_eq (tgt := 42) hx hb dX12_rests_5 (by decide) (fun _ => ?_) (fun c0 => absurd (by decide +kernel) c0)
  refine lv_iconst (v := (-1)) hx hb dX12_rests_42 (by decide) ?_
  have hP9 := hP.sub (ws' := []) [] rfl
  have hD9 := hD.sub (ws' := []) [] (by decide) rfl
  exact W.iret (v := (-1)) hx hb hr (gq_endI () rfl hP9 hD9 hS) hS.2.2 dX12_rests_43
set_option maxHeartbeats 4000000 in
set_option maxRecDepth 100000 in
theorem c_M_seats (l : Launch) (G : gg_T) (sz : Nat) (h0 : Nat) (am : Nat → Nat) (b : Int32) : Met l yX12_seats (ts_L yX12_seats cX12_seats 8 (some .int)) ({ frames := 1, cells := 0, slots := 0, locals := 20 }) (gc_P G [(h0, .inr (12, [.ref (am 0), .int 0, .int 0, .ref (am 1), .ref (am 2), .ref (am 3), .ref (am 4), .ref (am 5), .int 0, .int 0, .int 0, .int 0, .int 0, .int 0, .int 0, .ref (am 6), .int 0, .ref (am 7), .int 0, .ref (am 8), .ref (am 9), .int (-1), .int 0, .int 0, .int (-1), .int 0, .ref (am 10), .int 0, .ref (am 11), .ref (am 12), .ref (am 13), .ref (am 14), .long 0, .ref (am 15), .ref (am 16), .ref (am 17), .ref (am 18)])), ((am 9), .inl (G.2.2 0, 110, .inl (fun _ => 0)))] sz [.ref h0, .int b]) (gc_I G (va_A [(h0, .inr (12, [.ref (am 0), .int 0, .int 0, .ref (am 1), .ref (am 2), .ref (am 3), .ref (am 4), .ref (am 5), .int 0, .int 0, .int 0, .int 0, .int 0, .int 0, .int 0, .ref (am 6), .int 0, .ref (am 7), .int 0, .ref (am 8), .ref (am 9), .int (-1), .int 0, .int 0, .int (-1), .int 0, .ref (am 10), .int 0, .ref (am 11), .ref (am 12), .ref (am 13), .ref (am 14), .long 0, .ref (am 15), .ref (am 16), .ref (am 17), .ref (am 18)])), ((am 9), .inl (G.2.2 0, 110, .inl (fun _ => 0)))] sz) (fun r (_ : Unit) => r = (-1000)) (fun _ => [])) 0 0 (va_A [(h0, .inr (12, [.ref (am 0), .int 0, .int 0, .ref (am 1), .ref (am 2), .ref (am 3), .ref (am 4), .ref (am 5), .int 0, .int 0, .int 0, .int 0, .int 0, .int 0, .int 0, .ref (am 6), .int 0, .ref (am 7), .int 0, .ref (am 8), .ref (am 9), .int (-1), .int 0, .int 0, .int (-1), .int 0, .ref (am 10), .int 0, .ref (am 11), .ref (am 12), .ref (am 13), .ref (am 14), .long 0, .ref (am 15), .ref (am 16), .ref (am 17), .ref (am 18)])), ((am 9), .inl (G.2.2 0, 110, .inl (fun _ => 0)))] sz) := by
  refine Met.ofW (cc := cX12_seats) (maxL := 8) (ret := (some .int)) (by decide) rfl ?_
  intro p e s m args below meth c s₁ B hml hv
  obtain ⟨rfl, hsz, hP, hK, hD0⟩ := hv
  have hx := B.exec
  have hb := B.bytes
  have hr := B.returns
  have ht := ts_ht (atoms_spec (ws := ts_L yX12_seats cX12_seats 8 (some .int)) B.pre)
  have hown : s.vm.findClass RX12 = some m.cls := findClass_of_methodNamed B.named
  have hlocks := B.notSynchronized
  subst hsz
  have hD := hD0.self (sz := s.heap.size)
  generalize hAe : va_A [(h0, .inr (12, [.ref (am 0), .int 0, .int 0, .ref (am 1), .ref (am 2), .ref (am 3), .ref (am 4), .ref (am 5), .int 0, .int 0, .int 0, .int 0, .int 0, .int 0, .int 0, .ref (am 6), .int 0, .ref (am 7), .int 0, .ref (am 8), .ref (am 9), .int (-1), .int 0, .int 0, .int (-1), .int 0, .ref (am 10), .int 0, .ref (am 11), .ref (am 12), .ref (am 13), .ref (am 14), .long 0, .ref (am 15), .ref (am 16), .ref (am 17), .ref (am 18)])), ((am 9), .inl (G.2.2 0, 110, .inl (fun _ => 0)))] s.heap.size = A at hD ⊢
  have hA : ∀ q : Nat, s.heap.size ≤ q → A q := fun q h => by rw [← hAe]; exact Or.inr h
  have hS : va_S A s.heap s.heap [] := va_S.rf
  have hl := lv_entry ([.ref h0, .int b]) (n := 8) (Nat.le_of_ble_eq_true rfl)
  rw [lg_entry_eq]
  generalize (lg_sl ([.ref h0, .int b]) ++ List.replicate (8 - (lg_sl ([.ref h0, .int b])).length) Slot.unset).toArray = ls at hl ⊢
  have hl : lv_has ls 8 [(0, .ref h0), (1, .int b)] := hl
  refine lv_aload_n hx hb dX12_seats_0 rfl (lv_at hl 0 rfl) ?_
  have hPc := hP.sub (ws' := [(h0, .inr (12, [.ref (am 0), .int 0, .int 0, .ref (am 1), .ref (am 2), .ref (am 3), .ref (am 4), .ref (am 5), .int 0, .int 0, .int 0, .int 0, .int 0, .int 0, .int 0, .ref (am 6), .int 0, .ref (am 7), .int 0, .ref (am 8), .ref (am 9), .int (-1), .int 0, .int 0, .int (-1), .int 0, .ref (am 10), .int 0, .ref (am 11), .ref (am 12), .ref (am 13), .ref (am 14), .long 0, .ref (am 15), .ref (am 16), .ref (am 17), .ref (am 18)])), ((am 9), .inl (G.2.2 0, 110, .inl (fun _ => 0)))]) [0, 1] rfl
  have hDc := hD.sub (ws' := [(h0, .inr (12, [.ref (am 0), .int 0, .int 0, .ref (am 1), .ref (am 2), .ref (am 3), .ref (am 4), .ref (am 5), .int 0, .int 0, .int 0, .int 0, .int 0, .int 0, .int 0, .ref (am 6), .int 0, .ref (am 7), .int 0, .ref (am 8), .ref (am 9), .int (-1), .int 0, .int 0, .int (-1), .int 0, .ref (am 10), .int 0, .ref (am 11), .ref (am 12), .ref (am 13), .ref (am 14), .long 0, .ref (am 15), .ref (am 16), .ref (am 17), .ref (am 18)])), ((am 9), .inl (G.2.2 0, 110, .inl (fun _ => 0)))]) [0, 1] (by decide) rfl
  refine gq_callI (wr := []) (va_runV (As := []) (rest := []) ⟨hx, hb, hml, hown, ht⟩ (c_M_isSale l G H.size h0 am) (cwV 0 ht (ts_gV wd_1720 wd_1722 wd_102 wd_134 wd_1723) rfl rfl rfl (by decide +kernel) ⟨Nat.le_of_ble_eq_true rfl, Nat.le_of_ble_eq_true rfl⟩) (gc_preV (ci := 12) (q0 := 0) hK hPc hDc rfl rfl) rfl rfl hl.1 rfl (lv_room (Nat.le_of_ble_eq_true rfl)) dX12_seats_1 ⟨Nat.le_of_ble_eq_true rfl, Nat.le_of_ble_eq_true rfl⟩) hP hD hS hA [0, 1] [] rfl rfl (by decide) (by decide) (fun r u H locs hw hP hD hS => ?_)
  have hw : r = 0 := hw
  subst hw
  have hP : va_P (gg_D G) classes [(h0, .inr (12, [.ref (am 0), .int 0, .int 0, .ref (am 1), .ref (am 2), .ref (am 3), .ref (am 4), .ref (am 5), .int 0, .int 0, .int 0, .int 0, .int 0, .int 0, .int 0, .ref (am 6), .int 0, .ref (am 7), .int 0, .ref (am 8), .ref (am 9), .int (-1), .int 0, .int 0, .int (-1), .int 0, .ref (am 10), .int 0, .ref (am 11), .ref (am 12), .ref (am 13), .ref (am 14), .long 0, .ref (am 15), .ref (am 16), .ref (am 17), .ref (am 18)])), ((am 9), .inl (G.2.2 0, 110, .inl (fun _ => 0)))] H := hP
  have hD : va_D A [(h0, .inr (12, [.ref (am 0), .int 0, .int 0, .ref (am 1), .ref (am 2), .ref (am 3), .ref (am 4), .ref (am 5), .int 0, .int 0, .int 0, .int 0, .int 0, .int 0, .int 0, .ref (am 6), .int 0, .ref (am 7), .int 0, .ref (am 8), .ref (am 9), .int (-1), .int 0, .int 0, .int (-1), .int 0, .ref (am 10), .int 0, .ref (am 11), .ref (am 12), .ref (am 13), .ref (am 14), .long 0, .ref (am 15), .ref (am 16), .ref (am 17), .ref (am 18)])), ((am 9), .inl (G.2.2 0, 110, .inl (fun _ => 0)))] := hD
  refine lv_if_eq (tgt := 19) hx hb dX12_seats_4 (by decide) (fun _ => ?_) (fun c0 => absurd (by decide +kernel) c0)
  refine lv_sipush (v := (-1000)) hx hb dX12_seats_19 (by decide +kernel) ?_
  have hP9 := hP.sub (ws' := []) [] rfl
  have hD9 := hD.sub (ws' := []) [] (by decide) rfl
  exact W.iret (v := (-1000)) hx hb hr (gq_endI () rfl hP9 hD9 hS) hS.2.2 dX12_seats_22
set_option maxHeartbeats 4000000 in
set_option maxRecDepth 100000 in
theorem c_M_tricks (l : Launch) (G : gg_T) (sz : Nat) (h0 : Nat) (am : Nat → Nat) (b : Int32) (w : Int32) : Met l yX12_tricks (ts_L yX12_tricks cX12_tricks 10 (some .int)) ({ frames := 1, cells := 0, slots := 0, locals := 21 }) (gc_P G [(h0, .inr (12, [.ref (am 0), .int 0, .int 0, .ref (am 1), .ref (am 2), .ref (am 3), .ref (am 4), .ref (am 5), .int 0, .int 0, .int 0, .int 0, .int 0, .int 0, .int 0, .ref (am 6), .int 0, .ref (am 7), .int 0, .ref (am 8), .ref (am 9), .int (-1), .int 0, .int 0, .int (-1), .int 0, .ref (am 10), .int 0, .ref (am 11), .ref (am 12), .ref (am 13), .ref (am 14), .long 0, .ref (am 15), .ref (am 16), .ref (am 17), .ref (am 18)])), ((am 9), .inl (G.2.2 0, 110, .inl (fun _ => 0)))] sz [.ref h0, .int b, .int w]) (gc_I G (va_A [(h0, .inr (12, [.ref (am 0), .int 0, .int 0, .ref (am 1), .ref (am 2), .ref (am 3), .ref (am 4), .ref (am 5), .int 0, .int 0, .int 0, .int 0, .int 0, .int 0, .int 0, .ref (am 6), .int 0, .ref (am 7), .int 0, .ref (am 8), .ref (am 9), .int (-1), .int 0, .int 0, .int (-1), .int 0, .ref (am 10), .int 0, .ref (am 11), .ref (am 12), .ref (am 13), .ref (am 14), .long 0, .ref (am 15), .ref (am 16), .ref (am 17), .ref (am 18)])), ((am 9), .inl (G.2.2 0, 110, .inl (fun _ => 0)))] sz) (fun r (_ : Unit) => r = (-4)) (fun _ => [])) 0 0 (va_A [(h0, .inr (12, [.ref (am 0), .int 0, .int 0, .ref (am 1), .ref (am 2), .ref (am 3), .ref (am 4), .ref (am 5), .int 0, .int 0, .int 0, .int 0, .int 0, .int 0, .int 0, .ref (am 6), .int 0, .ref (am 7), .int 0, .ref (am 8), .ref (am 9), .int (-1), .int 0, .int 0, .int (-1), .int 0, .ref (am 10), .int 0, .ref (am 11), .ref (am 12), .ref (am 13), .ref (am 14), .long 0, .ref (am 15), .ref (am 16), .ref (am 17), .ref (am 18)])), ((am 9), .inl (G.2.2 0, 110, .inl (fun _ => 0)))] sz) := by
  refine Met.ofW (cc := cX12_tricks) (maxL := 10) (ret := (some .int)) (by decide) rfl ?_
  intro p e s m args below meth c s₁ B hml hv
  obtain ⟨rfl, hsz, hP, hK, hD0⟩ := hv
  have hx := B.exec
  have hb := B.bytes
  have hr := B.returns
  have ht := ts_ht (atoms_spec (ws := ts_L yX12_tricks cX12_tricks 10 (some .int)) B.pre)
  have hown : s.vm.findClass RX12 = some m.cls := findClass_of_methodNamed B.named
  have hlocks := B.notSynchronized
  subst hsz
  have hD := hD0.self (sz := s.heap.size)
  generalize hAe : va_A [(h0, .inr (12, [.ref (am 0), .int 0, .int 0, .ref (am 1), .ref (am 2), .ref (am 3), .ref (am 4), .ref (am 5), .int 0, .int 0, .int 0, .int 0, .int 0, .int 0, .int 0, .ref (am 6), .int 0, .ref (am 7), .int 0, .ref (am 8), .ref (am 9), .int (-1), .int 0, .int 0, .int (-1), .int 0, .ref (am 10), .int 0, .ref (am 11), .ref (am 12), .ref (am 13), .ref (am 14), .long 0, .ref (am 15), .ref (am 16), .ref (am 17), .ref (am 18)])), ((am 9), .inl (G.2.2 0, 110, .inl (fun _ => 0)))] s.heap.size = A at hD ⊢
  have hA : ∀ q : Nat, s.heap.size ≤ q → A q := fun q h => by rw [← hAe]; exact Or.inr h
  have hS : va_S A s.heap s.heap [] := va_S.rf
  have hl := lv_entry ([.ref h0, .int b, .int w]) (n := 10) (Nat.le_of_ble_eq_true rfl)
  rw [lg_entry_eq]
  generalize (lg_sl ([.ref h0, .int b, .int w]) ++ List.replicate (10 - (lg_sl ([.ref h0, .int b, .int w])).length) Slot.unset).toArray = ls at hl ⊢
  have hl : lv_has ls 10 [(0, .ref h0), (1, .int b), (2, .int w)] := hl
  refine lv_aload_n hx hb dX12_tricks_0 rfl (lv_at hl 0 rfl) ?_
  refine lv_iload_n hx hb dX12_tricks_1 rfl (lv_at hl 1 rfl) ?_
  have hPc := hP.sub (ws' := [(h0, .inr (12, [.ref (am 0), .int 0, .int 0, .ref (am 1), .ref (am 2), .ref (am 3), .ref (am 4), .ref (am 5), .int 0, .int 0, .int 0, .int 0, .int 0, .int 0, .int 0, .ref (am 6), .int 0, .ref (am 7), .int 0, .ref (am 8), .ref (am 9), .int (-1), .int 0, .int 0, .int (-1), .int 0, .ref (am 10), .int 0, .ref (am 11), .ref (am 12), .ref (am 13), .ref (am 14), .long 0, .ref (am 15), .ref (am 16), .ref (am 17), .ref (am 18)])), ((am 9), .inl (G.2.2 0, 110, .inl (fun _ => 0)))]) [0, 1] rfl
  have hDc := hD.sub (ws' := [(h0, .inr (12, [.ref (am 0), .int 0, .int 0, .ref (am 1), .ref (am 2), .ref (am 3), .ref (am 4), .ref (am 5), .int 0, .int 0, .int 0, .int 0, .int 0, .int 0, .int 0, .ref (am 6), .int 0, .ref (am 7), .int 0, .ref (am 8), .ref (am 9), .int (-1), .int 0, .int 0, .int (-1), .int 0, .ref (am 10), .int 0, .ref (am 11), .ref (am 12), .ref (am 13), .ref (am 14), .long 0, .ref (am 15), .ref (am 16), .ref (am 17), .ref (am 18)])), ((am 9), .inl (G.2.2 0, 110, .inl (fun _ => 0)))]) [0, 1] (by decide) rfl
  refine gq_callI (wr := []) (va_runV (As := [.int b]) (rest := []) ⟨hx, hb, hml, hown, ht⟩ (c_M_isBidder l G H.size h0 am b) (cwV 1 ht (ts_gV wd_1553 wd_1555 wd_73 wd_134 wd_1556) rfl rfl rfl (by decide +kernel) ⟨Nat.le_of_ble_eq_true rfl, Nat.le_of_ble_eq_true rfl⟩) (gc_preV (ci := 12) (q0 := 0) hK hPc hDc rfl rfl) rfl rfl hl.1 rfl (lv_room (Nat.le_of_ble_eq_true rfl)) dX12_tricks_2 ⟨Nat.le_of_ble_eq_true rfl, Nat.le_of_ble_eq_true rfl⟩) hP hD hS hA [0, 1] [] rfl rfl (by decide) (by decide) (fun r u H locs hw hP hD hS => ?_)
  have hw : r = 0 := hw
  subst hw
  have hP : va_P (gg_D G) classes [(h0, .inr (12, [.ref (am 0), .int 0, .int 0, .ref (am 1), .ref (am 2), .ref (am 3), .ref (am 4), .ref (am 5), .int 0, .int 0, .int 0, .int 0, .int 0, .int 0, .int 0, .ref (am 6), .int 0, .ref (am 7), .int 0, .ref (am 8), .ref (am 9), .int (-1), .int 0, .int 0, .int (-1), .int 0, .ref (am 10), .int 0, .ref (am 11), .ref (am 12), .ref (am 13), .ref (am 14), .long 0, .ref (am 15), .ref (am 16), .ref (am 17), .ref (am 18)])), ((am 9), .inl (G.2.2 0, 110, .inl (fun _ => 0)))] H := hP
  have hD : va_D A [(h0, .inr (12, [.ref (am 0), .int 0, .int 0, .ref (am 1), .ref (am 2), .ref (am 3), .ref (am 4), .ref (am 5), .int 0, .int 0, .int 0, .int 0, .int 0, .int 0, .int 0, .ref (am 6), .int 0, .ref (am 7), .int 0, .ref (am 8), .ref (am 9), .int (-1), .int 0, .int 0, .int (-1), .int 0, .ref (am 10), .int 0, .ref (am 11), .ref (am 12), .ref (am 13), .ref (am 14), .long 0, .ref (am 15), .ref (am 16), .ref (am 17), .ref (am 18)])), ((am 9), .inl (G.2.2 0, 110, .inl (fun _ => 0)))] := hD
  refine lv_if_eq (tgt := 28) hx hb dX12_tricks_5 (by decide) (fun _ => ?_) (fun c0 => absurd (by decide +kernel) c0)
  refine lv_bipush (v := (-4)) hx hb dX12_tricks_28 (by decide +kernel) ?_
  have hP9 := hP.sub (ws' := []) [] rfl
  have hD9 := hD.sub (ws' := []) [] (by decide) rfl
  exact W.iret (v := (-4)) hx hb hr (gq_endI () rfl hP9 hD9 hS) hS.2.2 dX12_tricks_30
set_option maxHeartbeats 4000000 in
set_option maxRecDepth 100000 in
theorem c_M_ring (l : Launch) (G : gg_T) (sz : Nat) (h0 : Nat) (am : Nat → Nat) (b : Int32) (w : Int32) : Met l yX12_ring (ts_L yX12_ring cX12_ring 9 (some .int)) ({ frames := 1, cells := 0, slots := 0, locals := 20 }) (gc_P G [(h0, .inr (12, [.ref (am 0), .int 0, .int 0, .ref (am 1), .ref (am 2), .ref (am 3), .ref (am 4), .ref (am 5), .int 0, .int 0, .int 0, .int 0, .int 0, .int 0, .int 0, .ref (am 6), .int 0, .ref (am 7), .int 0, .ref (am 8), .ref (am 9), .int (-1), .int 0, .int 0, .int (-1), .int 0, .ref (am 10), .int 0, .ref (am 11), .ref (am 12), .ref (am 13), .ref (am 14), .long 0, .ref (am 15), .ref (am 16), .ref (am 17), .ref (am 18)])), ((am 9), .inl (G.2.2 0, 110, .inl (fun _ => 0)))] sz [.ref h0, .int b, .int w]) (gc_I G (va_A [(h0, .inr (12, [.ref (am 0), .int 0, .int 0, .ref (am 1), .ref (am 2), .ref (am 3), .ref (am 4), .ref (am 5), .int 0, .int 0, .int 0, .int 0, .int 0, .int 0, .int 0, .ref (am 6), .int 0, .ref (am 7), .int 0, .ref (am 8), .ref (am 9), .int (-1), .int 0, .int 0, .int (-1), .int 0, .ref (am 10), .int 0, .ref (am 11), .ref (am 12), .ref (am 13), .ref (am 14), .long 0, .ref (am 15), .ref (am 16), .ref (am 17), .ref (am 18)])), ((am 9), .inl (G.2.2 0, 110, .inl (fun _ => 0)))] sz) (fun r (_ : Unit) => r = (-1000)) (fun _ => [])) 0 0 (va_A [(h0, .inr (12, [.ref (am 0), .int 0, .int 0, .ref (am 1), .ref (am 2), .ref (am 3), .ref (am 4), .ref (am 5), .int 0, .int 0, .int 0, .int 0, .int 0, .int 0, .int 0, .ref (am 6), .int 0, .ref (am 7), .int 0, .ref (am 8), .ref (am 9), .int (-1), .int 0, .int 0, .int (-1), .int 0, .ref (am 10), .int 0, .ref (am 11), .ref (am 12), .ref (am 13), .ref (am 14), .long 0, .ref (am 15), .ref (am 16), .ref (am 17), .ref (am 18)])), ((am 9), .inl (G.2.2 0, 110, .inl (fun _ => 0)))] sz) := by
  refine Met.ofW (cc := cX12_ring) (maxL := 9) (ret := (some .int)) (by decide) rfl ?_
  intro p e s m args below meth c s₁ B hml hv
  obtain ⟨rfl, hsz, hP, hK, hD0⟩ := hv
  have hx := B.exec
  have hb := B.bytes
  have hr := B.returns
  have ht := ts_ht (atoms_spec (ws := ts_L yX12_ring cX12_ring 9 (some .int)) B.pre)
  have hown : s.vm.findClass RX12 = some m.cls := findClass_of_methodNamed B.named
  have hlocks := B.notSynchronized
  subst hsz
  have hD := hD0.self (sz := s.heap.size)
  generalize hAe : va_A [(h0, .inr (12, [.ref (am 0), .int 0, .int 0, .ref (am 1), .ref (am 2), .ref (am 3), .ref (am 4), .ref (am 5), .int 0, .int 0, .int 0, .int 0, .int 0, .int 0, .int 0, .ref (am 6), .int 0, .ref (am 7), .int 0, .ref (am 8), .ref (am 9), .int (-1), .int 0, .int 0, .int (-1), .int 0, .ref (am 10), .int 0, .ref (am 11), .ref (am 12), .ref (am 13), .ref (am 14), .long 0, .ref (am 15), .ref (am 16), .ref (am 17), .ref (am 18)])), ((am 9), .inl (G.2.2 0, 110, .inl (fun _ => 0)))] s.heap.size = A at hD ⊢
  have hA : ∀ q : Nat, s.heap.size ≤ q → A q := fun q h => by rw [← hAe]; exact Or.inr h
  have hS : va_S A s.heap s.heap [] := va_S.rf
  have hl := lv_entry ([.ref h0, .int b, .int w]) (n := 9) (Nat.le_of_ble_eq_true rfl)
  rw [lg_entry_eq]
  generalize (lg_sl ([.ref h0, .int b, .int w]) ++ List.replicate (9 - (lg_sl ([.ref h0, .int b, .int w])).length) Slot.unset).toArray = ls at hl ⊢
  have hl : lv_has ls 9 [(0, .ref h0), (1, .int b), (2, .int w)] := hl
  refine lv_aload_n hx hb dX12_ring_0 rfl (lv_at hl 0 rfl) ?_
  have hPc := hP.sub (ws' := [(h0, .inr (12, [.ref (am 0), .int 0, .int 0, .ref (am 1), .ref (am 2), .ref (am 3), .ref (am 4), .ref (am 5), .int 0, .int 0, .int 0, .int 0, .int 0, .int 0, .int 0, .ref (am 6), .int 0, .ref (am 7), .int 0, .ref (am 8), .ref (am 9), .int (-1), .int 0, .int 0, .int (-1), .int 0, .ref (am 10), .int 0, .ref (am 11), .ref (am 12), .ref (am 13), .ref (am 14), .long 0, .ref (am 15), .ref (am 16), .ref (am 17), .ref (am 18)])), ((am 9), .inl (G.2.2 0, 110, .inl (fun _ => 0)))]) [0, 1] rfl
  have hDc := hD.sub (ws' := [(h0, .inr (12, [.ref (am 0), .int 0, .int 0, .ref (am 1), .ref (am 2), .ref (am 3), .ref (am 4), .ref (am 5), .int 0, .int 0, .int 0, .int 0, .int 0, .int 0, .int 0, .ref (am 6), .int 0, .ref (am 7), .int 0, .ref (am 8), .ref (am 9), .int (-1), .int 0, .int 0, .int (-1), .int 0, .ref (am 10), .int 0, .ref (am 11), .ref (am 12), .ref (am 13), .ref (am 14), .long 0, .ref (am 15), .ref (am 16), .ref (am 17), .ref (am 18)])), ((am 9), .inl (G.2.2 0, 110, .inl (fun _ => 0)))]) [0, 1] (by decide) rfl
  refine gq_callI (wr := []) (va_runV (As := []) (rest := []) ⟨hx, hb, hml, hown, ht⟩ (c_M_isSale l G H.size h0 am) (cwV 0 ht (ts_gV wd_1720 wd_1722 wd_102 wd_134 wd_1723) rfl rfl rfl (by decide +kernel) ⟨Nat.le_of_ble_eq_true rfl, Nat.le_of_ble_eq_true rfl⟩) (gc_preV (ci := 12) (q0 := 0) hK hPc hDc rfl rfl) rfl rfl hl.1 rfl (lv_room (Nat.le_of_ble_eq_true rfl)) dX12_ring_1 ⟨Nat.le_of_ble_eq_true rfl, Nat.le_of_ble_eq_true rfl⟩) hP hD hS hA [0, 1] [] rfl rfl (by decide) (by decide) (fun r u H locs hw hP hD hS => ?_)
  have hw : r = 0 := hw
  subst hw
  have hP : va_P (gg_D G) classes [(h0, .inr (12, [.ref (am 0), .int 0, .int 0, .ref (am 1), .ref (am 2), .ref (am 3), .ref (am 4), .ref (am 5), .int 0, .int 0, .int 0, .int 0, .int 0, .int 0, .int 0, .ref (am 6), .int 0, .ref (am 7), .int 0, .ref (am 8), .ref (am 9), .int (-1), .int 0, .int 0, .int (-1), .int 0, .ref (am 10), .int 0, .ref (am 11), .ref (am 12), .ref (am 13), .ref (am 14), .long 0, .ref (am 15), .ref (am 16), .ref (am 17), .ref (am 18)])), ((am 9), .inl (G.2.2 0, 110, .inl (fun _ => 0)))] H := hP
  have hD : va_D A [(h0, .inr (12, [.ref (am 0), .int 0, .int 0, .ref (am 1), .ref (am 2), .ref (am 3), .ref (am 4), .ref (am 5), .int 0, .int 0, .int 0, .int 0, .int 0, .int 0, .int 0, .ref (am 6), .int 0, .ref (am 7), .int 0, .ref (am 8), .ref (am 9), .int (-1), .int 0, .int 0, .int (-1), .int 0, .ref (am 10), .int 0, .ref (am 11), .ref (am 12), .ref (am 13), .ref (am 14), .long 0, .ref (am 15), .ref (am 16), .ref (am 17), .ref (am 18)])), ((am 9), .inl (G.2.2 0, 110, .inl (fun _ => 0)))] := hD
  refine lv_if_eq (tgt := 15) hx hb dX12_ring_4 (by decide) (fun _ => ?_) (fun c0 => absurd (by decide +kernel) c0)
  refine lv_iconst (v := (-1)) hx hb dX12_ring_15 (by decide) ?_
  refine lv_istore_n (lv' := [(3, .int (-1)), (0, .ref h0), (1, .int b), (2, .int w)]) hx hb dX12_ring_16 rfl hl (by decide) rfl (fun ls hl => ?_)
  refine lv_iload_n hx hb dX12_ring_17 rfl (lv_at hl 0 rfl) ?_
  refine lv_if_lt (tgt := 31) hx hb dX12_ring_18 (by decide) (fun _ => ?_) (fun c0 => absurd (by decide +kernel) c0)
  refine lv_sipush (v := (-1000)) hx hb dX12_ring_31 (by decide +kernel) ?_
  have hP9 := hP.sub (ws' := []) [] rfl
  have hD9 := hD.sub (ws' := []) [] (by decide) rfl
  exact W.iret (v := (-1000)) hx hb hr (gq_endI () rfl hP9 hD9 hS) hS.2.2 dX12_ring_34
set_option maxHeartbeats 4000000 in
set_option maxRecDepth 100000 in
theorem c_M_breath (l : Launch) (G : gg_T) (sz : Nat) (h0 : Nat) (am : Nat → Nat) (b : Int32) : Met l yX12_breath (ts_L yX12_breath cX12_breath 5 (some .int)) ({ frames := 1, cells := 0, slots := 0, locals := 21 }) (gc_P G [(h0, .inr (12, [.ref (am 0), .int 0, .int 0, .ref (am 1), .ref (am 2), .ref (am 3), .ref (am 4), .ref (am 5), .int 0, .int 0, .int 0, .int 0, .int 0, .int 0, .int 0, .ref (am 6), .int 0, .ref (am 7), .int 0, .ref (am 8), .ref (am 9), .int (-1), .int 0, .int 0, .int (-1), .int 0, .ref (am 10), .int 0, .ref (am 11), .ref (am 12), .ref (am 13), .ref (am 14), .long 0, .ref (am 15), .ref (am 16), .ref (am 17), .ref (am 18)])), ((am 9), .inl (G.2.2 0, 110, .inl (fun _ => 0)))] sz [.ref h0, .int b]) (gc_I G (va_A [(h0, .inr (12, [.ref (am 0), .int 0, .int 0, .ref (am 1), .ref (am 2), .ref (am 3), .ref (am 4), .ref (am 5), .int 0, .int 0, .int 0, .int 0, .int 0, .int 0, .int 0, .ref (am 6), .int 0, .ref (am 7), .int 0, .ref (am 8), .ref (am 9), .int (-1), .int 0, .int 0, .int (-1), .int 0, .ref (am 10), .int 0, .ref (am 11), .ref (am 12), .ref (am 13), .ref (am 14), .long 0, .ref (am 15), .ref (am 16), .ref (am 17), .ref (am 18)])), ((am 9), .inl (G.2.2 0, 110, .inl (fun _ => 0)))] sz) (fun r (_ : Unit) => r = (-1)) (fun _ => [])) 0 0 (va_A [(h0, .inr (12, [.ref (am 0), .int 0, .int 0, .ref (am 1), .ref (am 2), .ref (am 3), .ref (am 4), .ref (am 5), .int 0, .int 0, .int 0, .int 0, .int 0, .int 0, .int 0, .ref (am 6), .int 0, .ref (am 7), .int 0, .ref (am 8), .ref (am 9), .int (-1), .int 0, .int 0, .int (-1), .int 0, .ref (am 10), .int 0, .ref (am 11), .ref (am 12), .ref (am 13), .ref (am 14), .long 0, .ref (am 15), .ref (am 16), .ref (am 17), .ref (am 18)])), ((am 9), .inl (G.2.2 0, 110, .inl (fun _ => 0)))] sz) := by
  refine Met.ofW (cc := cX12_breath) (maxL := 5) (ret := (some .int)) (by decide) rfl ?_
  intro p e s m args below meth c s₁ B hml hv
  obtain ⟨rfl, hsz, hP, hK, hD0⟩ := hv
  have hx := B.exec
  have hb := B.bytes
  have hr := B.returns
  have ht := ts_ht (atoms_spec (ws := ts_L yX12_breath cX12_breath 5 (some .int)) B.pre)
  have hown : s.vm.findClass RX12 = some m.cls := findClass_of_methodNamed B.named
  have hlocks := B.notSynchronized
  subst hsz
  have hD := hD0.self (sz := s.heap.size)
  generalize hAe : va_A [(h0, .inr (12, [.ref (am 0), .int 0, .int 0, .ref (am 1), .ref (am 2), .ref (am 3), .ref (am 4), .ref (am 5), .int 0, .int 0, .int 0, .int 0, .int 0, .int 0, .int 0, .ref (am 6), .int 0, .ref (am 7), .int 0, .ref (am 8), .ref (am 9), .int (-1), .int 0, .int 0, .int (-1), .int 0, .ref (am 10), .int 0, .ref (am 11), .ref (am 12), .ref (am 13), .ref (am 14), .long 0, .ref (am 15), .ref (am 16), .ref (am 17), .ref (am 18)])), ((am 9), .inl (G.2.2 0, 110, .inl (fun _ => 0)))] s.heap.size = A at hD ⊢
  have hA : ∀ q : Nat, s.heap.size ≤ q → A q := fun q h => by rw [← hAe]; exact Or.inr h
  have hS : va_S A s.heap s.heap [] := va_S.rf
  have hl := lv_entry ([.ref h0, .int b]) (n := 5) (Nat.le_of_ble_eq_true rfl)
  rw [lg_entry_eq]
  generalize (lg_sl ([.ref h0, .int b]) ++ List.replicate (5 - (lg_sl ([.ref h0, .int b])).length) Slot.unset).toArray = ls at hl ⊢
  have hl : lv_has ls 5 [(0, .ref h0), (1, .int b)] := hl
  refine lv_aload_n hx hb dX12_breath_0 rfl (lv_at hl 0 rfl) ?_
  refine lv_iload_n hx hb dX12_breath_1 rfl (lv_at hl 1 rfl) ?_
  have hPc := hP.sub (ws' := [(h0, .inr (12, [.ref (am 0), .int 0, .int 0, .ref (am 1), .ref (am 2), .ref (am 3), .ref (am 4), .ref (am 5), .int 0, .int 0, .int 0, .int 0, .int 0, .int 0, .int 0, .ref (am 6), .int 0, .ref (am 7), .int 0, .ref (am 8), .ref (am 9), .int (-1), .int 0, .int 0, .int (-1), .int 0, .ref (am 10), .int 0, .ref (am 11), .ref (am 12), .ref (am 13), .ref (am 14), .long 0, .ref (am 15), .ref (am 16), .ref (am 17), .ref (am 18)])), ((am 9), .inl (G.2.2 0, 110, .inl (fun _ => 0)))]) [0, 1] rfl
  have hDc := hD.sub (ws' := [(h0, .inr (12, [.ref (am 0), .int 0, .int 0, .ref (am 1), .ref (am 2), .ref (am 3), .ref (am 4), .ref (am 5), .int 0, .int 0, .int 0, .int 0, .int 0, .int 0, .int 0, .ref (am 6), .int 0, .ref (am 7), .int 0, .ref (am 8), .ref (am 9), .int (-1), .int 0, .int 0, .int (-1), .int 0, .ref (am 10), .int 0, .ref (am 11), .ref (am 12), .ref (am 13), .ref (am 14), .long 0, .ref (am 15), .ref (am 16), .ref (am 17), .ref (am 18)])), ((am 9), .inl (G.2.2 0, 110, .inl (fun _ => 0)))]) [0, 1] (by decide) rfl
  refine gq_callI (wr := []) (va_runV (As := [.int b]) (rest := []) ⟨hx, hb, hml, hown, ht⟩ (c_M_isBidder l G H.size h0 am b) (cwV 1 ht (ts_gV wd_1553 wd_1555 wd_73 wd_134 wd_1556) rfl rfl rfl (by decide +kernel) ⟨Nat.le_of_ble_eq_true rfl, Nat.le_of_ble_eq_true rfl⟩) (gc_preV (ci := 12) (q0 := 0) hK hPc hDc rfl rfl) rfl rfl hl.1 rfl (lv_room (Nat.le_of_ble_eq_true rfl)) dX12_breath_2 ⟨Nat.le_of_ble_eq_true rfl, Nat.le_of_ble_eq_true rfl⟩) hP hD hS hA [0, 1] [] rfl rfl (by decide) (by decide) (fun r u H locs hw hP hD hS => ?_)
  have hw : r = 0 := hw
  subst hw
  have hP : va_P (gg_D G) classes [(h0, .inr (12, [.ref (am 0), .int 0, .int 0, .ref (am 1), .ref (am 2), .ref (am 3), .ref (am 4), .ref (am 5), .int 0, .int 0, .int 0, .int 0, .int 0, .int 0, .int 0, .ref (am 6), .int 0, .ref (am 7), .int 0, .ref (am 8), .ref (am 9), .int (-1), .int 0, .int 0, .int (-1), .int 0, .ref (am 10), .int 0, .ref (am 11), .ref (am 12), .ref (am 13), .ref (am 14), .long 0, .ref (am 15), .ref (am 16), .ref (am 17), .ref (am 18)])), ((am 9), .inl (G.2.2 0, 110, .inl (fun _ => 0)))] H := hP
  have hD : va_D A [(h0, .inr (12, [.ref (am 0), .int 0, .int 0, .ref (am 1), .ref (am 2), .ref (am 3), .ref (am 4), .ref (am 5), .int 0, .int 0, .int 0, .int 0, .int 0, .int 0, .int 0, .ref (am 6), .int 0, .ref (am 7), .int 0, .ref (am 8), .ref (am 9), .int (-1), .int 0, .int 0, .int (-1), .int 0, .ref (am 10), .int 0, .ref (am 11), .ref (am 12), .ref (am 13), .ref (am 14), .long 0, .ref (am 15), .ref (am 16), .ref (am 17), .ref (am 18)])), ((am 9), .inl (G.2.2 0, 110, .inl (fun _ => 0)))] := hD
  refine lv_if_eq (tgt := 16) hx hb dX12_breath_5 (by decide) (fun _ => ?_) (fun c0 => absurd (by decide +kernel) c0)
  refine lv_iconst (v := (-1)) hx hb dX12_breath_16 (by decide) ?_
  have hP9 := hP.sub (ws' := []) [] rfl
  have hD9 := hD.sub (ws' := []) [] (by decide) rfl
  exact W.iret (v := (-1)) hx hb hr (gq_endI () rfl hP9 hD9 hS) hS.2.2 dX12_breath_17
set_option maxHeartbeats 4000000 in
set_option maxRecDepth 100000 in
theorem c_M_ruled (l : Launch) (G : gg_T) (sz : Nat) (h0 : Nat) (am : Nat → Nat) (b : Int32) : Met l yX12_ruled (ts_L yX12_ruled cX12_ruled 5 (some .int)) ({ frames := 1, cells := 0, slots := 0, locals := 20 }) (gc_P G [(h0, .inr (12, [.ref (am 0), .int 0, .int 0, .ref (am 1), .ref (am 2), .ref (am 3), .ref (am 4), .ref (am 5), .int 0, .int 0, .int 0, .int 0, .int 0, .int 0, .int 0, .ref (am 6), .int 0, .ref (am 7), .int 0, .ref (am 8), .ref (am 9), .int (-1), .int 0, .int 0, .int (-1), .int 0, .ref (am 10), .int 0, .ref (am 11), .ref (am 12), .ref (am 13), .ref (am 14), .long 0, .ref (am 15), .ref (am 16), .ref (am 17), .ref (am 18)])), ((am 9), .inl (G.2.2 0, 110, .inl (fun _ => 0)))] sz [.ref h0, .int b]) (gc_I G (va_A [(h0, .inr (12, [.ref (am 0), .int 0, .int 0, .ref (am 1), .ref (am 2), .ref (am 3), .ref (am 4), .ref (am 5), .int 0, .int 0, .int 0, .int 0, .int 0, .int 0, .int 0, .ref (am 6), .int 0, .ref (am 7), .int 0, .ref (am 8), .ref (am 9), .int (-1), .int 0, .int 0, .int (-1), .int 0, .ref (am 10), .int 0, .ref (am 11), .ref (am 12), .ref (am 13), .ref (am 14), .long 0, .ref (am 15), .ref (am 16), .ref (am 17), .ref (am 18)])), ((am 9), .inl (G.2.2 0, 110, .inl (fun _ => 0)))] sz) (fun r (_ : Unit) => r = (-3)) (fun _ => [])) 0 0 (va_A [(h0, .inr (12, [.ref (am 0), .int 0, .int 0, .ref (am 1), .ref (am 2), .ref (am 3), .ref (am 4), .ref (am 5), .int 0, .int 0, .int 0, .int 0, .int 0, .int 0, .int 0, .ref (am 6), .int 0, .ref (am 7), .int 0, .ref (am 8), .ref (am 9), .int (-1), .int 0, .int 0, .int (-1), .int 0, .ref (am 10), .int 0, .ref (am 11), .ref (am 12), .ref (am 13), .ref (am 14), .long 0, .ref (am 15), .ref (am 16), .ref (am 17), .ref (am 18)])), ((am 9), .inl (G.2.2 0, 110, .inl (fun _ => 0)))] sz) := by
  refine Met.ofW (cc := cX12_ruled) (maxL := 5) (ret := (some .int)) (by decide) rfl ?_
  intro p e s m args below meth c s₁ B hml hv
  obtain ⟨rfl, hsz, hP, hK, hD0⟩ := hv
  have hx := B.exec
  have hb := B.bytes
  have hr := B.returns
  have ht := ts_ht (atoms_spec (ws := ts_L yX12_ruled cX12_ruled 5 (some .int)) B.pre)
  have hown : s.vm.findClass RX12 = some m.cls := findClass_of_methodNamed B.named
  have hlocks := B.notSynchronized
  subst hsz
  have hD := hD0.self (sz := s.heap.size)
  generalize hAe : va_A [(h0, .inr (12, [.ref (am 0), .int 0, .int 0, .ref (am 1), .ref (am 2), .ref (am 3), .ref (am 4), .ref (am 5), .int 0, .int 0, .int 0, .int 0, .int 0, .int 0, .int 0, .ref (am 6), .int 0, .ref (am 7), .int 0, .ref (am 8), .ref (am 9), .int (-1), .int 0, .int 0, .int (-1), .int 0, .ref (am 10), .int 0, .ref (am 11), .ref (am 12), .ref (am 13), .ref (am 14), .long 0, .ref (am 15), .ref (am 16), .ref (am 17), .ref (am 18)])), ((am 9), .inl (G.2.2 0, 110, .inl (fun _ => 0)))] s.heap.size = A at hD ⊢
  have hA : ∀ q : Nat, s.heap.size ≤ q → A q := fun q h => by rw [← hAe]; exact Or.inr h
  have hS : va_S A s.heap s.heap [] := va_S.rf
  have hl := lv_entry ([.ref h0, .int b]) (n := 5) (Nat.le_of_ble_eq_true rfl)
  rw [lg_entry_eq]
  generalize (lg_sl ([.ref h0, .int b]) ++ List.replicate (5 - (lg_sl ([.ref h0, .int b])).length) Slot.unset).toArray = ls at hl ⊢
  have hl : lv_has ls 5 [(0, .ref h0), (1, .int b)] := hl
  refine lv_aload_n hx hb dX12_ruled_0 rfl (lv_at hl 0 rfl) ?_
  have hPc := hP.sub (ws' := [(h0, .inr (12, [.ref (am 0), .int 0, .int 0, .ref (am 1), .ref (am 2), .ref (am 3), .ref (am 4), .ref (am 5), .int 0, .int 0, .int 0, .int 0, .int 0, .int 0, .int 0, .ref (am 6), .int 0, .ref (am 7), .int 0, .ref (am 8), .ref (am 9), .int (-1), .int 0, .int 0, .int (-1), .int 0, .ref (am 10), .int 0, .ref (am 11), .ref (am 12), .ref (am 13), .ref (am 14), .long 0, .ref (am 15), .ref (am 16), .ref (am 17), .ref (am 18)])), ((am 9), .inl (G.2.2 0, 110, .inl (fun _ => 0)))]) [0, 1] rfl
  have hDc := hD.sub (ws' := [(h0, .inr (12, [.ref (am 0), .int 0, .int 0, .ref (am 1), .ref (am 2), .ref (am 3), .ref (am 4), .ref (am 5), .int 0, .int 0, .int 0, .int 0, .int 0, .int 0, .int 0, .ref (am 6), .int 0, .ref (am 7), .int 0, .ref (am 8), .ref (am 9), .int (-1), .int 0, .int 0, .int (-1), .int 0, .ref (am 10), .int 0, .ref (am 11), .ref (am 12), .ref (am 13), .ref (am 14), .long 0, .ref (am 15), .ref (am 16), .ref (am 17), .ref (am 18)])), ((am 9), .inl (G.2.2 0, 110, .inl (fun _ => 0)))]) [0, 1] (by decide) rfl
  refine gq_callI (wr := []) (va_runV (As := []) (rest := []) ⟨hx, hb, hml, hown, ht⟩ (c_M_isSale l G H.size h0 am) (cwV 0 ht (ts_gV wd_1720 wd_1722 wd_102 wd_134 wd_1723) rfl rfl rfl (by decide +kernel) ⟨Nat.le_of_ble_eq_true rfl, Nat.le_of_ble_eq_true rfl⟩) (gc_preV (ci := 12) (q0 := 0) hK hPc hDc rfl rfl) rfl rfl hl.1 rfl (lv_room (Nat.le_of_ble_eq_true rfl)) dX12_ruled_1 ⟨Nat.le_of_ble_eq_true rfl, Nat.le_of_ble_eq_true rfl⟩) hP hD hS hA [0, 1] [] rfl rfl (by decide) (by decide) (fun r u H locs hw hP hD hS => ?_)
  have hw : r = 0 := hw
  subst hw
  have hP : va_P (gg_D G) classes [(h0, .inr (12, [.ref (am 0), .int 0, .int 0, .ref (am 1), .ref (am 2), .ref (am 3), .ref (am 4), .ref (am 5), .int 0, .int 0, .int 0, .int 0, .int 0, .int 0, .int 0, .ref (am 6), .int 0, .ref (am 7), .int 0, .ref (am 8), .ref (am 9), .int (-1), .int 0, .int 0, .int (-1), .int 0, .ref (am 10), .int 0, .ref (am 11), .ref (am 12), .ref (am 13), .ref (am 14), .long 0, .ref (am 15), .ref (am 16), .ref (am 17), .ref (am 18)])), ((am 9), .inl (G.2.2 0, 110, .inl (fun _ => 0)))] H := hP
  have hD : va_D A [(h0, .inr (12, [.ref (am 0), .int 0, .int 0, .ref (am 1), .ref (am 2), .ref (am 3), .ref (am 4), .ref (am 5), .int 0, .int 0, .int 0, .int 0, .int 0, .int 0, .int 0, .ref (am 6), .int 0, .ref (am 7), .int 0, .ref (am 8), .ref (am 9), .int (-1), .int 0, .int 0, .int (-1), .int 0, .ref (am 10), .int 0, .ref (am 11), .ref (am 12), .ref (am 13), .ref (am 14), .long 0, .ref (am 15), .ref (am 16), .ref (am 17), .ref (am 18)])), ((am 9), .inl (G.2.2 0, 110, .inl (fun _ => 0)))] := hD
  refine lv_if_eq (tgt := 17) hx hb dX12_ruled_4 (by decide) (fun _ => ?_) (fun c0 => absurd (by decide +kernel) c0)
  refine lv_bipush (v := (-3)) hx hb dX12_ruled_17 (by decide +kernel) ?_
  have hP9 := hP.sub (ws' := []) [] rfl
  have hD9 := hD.sub (ws' := []) [] (by decide) rfl
  exact W.iret (v := (-3)) hx hb hr (gq_endI () rfl hP9 hD9 hS) hS.2.2 dX12_ruled_19
set_option maxHeartbeats 4000000 in
set_option maxRecDepth 100000 in
theorem c_M_look (l : Launch) (G : gg_T) (sz : Nat) (h0 : Nat) (am : Nat → Nat) (b : Int32) : Met l yX12_look (ts_L yX12_look cX12_look 6 (some .int)) ({ frames := 1, cells := 0, slots := 0, locals := 20 }) (gc_P G [(h0, .inr (12, [.ref (am 0), .int 0, .int 0, .ref (am 1), .ref (am 2), .ref (am 3), .ref (am 4), .ref (am 5), .int 0, .int 0, .int 0, .int 0, .int 0, .int 0, .int 0, .ref (am 6), .int 0, .ref (am 7), .int 0, .ref (am 8), .ref (am 9), .int (-1), .int 0, .int 0, .int (-1), .int 0, .ref (am 10), .int 0, .ref (am 11), .ref (am 12), .ref (am 13), .ref (am 14), .long 0, .ref (am 15), .ref (am 16), .ref (am 17), .ref (am 18)])), ((am 9), .inl (G.2.2 0, 110, .inl (fun _ => 0)))] sz [.ref h0, .int b]) (gc_I G (va_A [(h0, .inr (12, [.ref (am 0), .int 0, .int 0, .ref (am 1), .ref (am 2), .ref (am 3), .ref (am 4), .ref (am 5), .int 0, .int 0, .int 0, .int 0, .int 0, .int 0, .int 0, .ref (am 6), .int 0, .ref (am 7), .int 0, .ref (am 8), .ref (am 9), .int (-1), .int 0, .int 0, .int (-1), .int 0, .ref (am 10), .int 0, .ref (am 11), .ref (am 12), .ref (am 13), .ref (am 14), .long 0, .ref (am 15), .ref (am 16), .ref (am 17), .ref (am 18)])), ((am 9), .inl (G.2.2 0, 110, .inl (fun _ => 0)))] sz) (fun r (_ : Unit) => r = (-1)) (fun _ => [])) 0 0 (va_A [(h0, .inr (12, [.ref (am 0), .int 0, .int 0, .ref (am 1), .ref (am 2), .ref (am 3), .ref (am 4), .ref (am 5), .int 0, .int 0, .int 0, .int 0, .int 0, .int 0, .int 0, .ref (am 6), .int 0, .ref (am 7), .int 0, .ref (am 8), .ref (am 9), .int (-1), .int 0, .int 0, .int (-1), .int 0, .ref (am 10), .int 0, .ref (am 11), .ref (am 12), .ref (am 13), .ref (am 14), .long 0, .ref (am 15), .ref (am 16), .ref (am 17), .ref (am 18)])), ((am 9), .inl (G.2.2 0, 110, .inl (fun _ => 0)))] sz) := by
  refine Met.ofW (cc := cX12_look) (maxL := 6) (ret := (some .int)) (by decide) rfl ?_
  intro p e s m args below meth c s₁ B hml hv
  obtain ⟨rfl, hsz, hP, hK, hD0⟩ := hv
  have hx := B.exec
  have hb := B.bytes
  have hr := B.returns
  have ht := ts_ht (atoms_spec (ws := ts_L yX12_look cX12_look 6 (some .int)) B.pre)
  have hown : s.vm.findClass RX12 = some m.cls := findClass_of_methodNamed B.named
  have hlocks := B.notSynchronized
  subst hsz
  have hD := hD0.self (sz := s.heap.size)
  generalize hAe : va_A [(h0, .inr (12, [.ref (am 0), .int 0, .int 0, .ref (am 1), .ref (am 2), .ref (am 3), .ref (am 4), .ref (am 5), .int 0, .int 0, .int 0, .int 0, .int 0, .int 0, .int 0, .ref (am 6), .int 0, .ref (am 7), .int 0, .ref (am 8), .ref (am 9), .int (-1), .int 0, .int 0, .int (-1), .int 0, .ref (am 10), .int 0, .ref (am 11), .ref (am 12), .ref (am 13), .ref (am 14), .long 0, .ref (am 15), .ref (am 16), .ref (am 17), .ref (am 18)])), ((am 9), .inl (G.2.2 0, 110, .inl (fun _ => 0)))] s.heap.size = A at hD ⊢
  have hA : ∀ q : Nat, s.heap.size ≤ q → A q := fun q h => by rw [← hAe]; exact Or.inr h
  have hS : va_S A s.heap s.heap [] := va_S.rf
  have hl := lv_entry ([.ref h0, .int b]) (n := 6) (Nat.le_of_ble_eq_true rfl)
  rw [lg_entry_eq]
  generalize (lg_sl ([.ref h0, .int b]) ++ List.replicate (6 - (lg_sl ([.ref h0, .int b])).length) Slot.unset).toArray = ls at hl ⊢
  have hl : lv_has ls 6 [(0, .ref h0), (1, .int b)] := hl
  refine lv_aload_n hx hb dX12_look_0 rfl (lv_at hl 0 rfl) ?_
  have hPc := hP.sub (ws' := [(h0, .inr (12, [.ref (am 0), .int 0, .int 0, .ref (am 1), .ref (am 2), .ref (am 3), .ref (am 4), .ref (am 5), .int 0, .int 0, .int 0, .int 0, .int 0, .int 0, .int 0, .ref (am 6), .int 0, .ref (am 7), .int 0, .ref (am 8), .ref (am 9), .int (-1), .int 0, .int 0, .int (-1), .int 0, .ref (am 10), .int 0, .ref (am 11), .ref (am 12), .ref (am 13), .ref (am 14), .long 0, .ref (am 15), .ref (am 16), .ref (am 17), .ref (am 18)])), ((am 9), .inl (G.2.2 0, 110, .inl (fun _ => 0)))]) [0, 1] rfl
  have hDc := hD.sub (ws' := [(h0, .inr (12, [.ref (am 0), .int 0, .int 0, .ref (am 1), .ref (am 2), .ref (am 3), .ref (am 4), .ref (am 5), .int 0, .int 0, .int 0, .int 0, .int 0, .int 0, .int 0, .ref (am 6), .int 0, .ref (am 7), .int 0, .ref (am 8), .ref (am 9), .int (-1), .int 0, .int 0, .int (-1), .int 0, .ref (am 10), .int 0, .ref (am 11), .ref (am 12), .ref (am 13), .ref (am 14), .long 0, .ref (am 15), .ref (am 16), .ref (am 17), .ref (am 18)])), ((am 9), .inl (G.2.2 0, 110, .inl (fun _ => 0)))]) [0, 1] (by decide) rfl
  refine gq_callI (wr := []) (va_runV (As := []) (rest := []) ⟨hx, hb, hml, hown, ht⟩ (c_M_isSale l G H.size h0 am) (cwV 0 ht (ts_gV wd_1720 wd_1722 wd_102 wd_134 wd_1723) rfl rfl rfl (by decide +kernel) ⟨Nat.le_of_ble_eq_true rfl, Nat.le_of_ble_eq_true rfl⟩) (gc_preV (ci := 12) (q0 := 0) hK hPc hDc rfl rfl) rfl rfl hl.1 rfl (lv_room (Nat.le_of_ble_eq_true rfl)) dX12_look_1 ⟨Nat.le_of_ble_eq_true rfl, Nat.le_of_ble_eq_true rfl⟩) hP hD hS hA [0, 1] [] rfl rfl (by decide) (by decide) (fun r u H locs hw hP hD hS => ?_)
  have hw : r = 0 := hw
  subst hw
  have hP : va_P (gg_D G) classes [(h0, .inr (12, [.ref (am 0), .int 0, .int 0, .ref (am 1), .ref (am 2), .ref (am 3), .ref (am 4), .ref (am 5), .int 0, .int 0, .int 0, .int 0, .int 0, .int 0, .int 0, .ref (am 6), .int 0, .ref (am 7), .int 0, .ref (am 8), .ref (am 9), .int (-1), .int 0, .int 0, .int (-1), .int 0, .ref (am 10), .int 0, .ref (am 11), .ref (am 12), .ref (am 13), .ref (am 14), .long 0, .ref (am 15), .ref (am 16), .ref (am 17), .ref (am 18)])), ((am 9), .inl (G.2.2 0, 110, .inl (fun _ => 0)))] H := hP
  have hD : va_D A [(h0, .inr (12, [.ref (am 0), .int 0, .int 0, .ref (am 1), .ref (am 2), .ref (am 3), .ref (am 4), .ref (am 5), .int 0, .int 0, .int 0, .int 0, .int 0, .int 0, .int 0, .ref (am 6), .int 0, .ref (am 7), .int 0, .ref (am 8), .ref (am 9), .int (-1), .int 0, .int 0, .int (-1), .int 0, .ref (am 10), .int 0, .ref (am 11), .ref (am 12), .ref (am 13), .ref (am 14), .long 0, .ref (am 15), .ref (am 16), .ref (am 17), .ref (am 18)])), ((am 9), .inl (G.2.2 0, 110, .inl (fun _ => 0)))] := hD
  refine lv_if_eq (tgt := 17) hx hb dX12_look_4 (by decide) (fun _ => ?_) (fun c0 => absurd (by decide +kernel) c0)
  refine lv_iconst (v := (-1)) hx hb dX12_look_17 (by decide) ?_
  have hP9 := hP.sub (ws' := []) [] rfl
  have hD9 := hD.sub (ws' := []) [] (by decide) rfl
  exact W.iret (v := (-1)) hx hb hr (gq_endI () rfl hP9 hD9 hS) hS.2.2 dX12_look_18
set_option maxHeartbeats 4000000 in
set_option maxRecDepth 100000 in
theorem c_M_coughs (l : Launch) (G : gg_T) (sz : Nat) (h0 : Nat) (am : Nat → Nat) (b : Int32) (w : Int32) (z : Int32) (y : Int32) : Met l yX12_coughs (ts_L yX12_coughs cX12_coughs 10 (some .int)) ({ frames := 1, cells := 0, slots := 0, locals := 20 }) (gc_P G [(h0, .inr (12, [.ref (am 0), .int 0, .int 0, .ref (am 1), .ref (am 2), .ref (am 3), .ref (am 4), .ref (am 5), .int 0, .int 0, .int 0, .int 0, .int 0, .int 0, .int 0, .ref (am 6), .int 0, .ref (am 7), .int 0, .ref (am 8), .ref (am 9), .int (-1), .int 0, .int 0, .int (-1), .int 0, .ref (am 10), .int 0, .ref (am 11), .ref (am 12), .ref (am 13), .ref (am 14), .long 0, .ref (am 15), .ref (am 16), .ref (am 17), .ref (am 18)])), ((am 9), .inl (G.2.2 0, 110, .inl (fun _ => 0)))] sz [.ref h0, .int b, .int w, .int z, .int y]) (gc_I G (va_A [(h0, .inr (12, [.ref (am 0), .int 0, .int 0, .ref (am 1), .ref (am 2), .ref (am 3), .ref (am 4), .ref (am 5), .int 0, .int 0, .int 0, .int 0, .int 0, .int 0, .int 0, .ref (am 6), .int 0, .ref (am 7), .int 0, .ref (am 8), .ref (am 9), .int (-1), .int 0, .int 0, .int (-1), .int 0, .ref (am 10), .int 0, .ref (am 11), .ref (am 12), .ref (am 13), .ref (am 14), .long 0, .ref (am 15), .ref (am 16), .ref (am 17), .ref (am 18)])), ((am 9), .inl (G.2.2 0, 110, .inl (fun _ => 0)))] sz) (fun r (_ : Unit) => r = (-1)) (fun _ => [])) 0 0 (va_A [(h0, .inr (12, [.ref (am 0), .int 0, .int 0, .ref (am 1), .ref (am 2), .ref (am 3), .ref (am 4), .ref (am 5), .int 0, .int 0, .int 0, .int 0, .int 0, .int 0, .int 0, .ref (am 6), .int 0, .ref (am 7), .int 0, .ref (am 8), .ref (am 9), .int (-1), .int 0, .int 0, .int (-1), .int 0, .ref (am 10), .int 0, .ref (am 11), .ref (am 12), .ref (am 13), .ref (am 14), .long 0, .ref (am 15), .ref (am 16), .ref (am 17), .ref (am 18)])), ((am 9), .inl (G.2.2 0, 110, .inl (fun _ => 0)))] sz) := by
  refine Met.ofW (cc := cX12_coughs) (maxL := 10) (ret := (some .int)) (by decide) rfl ?_
  intro p e s m args below meth c s₁ B hml hv
  obtain ⟨rfl, hsz, hP, hK, hD0⟩ := hv
  have hx := B.exec
  have hb := B.bytes
  have hr := B.returns
  have ht := ts_ht (atoms_spec (ws := ts_L yX12_coughs cX12_coughs 10 (some .int)) B.pre)
  have hown : s.vm.findClass RX12 = some m.cls := findClass_of_methodNamed B.named
  have hlocks := B.notSynchronized
  subst hsz
  have hD := hD0.self (sz := s.heap.size)
  generalize hAe : va_A [(h0, .inr (12, [.ref (am 0), .int 0, .int 0, .ref (am 1), .ref (am 2), .ref (am 3), .ref (am 4), .ref (am 5), .int 0, .int 0, .int 0, .int 0, .int 0, .int 0, .int 0, .ref (am 6), .int 0, .ref (am 7), .int 0, .ref (am 8), .ref (am 9), .int (-1), .int 0, .int 0, .int (-1), .int 0, .ref (am 10), .int 0, .ref (am 11), .ref (am 12), .ref (am 13), .ref (am 14), .long 0, .ref (am 15), .ref (am 16), .ref (am 17), .ref (am 18)])), ((am 9), .inl (G.2.2 0, 110, .inl (fun _ => 0)))] s.heap.size = A at hD ⊢
  have hA : ∀ q : Nat, s.heap.size ≤ q → A q := fun q h => by rw [← hAe]; exact Or.inr h
  have hS : va_S A s.heap s.heap [] := va_S.rf
  have hl := lv_entry ([.ref h0, .int b, .int w, .int z, .int y]) (n := 10) (Nat.le_of_ble_eq_true rfl)
  rw [lg_entry_eq]
  generalize (lg_sl ([.ref h0, .int b, .int w, .int z, .int y]) ++ List.replicate (10 - (lg_sl ([.ref h0, .int b, .int w, .int z, .int y])).length) Slot.unset).toArray = ls at hl ⊢
  have hl : lv_has ls 10 [(0, .ref h0), (1, .int b), (2, .int w), (3, .int z), (4, .int y)] := hl
  refine lv_aload_n hx hb dX12_coughs_0 rfl (lv_at hl 0 rfl) ?_
  have hPc := hP.sub (ws' := [(h0, .inr (12, [.ref (am 0), .int 0, .int 0, .ref (am 1), .ref (am 2), .ref (am 3), .ref (am 4), .ref (am 5), .int 0, .int 0, .int 0, .int 0, .int 0, .int 0, .int 0, .ref (am 6), .int 0, .ref (am 7), .int 0, .ref (am 8), .ref (am 9), .int (-1), .int 0, .int 0, .int (-1), .int 0, .ref (am 10), .int 0, .ref (am 11), .ref (am 12), .ref (am 13), .ref (am 14), .long 0, .ref (am 15), .ref (am 16), .ref (am 17), .ref (am 18)])), ((am 9), .inl (G.2.2 0, 110, .inl (fun _ => 0)))]) [0, 1] rfl
  have hDc := hD.sub (ws' := [(h0, .inr (12, [.ref (am 0), .int 0, .int 0, .ref (am 1), .ref (am 2), .ref (am 3), .ref (am 4), .ref (am 5), .int 0, .int 0, .int 0, .int 0, .int 0, .int 0, .int 0, .ref (am 6), .int 0, .ref (am 7), .int 0, .ref (am 8), .ref (am 9), .int (-1), .int 0, .int 0, .int (-1), .int 0, .ref (am 10), .int 0, .ref (am 11), .ref (am 12), .ref (am 13), .ref (am 14), .long 0, .ref (am 15), .ref (am 16), .ref (am 17), .ref (am 18)])), ((am 9), .inl (G.2.2 0, 110, .inl (fun _ => 0)))]) [0, 1] (by decide) rfl
  refine gq_callI (wr := []) (va_runV (As := []) (rest := []) ⟨hx, hb, hml, hown, ht⟩ (c_M_isSale l G H.size h0 am) (cwV 0 ht (ts_gV wd_1720 wd_1722 wd_102 wd_134 wd_1723) rfl rfl rfl (by decide +kernel) ⟨Nat.le_of_ble_eq_true rfl, Nat.le_of_ble_eq_true rfl⟩) (gc_preV (ci := 12) (q0 := 0) hK hPc hDc rfl rfl) rfl rfl hl.1 rfl (lv_room (Nat.le_of_ble_eq_true rfl)) dX12_coughs_1 ⟨Nat.le_of_ble_eq_true rfl, Nat.le_of_ble_eq_true rfl⟩) hP hD hS hA [0, 1] [] rfl rfl (by decide) (by decide) (fun r u H locs hw hP hD hS => ?_)
  have hw : r = 0 := hw
  subst hw
  have hP : va_P (gg_D G) classes [(h0, .inr (12, [.ref (am 0), .int 0, .int 0, .ref (am 1), .ref (am 2), .ref (am 3), .ref (am 4), .ref (am 5), .int 0, .int 0, .int 0, .int 0, .int 0, .int 0, .int 0, .ref (am 6), .int 0, .ref (am 7), .int 0, .ref (am 8), .ref (am 9), .int (-1), .int 0, .int 0, .int (-1), .int 0, .ref (am 10), .int 0, .ref (am 11), .ref (am 12), .ref (am 13), .ref (am 14), .long 0, .ref (am 15), .ref (am 16), .ref (am 17), .ref (am 18)])), ((am 9), .inl (G.2.2 0, 110, .inl (fun _ => 0)))] H := hP
  have hD : va_D A [(h0, .inr (12, [.ref (am 0), .int 0, .int 0, .ref (am 1), .ref (am 2), .ref (am 3), .ref (am 4), .ref (am 5), .int 0, .int 0, .int 0, .int 0, .int 0, .int 0, .int 0, .ref (am 6), .int 0, .ref (am 7), .int 0, .ref (am 8), .ref (am 9), .int (-1), .int 0, .int 0, .int (-1), .int 0, .ref (am 10), .int 0, .ref (am 11), .ref (am 12), .ref (am 13), .ref (am 14), .long 0, .ref (am 15), .ref (am 16), .ref (am 17), .ref (am 18)])), ((am 9), .inl (G.2.2 0, 110, .inl (fun _ => 0)))] := hD
  refine lv_if_eq (tgt := 54) hx hb dX12_coughs_4 (by decide) (fun _ => ?_) (fun c0 => absurd (by decide +kernel) c0)
  refine lv_iconst (v := (-1)) hx hb dX12_coughs_54 (by decide) ?_
  have hP9 := hP.sub (ws' := []) [] rfl
  have hD9 := hD.sub (ws' := []) [] (by decide) rfl
  exact W.iret (v := (-1)) hx hb hr (gq_endI () rfl hP9 hD9 hS) hS.2.2 dX12_coughs_55
set_option maxHeartbeats 4000000 in
set_option maxRecDepth 100000 in
theorem c_M_undo (l : Launch) (G : gg_T) (sz : Nat) (h0 : Nat) (am : Nat → Nat) : Met l yX12_undo (ts_L yX12_undo cX12_undo 2 (some .int)) ({ frames := 0, cells := 0, slots := 0, locals := 0 }) (gc_P G [(h0, .inr (12, [.ref (am 0), .int 0, .int 0, .ref (am 1), .ref (am 2), .ref (am 3), .ref (am 4), .ref (am 5), .int 0, .int 0, .int 0, .int 0, .int 0, .int 0, .int 0, .ref (am 6), .int 0, .ref (am 7), .int 0, .ref (am 8), .ref (am 9), .int (-1), .int 0, .int 0, .int (-1), .int 0, .ref (am 10), .int 0, .ref (am 11), .ref (am 12), .ref (am 13), .ref (am 14), .long 0, .ref (am 15), .ref (am 16), .ref (am 17), .ref (am 18)]))] sz [.ref h0]) (gc_I G (va_A [(h0, .inr (12, [.ref (am 0), .int 0, .int 0, .ref (am 1), .ref (am 2), .ref (am 3), .ref (am 4), .ref (am 5), .int 0, .int 0, .int 0, .int 0, .int 0, .int 0, .int 0, .ref (am 6), .int 0, .ref (am 7), .int 0, .ref (am 8), .ref (am 9), .int (-1), .int 0, .int 0, .int (-1), .int 0, .ref (am 10), .int 0, .ref (am 11), .ref (am 12), .ref (am 13), .ref (am 14), .long 0, .ref (am 15), .ref (am 16), .ref (am 17), .ref (am 18)]))] sz) (fun r (_ : Unit) => r = (-1)) (fun _ => [])) 0 0 (va_A [(h0, .inr (12, [.ref (am 0), .int 0, .int 0, .ref (am 1), .ref (am 2), .ref (am 3), .ref (am 4), .ref (am 5), .int 0, .int 0, .int 0, .int 0, .int 0, .int 0, .int 0, .ref (am 6), .int 0, .ref (am 7), .int 0, .ref (am 8), .ref (am 9), .int (-1), .int 0, .int 0, .int (-1), .int 0, .ref (am 10), .int 0, .ref (am 11), .ref (am 12), .ref (am 13), .ref (am 14), .long 0, .ref (am 15), .ref (am 16), .ref (am 17), .ref (am 18)]))] sz) := by
  refine Met.ofW (cc := cX12_undo) (maxL := 2) (ret := (some .int)) (by decide) rfl ?_
  intro p e s m args below meth c s₁ B hml hv
  obtain ⟨rfl, hsz, hP, hK, hD0⟩ := hv
  have hx := B.exec
  have hb := B.bytes
  have hr := B.returns
  have ht := ts_ht (atoms_spec (ws := ts_L yX12_undo cX12_undo 2 (some .int)) B.pre)
  have hown : s.vm.findClass RX12 = some m.cls := findClass_of_methodNamed B.named
  have hlocks := B.notSynchronized
  subst hsz
  have hD := hD0.self (sz := s.heap.size)
  generalize hAe : va_A [(h0, .inr (12, [.ref (am 0), .int 0, .int 0, .ref (am 1), .ref (am 2), .ref (am 3), .ref (am 4), .ref (am 5), .int 0, .int 0, .int 0, .int 0, .int 0, .int 0, .int 0, .ref (am 6), .int 0, .ref (am 7), .int 0, .ref (am 8), .ref (am 9), .int (-1), .int 0, .int 0, .int (-1), .int 0, .ref (am 10), .int 0, .ref (am 11), .ref (am 12), .ref (am 13), .ref (am 14), .long 0, .ref (am 15), .ref (am 16), .ref (am 17), .ref (am 18)]))] s.heap.size = A at hD ⊢
  have hA : ∀ q : Nat, s.heap.size ≤ q → A q := fun q h => by rw [← hAe]; exact Or.inr h
  have hS : va_S A s.heap s.heap [] := va_S.rf
  have hl := lv_entry ([.ref h0]) (n := 2) (Nat.le_of_ble_eq_true rfl)
  rw [lg_entry_eq]
  generalize (lg_sl ([.ref h0]) ++ List.replicate (2 - (lg_sl ([.ref h0])).length) Slot.unset).toArray = ls at hl ⊢
  have hl : lv_has ls 2 [(0, .ref h0)] := hl
  refine lv_aload_n hx hb dX12_undo_0 rfl (lv_at hl 0 rfl) ?_
  refine gq_get hx hb ht hown hK hP i_X12 0 rfl rfl 27 (by decide) wd_1279 rfl rfl dX12_undo_1 ?_
  refine lv_if_ne (tgt := 9) hx hb dX12_undo_4 (by decide) (fun c0 => absurd (by decide +kernel) c0) (fun _ => ?_)
  refine lv_iconst (v := (-1)) hx hb dX12_undo_7 (by decide) ?_
  have hP9 := hP.sub (ws' := []) [] rfl
  have hD9 := hD.sub (ws' := []) [] (by decide) rfl
  exact W.iret (v := (-1)) hx hb hr (gq_endI () rfl hP9 hD9 hS) hS.2.2 dX12_undo_8
set_option maxHeartbeats 4000000 in
set_option maxRecDepth 100000 in
theorem c_M_log (l : Launch) (G : gg_T) (sz : Nat) (h0 : Nat) (am : Nat → Nat) (n : Int32) (w : Int32) (z : Int32) : Met l yX12_log (ts_L yX12_log cX12_log 5 (some .int)) ({ frames := 1, cells := 0, slots := 0, locals := 21 }) (gc_P G [(h0, .inr (12, [.ref (am 0), .int 0, .int 0, .ref (am 1), .ref (am 2), .ref (am 3), .ref (am 4), .ref (am 5), .int 0, .int 0, .int 0, .int 0, .int 0, .int 0, .int 0, .ref (am 6), .int 0, .ref (am 7), .int 0, .ref (am 8), .ref (am 9), .int (-1), .int 0, .int 0, .int (-1), .int 0, .ref (am 10), .int 0, .ref (am 11), .ref (am 12), .ref (am 13), .ref (am 14), .long 0, .ref (am 15), .ref (am 16), .ref (am 17), .ref (am 18)])), ((am 9), .inl (G.2.2 0, 110, .inl (fun _ => 0)))] sz [.ref h0, .int n, .int w, .int z]) (gc_I G (va_A [(h0, .inr (12, [.ref (am 0), .int 0, .int 0, .ref (am 1), .ref (am 2), .ref (am 3), .ref (am 4), .ref (am 5), .int 0, .int 0, .int 0, .int 0, .int 0, .int 0, .int 0, .ref (am 6), .int 0, .ref (am 7), .int 0, .ref (am 8), .ref (am 9), .int (-1), .int 0, .int 0, .int (-1), .int 0, .ref (am 10), .int 0, .ref (am 11), .ref (am 12), .ref (am 13), .ref (am 14), .long 0, .ref (am 15), .ref (am 16), .ref (am 17), .ref (am 18)])), ((am 9), .inl (G.2.2 0, 110, .inl (fun _ => 0)))] sz) (fun r (_ : Unit) => r = (if n = -1 then 0 else -2)) (fun _ => [])) 0 0 (va_A [(h0, .inr (12, [.ref (am 0), .int 0, .int 0, .ref (am 1), .ref (am 2), .ref (am 3), .ref (am 4), .ref (am 5), .int 0, .int 0, .int 0, .int 0, .int 0, .int 0, .int 0, .ref (am 6), .int 0, .ref (am 7), .int 0, .ref (am 8), .ref (am 9), .int (-1), .int 0, .int 0, .int (-1), .int 0, .ref (am 10), .int 0, .ref (am 11), .ref (am 12), .ref (am 13), .ref (am 14), .long 0, .ref (am 15), .ref (am 16), .ref (am 17), .ref (am 18)])), ((am 9), .inl (G.2.2 0, 110, .inl (fun _ => 0)))] sz) := by
  refine Met.ofW (cc := cX12_log) (maxL := 5) (ret := (some .int)) (by decide) rfl ?_
  intro p e s m args below meth c s₁ B hml hv
  obtain ⟨rfl, hsz, hP, hK, hD0⟩ := hv
  have hx := B.exec
  have hb := B.bytes
  have hr := B.returns
  have ht := ts_ht (atoms_spec (ws := ts_L yX12_log cX12_log 5 (some .int)) B.pre)
  have hown : s.vm.findClass RX12 = some m.cls := findClass_of_methodNamed B.named
  have hlocks := B.notSynchronized
  subst hsz
  have hD := hD0.self (sz := s.heap.size)
  generalize hAe : va_A [(h0, .inr (12, [.ref (am 0), .int 0, .int 0, .ref (am 1), .ref (am 2), .ref (am 3), .ref (am 4), .ref (am 5), .int 0, .int 0, .int 0, .int 0, .int 0, .int 0, .int 0, .ref (am 6), .int 0, .ref (am 7), .int 0, .ref (am 8), .ref (am 9), .int (-1), .int 0, .int 0, .int (-1), .int 0, .ref (am 10), .int 0, .ref (am 11), .ref (am 12), .ref (am 13), .ref (am 14), .long 0, .ref (am 15), .ref (am 16), .ref (am 17), .ref (am 18)])), ((am 9), .inl (G.2.2 0, 110, .inl (fun _ => 0)))] s.heap.size = A at hD ⊢
  have hA : ∀ q : Nat, s.heap.size ≤ q → A q := fun q h => by rw [← hAe]; exact Or.inr h
  have hS : va_S A s.heap s.heap [] := va_S.rf
  have hl := lv_entry ([.ref h0, .int n, .int w, .int z]) (n := 5) (Nat.le_of_ble_eq_true rfl)
  rw [lg_entry_eq]
  generalize (lg_sl ([.ref h0, .int n, .int w, .int z]) ++ List.replicate (5 - (lg_sl ([.ref h0, .int n, .int w, .int z])).length) Slot.unset).toArray = ls at hl ⊢
  have hl : lv_has ls 5 [(0, .ref h0), (1, .int n), (2, .int w), (3, .int z)] := hl
  by_cases c_1 : n = (-1)
  · subst c_1
    refine lv_iload_n hx hb dX12_log_0 rfl (lv_at hl 1 rfl) ?_
    refine lv_iconst (v := (-1)) hx hb dX12_log_1 (by decide) ?_
    refine lv_icmp_ne (tgt := 15) hx hb dX12_log_2 (by decide) (fun c0 => absurd (by decide +kernel) c0) (fun _ => ?_)
    refine lv_aload_n hx hb dX12_log_5 rfl (lv_at hl 0 rfl) ?_
    refine gq_get hx hb ht hown hK hP i_X12 0 rfl rfl 20 (by decide) wd_1272 rfl rfl dX12_log_6 ?_
    refine lv_bipush (v := 109) hx hb dX12_log_9 (by decide +kernel) ?_
    refine lv_iconst (v := 0) hx hb dX12_log_11 (by decide) ?_
    refine gq_iast (ws' := [(h0, .inr (12, [.ref (am 0), .int 0, .int 0, .ref (am 1), .ref (am 2), .ref (am 3), .ref (am 4), .ref (am 5), .int 0, .int 0, .int 0, .int 0, .int 0, .int 0, .int 0, .ref (am 6), .int 0, .ref (am 7), .int 0, .ref (am 8), .ref (am 9), .int (-1), .int 0, .int 0, .int (-1), .int 0, .ref (am 10), .int 0, .ref (am 11), .ref (am 12), .ref (am 13), .ref (am 14), .long 0, .ref (am 15), .ref (am 16), .ref (am 17), .ref (am 18)])), ((am 9), .inl (G.2.2 0, 110, .inl (fun _ => 0)))]) hx hb hK hP hD hS 1 rfl (fun _ => 0) (by unfold vp_in; decide +kernel) (up_z _ _) rfl dX12_log_12 (fun H locs hP hD hS => ?_)
    refine lv_iconst (v := 0) hx hb dX12_log_13 (by decide) ?_
    have hP9 := hP.sub (ws' := []) [] rfl
    have hD9 := hD.sub (ws' := []) [] (by decide) rfl
    exact W.iret (v := 0) hx hb hr (gq_endI () (by decide +kernel) hP9 hD9 hS) hS.2.2 dX12_log_14
  · refine lv_iload_n hx hb dX12_log_0 rfl (lv_at hl 1 rfl) ?_
    refine lv_iconst (v := (-1)) hx hb dX12_log_1 (by decide) ?_
    refine lv_icmp_ne (tgt := 15) hx hb dX12_log_2 (by decide) (fun _ => ?_) (fun c0 => False.elim (by have k0 : ((-1) : Int32).toInt = -1 := by decide +kernel; simp only [Int32.lt_iff_toInt_lt, Int32.le_iff_toInt_le, ← Int32.toInt_inj] at c_1 c0; omega))
    refine lv_aload_n hx hb dX12_log_15 rfl (lv_at hl 0 rfl) ?_
    refine lv_iload_n hx hb dX12_log_16 rfl (lv_at hl 1 rfl) ?_
    have hPc := hP.sub (ws' := [(h0, .inr (12, [.ref (am 0), .int 0, .int 0, .ref (am 1), .ref (am 2), .ref (am 3), .ref (am 4), .ref (am 5), .int 0, .int 0, .int 0, .int 0, .int 0, .int 0, .int 0, .ref (am 6), .int 0, .ref (am 7), .int 0, .ref (am 8), .ref (am 9), .int (-1), .int 0, .int 0, .int (-1), .int 0, .ref (am 10), .int 0, .ref (am 11), .ref (am 12), .ref (am 13), .ref (am 14), .long 0, .ref (am 15), .ref (am 16), .ref (am 17), .ref (am 18)])), ((am 9), .inl (G.2.2 0, 110, .inl (fun _ => 0)))]) [0, 1] rfl
    have hDc := hD.sub (ws' := [(h0, .inr (12, [.ref (am 0), .int 0, .int 0, .ref (am 1), .ref (am 2), .ref (am 3), .ref (am 4), .ref (am 5), .int 0, .int 0, .int 0, .int 0, .int 0, .int 0, .int 0, .ref (am 6), .int 0, .ref (am 7), .int 0, .ref (am 8), .ref (am 9), .int (-1), .int 0, .int 0, .int (-1), .int 0, .ref (am 10), .int 0, .ref (am 11), .ref (am 12), .ref (am 13), .ref (am 14), .long 0, .ref (am 15), .ref (am 16), .ref (am 17), .ref (am 18)])), ((am 9), .inl (G.2.2 0, 110, .inl (fun _ => 0)))]) [0, 1] (by decide) rfl
    refine gq_callI (wr := []) (va_runV (As := [.int n]) (rest := []) ⟨hx, hb, hml, hown, ht⟩ (c_M_isLot l G H.size h0 am n) (cwV 1 ht (ts_gV wd_1582 wd_1584 wd_79 wd_134 wd_1585) rfl rfl rfl (by decide +kernel) ⟨Nat.le_of_ble_eq_true rfl, Nat.le_of_ble_eq_true rfl⟩) (gc_preV (ci := 12) (q0 := 0) hK hPc hDc rfl rfl) rfl rfl hl.1 rfl (lv_room (Nat.le_of_ble_eq_true rfl)) dX12_log_17 ⟨Nat.le_of_ble_eq_true rfl, Nat.le_of_ble_eq_true rfl⟩) hP hD hS hA [0, 1] [] rfl rfl (by decide) (by decide) (fun r u H locs hw hP hD hS => ?_)
    have hw : r = 0 := hw
    subst hw
    have hP : va_P (gg_D G) classes [(h0, .inr (12, [.ref (am 0), .int 0, .int 0, .ref (am 1), .ref (am 2), .ref (am 3), .ref (am 4), .ref (am 5), .int 0, .int 0, .int 0, .int 0, .int 0, .int 0, .int 0, .ref (am 6), .int 0, .ref (am 7), .int 0, .ref (am 8), .ref (am 9), .int (-1), .int 0, .int 0, .int (-1), .int 0, .ref (am 10), .int 0, .ref (am 11), .ref (am 12), .ref (am 13), .ref (am 14), .long 0, .ref (am 15), .ref (am 16), .ref (am 17), .ref (am 18)])), ((am 9), .inl (G.2.2 0, 110, .inl (fun _ => 0)))] H := hP
    have hD : va_D A [(h0, .inr (12, [.ref (am 0), .int 0, .int 0, .ref (am 1), .ref (am 2), .ref (am 3), .ref (am 4), .ref (am 5), .int 0, .int 0, .int 0, .int 0, .int 0, .int 0, .int 0, .ref (am 6), .int 0, .ref (am 7), .int 0, .ref (am 8), .ref (am 9), .int (-1), .int 0, .int 0, .int (-1), .int 0, .ref (am 10), .int 0, .ref (am 11), .ref (am 12), .ref (am 13), .ref (am 14), .long 0, .ref (am 15), .ref (am 16), .ref (am 17), .ref (am 18)])), ((am 9), .inl (G.2.2 0, 110, .inl (fun _ => 0)))] := hD
    refine lv_if_eq (tgt := 60) hx hb dX12_log_20 (by decide) (fun _ => ?_) (fun c0 => absurd (by decide +kernel) c0)
    refine lv_bipush (v := (-2)) hx hb dX12_log_60 (by decide +kernel) ?_
    have hP9 := hP.sub (ws' := []) [] rfl
    have hD9 := hD.sub (ws' := []) [] (by decide) rfl
    exact W.iret (v := (-2)) hx hb hr (gq_endI () (if_neg c_1).symm hP9 hD9 hS) hS.2.2 dX12_log_62
set_option maxHeartbeats 4000000 in
set_option maxRecDepth 100000 in
theorem c_M_seed (l : Launch) (G : gg_T) (sz : Nat) (h0 : Nat) (am : Nat → Nat) (n : Int32) : Met l yX12_seed (ts_L yX12_seed cX12_seed 3 (some .int)) ({ frames := 0, cells := 0, slots := 0, locals := 0 }) (gc_P G [(h0, .inr (12, [.ref (am 0), .int 0, .int 0, .ref (am 1), .ref (am 2), .ref (am 3), .ref (am 4), .ref (am 5), .int 0, .int 0, .int 0, .int 0, .int 0, .int 0, .int 0, .ref (am 6), .int 0, .ref (am 7), .int 0, .ref (am 8), .ref (am 9), .int (-1), .int 0, .int 0, .int (-1), .int 0, .ref (am 10), .int 0, .ref (am 11), .ref (am 12), .ref (am 13), .ref (am 14), .long 0, .ref (am 15), .ref (am 16), .ref (am 17), .ref (am 18)]))] sz [.ref h0, .int n]) (gc_I G (va_A [(h0, .inr (12, [.ref (am 0), .int 0, .int 0, .ref (am 1), .ref (am 2), .ref (am 3), .ref (am 4), .ref (am 5), .int 0, .int 0, .int 0, .int 0, .int 0, .int 0, .int 0, .ref (am 6), .int 0, .ref (am 7), .int 0, .ref (am 8), .ref (am 9), .int (-1), .int 0, .int 0, .int (-1), .int 0, .ref (am 10), .int 0, .ref (am 11), .ref (am 12), .ref (am 13), .ref (am 14), .long 0, .ref (am 15), .ref (am 16), .ref (am 17), .ref (am 18)]))] sz) (fun r (_ : Unit) => r = (if n < 0 then -1 else 0)) (fun _ => [])) 0 0 (va_A [(h0, .inr (12, [.ref (am 0), .int 0, .int 0, .ref (am 1), .ref (am 2), .ref (am 3), .ref (am 4), .ref (am 5), .int 0, .int 0, .int 0, .int 0, .int 0, .int 0, .int 0, .ref (am 6), .int 0, .ref (am 7), .int 0, .ref (am 8), .ref (am 9), .int (-1), .int 0, .int 0, .int (-1), .int 0, .ref (am 10), .int 0, .ref (am 11), .ref (am 12), .ref (am 13), .ref (am 14), .long 0, .ref (am 15), .ref (am 16), .ref (am 17), .ref (am 18)]))] sz) := by
  refine Met.ofW (cc := cX12_seed) (maxL := 3) (ret := (some .int)) (by decide) rfl ?_
  intro p e s m args below meth c s₁ B hml hv
  obtain ⟨rfl, hsz, hP, hK, hD0⟩ := hv
  have hx := B.exec
  have hb := B.bytes
  have hr := B.returns
  have ht := ts_ht (atoms_spec (ws := ts_L yX12_seed cX12_seed 3 (some .int)) B.pre)
  have hown : s.vm.findClass RX12 = some m.cls := findClass_of_methodNamed B.named
  have hlocks := B.notSynchronized
  subst hsz
  have hD := hD0.self (sz := s.heap.size)
  generalize hAe : va_A [(h0, .inr (12, [.ref (am 0), .int 0, .int 0, .ref (am 1), .ref (am 2), .ref (am 3), .ref (am 4), .ref (am 5), .int 0, .int 0, .int 0, .int 0, .int 0, .int 0, .int 0, .ref (am 6), .int 0, .ref (am 7), .int 0, .ref (am 8), .ref (am 9), .int (-1), .int 0, .int 0, .int (-1), .int 0, .ref (am 10), .int 0, .ref (am 11), .ref (am 12), .ref (am 13), .ref (am 14), .long 0, .ref (am 15), .ref (am 16), .ref (am 17), .ref (am 18)]))] s.heap.size = A at hD ⊢
  have hA : ∀ q : Nat, s.heap.size ≤ q → A q := fun q h => by rw [← hAe]; exact Or.inr h
  have hS : va_S A s.heap s.heap [] := va_S.rf
  have hl := lv_entry ([.ref h0, .int n]) (n := 3) (Nat.le_of_ble_eq_true rfl)
  rw [lg_entry_eq]
  generalize (lg_sl ([.ref h0, .int n]) ++ List.replicate (3 - (lg_sl ([.ref h0, .int n])).length) Slot.unset).toArray = ls at hl ⊢
  have hl : lv_has ls 3 [(0, .ref h0), (1, .int n)] := hl
  refine lv_iload_n hx hb dX12_seed_0 rfl (lv_at hl 1 rfl) ?_
  refine lv_if_ge (tgt := 6) hx hb dX12_seed_1 (by decide) (fun c_1 => ?_) (fun c_1 => ?_)
  · refine lv_aload_n hx hb dX12_seed_6 rfl (lv_at hl 0 rfl) ?_
    refine gq_get hx hb ht hown hK hP i_X12 0 rfl rfl 22 (by decide) wd_1274 rfl rfl dX12_seed_7 ?_
    refine lv_istore_n (lv' := [(2, .int 0), (0, .ref h0), (1, .int n)]) hx hb dX12_seed_10 rfl hl (by decide) rfl (fun ls hl => ?_)
    refine lv_aload_n hx hb dX12_seed_11 rfl (lv_at hl 1 rfl) ?_
    refine lv_iload_n hx hb dX12_seed_12 rfl (lv_at hl 2 rfl) ?_
    refine gq_put (ws' := [(h0, .inr (12, [.ref (am 0), .int 0, .int 0, .ref (am 1), .ref (am 2), .ref (am 3), .ref (am 4), .ref (am 5), .int 0, .int 0, .int 0, .int 0, .int 0, .int 0, .int 0, .ref (am 6), .int 0, .ref (am 7), .int 0, .ref (am 8), .ref (am 9), .int (-1), .int n, .int 0, .int (-1), .int 0, .ref (am 10), .int 0, .ref (am 11), .ref (am 12), .ref (am 13), .ref (am 14), .long 0, .ref (am 15), .ref (am 16), .ref (am 17), .ref (am 18)]))]) hx hb ht hown hK hP hD hS i_X12 tyX12 tyX12_ok nmX12 0 rfl rfl 22 (by decide) wd_1274 rfl rfl rfl rfl (Nat.le_of_ble_eq_true rfl) rfl dX12_seed_13 (fun H locs hP hD hS => ?_)
    refine lv_iload_n hx hb dX12_seed_16 rfl (lv_at hl 0 rfl) ?_
    have hP9 := hP.sub (ws' := []) [] rfl
    have hD9 := hD.sub (ws' := []) [] (by decide) rfl
    exact W.iret (v := 0) hx hb hr (gq_endI () (if_neg c_1).symm hP9 hD9 hS) hS.2.2 dX12_seed_17
  · refine lv_iconst (v := (-1)) hx hb dX12_seed_4 (by decide) ?_
    have hP9 := hP.sub (ws' := []) [] rfl
    have hD9 := hD.sub (ws' := []) [] (by decide) rfl
    exact W.iret (v := (-1)) hx hb hr (gq_endI () (if_pos c_1).symm hP9 hD9 hS) hS.2.2 dX12_seed_5
set_option maxHeartbeats 4000000 in
set_option maxRecDepth 100000 in
theorem c_M_count (l : Launch) (G : gg_T) (sz : Nat) (h0 : Nat) (am : Nat → Nat) (n : Int32) : Met l yX12_count (ts_L yX12_count cX12_count 4 (some .int)) ({ frames := 1, cells := 0, slots := 0, locals := 23 }) (gc_P G [(h0, .inr (12, [.ref (am 0), .int 0, .int 0, .ref (am 1), .ref (am 2), .ref (am 3), .ref (am 4), .ref (am 5), .int 0, .int 0, .int 0, .int 0, .int 0, .int 0, .int 0, .ref (am 6), .int 0, .ref (am 7), .int 0, .ref (am 8), .ref (am 9), .int (-1), .int 0, .int 0, .int (-1), .int 0, .ref (am 10), .int 0, .ref (am 11), .ref (am 12), .ref (am 13), .ref (am 14), .long 0, .ref (am 15), .ref (am 16), .ref (am 17), .ref (am 18)])), ((am 9), .inl (G.2.2 0, 110, .inl (fun _ => 0)))] sz [.ref h0, .int n]) (gc_I G (va_A [(h0, .inr (12, [.ref (am 0), .int 0, .int 0, .ref (am 1), .ref (am 2), .ref (am 3), .ref (am 4), .ref (am 5), .int 0, .int 0, .int 0, .int 0, .int 0, .int 0, .int 0, .ref (am 6), .int 0, .ref (am 7), .int 0, .ref (am 8), .ref (am 9), .int (-1), .int 0, .int 0, .int (-1), .int 0, .ref (am 10), .int 0, .ref (am 11), .ref (am 12), .ref (am 13), .ref (am 14), .long 0, .ref (am 15), .ref (am 16), .ref (am 17), .ref (am 18)])), ((am 9), .inl (G.2.2 0, 110, .inl (fun _ => 0)))] sz) (fun r (_ : Unit) => r = (sp_count n)) (fun _ => [])) 0 0 (va_A [(h0, .inr (12, [.ref (am 0), .int 0, .int 0, .ref (am 1), .ref (am 2), .ref (am 3), .ref (am 4), .ref (am 5), .int 0, .int 0, .int 0, .int 0, .int 0, .int 0, .int 0, .ref (am 6), .int 0, .ref (am 7), .int 0, .ref (am 8), .ref (am 9), .int (-1), .int 0, .int 0, .int (-1), .int 0, .ref (am 10), .int 0, .ref (am 11), .ref (am 12), .ref (am 13), .ref (am 14), .long 0, .ref (am 15), .ref (am 16), .ref (am 17), .ref (am 18)])), ((am 9), .inl (G.2.2 0, 110, .inl (fun _ => 0)))] sz) := by
  refine Met.ofW (cc := cX12_count) (maxL := 4) (ret := (some .int)) (by decide) rfl ?_
  intro p e s m args below meth c s₁ B hml hv
  obtain ⟨rfl, hsz, hP, hK, hD0⟩ := hv
  have hx := B.exec
  have hb := B.bytes
  have hr := B.returns
  have ht := ts_ht (atoms_spec (ws := ts_L yX12_count cX12_count 4 (some .int)) B.pre)
  have hown : s.vm.findClass RX12 = some m.cls := findClass_of_methodNamed B.named
  have hlocks := B.notSynchronized
  subst hsz
  have hD := hD0.self (sz := s.heap.size)
  generalize hAe : va_A [(h0, .inr (12, [.ref (am 0), .int 0, .int 0, .ref (am 1), .ref (am 2), .ref (am 3), .ref (am 4), .ref (am 5), .int 0, .int 0, .int 0, .int 0, .int 0, .int 0, .int 0, .ref (am 6), .int 0, .ref (am 7), .int 0, .ref (am 8), .ref (am 9), .int (-1), .int 0, .int 0, .int (-1), .int 0, .ref (am 10), .int 0, .ref (am 11), .ref (am 12), .ref (am 13), .ref (am 14), .long 0, .ref (am 15), .ref (am 16), .ref (am 17), .ref (am 18)])), ((am 9), .inl (G.2.2 0, 110, .inl (fun _ => 0)))] s.heap.size = A at hD ⊢
  have hA : ∀ q : Nat, s.heap.size ≤ q → A q := fun q h => by rw [← hAe]; exact Or.inr h
  have hS : va_S A s.heap s.heap [] := va_S.rf
  have hl := lv_entry ([.ref h0, .int n]) (n := 4) (Nat.le_of_ble_eq_true rfl)
  rw [lg_entry_eq]
  generalize (lg_sl ([.ref h0, .int n]) ++ List.replicate (4 - (lg_sl ([.ref h0, .int n])).length) Slot.unset).toArray = ls at hl ⊢
  have hl : lv_has ls 4 [(0, .ref h0), (1, .int n)] := hl
  refine lv_iconst (v := 0) hx hb dX12_count_0 (by decide) ?_
  refine lv_istore_n (lv' := [(2, .int 0), (0, .ref h0), (1, .int n)]) hx hb dX12_count_1 rfl hl (by decide) rfl (fun ls hl => ?_)
  refine lv_iload_n hx hb dX12_count_2 rfl (lv_at hl 2 rfl) ?_
  by_cases c_1 : n = 0
  · subst c_1
    refine lv_tableIn (x := 0) (off := 73) (tgt := 76) hx hb dX12_count_3 (by decide +kernel) (by decide +kernel) (by decide +kernel) (by decide) ?_
    refine lv_aload_n hx hb dX12_count_76 rfl (lv_at hl 1 rfl) ?_
    refine gq_get hx hb ht hown hK hP i_X12 0 rfl rfl 20 (by decide) wd_1272 rfl rfl dX12_count_77 ?_
    refine lv_iload_n hx hb dX12_count_80 rfl (lv_at hl 2 rfl) ?_
    refine gq_iald hx hb hK hP 1 rfl 0 (by unfold vp_in; decide +kernel) rfl dX12_count_81 ?_
    have hP9 := hP.sub (ws' := []) [] rfl
    have hD9 := hD.sub (ws' := []) [] (by decide) rfl
    exact W.iret (v := 0) hx hb hr (gq_endI () (by decide +kernel) hP9 hD9 hS) hS.2.2 dX12_count_82
  by_cases c_2 : n = 1
  · subst c_2
    refine lv_tableIn (x := 1) (off := 73) (tgt := 76) hx hb dX12_count_3 (by decide +kernel) (by decide +kernel) (by decide +kernel) (by decide) ?_
    refine lv_aload_n hx hb dX12_count_76 rfl (lv_at hl 1 rfl) ?_
    refine gq_get hx hb ht hown hK hP i_X12 0 rfl rfl 20 (by decide) wd_1272 rfl rfl dX12_count_77 ?_
    refine lv_iload_n hx hb dX12_count_80 rfl (lv_at hl 2 rfl) ?_
    refine gq_iald hx hb hK hP 1 rfl 0 (by unfold vp_in; decide +kernel) rfl dX12_count_81 ?_
    have hP9 := hP.sub (ws' := []) [] rfl
    have hD9 := hD.sub (ws' := []) [] (by decide) rfl
    exact W.iret (v := 0) hx hb hr (gq_endI () (by decide +kernel) hP9 hD9 hS) hS.2.2 dX12_count_82
  by_cases c_3 : n = 2
  · subst c_3
    refine lv_tableIn (x := 2) (off := 73) (tgt := 76) hx hb dX12_count_3 (by decide +kernel) (by decide +kernel) (by decide +kernel) (by decide) ?_
    refine lv_aload_n hx hb dX12_count_76 rfl (lv_at hl 1 rfl) ?_
    refine gq_get hx hb ht hown hK hP i_X12 0 rfl rfl 20 (by decide) wd_1272 rfl rfl dX12_count_77 ?_
    refine lv_iload_n hx hb dX12_count_80 rfl (lv_at hl 2 rfl) ?_
    refine gq_iald hx hb hK hP 1 rfl 0 (by unfold vp_in; decide +kernel) rfl dX12_count_81 ?_
    have hP9 := hP.sub (ws' := []) [] rfl
    have hD9 := hD.sub (ws' := []) [] (by decide) rfl
    exact W.iret (v := 0) hx hb hr (gq_endI () (by decide +kernel) hP9 hD9 hS) hS.2.2 dX12_count_82
  by_cases c_4 : n = 3
  · subst c_4
    refine lv_tableIn (x := 3) (off := 73) (tgt := 76) hx hb dX12_count_3 (by decide +kernel) (by decide +kernel) (by decide +kernel) (by decide) ?_
    refine lv_aload_n hx hb dX12_count_76 rfl (lv_at hl 1 rfl) ?_
    refine gq_get hx hb ht hown hK hP i_X12 0 rfl rfl 20 (by decide) wd_1272 rfl rfl dX12_count_77 ?_
    refine lv_iload_n hx hb dX12_count_80 rfl (lv_at hl 2 rfl) ?_
    refine gq_iald hx hb hK hP 1 rfl 0 (by unfold vp_in; decide +kernel) rfl dX12_count_81 ?_
    have hP9 := hP.sub (ws' := []) [] rfl
    have hD9 := hD.sub (ws' := []) [] (by decide) rfl
    exact W.iret (v := 0) hx hb hr (gq_endI () (by decide +kernel) hP9 hD9 hS) hS.2.2 dX12_count_82
  by_cases c_5 : n = 4
  · subst c_5
    refine lv_tableIn (x := 4) (off := 80) (tgt := 83) hx hb dX12_count_3 (by decide +kernel) (by decide +kernel) (by decide +kernel) (by decide) ?_
    refine lv_aload_n hx hb dX12_count_83 rfl (lv_at hl 1 rfl) ?_
    refine gq_get hx hb ht hown hK hP i_X12 0 rfl rfl 2 (by decide) wd_1254 rfl rfl dX12_count_84 ?_
    have hP9 := hP.sub (ws' := []) [] rfl
    have hD9 := hD.sub (ws' := []) [] (by decide) rfl
    exact W.iret (v := 0) hx hb hr (gq_endI () (by decide +kernel) hP9 hD9 hS) hS.2.2 dX12_count_87
  by_cases c_6 : n = 5
  · subst c_6
    refine lv_tableIn (x := 5) (off := 85) (tgt := 88) hx hb dX12_count_3 (by decide +kernel) (by decide +kernel) (by decide +kernel) (by decide) ?_
    refine lv_aload_n hx hb dX12_count_88 rfl (lv_at hl 1 rfl) ?_
    refine gq_get hx hb ht hown hK hP i_X12 0 rfl rfl 21 (by decide) wd_1273 rfl rfl dX12_count_89 ?_
    have hP9 := hP.sub (ws' := []) [] rfl
    have hD9 := hD.sub (ws' := []) [] (by decide) rfl
    exact W.iret (v := (-1)) hx hb hr (gq_endI () (by decide +kernel) hP9 hD9 hS) hS.2.2 dX12_count_92
  by_cases c_7 : n = 6
  · subst c_7
    refine lv_tableIn (x := 6) (off := 90) (tgt := 93) hx hb dX12_count_3 (by decide +kernel) (by decide +kernel) (by decide +kernel) (by decide) ?_
    refine lv_aload_n hx hb dX12_count_93 rfl (lv_at hl 1 rfl) ?_
    refine gq_get hx hb ht hown hK hP i_X12 0 rfl rfl 20 (by decide) wd_1272 rfl rfl dX12_count_94 ?_
    refine lv_bipush (v := 10) hx hb dX12_count_97 (by decide +kernel) ?_
    refine gq_iald hx hb hK hP 1 rfl 0 (by unfold vp_in; decide +kernel) rfl dX12_count_99 ?_
    have hP9 := hP.sub (ws' := []) [] rfl
    have hD9 := hD.sub (ws' := []) [] (by decide) rfl
    exact W.iret (v := 0) hx hb hr (gq_endI () (by decide +kernel) hP9 hD9 hS) hS.2.2 dX12_count_100
  by_cases c_8 : n = 7
  · subst c_8
    refine lv_tableIn (x := 7) (off := 98) (tgt := 101) hx hb dX12_count_3 (by decide +kernel) (by decide +kernel) (by decide +kernel) (by decide) ?_
    refine lv_iconst (v := 0) hx hb dX12_count_101 (by decide) ?_
    refine lv_istore_n (lv' := [(3, .int 0), (2, .int 0), (0, .ref h0), (1, .int 7)]) hx hb dX12_count_102 rfl hl (by decide) rfl (fun ls hl => ?_)
    refine lv_iload_n hx hb dX12_count_103 rfl (lv_at hl 0 rfl) ?_
    refine lv_aload_n hx hb dX12_count_104 rfl (lv_at hl 2 rfl) ?_
    refine gq_get hx hb ht hown hK hP i_X12 0 rfl rfl 20 (by decide) wd_1272 rfl rfl dX12_count_105 ?_
    refine lv_iconst (v := 1) hx hb dX12_count_108 (by decide) ?_
    refine gq_iald hx hb hK hP 1 rfl 0 (by unfold vp_in; decide +kernel) rfl dX12_count_109 ?_
    refine lv_icmp_ge (tgt := 137) hx hb dX12_count_110 (by decide) (fun _ => ?_) (fun c0 => absurd (by decide +kernel) c0)
    refine lv_iload_n hx hb dX12_count_137 rfl (lv_at hl 1 rfl) ?_
    have hP9 := hP.sub (ws' := []) [] rfl
    have hD9 := hD.sub (ws' := []) [] (by decide) rfl
    exact W.iret (v := 0) hx hb hr (gq_endI () (by decide +kernel) hP9 hD9 hS) hS.2.2 dX12_count_138
  by_cases c_9 : n = 8
  · subst c_9
    refine lv_tableIn (x := 8) (off := 136) (tgt := 139) hx hb dX12_count_3 (by decide +kernel) (by decide +kernel) (by decide +kernel) (by decide) ?_
    refine lv_aload_n hx hb dX12_count_139 rfl (lv_at hl 1 rfl) ?_
    refine lv_iconst (v := 1) hx hb dX12_count_140 (by decide) ?_
    have hPc := hP.sub (ws' := [(h0, .inr (12, [.ref (am 0), .int 0, .int 0, .ref (am 1), .ref (am 2), .ref (am 3), .ref (am 4), .ref (am 5), .int 0, .int 0, .int 0, .int 0, .int 0, .int 0, .int 0, .ref (am 6), .int 0, .ref (am 7), .int 0, .ref (am 8), .ref (am 9), .int (-1), .int 0, .int 0, .int (-1), .int 0, .ref (am 10), .int 0, .ref (am 11), .ref (am 12), .ref (am 13), .ref (am 14), .long 0, .ref (am 15), .ref (am 16), .ref (am 17), .ref (am 18)])), ((am 9), .inl (G.2.2 0, 110, .inl (fun _ => 0)))]) [0, 1] rfl
    have hDc := hD.sub (ws' := [(h0, .inr (12, [.ref (am 0), .int 0, .int 0, .ref (am 1), .ref (am 2), .ref (am 3), .ref (am 4), .ref (am 5), .int 0, .int 0, .int 0, .int 0, .int 0, .int 0, .int 0, .ref (am 6), .int 0, .ref (am 7), .int 0, .ref (am 8), .ref (am 9), .int (-1), .int 0, .int 0, .int (-1), .int 0, .ref (am 10), .int 0, .ref (am 11), .ref (am 12), .ref (am 13), .ref (am 14), .long 0, .ref (am 15), .ref (am 16), .ref (am 17), .ref (am 18)])), ((am 9), .inl (G.2.2 0, 110, .inl (fun _ => 0)))]) [0, 1] (by decide) rfl
    refine gq_callI (wr := []) (va_runV (As := [.int 1]) (rest := []) ⟨hx, hb, hml, hown, ht⟩ (c_M_lotsIn1 l G H.size h0 am) (cwV 1 ht (ts_gV wd_1619 wd_1621 wd_84 wd_134 wd_1622) rfl rfl rfl (by decide +kernel) ⟨Nat.le_of_ble_eq_true rfl, Nat.le_of_ble_eq_true rfl⟩) (gc_preV (ci := 12) (q0 := 0) hK hPc hDc rfl rfl) rfl rfl hl.1 rfl (lv_room (Nat.le_of_ble_eq_true rfl)) dX12_count_141 ⟨Nat.le_of_ble_eq_true rfl, Nat.le_of_ble_eq_true rfl⟩) hP hD hS hA [0, 1] [] rfl rfl (by decide) (by decide) (fun r u H locs hw hP hD hS => ?_)
    have hw : r = 0 := hw
    subst hw
    have hP : va_P (gg_D G) classes [(h0, .inr (12, [.ref (am 0), .int 0, .int 0, .ref (am 1), .ref (am 2), .ref (am 3), .ref (am 4), .ref (am 5), .int 0, .int 0, .int 0, .int 0, .int 0, .int 0, .int 0, .ref (am 6), .int 0, .ref (am 7), .int 0, .ref (am 8), .ref (am 9), .int (-1), .int 0, .int 0, .int (-1), .int 0, .ref (am 10), .int 0, .ref (am 11), .ref (am 12), .ref (am 13), .ref (am 14), .long 0, .ref (am 15), .ref (am 16), .ref (am 17), .ref (am 18)])), ((am 9), .inl (G.2.2 0, 110, .inl (fun _ => 0)))] H := hP
    have hD : va_D A [(h0, .inr (12, [.ref (am 0), .int 0, .int 0, .ref (am 1), .ref (am 2), .ref (am 3), .ref (am 4), .ref (am 5), .int 0, .int 0, .int 0, .int 0, .int 0, .int 0, .int 0, .ref (am 6), .int 0, .ref (am 7), .int 0, .ref (am 8), .ref (am 9), .int (-1), .int 0, .int 0, .int (-1), .int 0, .ref (am 10), .int 0, .ref (am 11), .ref (am 12), .ref (am 13), .ref (am 14), .long 0, .ref (am 15), .ref (am 16), .ref (am 17), .ref (am 18)])), ((am 9), .inl (G.2.2 0, 110, .inl (fun _ => 0)))] := hD
    have hP9 := hP.sub (ws' := []) [] rfl
    have hD9 := hD.sub (ws' := []) [] (by decide) rfl
    exact W.iret (v := 0) hx hb hr (gq_endI () (by decide +kernel) hP9 hD9 hS) hS.2.2 dX12_count_144
  by_cases c_10 : n = 9
  · subst c_10
    refine lv_tableIn (x := 9) (off := 142) (tgt := 145) hx hb dX12_count_3 (by decide +kernel) (by decide +kernel) (by decide +kernel) (by decide) ?_
    refine lv_aload_n hx hb dX12_count_145 rfl (lv_at hl 1 rfl) ?_
    refine lv_iconst (v := 2) hx hb dX12_count_146 (by decide) ?_
    have hPc := hP.sub (ws' := [(h0, .inr (12, [.ref (am 0), .int 0, .int 0, .ref (am 1), .ref (am 2), .ref (am 3), .ref (am 4), .ref (am 5), .int 0, .int 0, .int 0, .int 0, .int 0, .int 0, .int 0, .ref (am 6), .int 0, .ref (am 7), .int 0, .ref (am 8), .ref (am 9), .int (-1), .int 0, .int 0, .int (-1), .int 0, .ref (am 10), .int 0, .ref (am 11), .ref (am 12), .ref (am 13), .ref (am 14), .long 0, .ref (am 15), .ref (am 16), .ref (am 17), .ref (am 18)])), ((am 9), .inl (G.2.2 0, 110, .inl (fun _ => 0)))]) [0, 1] rfl
    have hDc := hD.sub (ws' := [(h0, .inr (12, [.ref (am 0), .int 0, .int 0, .ref (am 1), .ref (am 2), .ref (am 3), .ref (am 4), .ref (am 5), .int 0, .int 0, .int 0, .int 0, .int 0, .int 0, .int 0, .ref (am 6), .int 0, .ref (am 7), .int 0, .ref (am 8), .ref (am 9), .int (-1), .int 0, .int 0, .int (-1), .int 0, .ref (am 10), .int 0, .ref (am 11), .ref (am 12), .ref (am 13), .ref (am 14), .long 0, .ref (am 15), .ref (am 16), .ref (am 17), .ref (am 18)])), ((am 9), .inl (G.2.2 0, 110, .inl (fun _ => 0)))]) [0, 1] (by decide) rfl
    refine gq_callI (wr := []) (va_runV (As := [.int 2]) (rest := []) ⟨hx, hb, hml, hown, ht⟩ (c_M_lotsIn2 l G H.size h0 am) (cwV 1 ht (ts_gV wd_1619 wd_1621 wd_84 wd_134 wd_1622) rfl rfl rfl (by decide +kernel) ⟨Nat.le_of_ble_eq_true rfl, Nat.le_of_ble_eq_true rfl⟩) (gc_preV (ci := 12) (q0 := 0) hK hPc hDc rfl rfl) rfl rfl hl.1 rfl (lv_room (Nat.le_of_ble_eq_true rfl)) dX12_count_147 ⟨Nat.le_of_ble_eq_true rfl, Nat.le_of_ble_eq_true rfl⟩) hP hD hS hA [0, 1] [] rfl rfl (by decide) (by decide) (fun r u H locs hw hP hD hS => ?_)
    have hw : r = 0 := hw
    subst hw
    have hP : va_P (gg_D G) classes [(h0, .inr (12, [.ref (am 0), .int 0, .int 0, .ref (am 1), .ref (am 2), .ref (am 3), .ref (am 4), .ref (am 5), .int 0, .int 0, .int 0, .int 0, .int 0, .int 0, .int 0, .ref (am 6), .int 0, .ref (am 7), .int 0, .ref (am 8), .ref (am 9), .int (-1), .int 0, .int 0, .int (-1), .int 0, .ref (am 10), .int 0, .ref (am 11), .ref (am 12), .ref (am 13), .ref (am 14), .long 0, .ref (am 15), .ref (am 16), .ref (am 17), .ref (am 18)])), ((am 9), .inl (G.2.2 0, 110, .inl (fun _ => 0)))] H := hP
    have hD : va_D A [(h0, .inr (12, [.ref (am 0), .int 0, .int 0, .ref (am 1), .ref (am 2), .ref (am 3), .ref (am 4), .ref (am 5), .int 0, .int 0, .int 0, .int 0, .int 0, .int 0, .int 0, .ref (am 6), .int 0, .ref (am 7), .int 0, .ref (am 8), .ref (am 9), .int (-1), .int 0, .int 0, .int (-1), .int 0, .ref (am 10), .int 0, .ref (am 11), .ref (am 12), .ref (am 13), .ref (am 14), .long 0, .ref (am 15), .ref (am 16), .ref (am 17), .ref (am 18)])), ((am 9), .inl (G.2.2 0, 110, .inl (fun _ => 0)))] := hD
    have hP9 := hP.sub (ws' := []) [] rfl
    have hD9 := hD.sub (ws' := []) [] (by decide) rfl
    exact W.iret (v := 0) hx hb hr (gq_endI () (by decide +kernel) hP9 hD9 hS) hS.2.2 dX12_count_150
  by_cases c_11 : n = 10
  · subst c_11
    refine lv_tableIn (x := 10) (off := 148) (tgt := 151) hx hb dX12_count_3 (by decide +kernel) (by decide +kernel) (by decide +kernel) (by decide) ?_
    refine lv_aload_n hx hb dX12_count_151 rfl (lv_at hl 1 rfl) ?_
    have hPc := hP.sub (ws' := [(h0, .inr (12, [.ref (am 0), .int 0, .int 0, .ref (am 1), .ref (am 2), .ref (am 3), .ref (am 4), .ref (am 5), .int 0, .int 0, .int 0, .int 0, .int 0, .int 0, .int 0, .ref (am 6), .int 0, .ref (am 7), .int 0, .ref (am 8), .ref (am 9), .int (-1), .int 0, .int 0, .int (-1), .int 0, .ref (am 10), .int 0, .ref (am 11), .ref (am 12), .ref (am 13), .ref (am 14), .long 0, .ref (am 15), .ref (am 16), .ref (am 17), .ref (am 18)])), ((am 9), .inl (G.2.2 0, 110, .inl (fun _ => 0)))]) [0, 1] rfl
    have hDc := hD.sub (ws' := [(h0, .inr (12, [.ref (am 0), .int 0, .int 0, .ref (am 1), .ref (am 2), .ref (am 3), .ref (am 4), .ref (am 5), .int 0, .int 0, .int 0, .int 0, .int 0, .int 0, .int 0, .ref (am 6), .int 0, .ref (am 7), .int 0, .ref (am 8), .ref (am 9), .int (-1), .int 0, .int 0, .int (-1), .int 0, .ref (am 10), .int 0, .ref (am 11), .ref (am 12), .ref (am 13), .ref (am 14), .long 0, .ref (am 15), .ref (am 16), .ref (am 17), .ref (am 18)])), ((am 9), .inl (G.2.2 0, 110, .inl (fun _ => 0)))]) [0, 1] (by decide) rfl
    refine gq_callI (wr := []) (va_runV (As := []) (rest := []) ⟨hx, hb, hml, hown, ht⟩ (c_M_coinsPaid l G H.size h0 am) (cwV 0 ht (ts_gV wd_1848 wd_1850 wd_119 wd_134 wd_1851) rfl rfl rfl (by decide +kernel) ⟨Nat.le_of_ble_eq_true rfl, Nat.le_of_ble_eq_true rfl⟩) (gc_preV (ci := 12) (q0 := 0) hK hPc hDc rfl rfl) rfl rfl hl.1 rfl (lv_room (Nat.le_of_ble_eq_true rfl)) dX12_count_152 ⟨Nat.le_of_ble_eq_true rfl, Nat.le_of_ble_eq_true rfl⟩) hP hD hS hA [0, 1] [] rfl rfl (by decide) (by decide) (fun r u H locs hw hP hD hS => ?_)
    have hw : r = 0 := hw
    subst hw
    have hP : va_P (gg_D G) classes [(h0, .inr (12, [.ref (am 0), .int 0, .int 0, .ref (am 1), .ref (am 2), .ref (am 3), .ref (am 4), .ref (am 5), .int 0, .int 0, .int 0, .int 0, .int 0, .int 0, .int 0, .ref (am 6), .int 0, .ref (am 7), .int 0, .ref (am 8), .ref (am 9), .int (-1), .int 0, .int 0, .int (-1), .int 0, .ref (am 10), .int 0, .ref (am 11), .ref (am 12), .ref (am 13), .ref (am 14), .long 0, .ref (am 15), .ref (am 16), .ref (am 17), .ref (am 18)])), ((am 9), .inl (G.2.2 0, 110, .inl (fun _ => 0)))] H := hP
    have hD : va_D A [(h0, .inr (12, [.ref (am 0), .int 0, .int 0, .ref (am 1), .ref (am 2), .ref (am 3), .ref (am 4), .ref (am 5), .int 0, .int 0, .int 0, .int 0, .int 0, .int 0, .int 0, .ref (am 6), .int 0, .ref (am 7), .int 0, .ref (am 8), .ref (am 9), .int (-1), .int 0, .int 0, .int (-1), .int 0, .ref (am 10), .int 0, .ref (am 11), .ref (am 12), .ref (am 13), .ref (am 14), .long 0, .ref (am 15), .ref (am 16), .ref (am 17), .ref (am 18)])), ((am 9), .inl (G.2.2 0, 110, .inl (fun _ => 0)))] := hD
    have hP9 := hP.sub (ws' := []) [] rfl
    have hD9 := hD.sub (ws' := []) [] (by decide) rfl
    exact W.iret (v := 0) hx hb hr (gq_endI () (by decide +kernel) hP9 hD9 hS) hS.2.2 dX12_count_155
  by_cases c_12 : n = 11
  · subst c_12
    refine lv_tableIn (x := 11) (off := 153) (tgt := 156) hx hb dX12_count_3 (by decide +kernel) (by decide +kernel) (by decide +kernel) (by decide) ?_
    refine lv_aload_n hx hb dX12_count_156 rfl (lv_at hl 1 rfl) ?_
    refine gq_get hx hb ht hown hK hP i_X12 0 rfl rfl 20 (by decide) wd_1272 rfl rfl dX12_count_157 ?_
    refine lv_bipush (v := 109) hx hb dX12_count_160 (by decide +kernel) ?_
    refine gq_iald hx hb hK hP 1 rfl 0 (by unfold vp_in; decide +kernel) rfl dX12_count_162 ?_
    have hP9 := hP.sub (ws' := []) [] rfl
    have hD9 := hD.sub (ws' := []) [] (by decide) rfl
    exact W.iret (v := 0) hx hb hr (gq_endI () (by decide +kernel) hP9 hD9 hS) hS.2.2 dX12_count_163
  by_cases c_13 : n = 12
  · subst c_13
    refine lv_tableIn (x := 12) (off := 161) (tgt := 164) hx hb dX12_count_3 (by decide +kernel) (by decide +kernel) (by decide +kernel) (by decide) ?_
    refine lv_aload_n hx hb dX12_count_164 rfl (lv_at hl 1 rfl) ?_
    refine gq_get hx hb ht hown hK hP i_X12 0 rfl rfl 27 (by decide) wd_1279 rfl rfl dX12_count_165 ?_
    have hP9 := hP.sub (ws' := []) [] rfl
    have hD9 := hD.sub (ws' := []) [] (by decide) rfl
    exact W.iret (v := 0) hx hb hr (gq_endI () (by decide +kernel) hP9 hD9 hS) hS.2.2 dX12_count_168
  by_cases c_14 : n = 13
  · subst c_14
    refine lv_tableIn (x := 13) (off := 166) (tgt := 169) hx hb dX12_count_3 (by decide +kernel) (by decide +kernel) (by decide +kernel) (by decide) ?_
    refine lv_aload_n hx hb dX12_count_169 rfl (lv_at hl 1 rfl) ?_
    refine gq_get hx hb ht hown hK hP i_X12 0 rfl rfl 22 (by decide) wd_1274 rfl rfl dX12_count_170 ?_
    have hP9 := hP.sub (ws' := []) [] rfl
    have hD9 := hD.sub (ws' := []) [] (by decide) rfl
    exact W.iret (v := 0) hx hb hr (gq_endI () (by decide +kernel) hP9 hD9 hS) hS.2.2 dX12_count_173
  by_cases c_15 : n = 14
  · subst c_15
    refine lv_tableIn (x := 14) (off := 171) (tgt := 174) hx hb dX12_count_3 (by decide +kernel) (by decide +kernel) (by decide +kernel) (by decide) ?_
    refine lv_aload_n hx hb dX12_count_174 rfl (lv_at hl 1 rfl) ?_
    refine gq_get hx hb ht hown hK hP i_X12 0 rfl rfl 1 (by decide) wd_1253 rfl rfl dX12_count_175 ?_
    have hP9 := hP.sub (ws' := []) [] rfl
    have hD9 := hD.sub (ws' := []) [] (by decide) rfl
    exact W.iret (v := 0) hx hb hr (gq_endI () (by decide +kernel) hP9 hD9 hS) hS.2.2 dX12_count_178
  refine lv_tableOut (x := n) (tgt := 179) hx hb dX12_count_3 (by have k0 : (0 : Int32).toInt = 0 := by decide +kernel; have k1 : (1 : Int32).toInt = 1 := by decide +kernel; have k2 : (2 : Int32).toInt = 2 := by decide +kernel; have k3 : (3 : Int32).toInt = 3 := by decide +kernel; have k4 : (4 : Int32).toInt = 4 := by decide +kernel; have k5 : (5 : Int32).toInt = 5 := by decide +kernel; have k6 : (6 : Int32).toInt = 6 := by decide +kernel; have k7 : (7 : Int32).toInt = 7 := by decide +kernel; have k8 : (8 : Int32).toInt = 8 := by decide +kernel; have k9 : (9 : Int32).toInt = 9 := by decide +kernel; have k10 : (10 : Int32).toInt = 10 := by decide +kernel; have k11 : (11 : Int32).toInt = 11 := by decide +kernel; have k12 : (12 : Int32).toInt = 12 := by decide +kernel; have k13 : (13 : Int32).toInt = 13 := by decide +kernel; have k14 : (14 : Int32).toInt = 14 := by decide +kernel; simp only [← Int32.toInt_inj] at c_1 c_2 c_3 c_4 c_5 c_6 c_7 c_8 c_9 c_10 c_11 c_12 c_13 c_14 c_15; omega) (by decide) ?_
  refine lv_iconst (v := (-1)) hx hb dX12_count_179 (by decide) ?_
  have hP9 := hP.sub (ws' := []) [] rfl
  have hD9 := hD.sub (ws' := []) [] (by decide) rfl
  exact W.iret (v := (-1)) hx hb hr (gq_endI () (by simp only [sp_count, c_1, c_2, c_3, c_4, c_5, c_6, c_7, c_8, c_9, c_10, c_11, c_12, c_13, c_14, c_15, if_false]) hP9 hD9 hS) hS.2.2 dX12_count_180
set_option maxHeartbeats 4000000 in
set_option maxRecDepth 100000 in
theorem c_M_image (l : Launch) (G : gg_T) (sz : Nat) (h0 : Nat) (am : Nat → Nat) (n : Int32) : Met l yX12_image (ts_L yX12_image cX12_image 3 (some .int)) ({ frames := 1, cells := 0, slots := 0, locals := 25 }) (gc_P G [(h0, .inr (12, [.ref (am 0), .int 0, .int 0, .ref (am 1), .ref (am 2), .ref (am 3), .ref (am 4), .ref (am 5), .int 0, .int 0, .int 0, .int 0, .int 0, .int 0, .int 0, .ref (am 6), .int 0, .ref (am 7), .int 0, .ref (am 8), .ref (am 9), .int (-1), .int 0, .int 0, .int (-1), .int 0, .ref (am 10), .int 0, .ref (am 11), .ref (am 12), .ref (am 13), .ref (am 14), .long 0, .ref (am 15), .ref (am 16), .ref (am 17), .ref (am 18)])), ((am 9), .inl (G.2.2 0, 110, .inl (fun _ => 0))), ((am 15), .inl (G.2.2 0, 440, .inl (fun _ => 0))), ((am 16), .inl (G.2.2 0, 4, .inl (fun _ => 0))), ((am 17), .inl (G.2.2 0, 4, .inl (fun _ => 0))), ((am 18), .inl (G.2.2 3, 4, .inl (fun _ => 0)))] sz [.ref h0, .int n]) (gc_I G (va_A [(h0, .inr (12, [.ref (am 0), .int 0, .int 0, .ref (am 1), .ref (am 2), .ref (am 3), .ref (am 4), .ref (am 5), .int 0, .int 0, .int 0, .int 0, .int 0, .int 0, .int 0, .ref (am 6), .int 0, .ref (am 7), .int 0, .ref (am 8), .ref (am 9), .int (-1), .int 0, .int 0, .int (-1), .int 0, .ref (am 10), .int 0, .ref (am 11), .ref (am 12), .ref (am 13), .ref (am 14), .long 0, .ref (am 15), .ref (am 16), .ref (am 17), .ref (am 18)])), ((am 9), .inl (G.2.2 0, 110, .inl (fun _ => 0))), ((am 15), .inl (G.2.2 0, 440, .inl (fun _ => 0))), ((am 16), .inl (G.2.2 0, 4, .inl (fun _ => 0))), ((am 17), .inl (G.2.2 0, 4, .inl (fun _ => 0))), ((am 18), .inl (G.2.2 3, 4, .inl (fun _ => 0)))] sz) (fun r (_ : Unit) => r = (sp_image n)) (fun _ => [])) 0 0 (va_A [(h0, .inr (12, [.ref (am 0), .int 0, .int 0, .ref (am 1), .ref (am 2), .ref (am 3), .ref (am 4), .ref (am 5), .int 0, .int 0, .int 0, .int 0, .int 0, .int 0, .int 0, .ref (am 6), .int 0, .ref (am 7), .int 0, .ref (am 8), .ref (am 9), .int (-1), .int 0, .int 0, .int (-1), .int 0, .ref (am 10), .int 0, .ref (am 11), .ref (am 12), .ref (am 13), .ref (am 14), .long 0, .ref (am 15), .ref (am 16), .ref (am 17), .ref (am 18)])), ((am 9), .inl (G.2.2 0, 110, .inl (fun _ => 0))), ((am 15), .inl (G.2.2 0, 440, .inl (fun _ => 0))), ((am 16), .inl (G.2.2 0, 4, .inl (fun _ => 0))), ((am 17), .inl (G.2.2 0, 4, .inl (fun _ => 0))), ((am 18), .inl (G.2.2 3, 4, .inl (fun _ => 0)))] sz) := by
  refine Met.ofW (cc := cX12_image) (maxL := 3) (ret := (some .int)) (by decide) rfl ?_
  intro p e s m args below meth c s₁ B hml hv
  obtain ⟨rfl, hsz, hP, hK, hD0⟩ := hv
  have hx := B.exec
  have hb := B.bytes
  have hr := B.returns
  have ht := ts_ht (atoms_spec (ws := ts_L yX12_image cX12_image 3 (some .int)) B.pre)
  have hown : s.vm.findClass RX12 = some m.cls := findClass_of_methodNamed B.named
  have hlocks := B.notSynchronized
  subst hsz
  have hD := hD0.self (sz := s.heap.size)
  generalize hAe : va_A [(h0, .inr (12, [.ref (am 0), .int 0, .int 0, .ref (am 1), .ref (am 2), .ref (am 3), .ref (am 4), .ref (am 5), .int 0, .int 0, .int 0, .int 0, .int 0, .int 0, .int 0, .ref (am 6), .int 0, .ref (am 7), .int 0, .ref (am 8), .ref (am 9), .int (-1), .int 0, .int 0, .int (-1), .int 0, .ref (am 10), .int 0, .ref (am 11), .ref (am 12), .ref (am 13), .ref (am 14), .long 0, .ref (am 15), .ref (am 16), .ref (am 17), .ref (am 18)])), ((am 9), .inl (G.2.2 0, 110, .inl (fun _ => 0))), ((am 15), .inl (G.2.2 0, 440, .inl (fun _ => 0))), ((am 16), .inl (G.2.2 0, 4, .inl (fun _ => 0))), ((am 17), .inl (G.2.2 0, 4, .inl (fun _ => 0))), ((am 18), .inl (G.2.2 3, 4, .inl (fun _ => 0)))] s.heap.size = A at hD ⊢
  have hA : ∀ q : Nat, s.heap.size ≤ q → A q := fun q h => by rw [← hAe]; exact Or.inr h
  have hS : va_S A s.heap s.heap [] := va_S.rf
  have hl := lv_entry ([.ref h0, .int n]) (n := 3) (Nat.le_of_ble_eq_true rfl)
  rw [lg_entry_eq]
  generalize (lg_sl ([.ref h0, .int n]) ++ List.replicate (3 - (lg_sl ([.ref h0, .int n])).length) Slot.unset).toArray = ls at hl ⊢
  have hl : lv_has ls 3 [(0, .ref h0), (1, .int n)] := hl
  by_cases c_1 : n = 0
  · subst c_1
    refine lv_iload_n hx hb dX12_image_0 rfl (lv_at hl 1 rfl) ?_
    refine lv_i2l (v := 0) hx hb dX12_image_1 (by decide +kernel) ?_
    refine lv_lconst (v := 0) hx hb dX12_image_2 (by decide +kernel) ?_
    refine lv_ldc2 hx hb hown (ht _ wd_1868) dX12_image_3 ?_
    have hPc := hP.sub (ws' := []) [] rfl
    have hDc := hD.sub (ws' := []) [] (by decide) rfl
    refine gq_callI (wr := [(h0, .inr (12, [.ref (am 0), .int 0, .int 0, .ref (am 1), .ref (am 2), .ref (am 3), .ref (am 4), .ref (am 5), .int 0, .int 0, .int 0, .int 0, .int 0, .int 0, .int 0, .ref (am 6), .int 0, .ref (am 7), .int 0, .ref (am 8), .ref (am 9), .int (-1), .int 0, .int 0, .int (-1), .int 0, .ref (am 10), .int 0, .ref (am 11), .ref (am 12), .ref (am 13), .ref (am 14), .long 0, .ref (am 15), .ref (am 16), .ref (am 17), .ref (am 18)])), ((am 9), .inl (G.2.2 0, 110, .inl (fun _ => 0))), ((am 15), .inl (G.2.2 0, 440, .inl (fun _ => 0))), ((am 16), .inl (G.2.2 0, 4, .inl (fun _ => 0))), ((am 17), .inl (G.2.2 0, 4, .inl (fun _ => 0))), ((am 18), .inl (G.2.2 3, 4, .inl (fun _ => 0)))]) (va_runS (As := [.long 0, .long 0, .long 3]) (rest := []) ⟨hx, hb, hml, hown, ht⟩ (c_M_in l G H.size 0 0 3) (va_cwS 3 ht (ts_gS wd_1439 wd_1440 wd_134 wd_1441) rfl rfl rfl (by decide +kernel) ⟨Nat.le_of_ble_eq_true rfl, Nat.le_of_ble_eq_true rfl⟩) (gc_preS hK hPc hDc) rfl rfl hl.1 rfl (lv_room (Nat.le_of_ble_eq_true rfl)) dX12_image_6 ⟨Nat.le_of_ble_eq_true rfl, Nat.le_of_ble_eq_true rfl⟩) hP hD hS hA [] [0, 1, 2, 3, 4, 5] rfl rfl (by decide) (by decide) (fun r u H locs hw hP hD hS => ?_)
    have hw : r = (mi_in 0 0 3) := hw
    subst hw
    have hP : va_P (gg_D G) classes [(h0, .inr (12, [.ref (am 0), .int 0, .int 0, .ref (am 1), .ref (am 2), .ref (am 3), .ref (am 4), .ref (am 5), .int 0, .int 0, .int 0, .int 0, .int 0, .int 0, .int 0, .ref (am 6), .int 0, .ref (am 7), .int 0, .ref (am 8), .ref (am 9), .int (-1), .int 0, .int 0, .int (-1), .int 0, .ref (am 10), .int 0, .ref (am 11), .ref (am 12), .ref (am 13), .ref (am 14), .long 0, .ref (am 15), .ref (am 16), .ref (am 17), .ref (am 18)])), ((am 9), .inl (G.2.2 0, 110, .inl (fun _ => 0))), ((am 15), .inl (G.2.2 0, 440, .inl (fun _ => 0))), ((am 16), .inl (G.2.2 0, 4, .inl (fun _ => 0))), ((am 17), .inl (G.2.2 0, 4, .inl (fun _ => 0))), ((am 18), .inl (G.2.2 3, 4, .inl (fun _ => 0)))] H := hP
    have hD : va_D A [(h0, .inr (12, [.ref (am 0), .int 0, .int 0, .ref (am 1), .ref (am 2), .ref (am 3), .ref (am 4), .ref (am 5), .int 0, .int 0, .int 0, .int 0, .int 0, .int 0, .int 0, .ref (am 6), .int 0, .ref (am 7), .int 0, .ref (am 8), .ref (am 9), .int (-1), .int 0, .int 0, .int (-1), .int 0, .ref (am 10), .int 0, .ref (am 11), .ref (am 12), .ref (am 13), .ref (am 14), .long 0, .ref (am 15), .ref (am 16), .ref (am 17), .ref (am 18)])), ((am 9), .inl (G.2.2 0, 110, .inl (fun _ => 0))), ((am 15), .inl (G.2.2 0, 440, .inl (fun _ => 0))), ((am 16), .inl (G.2.2 0, 4, .inl (fun _ => 0))), ((am 17), .inl (G.2.2 0, 4, .inl (fun _ => 0))), ((am 18), .inl (G.2.2 3, 4, .inl (fun _ => 0)))] := hD
    rw [show (mi_in 0 0 3) = 1 by decide +kernel]
    refine lv_if_ne (tgt := 14) hx hb dX12_image_9 (by decide) (fun _ => ?_) (fun c0 => absurd c0 (by decide +kernel))
    refine lv_aload_n hx hb dX12_image_14 rfl (lv_at hl 0 rfl) ?_
    refine gq_get hx hb ht hown hK hP i_X12 0 rfl rfl 36 (by decide) wd_1288 rfl rfl dX12_image_15 ?_
    refine lv_iload_n hx hb dX12_image_18 rfl (lv_at hl 1 rfl) ?_
    refine lv_iconst (v := 1) hx hb dX12_image_19 (by decide) ?_
    obtain ⟨f_2, ef_2⟩ : ∃ z : Nat → Int32, upd (fun _ => 0) (Int32.toNatClampNeg 0) (vp_nar .boolean 1) = z := ⟨_, rfl⟩
    refine gq_zast (ws' := [(h0, .inr (12, [.ref (am 0), .int 0, .int 0, .ref (am 1), .ref (am 2), .ref (am 3), .ref (am 4), .ref (am 5), .int 0, .int 0, .int 0, .int 0, .int 0, .int 0, .int 0, .ref (am 6), .int 0, .ref (am 7), .int 0, .ref (am 8), .ref (am 9), .int (-1), .int 0, .int 0, .int (-1), .int 0, .ref (am 10), .int 0, .ref (am 11), .ref (am 12), .ref (am 13), .ref (am 14), .long 0, .ref (am 15), .ref (am 16), .ref (am 17), .ref (am 18)])), ((am 9), .inl (G.2.2 0, 110, .inl (fun _ => 0))), ((am 15), .inl (G.2.2 0, 440, .inl (fun _ => 0))), ((am 16), .inl (G.2.2 0, 4, .inl (fun _ => 0))), ((am 17), .inl (G.2.2 0, 4, .inl (fun _ => 0))), ((am 18), .inl (G.2.2 3, 4, .inl f_2))]) hx hb hK hP hD hS 5 rfl f_2 (by unfold vp_in; decide +kernel) ef_2 rfl dX12_image_20 (fun H locs hP hD hS => ?_)
    refine lv_aload_n hx hb dX12_image_21 rfl (lv_at hl 0 rfl) ?_
    refine gq_get hx hb ht hown hK hP i_X12 0 rfl rfl 34 (by decide) wd_1286 rfl rfl dX12_image_22 ?_
    refine lv_iload_n hx hb dX12_image_25 rfl (lv_at hl 1 rfl) ?_
    refine lv_aload_n hx hb dX12_image_26 rfl (lv_at hl 0 rfl) ?_
    refine gq_get hx hb ht hown hK hP i_X12 0 rfl rfl 21 (by decide) wd_1273 rfl rfl dX12_image_27 ?_
    obtain ⟨f_3, ef_3⟩ : ∃ z : Nat → Int32, upd (fun _ => 0) (Int32.toNatClampNeg 0) (-1) = z := ⟨_, rfl⟩
    refine gq_iast (ws' := [(h0, .inr (12, [.ref (am 0), .int 0, .int 0, .ref (am 1), .ref (am 2), .ref (am 3), .ref (am 4), .ref (am 5), .int 0, .int 0, .int 0, .int 0, .int 0, .int 0, .int 0, .ref (am 6), .int 0, .ref (am 7), .int 0, .ref (am 8), .ref (am 9), .int (-1), .int 0, .int 0, .int (-1), .int 0, .ref (am 10), .int 0, .ref (am 11), .ref (am 12), .ref (am 13), .ref (am 14), .long 0, .ref (am 15), .ref (am 16), .ref (am 17), .ref (am 18)])), ((am 9), .inl (G.2.2 0, 110, .inl (fun _ => 0))), ((am 15), .inl (G.2.2 0, 440, .inl (fun _ => 0))), ((am 16), .inl (G.2.2 0, 4, .inl f_3)), ((am 17), .inl (G.2.2 0, 4, .inl (fun _ => 0))), ((am 18), .inl (G.2.2 3, 4, .inl f_2))]) hx hb hK hP hD hS 3 rfl f_3 (by unfold vp_in; decide +kernel) ef_3 rfl dX12_image_30 (fun H locs hP hD hS => ?_)
    refine lv_aload_n hx hb dX12_image_31 rfl (lv_at hl 0 rfl) ?_
    refine gq_get hx hb ht hown hK hP i_X12 0 rfl rfl 35 (by decide) wd_1287 rfl rfl dX12_image_32 ?_
    refine lv_iload_n hx hb dX12_image_35 rfl (lv_at hl 1 rfl) ?_
    refine lv_aload_n hx hb dX12_image_36 rfl (lv_at hl 0 rfl) ?_
    refine gq_get hx hb ht hown hK hP i_X12 0 rfl rfl 22 (by decide) wd_1274 rfl rfl dX12_image_37 ?_
    refine gq_iast (ws' := [(h0, .inr (12, [.ref (am 0), .int 0, .int 0, .ref (am 1), .ref (am 2), .ref (am 3), .ref (am 4), .ref (am 5), .int 0, .int 0, .int 0, .int 0, .int 0, .int 0, .int 0, .ref (am 6), .int 0, .ref (am 7), .int 0, .ref (am 8), .ref (am 9), .int (-1), .int 0, .int 0, .int (-1), .int 0, .ref (am 10), .int 0, .ref (am 11), .ref (am 12), .ref (am 13), .ref (am 14), .long 0, .ref (am 15), .ref (am 16), .ref (am 17), .ref (am 18)])), ((am 9), .inl (G.2.2 0, 110, .inl (fun _ => 0))), ((am 15), .inl (G.2.2 0, 440, .inl (fun _ => 0))), ((am 16), .inl (G.2.2 0, 4, .inl f_3)), ((am 17), .inl (G.2.2 0, 4, .inl (fun _ => 0))), ((am 18), .inl (G.2.2 3, 4, .inl f_2))]) hx hb hK hP hD hS 4 rfl (fun _ => 0) (by unfold vp_in; decide +kernel) (up_z _ _) rfl dX12_image_40 (fun H locs hP hD hS => ?_)
    refine lv_iconst (v := 0) hx hb dX12_image_41 (by decide) ?_
    refine lv_istore_n (lv' := [(2, .int 0), (0, .ref h0), (1, .int 0)]) hx hb dX12_image_42 rfl hl (by decide) rfl (fun ls hl => ?_)
    refine lp_cnt (ws := [(h0, .inr (12, [.ref (am 0), .int 0, .int 0, .ref (am 1), .ref (am 2), .ref (am 3), .ref (am 4), .ref (am 5), .int 0, .int 0, .int 0, .int 0, .int 0, .int 0, .int 0, .ref (am 6), .int 0, .ref (am 7), .int 0, .ref (am 8), .ref (am 9), .int (-1), .int 0, .int 0, .int (-1), .int 0, .ref (am 10), .int 0, .ref (am 11), .ref (am 12), .ref (am 13), .ref (am 14), .long 0, .ref (am 15), .ref (am 16), .ref (am 17), .ref (am 18)])), ((am 9), .inl (G.2.2 0, 110, .inl (fun _ => 0))), ((am 15), .inl (G.2.2 0, 440, .inl (fun _ => 0))), ((am 16), .inl (G.2.2 0, 4, .inl f_3)), ((am 17), .inl (G.2.2 0, 4, .inl (fun _ => 0))), ((am 18), .inl (G.2.2 3, 4, .inl f_2))]) (nL := 3) 110 (fun z => [(2, .int z), (0, .ref h0), (1, .int 0)]) (fun H locs ls hP hD hS hl => ?_) (fun i hi_ H locs ls hP hD hS hl ih => ?_) 0 (Nat.zero_le _) H locs ls hP hD hS hl
    · have hl : lv_has ls 3 [(2, .int 110), (0, .ref h0), (1, .int 0)] := hl
      refine lv_iload_n hx hb dX12_image_43 rfl (lv_at hl 0 rfl) ?_
      refine lv_bipush (v := 110) hx hb dX12_image_44 (by decide +kernel) ?_
      refine lv_icmp_ge (tgt := 72) hx hb dX12_image_46 (by decide) (fun _ => ?_) (fun c0 => absurd (by decide +kernel) c0)
      refine lv_aload_n hx hb dX12_image_72 rfl (lv_at hl 1 rfl) ?_
      refine gq_get hx hb ht hown hK hP i_X12 0 rfl rfl 20 (by decide) wd_1272 rfl rfl dX12_image_73 ?_
      refine lv_bipush (v := 10) hx hb dX12_image_76 (by decide +kernel) ?_
      refine gq_iald hx hb hK hP 1 rfl 0 (by unfold vp_in; decide +kernel) rfl dX12_image_78 ?_
      have hP9 := hP.sub (ws' := []) [] rfl
      have hD9 := hD.sub (ws' := []) [] (by decide) rfl
      exact W.iret (v := 0) hx hb hr (gq_endI () (by decide +kernel) hP9 hD9 hS) hS.2.2 dX12_image_79
    · have hl : lv_has ls 3 [(2, .int (nI i)), (0, .ref h0), (1, .int 0)] := hl
      refine lv_iload_n hx hb dX12_image_43 rfl (lv_at hl 0 rfl) ?_
      refine lv_bipush (v := 110) hx hb dX12_image_44 (by decide +kernel) ?_
      refine lv_icmp_ge (tgt := 72) hx hb dX12_image_46 (by decide) (fun c0 => absurd c0 (nI_ge hi_ (by decide))) (fun _ => ?_)
      refine lv_aload_n hx hb dX12_image_49 rfl (lv_at hl 1 rfl) ?_
      refine gq_get hx hb ht hown hK hP i_X12 0 rfl rfl 33 (by decide) wd_1285 rfl rfl dX12_image_50 ?_
      refine lv_bipush (v := 110) hx hb dX12_image_53 (by decide +kernel) ?_
      refine lv_iload_n hx hb dX12_image_55 rfl (lv_at hl 2 rfl) ?_
      refine gq_imul hx hb 0 (by decide +kernel) dX12_image_56 ?_
      refine lv_iload_n hx hb dX12_image_57 rfl (lv_at hl 0 rfl) ?_
      refine gq_iadd hx hb (nI (0 + i)) (nI_add 0 i) dX12_image_58 ?_
      refine lv_aload_n hx hb dX12_image_59 rfl (lv_at hl 1 rfl) ?_
      refine gq_get hx hb ht hown hK hP i_X12 0 rfl rfl 20 (by decide) wd_1272 rfl rfl dX12_image_60 ?_
      refine lv_iload_n hx hb dX12_image_63 rfl (lv_at hl 0 rfl) ?_
      refine gq_iald hx hb hK hP 1 rfl 0 (vp_in_nI (by omega) (by decide)) rfl dX12_image_64 ?_
      refine gq_iast (ws' := [(h0, .inr (12, [.ref (am 0), .int 0, .int 0, .ref (am 1), .ref (am 2), .ref (am 3), .ref (am 4), .ref (am 5), .int 0, .int 0, .int 0, .int 0, .int 0, .int 0, .int 0, .ref (am 6), .int 0, .ref (am 7), .int 0, .ref (am 8), .ref (am 9), .int (-1), .int 0, .int 0, .int (-1), .int 0, .ref (am 10), .int 0, .ref (am 11), .ref (am 12), .ref (am 13), .ref (am 14), .long 0, .ref (am 15), .ref (am 16), .ref (am 17), .ref (am 18)])), ((am 9), .inl (G.2.2 0, 110, .inl (fun _ => 0))), ((am 15), .inl (G.2.2 0, 440, .inl (fun _ => 0))), ((am 16), .inl (G.2.2 0, 4, .inl f_3)), ((am 17), .inl (G.2.2 0, 4, .inl (fun _ => 0))), ((am 18), .inl (G.2.2 3, 4, .inl f_2))]) hx hb hK hP hD hS 2 rfl (fun _ => 0) (vp_in_nI (by omega) (by decide)) (up_z _ _) rfl dX12_image_65 (fun H locs hP hD hS => ?_)
      refine lv_iinc (v := (nI (i + 1))) (lv' := [(2, .int (nI (i + 1))), (0, .ref h0), (1, .int 0)]) hx hb dX12_image_66 hl (k := 0) rfl (nI_1 i) (by decide) rfl (fun ls hl => ?_)
      refine lv_goto (tgt := 43) hx hb dX12_image_69 (by decide) ?_
      exact ih H locs ls hP hD hS (lv_sub hl [0, 1, 2] rfl)
  · by_cases c_4 : n = 1
    · subst c_4
      refine lv_iload_n hx hb dX12_image_0 rfl (lv_at hl 1 rfl) ?_
      refine lv_i2l (v := 1) hx hb dX12_image_1 (by decide +kernel) ?_
      refine lv_lconst (v := 0) hx hb dX12_image_2 (by decide +kernel) ?_
      refine lv_ldc2 hx hb hown (ht _ wd_1868) dX12_image_3 ?_
      have hPc := hP.sub (ws' := []) [] rfl
      have hDc := hD.sub (ws' := []) [] (by decide) rfl
      refine gq_callI (wr := [(h0, .inr (12, [.ref (am 0), .int 0, .int 0, .ref (am 1), .ref (am 2), .ref (am 3), .ref (am 4), .ref (am 5), .int 0, .int 0, .int 0, .int 0, .int 0, .int 0, .int 0, .ref (am 6), .int 0, .ref (am 7), .int 0, .ref (am 8), .ref (am 9), .int (-1), .int 0, .int 0, .int (-1), .int 0, .ref (am 10), .int 0, .ref (am 11), .ref (am 12), .ref (am 13), .ref (am 14), .long 0, .ref (am 15), .ref (am 16), .ref (am 17), .ref (am 18)])), ((am 9), .inl (G.2.2 0, 110, .inl (fun _ => 0))), ((am 15), .inl (G.2.2 0, 440, .inl (fun _ => 0))), ((am 16), .inl (G.2.2 0, 4, .inl (fun _ => 0))), ((am 17), .inl (G.2.2 0, 4, .inl (fun _ => 0))), ((am 18), .inl (G.2.2 3, 4, .inl (fun _ => 0)))]) (va_runS (As := [.long 1, .long 0, .long 3]) (rest := []) ⟨hx, hb, hml, hown, ht⟩ (c_M_in l G H.size 1 0 3) (va_cwS 3 ht (ts_gS wd_1439 wd_1440 wd_134 wd_1441) rfl rfl rfl (by decide +kernel) ⟨Nat.le_of_ble_eq_true rfl, Nat.le_of_ble_eq_true rfl⟩) (gc_preS hK hPc hDc) rfl rfl hl.1 rfl (lv_room (Nat.le_of_ble_eq_true rfl)) dX12_image_6 ⟨Nat.le_of_ble_eq_true rfl, Nat.le_of_ble_eq_true rfl⟩) hP hD hS hA [] [0, 1, 2, 3, 4, 5] rfl rfl (by decide) (by decide) (fun r u H locs hw hP hD hS => ?_)
      have hw : r = (mi_in 1 0 3) := hw
      subst hw
      have hP : va_P (gg_D G) classes [(h0, .inr (12, [.ref (am 0), .int 0, .int 0, .ref (am 1), .ref (am 2), .ref (am 3), .ref (am 4), .ref (am 5), .int 0, .int 0, .int 0, .int 0, .int 0, .int 0, .int 0, .ref (am 6), .int 0, .ref (am 7), .int 0, .ref (am 8), .ref (am 9), .int (-1), .int 0, .int 0, .int (-1), .int 0, .ref (am 10), .int 0, .ref (am 11), .ref (am 12), .ref (am 13), .ref (am 14), .long 0, .ref (am 15), .ref (am 16), .ref (am 17), .ref (am 18)])), ((am 9), .inl (G.2.2 0, 110, .inl (fun _ => 0))), ((am 15), .inl (G.2.2 0, 440, .inl (fun _ => 0))), ((am 16), .inl (G.2.2 0, 4, .inl (fun _ => 0))), ((am 17), .inl (G.2.2 0, 4, .inl (fun _ => 0))), ((am 18), .inl (G.2.2 3, 4, .inl (fun _ => 0)))] H := hP
      have hD : va_D A [(h0, .inr (12, [.ref (am 0), .int 0, .int 0, .ref (am 1), .ref (am 2), .ref (am 3), .ref (am 4), .ref (am 5), .int 0, .int 0, .int 0, .int 0, .int 0, .int 0, .int 0, .ref (am 6), .int 0, .ref (am 7), .int 0, .ref (am 8), .ref (am 9), .int (-1), .int 0, .int 0, .int (-1), .int 0, .ref (am 10), .int 0, .ref (am 11), .ref (am 12), .ref (am 13), .ref (am 14), .long 0, .ref (am 15), .ref (am 16), .ref (am 17), .ref (am 18)])), ((am 9), .inl (G.2.2 0, 110, .inl (fun _ => 0))), ((am 15), .inl (G.2.2 0, 440, .inl (fun _ => 0))), ((am 16), .inl (G.2.2 0, 4, .inl (fun _ => 0))), ((am 17), .inl (G.2.2 0, 4, .inl (fun _ => 0))), ((am 18), .inl (G.2.2 3, 4, .inl (fun _ => 0)))] := hD
      rw [show (mi_in 1 0 3) = 1 by decide +kernel]
      refine lv_if_ne (tgt := 14) hx hb dX12_image_9 (by decide) (fun _ => ?_) (fun c0 => absurd c0 (by decide +kernel))
      refine lv_aload_n hx hb dX12_image_14 rfl (lv_at hl 0 rfl) ?_
      refine gq_get hx hb ht hown hK hP i_X12 0 rfl rfl 36 (by decide) wd_1288 rfl rfl dX12_image_15 ?_
      refine lv_iload_n hx hb dX12_image_18 rfl (lv_at hl 1 rfl) ?_
      refine lv_iconst (v := 1) hx hb dX12_image_19 (by decide) ?_
      obtain ⟨f_5, ef_5⟩ : ∃ z : Nat → Int32, upd (fun _ => 0) (Int32.toNatClampNeg 1) (vp_nar .boolean 1) = z := ⟨_, rfl⟩
      refine gq_zast (ws' := [(h0, .inr (12, [.ref (am 0), .int 0, .int 0, .ref (am 1), .ref (am 2), .ref (am 3), .ref (am 4), .ref (am 5), .int 0, .int 0, .int 0, .int 0, .int 0, .int 0, .int 0, .ref (am 6), .int 0, .ref (am 7), .int 0, .ref (am 8), .ref (am 9), .int (-1), .int 0, .int 0, .int (-1), .int 0, .ref (am 10), .int 0, .ref (am 11), .ref (am 12), .ref (am 13), .ref (am 14), .long 0, .ref (am 15), .ref (am 16), .ref (am 17), .ref (am 18)])), ((am 9), .inl (G.2.2 0, 110, .inl (fun _ => 0))), ((am 15), .inl (G.2.2 0, 440, .inl (fun _ => 0))), ((am 16), .inl (G.2.2 0, 4, .inl (fun _ => 0))), ((am 17), .inl (G.2.2 0, 4, .inl (fun _ => 0))), ((am 18), .inl (G.2.2 3, 4, .inl f_5))]) hx hb hK hP hD hS 5 rfl f_5 (by unfold vp_in; decide +kernel) ef_5 rfl dX12_image_20 (fun H locs hP hD hS => ?_)
      refine lv_aload_n hx hb dX12_image_21 rfl (lv_at hl 0 rfl) ?_
      refine gq_get hx hb ht hown hK hP i_X12 0 rfl rfl 34 (by decide) wd_1286 rfl rfl dX12_image_22 ?_
      refine lv_iload_n hx hb dX12_image_25 rfl (lv_at hl 1 rfl) ?_
      refine lv_aload_n hx hb dX12_image_26 rfl (lv_at hl 0 rfl) ?_
      refine gq_get hx hb ht hown hK hP i_X12 0 rfl rfl 21 (by decide) wd_1273 rfl rfl dX12_image_27 ?_
      obtain ⟨f_6, ef_6⟩ : ∃ z : Nat → Int32, upd (fun _ => 0) (Int32.toNatClampNeg 1) (-1) = z := ⟨_, rfl⟩
      refine gq_iast (ws' := [(h0, .inr (12, [.ref (am 0), .int 0, .int 0, .ref (am 1), .ref (am 2), .ref (am 3), .ref (am 4), .ref (am 5), .int 0, .int 0, .int 0, .int 0, .int 0, .int 0, .int 0, .ref (am 6), .int 0, .ref (am 7), .int 0, .ref (am 8), .ref (am 9), .int (-1), .int 0, .int 0, .int (-1), .int 0, .ref (am 10), .int 0, .ref (am 11), .ref (am 12), .ref (am 13), .ref (am 14), .long 0, .ref (am 15), .ref (am 16), .ref (am 17), .ref (am 18)])), ((am 9), .inl (G.2.2 0, 110, .inl (fun _ => 0))), ((am 15), .inl (G.2.2 0, 440, .inl (fun _ => 0))), ((am 16), .inl (G.2.2 0, 4, .inl f_6)), ((am 17), .inl (G.2.2 0, 4, .inl (fun _ => 0))), ((am 18), .inl (G.2.2 3, 4, .inl f_5))]) hx hb hK hP hD hS 3 rfl f_6 (by unfold vp_in; decide +kernel) ef_6 rfl dX12_image_30 (fun H locs hP hD hS => ?_)
      refine lv_aload_n hx hb dX12_image_31 rfl (lv_at hl 0 rfl) ?_
      refine gq_get hx hb ht hown hK hP i_X12 0 rfl rfl 35 (by decide) wd_1287 rfl rfl dX12_image_32 ?_
      refine lv_iload_n hx hb dX12_image_35 rfl (lv_at hl 1 rfl) ?_
      refine lv_aload_n hx hb dX12_image_36 rfl (lv_at hl 0 rfl) ?_
      refine gq_get hx hb ht hown hK hP i_X12 0 rfl rfl 22 (by decide) wd_1274 rfl rfl dX12_image_37 ?_
      refine gq_iast (ws' := [(h0, .inr (12, [.ref (am 0), .int 0, .int 0, .ref (am 1), .ref (am 2), .ref (am 3), .ref (am 4), .ref (am 5), .int 0, .int 0, .int 0, .int 0, .int 0, .int 0, .int 0, .ref (am 6), .int 0, .ref (am 7), .int 0, .ref (am 8), .ref (am 9), .int (-1), .int 0, .int 0, .int (-1), .int 0, .ref (am 10), .int 0, .ref (am 11), .ref (am 12), .ref (am 13), .ref (am 14), .long 0, .ref (am 15), .ref (am 16), .ref (am 17), .ref (am 18)])), ((am 9), .inl (G.2.2 0, 110, .inl (fun _ => 0))), ((am 15), .inl (G.2.2 0, 440, .inl (fun _ => 0))), ((am 16), .inl (G.2.2 0, 4, .inl f_6)), ((am 17), .inl (G.2.2 0, 4, .inl (fun _ => 0))), ((am 18), .inl (G.2.2 3, 4, .inl f_5))]) hx hb hK hP hD hS 4 rfl (fun _ => 0) (by unfold vp_in; decide +kernel) (up_z _ _) rfl dX12_image_40 (fun H locs hP hD hS => ?_)
      refine lv_iconst (v := 0) hx hb dX12_image_41 (by decide) ?_
      refine lv_istore_n (lv' := [(2, .int 0), (0, .ref h0), (1, .int 1)]) hx hb dX12_image_42 rfl hl (by decide) rfl (fun ls hl => ?_)
      refine lp_cnt (ws := [(h0, .inr (12, [.ref (am 0), .int 0, .int 0, .ref (am 1), .ref (am 2), .ref (am 3), .ref (am 4), .ref (am 5), .int 0, .int 0, .int 0, .int 0, .int 0, .int 0, .int 0, .ref (am 6), .int 0, .ref (am 7), .int 0, .ref (am 8), .ref (am 9), .int (-1), .int 0, .int 0, .int (-1), .int 0, .ref (am 10), .int 0, .ref (am 11), .ref (am 12), .ref (am 13), .ref (am 14), .long 0, .ref (am 15), .ref (am 16), .ref (am 17), .ref (am 18)])), ((am 9), .inl (G.2.2 0, 110, .inl (fun _ => 0))), ((am 15), .inl (G.2.2 0, 440, .inl (fun _ => 0))), ((am 16), .inl (G.2.2 0, 4, .inl f_6)), ((am 17), .inl (G.2.2 0, 4, .inl (fun _ => 0))), ((am 18), .inl (G.2.2 3, 4, .inl f_5))]) (nL := 3) 110 (fun z => [(2, .int z), (0, .ref h0), (1, .int 1)]) (fun H locs ls hP hD hS hl => ?_) (fun i hi_ H locs ls hP hD hS hl ih => ?_) 0 (Nat.zero_le _) H locs ls hP hD hS hl
      · have hl : lv_has ls 3 [(2, .int 110), (0, .ref h0), (1, .int 1)] := hl
        refine lv_iload_n hx hb dX12_image_43 rfl (lv_at hl 0 rfl) ?_
        refine lv_bipush (v := 110) hx hb dX12_image_44 (by decide +kernel) ?_
        refine lv_icmp_ge (tgt := 72) hx hb dX12_image_46 (by decide) (fun _ => ?_) (fun c0 => absurd (by decide +kernel) c0)
        refine lv_aload_n hx hb dX12_image_72 rfl (lv_at hl 1 rfl) ?_
        refine gq_get hx hb ht hown hK hP i_X12 0 rfl rfl 20 (by decide) wd_1272 rfl rfl dX12_image_73 ?_
        refine lv_bipush (v := 10) hx hb dX12_image_76 (by decide +kernel) ?_
        refine gq_iald hx hb hK hP 1 rfl 0 (by unfold vp_in; decide +kernel) rfl dX12_image_78 ?_
        have hP9 := hP.sub (ws' := []) [] rfl
        have hD9 := hD.sub (ws' := []) [] (by decide) rfl
        exact W.iret (v := 0) hx hb hr (gq_endI () (by decide +kernel) hP9 hD9 hS) hS.2.2 dX12_image_79
      · have hl : lv_has ls 3 [(2, .int (nI i)), (0, .ref h0), (1, .int 1)] := hl
        refine lv_iload_n hx hb dX12_image_43 rfl (lv_at hl 0 rfl) ?_
        refine lv_bipush (v := 110) hx hb dX12_image_44 (by decide +kernel) ?_
        refine lv_icmp_ge (tgt := 72) hx hb dX12_image_46 (by decide) (fun c0 => absurd c0 (nI_ge hi_ (by decide))) (fun _ => ?_)
        refine lv_aload_n hx hb dX12_image_49 rfl (lv_at hl 1 rfl) ?_
        refine gq_get hx hb ht hown hK hP i_X12 0 rfl rfl 33 (by decide) wd_1285 rfl rfl dX12_image_50 ?_
        refine lv_bipush (v := 110) hx hb dX12_image_53 (by decide +kernel) ?_
        refine lv_iload_n hx hb dX12_image_55 rfl (lv_at hl 2 rfl) ?_
        refine gq_imul hx hb 110 (by decide +kernel) dX12_image_56 ?_
        refine lv_iload_n hx hb dX12_image_57 rfl (lv_at hl 0 rfl) ?_
        refine gq_iadd hx hb (nI (110 + i)) (nI_add 110 i) dX12_image_58 ?_
        refine lv_aload_n hx hb dX12_image_59 rfl (lv_at hl 1 rfl) ?_
        refine gq_get hx hb ht hown hK hP i_X12 0 rfl rfl 20 (by decide) wd_1272 rfl rfl dX12_image_60 ?_
        refine lv_iload_n hx hb dX12_image_63 rfl (lv_at hl 0 rfl) ?_
        refine gq_iald hx hb hK hP 1 rfl 0 (vp_in_nI (by omega) (by decide)) rfl dX12_image_64 ?_
        refine gq_iast (ws' := [(h0, .inr (12, [.ref (am 0), .int 0, .int 0, .ref (am 1), .ref (am 2), .ref (am 3), .ref (am 4), .ref (am 5), .int 0, .int 0, .int 0, .int 0, .int 0, .int 0, .int 0, .ref (am 6), .int 0, .ref (am 7), .int 0, .ref (am 8), .ref (am 9), .int (-1), .int 0, .int 0, .int (-1), .int 0, .ref (am 10), .int 0, .ref (am 11), .ref (am 12), .ref (am 13), .ref (am 14), .long 0, .ref (am 15), .ref (am 16), .ref (am 17), .ref (am 18)])), ((am 9), .inl (G.2.2 0, 110, .inl (fun _ => 0))), ((am 15), .inl (G.2.2 0, 440, .inl (fun _ => 0))), ((am 16), .inl (G.2.2 0, 4, .inl f_6)), ((am 17), .inl (G.2.2 0, 4, .inl (fun _ => 0))), ((am 18), .inl (G.2.2 3, 4, .inl f_5))]) hx hb hK hP hD hS 2 rfl (fun _ => 0) (vp_in_nI (by omega) (by decide)) (up_z _ _) rfl dX12_image_65 (fun H locs hP hD hS => ?_)
        refine lv_iinc (v := (nI (i + 1))) (lv' := [(2, .int (nI (i + 1))), (0, .ref h0), (1, .int 1)]) hx hb dX12_image_66 hl (k := 0) rfl (nI_1 i) (by decide) rfl (fun ls hl => ?_)
        refine lv_goto (tgt := 43) hx hb dX12_image_69 (by decide) ?_
        exact ih H locs ls hP hD hS (lv_sub hl [0, 1, 2] rfl)
    · by_cases c_7 : n = 2
      · subst c_7
        refine lv_iload_n hx hb dX12_image_0 rfl (lv_at hl 1 rfl) ?_
        refine lv_i2l (v := 2) hx hb dX12_image_1 (by decide +kernel) ?_
        refine lv_lconst (v := 0) hx hb dX12_image_2 (by decide +kernel) ?_
        refine lv_ldc2 hx hb hown (ht _ wd_1868) dX12_image_3 ?_
        have hPc := hP.sub (ws' := []) [] rfl
        have hDc := hD.sub (ws' := []) [] (by decide) rfl
        refine gq_callI (wr := [(h0, .inr (12, [.ref (am 0), .int 0, .int 0, .ref (am 1), .ref (am 2), .ref (am 3), .ref (am 4), .ref (am 5), .int 0, .int 0, .int 0, .int 0, .int 0, .int 0, .int 0, .ref (am 6), .int 0, .ref (am 7), .int 0, .ref (am 8), .ref (am 9), .int (-1), .int 0, .int 0, .int (-1), .int 0, .ref (am 10), .int 0, .ref (am 11), .ref (am 12), .ref (am 13), .ref (am 14), .long 0, .ref (am 15), .ref (am 16), .ref (am 17), .ref (am 18)])), ((am 9), .inl (G.2.2 0, 110, .inl (fun _ => 0))), ((am 15), .inl (G.2.2 0, 440, .inl (fun _ => 0))), ((am 16), .inl (G.2.2 0, 4, .inl (fun _ => 0))), ((am 17), .inl (G.2.2 0, 4, .inl (fun _ => 0))), ((am 18), .inl (G.2.2 3, 4, .inl (fun _ => 0)))]) (va_runS (As := [.long 2, .long 0, .long 3]) (rest := []) ⟨hx, hb, hml, hown, ht⟩ (c_M_in l G H.size 2 0 3) (va_cwS 3 ht (ts_gS wd_1439 wd_1440 wd_134 wd_1441) rfl rfl rfl (by decide +kernel) ⟨Nat.le_of_ble_eq_true rfl, Nat.le_of_ble_eq_true rfl⟩) (gc_preS hK hPc hDc) rfl rfl hl.1 rfl (lv_room (Nat.le_of_ble_eq_true rfl)) dX12_image_6 ⟨Nat.le_of_ble_eq_true rfl, Nat.le_of_ble_eq_true rfl⟩) hP hD hS hA [] [0, 1, 2, 3, 4, 5] rfl rfl (by decide) (by decide) (fun r u H locs hw hP hD hS => ?_)
        have hw : r = (mi_in 2 0 3) := hw
        subst hw
        have hP : va_P (gg_D G) classes [(h0, .inr (12, [.ref (am 0), .int 0, .int 0, .ref (am 1), .ref (am 2), .ref (am 3), .ref (am 4), .ref (am 5), .int 0, .int 0, .int 0, .int 0, .int 0, .int 0, .int 0, .ref (am 6), .int 0, .ref (am 7), .int 0, .ref (am 8), .ref (am 9), .int (-1), .int 0, .int 0, .int (-1), .int 0, .ref (am 10), .int 0, .ref (am 11), .ref (am 12), .ref (am 13), .ref (am 14), .long 0, .ref (am 15), .ref (am 16), .ref (am 17), .ref (am 18)])), ((am 9), .inl (G.2.2 0, 110, .inl (fun _ => 0))), ((am 15), .inl (G.2.2 0, 440, .inl (fun _ => 0))), ((am 16), .inl (G.2.2 0, 4, .inl (fun _ => 0))), ((am 17), .inl (G.2.2 0, 4, .inl (fun _ => 0))), ((am 18), .inl (G.2.2 3, 4, .inl (fun _ => 0)))] H := hP
        have hD : va_D A [(h0, .inr (12, [.ref (am 0), .int 0, .int 0, .ref (am 1), .ref (am 2), .ref (am 3), .ref (am 4), .ref (am 5), .int 0, .int 0, .int 0, .int 0, .int 0, .int 0, .int 0, .ref (am 6), .int 0, .ref (am 7), .int 0, .ref (am 8), .ref (am 9), .int (-1), .int 0, .int 0, .int (-1), .int 0, .ref (am 10), .int 0, .ref (am 11), .ref (am 12), .ref (am 13), .ref (am 14), .long 0, .ref (am 15), .ref (am 16), .ref (am 17), .ref (am 18)])), ((am 9), .inl (G.2.2 0, 110, .inl (fun _ => 0))), ((am 15), .inl (G.2.2 0, 440, .inl (fun _ => 0))), ((am 16), .inl (G.2.2 0, 4, .inl (fun _ => 0))), ((am 17), .inl (G.2.2 0, 4, .inl (fun _ => 0))), ((am 18), .inl (G.2.2 3, 4, .inl (fun _ => 0)))] := hD
        rw [show (mi_in 2 0 3) = 1 by decide +kernel]
        refine lv_if_ne (tgt := 14) hx hb dX12_image_9 (by decide) (fun _ => ?_) (fun c0 => absurd c0 (by decide +kernel))
        refine lv_aload_n hx hb dX12_image_14 rfl (lv_at hl 0 rfl) ?_
        refine gq_get hx hb ht hown hK hP i_X12 0 rfl rfl 36 (by decide) wd_1288 rfl rfl dX12_image_15 ?_
        refine lv_iload_n hx hb dX12_image_18 rfl (lv_at hl 1 rfl) ?_
        refine lv_iconst (v := 1) hx hb dX12_image_19 (by decide) ?_
        obtain ⟨f_8, ef_8⟩ : ∃ z : Nat → Int32, upd (fun _ => 0) (Int32.toNatClampNeg 2) (vp_nar .boolean 1) = z := ⟨_, rfl⟩
        refine gq_zast (ws' := [(h0, .inr (12, [.ref (am 0), .int 0, .int 0, .ref (am 1), .ref (am 2), .ref (am 3), .ref (am 4), .ref (am 5), .int 0, .int 0, .int 0, .int 0, .int 0, .int 0, .int 0, .ref (am 6), .int 0, .ref (am 7), .int 0, .ref (am 8), .ref (am 9), .int (-1), .int 0, .int 0, .int (-1), .int 0, .ref (am 10), .int 0, .ref (am 11), .ref (am 12), .ref (am 13), .ref (am 14), .long 0, .ref (am 15), .ref (am 16), .ref (am 17), .ref (am 18)])), ((am 9), .inl (G.2.2 0, 110, .inl (fun _ => 0))), ((am 15), .inl (G.2.2 0, 440, .inl (fun _ => 0))), ((am 16), .inl (G.2.2 0, 4, .inl (fun _ => 0))), ((am 17), .inl (G.2.2 0, 4, .inl (fun _ => 0))), ((am 18), .inl (G.2.2 3, 4, .inl f_8))]) hx hb hK hP hD hS 5 rfl f_8 (by unfold vp_in; decide +kernel) ef_8 rfl dX12_image_20 (fun H locs hP hD hS => ?_)
        refine lv_aload_n hx hb dX12_image_21 rfl (lv_at hl 0 rfl) ?_
        refine gq_get hx hb ht hown hK hP i_X12 0 rfl rfl 34 (by decide) wd_1286 rfl rfl dX12_image_22 ?_
        refine lv_iload_n hx hb dX12_image_25 rfl (lv_at hl 1 rfl) ?_
        refine lv_aload_n hx hb dX12_image_26 rfl (lv_at hl 0 rfl) ?_
        refine gq_get hx hb ht hown hK hP i_X12 0 rfl rfl 21 (by decide) wd_1273 rfl rfl dX12_image_27 ?_
        obtain ⟨f_9, ef_9⟩ : ∃ z : Nat → Int32, upd (fun _ => 0) (Int32.toNatClampNeg 2) (-1) = z := ⟨_, rfl⟩
        refine gq_iast (ws' := [(h0, .inr (12, [.ref (am 0), .int 0, .int 0, .ref (am 1), .ref (am 2), .ref (am 3), .ref (am 4), .ref (am 5), .int 0, .int 0, .int 0, .int 0, .int 0, .int 0, .int 0, .ref (am 6), .int 0, .ref (am 7), .int 0, .ref (am 8), .ref (am 9), .int (-1), .int 0, .int 0, .int (-1), .int 0, .ref (am 10), .int 0, .ref (am 11), .ref (am 12), .ref (am 13), .ref (am 14), .long 0, .ref (am 15), .ref (am 16), .ref (am 17), .ref (am 18)])), ((am 9), .inl (G.2.2 0, 110, .inl (fun _ => 0))), ((am 15), .inl (G.2.2 0, 440, .inl (fun _ => 0))), ((am 16), .inl (G.2.2 0, 4, .inl f_9)), ((am 17), .inl (G.2.2 0, 4, .inl (fun _ => 0))), ((am 18), .inl (G.2.2 3, 4, .inl f_8))]) hx hb hK hP hD hS 3 rfl f_9 (by unfold vp_in; decide +kernel) ef_9 rfl dX12_image_30 (fun H locs hP hD hS => ?_)
        refine lv_aload_n hx hb dX12_image_31 rfl (lv_at hl 0 rfl) ?_
        refine gq_get hx hb ht hown hK hP i_X12 0 rfl rfl 35 (by decide) wd_1287 rfl rfl dX12_image_32 ?_
        refine lv_iload_n hx hb dX12_image_35 rfl (lv_at hl 1 rfl) ?_
        refine lv_aload_n hx hb dX12_image_36 rfl (lv_at hl 0 rfl) ?_
        refine gq_get hx hb ht hown hK hP i_X12 0 rfl rfl 22 (by decide) wd_1274 rfl rfl dX12_image_37 ?_
        refine gq_iast (ws' := [(h0, .inr (12, [.ref (am 0), .int 0, .int 0, .ref (am 1), .ref (am 2), .ref (am 3), .ref (am 4), .ref (am 5), .int 0, .int 0, .int 0, .int 0, .int 0, .int 0, .int 0, .ref (am 6), .int 0, .ref (am 7), .int 0, .ref (am 8), .ref (am 9), .int (-1), .int 0, .int 0, .int (-1), .int 0, .ref (am 10), .int 0, .ref (am 11), .ref (am 12), .ref (am 13), .ref (am 14), .long 0, .ref (am 15), .ref (am 16), .ref (am 17), .ref (am 18)])), ((am 9), .inl (G.2.2 0, 110, .inl (fun _ => 0))), ((am 15), .inl (G.2.2 0, 440, .inl (fun _ => 0))), ((am 16), .inl (G.2.2 0, 4, .inl f_9)), ((am 17), .inl (G.2.2 0, 4, .inl (fun _ => 0))), ((am 18), .inl (G.2.2 3, 4, .inl f_8))]) hx hb hK hP hD hS 4 rfl (fun _ => 0) (by unfold vp_in; decide +kernel) (up_z _ _) rfl dX12_image_40 (fun H locs hP hD hS => ?_)
        refine lv_iconst (v := 0) hx hb dX12_image_41 (by decide) ?_
        refine lv_istore_n (lv' := [(2, .int 0), (0, .ref h0), (1, .int 2)]) hx hb dX12_image_42 rfl hl (by decide) rfl (fun ls hl => ?_)
        refine lp_cnt (ws := [(h0, .inr (12, [.ref (am 0), .int 0, .int 0, .ref (am 1), .ref (am 2), .ref (am 3), .ref (am 4), .ref (am 5), .int 0, .int 0, .int 0, .int 0, .int 0, .int 0, .int 0, .ref (am 6), .int 0, .ref (am 7), .int 0, .ref (am 8), .ref (am 9), .int (-1), .int 0, .int 0, .int (-1), .int 0, .ref (am 10), .int 0, .ref (am 11), .ref (am 12), .ref (am 13), .ref (am 14), .long 0, .ref (am 15), .ref (am 16), .ref (am 17), .ref (am 18)])), ((am 9), .inl (G.2.2 0, 110, .inl (fun _ => 0))), ((am 15), .inl (G.2.2 0, 440, .inl (fun _ => 0))), ((am 16), .inl (G.2.2 0, 4, .inl f_9)), ((am 17), .inl (G.2.2 0, 4, .inl (fun _ => 0))), ((am 18), .inl (G.2.2 3, 4, .inl f_8))]) (nL := 3) 110 (fun z => [(2, .int z), (0, .ref h0), (1, .int 2)]) (fun H locs ls hP hD hS hl => ?_) (fun i hi_ H locs ls hP hD hS hl ih => ?_) 0 (Nat.zero_le _) H locs ls hP hD hS hl
        · have hl : lv_has ls 3 [(2, .int 110), (0, .ref h0), (1, .int 2)] := hl
          refine lv_iload_n hx hb dX12_image_43 rfl (lv_at hl 0 rfl) ?_
          refine lv_bipush (v := 110) hx hb dX12_image_44 (by decide +kernel) ?_
          refine lv_icmp_ge (tgt := 72) hx hb dX12_image_46 (by decide) (fun _ => ?_) (fun c0 => absurd (by decide +kernel) c0)
          refine lv_aload_n hx hb dX12_image_72 rfl (lv_at hl 1 rfl) ?_
          refine gq_get hx hb ht hown hK hP i_X12 0 rfl rfl 20 (by decide) wd_1272 rfl rfl dX12_image_73 ?_
          refine lv_bipush (v := 10) hx hb dX12_image_76 (by decide +kernel) ?_
          refine gq_iald hx hb hK hP 1 rfl 0 (by unfold vp_in; decide +kernel) rfl dX12_image_78 ?_
          have hP9 := hP.sub (ws' := []) [] rfl
          have hD9 := hD.sub (ws' := []) [] (by decide) rfl
          exact W.iret (v := 0) hx hb hr (gq_endI () (by decide +kernel) hP9 hD9 hS) hS.2.2 dX12_image_79
        · have hl : lv_has ls 3 [(2, .int (nI i)), (0, .ref h0), (1, .int 2)] := hl
          refine lv_iload_n hx hb dX12_image_43 rfl (lv_at hl 0 rfl) ?_
          refine lv_bipush (v := 110) hx hb dX12_image_44 (by decide +kernel) ?_
          refine lv_icmp_ge (tgt := 72) hx hb dX12_image_46 (by decide) (fun c0 => absurd c0 (nI_ge hi_ (by decide))) (fun _ => ?_)
          refine lv_aload_n hx hb dX12_image_49 rfl (lv_at hl 1 rfl) ?_
          refine gq_get hx hb ht hown hK hP i_X12 0 rfl rfl 33 (by decide) wd_1285 rfl rfl dX12_image_50 ?_
          refine lv_bipush (v := 110) hx hb dX12_image_53 (by decide +kernel) ?_
          refine lv_iload_n hx hb dX12_image_55 rfl (lv_at hl 2 rfl) ?_
          refine gq_imul hx hb 220 (by decide +kernel) dX12_image_56 ?_
          refine lv_iload_n hx hb dX12_image_57 rfl (lv_at hl 0 rfl) ?_
          refine gq_iadd hx hb (nI (220 + i)) (nI_add 220 i) dX12_image_58 ?_
          refine lv_aload_n hx hb dX12_image_59 rfl (lv_at hl 1 rfl) ?_
          refine gq_get hx hb ht hown hK hP i_X12 0 rfl rfl 20 (by decide) wd_1272 rfl rfl dX12_image_60 ?_
          refine lv_iload_n hx hb dX12_image_63 rfl (lv_at hl 0 rfl) ?_
          refine gq_iald hx hb hK hP 1 rfl 0 (vp_in_nI (by omega) (by decide)) rfl dX12_image_64 ?_
          refine gq_iast (ws' := [(h0, .inr (12, [.ref (am 0), .int 0, .int 0, .ref (am 1), .ref (am 2), .ref (am 3), .ref (am 4), .ref (am 5), .int 0, .int 0, .int 0, .int 0, .int 0, .int 0, .int 0, .ref (am 6), .int 0, .ref (am 7), .int 0, .ref (am 8), .ref (am 9), .int (-1), .int 0, .int 0, .int (-1), .int 0, .ref (am 10), .int 0, .ref (am 11), .ref (am 12), .ref (am 13), .ref (am 14), .long 0, .ref (am 15), .ref (am 16), .ref (am 17), .ref (am 18)])), ((am 9), .inl (G.2.2 0, 110, .inl (fun _ => 0))), ((am 15), .inl (G.2.2 0, 440, .inl (fun _ => 0))), ((am 16), .inl (G.2.2 0, 4, .inl f_9)), ((am 17), .inl (G.2.2 0, 4, .inl (fun _ => 0))), ((am 18), .inl (G.2.2 3, 4, .inl f_8))]) hx hb hK hP hD hS 2 rfl (fun _ => 0) (vp_in_nI (by omega) (by decide)) (up_z _ _) rfl dX12_image_65 (fun H locs hP hD hS => ?_)
          refine lv_iinc (v := (nI (i + 1))) (lv' := [(2, .int (nI (i + 1))), (0, .ref h0), (1, .int 2)]) hx hb dX12_image_66 hl (k := 0) rfl (nI_1 i) (by decide) rfl (fun ls hl => ?_)
          refine lv_goto (tgt := 43) hx hb dX12_image_69 (by decide) ?_
          exact ih H locs ls hP hD hS (lv_sub hl [0, 1, 2] rfl)
      · by_cases c_10 : n = 3
        · subst c_10
          refine lv_iload_n hx hb dX12_image_0 rfl (lv_at hl 1 rfl) ?_
          refine lv_i2l (v := 3) hx hb dX12_image_1 (by decide +kernel) ?_
          refine lv_lconst (v := 0) hx hb dX12_image_2 (by decide +kernel) ?_
          refine lv_ldc2 hx hb hown (ht _ wd_1868) dX12_image_3 ?_
          have hPc := hP.sub (ws' := []) [] rfl
          have hDc := hD.sub (ws' := []) [] (by decide) rfl
          refine gq_callI (wr := [(h0, .inr (12, [.ref (am 0), .int 0, .int 0, .ref (am 1), .ref (am 2), .ref (am 3), .ref (am 4), .ref (am 5), .int 0, .int 0, .int 0, .int 0, .int 0, .int 0, .int 0, .ref (am 6), .int 0, .ref (am 7), .int 0, .ref (am 8), .ref (am 9), .int (-1), .int 0, .int 0, .int (-1), .int 0, .ref (am 10), .int 0, .ref (am 11), .ref (am 12), .ref (am 13), .ref (am 14), .long 0, .ref (am 15), .ref (am 16), .ref (am 17), .ref (am 18)])), ((am 9), .inl (G.2.2 0, 110, .inl (fun _ => 0))), ((am 15), .inl (G.2.2 0, 440, .inl (fun _ => 0))), ((am 16), .inl (G.2.2 0, 4, .inl (fun _ => 0))), ((am 17), .inl (G.2.2 0, 4, .inl (fun _ => 0))), ((am 18), .inl (G.2.2 3, 4, .inl (fun _ => 0)))]) (va_runS (As := [.long 3, .long 0, .long 3]) (rest := []) ⟨hx, hb, hml, hown, ht⟩ (c_M_in l G H.size 3 0 3) (va_cwS 3 ht (ts_gS wd_1439 wd_1440 wd_134 wd_1441) rfl rfl rfl (by decide +kernel) ⟨Nat.le_of_ble_eq_true rfl, Nat.le_of_ble_eq_true rfl⟩) (gc_preS hK hPc hDc) rfl rfl hl.1 rfl (lv_room (Nat.le_of_ble_eq_true rfl)) dX12_image_6 ⟨Nat.le_of_ble_eq_true rfl, Nat.le_of_ble_eq_true rfl⟩) hP hD hS hA [] [0, 1, 2, 3, 4, 5] rfl rfl (by decide) (by decide) (fun r u H locs hw hP hD hS => ?_)
          have hw : r = (mi_in 3 0 3) := hw
          subst hw
          have hP : va_P (gg_D G) classes [(h0, .inr (12, [.ref (am 0), .int 0, .int 0, .ref (am 1), .ref (am 2), .ref (am 3), .ref (am 4), .ref (am 5), .int 0, .int 0, .int 0, .int 0, .int 0, .int 0, .int 0, .ref (am 6), .int 0, .ref (am 7), .int 0, .ref (am 8), .ref (am 9), .int (-1), .int 0, .int 0, .int (-1), .int 0, .ref (am 10), .int 0, .ref (am 11), .ref (am 12), .ref (am 13), .ref (am 14), .long 0, .ref (am 15), .ref (am 16), .ref (am 17), .ref (am 18)])), ((am 9), .inl (G.2.2 0, 110, .inl (fun _ => 0))), ((am 15), .inl (G.2.2 0, 440, .inl (fun _ => 0))), ((am 16), .inl (G.2.2 0, 4, .inl (fun _ => 0))), ((am 17), .inl (G.2.2 0, 4, .inl (fun _ => 0))), ((am 18), .inl (G.2.2 3, 4, .inl (fun _ => 0)))] H := hP
          have hD : va_D A [(h0, .inr (12, [.ref (am 0), .int 0, .int 0, .ref (am 1), .ref (am 2), .ref (am 3), .ref (am 4), .ref (am 5), .int 0, .int 0, .int 0, .int 0, .int 0, .int 0, .int 0, .ref (am 6), .int 0, .ref (am 7), .int 0, .ref (am 8), .ref (am 9), .int (-1), .int 0, .int 0, .int (-1), .int 0, .ref (am 10), .int 0, .ref (am 11), .ref (am 12), .ref (am 13), .ref (am 14), .long 0, .ref (am 15), .ref (am 16), .ref (am 17), .ref (am 18)])), ((am 9), .inl (G.2.2 0, 110, .inl (fun _ => 0))), ((am 15), .inl (G.2.2 0, 440, .inl (fun _ => 0))), ((am 16), .inl (G.2.2 0, 4, .inl (fun _ => 0))), ((am 17), .inl (G.2.2 0, 4, .inl (fun _ => 0))), ((am 18), .inl (G.2.2 3, 4, .inl (fun _ => 0)))] := hD
          rw [show (mi_in 3 0 3) = 1 by decide +kernel]
          refine lv_if_ne (tgt := 14) hx hb dX12_image_9 (by decide) (fun _ => ?_) (fun c0 => absurd c0 (by decide +kernel))
          refine lv_aload_n hx hb dX12_image_14 rfl (lv_at hl 0 rfl) ?_
          refine gq_get hx hb ht hown hK hP i_X12 0 rfl rfl 36 (by decide) wd_1288 rfl rfl dX12_image_15 ?_
          refine lv_iload_n hx hb dX12_image_18 rfl (lv_at hl 1 rfl) ?_
          refine lv_iconst (v := 1) hx hb dX12_image_19 (by decide) ?_
          obtain ⟨f_11, ef_11⟩ : ∃ z : Nat → Int32, upd (fun _ => 0) (Int32.toNatClampNeg 3) (vp_nar .boolean 1) = z := ⟨_, rfl⟩
          refine gq_zast (ws' := [(h0, .inr (12, [.ref (am 0), .int 0, .int 0, .ref (am 1), .ref (am 2), .ref (am 3), .ref (am 4), .ref (am 5), .int 0, .int 0, .int 0, .int 0, .int 0, .int 0, .int 0, .ref (am 6), .int 0, .ref (am 7), .int 0, .ref (am 8), .ref (am 9), .int (-1), .int 0, .int 0, .int (-1), .int 0, .ref (am 10), .int 0, .ref (am 11), .ref (am 12), .ref (am 13), .ref (am 14), .long 0, .ref (am 15), .ref (am 16), .ref (am 17), .ref (am 18)])), ((am 9), .inl (G.2.2 0, 110, .inl (fun _ => 0))), ((am 15), .inl (G.2.2 0, 440, .inl (fun _ => 0))), ((am 16), .inl (G.2.2 0, 4, .inl (fun _ => 0))), ((am 17), .inl (G.2.2 0, 4, .inl (fun _ => 0))), ((am 18), .inl (G.2.2 3, 4, .inl f_11))]) hx hb hK hP hD hS 5 rfl f_11 (by unfold vp_in; decide +kernel) ef_11 rfl dX12_image_20 (fun H locs hP hD hS => ?_)
          refine lv_aload_n hx hb dX12_image_21 rfl (lv_at hl 0 rfl) ?_
          refine gq_get hx hb ht hown hK hP i_X12 0 rfl rfl 34 (by decide) wd_1286 rfl rfl dX12_image_22 ?_
          refine lv_iload_n hx hb dX12_image_25 rfl (lv_at hl 1 rfl) ?_
          refine lv_aload_n hx hb dX12_image_26 rfl (lv_at hl 0 rfl) ?_
          refine gq_get hx hb ht hown hK hP i_X12 0 rfl rfl 21 (by decide) wd_1273 rfl rfl dX12_image_27 ?_
          obtain ⟨f_12, ef_12⟩ : ∃ z : Nat → Int32, upd (fun _ => 0) (Int32.toNatClampNeg 3) (-1) = z := ⟨_, rfl⟩
          refine gq_iast (ws' := [(h0, .inr (12, [.ref (am 0), .int 0, .int 0, .ref (am 1), .ref (am 2), .ref (am 3), .ref (am 4), .ref (am 5), .int 0, .int 0, .int 0, .int 0, .int 0, .int 0, .int 0, .ref (am 6), .int 0, .ref (am 7), .int 0, .ref (am 8), .ref (am 9), .int (-1), .int 0, .int 0, .int (-1), .int 0, .ref (am 10), .int 0, .ref (am 11), .ref (am 12), .ref (am 13), .ref (am 14), .long 0, .ref (am 15), .ref (am 16), .ref (am 17), .ref (am 18)])), ((am 9), .inl (G.2.2 0, 110, .inl (fun _ => 0))), ((am 15), .inl (G.2.2 0, 440, .inl (fun _ => 0))), ((am 16), .inl (G.2.2 0, 4, .inl f_12)), ((am 17), .inl (G.2.2 0, 4, .inl (fun _ => 0))), ((am 18), .inl (G.2.2 3, 4, .inl f_11))]) hx hb hK hP hD hS 3 rfl f_12 (by unfold vp_in; decide +kernel) ef_12 rfl dX12_image_30 (fun H locs hP hD hS => ?_)
          refine lv_aload_n hx hb dX12_image_31 rfl (lv_at hl 0 rfl) ?_
          refine gq_get hx hb ht hown hK hP i_X12 0 rfl rfl 35 (by decide) wd_1287 rfl rfl dX12_image_32 ?_
          refine lv_iload_n hx hb dX12_image_35 rfl (lv_at hl 1 rfl) ?_
          refine lv_aload_n hx hb dX12_image_36 rfl (lv_at hl 0 rfl) ?_
          refine gq_get hx hb ht hown hK hP i_X12 0 rfl rfl 22 (by decide) wd_1274 rfl rfl dX12_image_37 ?_
          refine gq_iast (ws' := [(h0, .inr (12, [.ref (am 0), .int 0, .int 0, .ref (am 1), .ref (am 2), .ref (am 3), .ref (am 4), .ref (am 5), .int 0, .int 0, .int 0, .int 0, .int 0, .int 0, .int 0, .ref (am 6), .int 0, .ref (am 7), .int 0, .ref (am 8), .ref (am 9), .int (-1), .int 0, .int 0, .int (-1), .int 0, .ref (am 10), .int 0, .ref (am 11), .ref (am 12), .ref (am 13), .ref (am 14), .long 0, .ref (am 15), .ref (am 16), .ref (am 17), .ref (am 18)])), ((am 9), .inl (G.2.2 0, 110, .inl (fun _ => 0))), ((am 15), .inl (G.2.2 0, 440, .inl (fun _ => 0))), ((am 16), .inl (G.2.2 0, 4, .inl f_12)), ((am 17), .inl (G.2.2 0, 4, .inl (fun _ => 0))), ((am 18), .inl (G.2.2 3, 4, .inl f_11))]) hx hb hK hP hD hS 4 rfl (fun _ => 0) (by unfold vp_in; decide +kernel) (up_z _ _) rfl dX12_image_40 (fun H locs hP hD hS => ?_)
          refine lv_iconst (v := 0) hx hb dX12_image_41 (by decide) ?_
          refine lv_istore_n (lv' := [(2, .int 0), (0, .ref h0), (1, .int 3)]) hx hb dX12_image_42 rfl hl (by decide) rfl (fun ls hl => ?_)
          refine lp_cnt (ws := [(h0, .inr (12, [.ref (am 0), .int 0, .int 0, .ref (am 1), .ref (am 2), .ref (am 3), .ref (am 4), .ref (am 5), .int 0, .int 0, .int 0, .int 0, .int 0, .int 0, .int 0, .ref (am 6), .int 0, .ref (am 7), .int 0, .ref (am 8), .ref (am 9), .int (-1), .int 0, .int 0, .int (-1), .int 0, .ref (am 10), .int 0, .ref (am 11), .ref (am 12), .ref (am 13), .ref (am 14), .long 0, .ref (am 15), .ref (am 16), .ref (am 17), .ref (am 18)])), ((am 9), .inl (G.2.2 0, 110, .inl (fun _ => 0))), ((am 15), .inl (G.2.2 0, 440, .inl (fun _ => 0))), ((am 16), .inl (G.2.2 0, 4, .inl f_12)), ((am 17), .inl (G.2.2 0, 4, .inl (fun _ => 0))), ((am 18), .inl (G.2.2 3, 4, .inl f_11))]) (nL := 3) 110 (fun z => [(2, .int z), (0, .ref h0), (1, .int 3)]) (fun H locs ls hP hD hS hl => ?_) (fun i hi_ H locs ls hP hD hS hl ih => ?_) 0 (Nat.zero_le _) H locs ls hP hD hS hl
          · have hl : lv_has ls 3 [(2, .int 110), (0, .ref h0), (1, .int 3)] := hl
            refine lv_iload_n hx hb dX12_image_43 rfl (lv_at hl 0 rfl) ?_
            refine lv_bipush (v := 110) hx hb dX12_image_44 (by decide +kernel) ?_
            refine lv_icmp_ge (tgt := 72) hx hb dX12_image_46 (by decide) (fun _ => ?_) (fun c0 => absurd (by decide +kernel) c0)
            refine lv_aload_n hx hb dX12_image_72 rfl (lv_at hl 1 rfl) ?_
            refine gq_get hx hb ht hown hK hP i_X12 0 rfl rfl 20 (by decide) wd_1272 rfl rfl dX12_image_73 ?_
            refine lv_bipush (v := 10) hx hb dX12_image_76 (by decide +kernel) ?_
            refine gq_iald hx hb hK hP 1 rfl 0 (by unfold vp_in; decide +kernel) rfl dX12_image_78 ?_
            have hP9 := hP.sub (ws' := []) [] rfl
            have hD9 := hD.sub (ws' := []) [] (by decide) rfl
            exact W.iret (v := 0) hx hb hr (gq_endI () (by decide +kernel) hP9 hD9 hS) hS.2.2 dX12_image_79
          · have hl : lv_has ls 3 [(2, .int (nI i)), (0, .ref h0), (1, .int 3)] := hl
            refine lv_iload_n hx hb dX12_image_43 rfl (lv_at hl 0 rfl) ?_
            refine lv_bipush (v := 110) hx hb dX12_image_44 (by decide +kernel) ?_
            refine lv_icmp_ge (tgt := 72) hx hb dX12_image_46 (by decide) (fun c0 => absurd c0 (nI_ge hi_ (by decide))) (fun _ => ?_)
            refine lv_aload_n hx hb dX12_image_49 rfl (lv_at hl 1 rfl) ?_
            refine gq_get hx hb ht hown hK hP i_X12 0 rfl rfl 33 (by decide) wd_1285 rfl rfl dX12_image_50 ?_
            refine lv_bipush (v := 110) hx hb dX12_image_53 (by decide +kernel) ?_
            refine lv_iload_n hx hb dX12_image_55 rfl (lv_at hl 2 rfl) ?_
            refine gq_imul hx hb 330 (by decide +kernel) dX12_image_56 ?_
            refine lv_iload_n hx hb dX12_image_57 rfl (lv_at hl 0 rfl) ?_
            refine gq_iadd hx hb (nI (330 + i)) (nI_add 330 i) dX12_image_58 ?_
            refine lv_aload_n hx hb dX12_image_59 rfl (lv_at hl 1 rfl) ?_
            refine gq_get hx hb ht hown hK hP i_X12 0 rfl rfl 20 (by decide) wd_1272 rfl rfl dX12_image_60 ?_
            refine lv_iload_n hx hb dX12_image_63 rfl (lv_at hl 0 rfl) ?_
            refine gq_iald hx hb hK hP 1 rfl 0 (vp_in_nI (by omega) (by decide)) rfl dX12_image_64 ?_
            refine gq_iast (ws' := [(h0, .inr (12, [.ref (am 0), .int 0, .int 0, .ref (am 1), .ref (am 2), .ref (am 3), .ref (am 4), .ref (am 5), .int 0, .int 0, .int 0, .int 0, .int 0, .int 0, .int 0, .ref (am 6), .int 0, .ref (am 7), .int 0, .ref (am 8), .ref (am 9), .int (-1), .int 0, .int 0, .int (-1), .int 0, .ref (am 10), .int 0, .ref (am 11), .ref (am 12), .ref (am 13), .ref (am 14), .long 0, .ref (am 15), .ref (am 16), .ref (am 17), .ref (am 18)])), ((am 9), .inl (G.2.2 0, 110, .inl (fun _ => 0))), ((am 15), .inl (G.2.2 0, 440, .inl (fun _ => 0))), ((am 16), .inl (G.2.2 0, 4, .inl f_12)), ((am 17), .inl (G.2.2 0, 4, .inl (fun _ => 0))), ((am 18), .inl (G.2.2 3, 4, .inl f_11))]) hx hb hK hP hD hS 2 rfl (fun _ => 0) (vp_in_nI (by omega) (by decide)) (up_z _ _) rfl dX12_image_65 (fun H locs hP hD hS => ?_)
            refine lv_iinc (v := (nI (i + 1))) (lv' := [(2, .int (nI (i + 1))), (0, .ref h0), (1, .int 3)]) hx hb dX12_image_66 hl (k := 0) rfl (nI_1 i) (by decide) rfl (fun ls hl => ?_)
            refine lv_goto (tgt := 43) hx hb dX12_image_69 (by decide) ?_
            exact ih H locs ls hP hD hS (lv_sub hl [0, 1, 2] rfl)
        · refine lv_iload_n hx hb dX12_image_0 rfl (lv_at hl 1 rfl) ?_
          refine lv_i2l hx hb dX12_image_1 rfl ?_
          refine lv_lconst (v := 0) hx hb dX12_image_2 (by decide +kernel) ?_
          refine lv_ldc2 hx hb hown (ht _ wd_1868) dX12_image_3 ?_
          have hPc := hP.sub (ws' := []) [] rfl
          have hDc := hD.sub (ws' := []) [] (by decide) rfl
          refine gq_callI (wr := [(h0, .inr (12, [.ref (am 0), .int 0, .int 0, .ref (am 1), .ref (am 2), .ref (am 3), .ref (am 4), .ref (am 5), .int 0, .int 0, .int 0, .int 0, .int 0, .int 0, .int 0, .ref (am 6), .int 0, .ref (am 7), .int 0, .ref (am 8), .ref (am 9), .int (-1), .int 0, .int 0, .int (-1), .int 0, .ref (am 10), .int 0, .ref (am 11), .ref (am 12), .ref (am 13), .ref (am 14), .long 0, .ref (am 15), .ref (am 16), .ref (am 17), .ref (am 18)])), ((am 9), .inl (G.2.2 0, 110, .inl (fun _ => 0))), ((am 15), .inl (G.2.2 0, 440, .inl (fun _ => 0))), ((am 16), .inl (G.2.2 0, 4, .inl (fun _ => 0))), ((am 17), .inl (G.2.2 0, 4, .inl (fun _ => 0))), ((am 18), .inl (G.2.2 3, 4, .inl (fun _ => 0)))]) (va_runS (As := [.long (Int32.toInt64 n), .long 0, .long 3]) (rest := []) ⟨hx, hb, hml, hown, ht⟩ (c_M_in l G H.size (Int32.toInt64 n) 0 3) (va_cwS 3 ht (ts_gS wd_1439 wd_1440 wd_134 wd_1441) rfl rfl rfl (by decide +kernel) ⟨Nat.le_of_ble_eq_true rfl, Nat.le_of_ble_eq_true rfl⟩) (gc_preS hK hPc hDc) rfl rfl hl.1 rfl (lv_room (Nat.le_of_ble_eq_true rfl)) dX12_image_6 ⟨Nat.le_of_ble_eq_true rfl, Nat.le_of_ble_eq_true rfl⟩) hP hD hS hA [] [0, 1, 2, 3, 4, 5] rfl rfl (by decide) (by decide) (fun r u H locs hw hP hD hS => ?_)
          have hw : r = (mi_in (Int32.toInt64 n) 0 3) := hw
          subst hw
          have hP : va_P (gg_D G) classes [(h0, .inr (12, [.ref (am 0), .int 0, .int 0, .ref (am 1), .ref (am 2), .ref (am 3), .ref (am 4), .ref (am 5), .int 0, .int 0, .int 0, .int 0, .int 0, .int 0, .int 0, .ref (am 6), .int 0, .ref (am 7), .int 0, .ref (am 8), .ref (am 9), .int (-1), .int 0, .int 0, .int (-1), .int 0, .ref (am 10), .int 0, .ref (am 11), .ref (am 12), .ref (am 13), .ref (am 14), .long 0, .ref (am 15), .ref (am 16), .ref (am 17), .ref (am 18)])), ((am 9), .inl (G.2.2 0, 110, .inl (fun _ => 0))), ((am 15), .inl (G.2.2 0, 440, .inl (fun _ => 0))), ((am 16), .inl (G.2.2 0, 4, .inl (fun _ => 0))), ((am 17), .inl (G.2.2 0, 4, .inl (fun _ => 0))), ((am 18), .inl (G.2.2 3, 4, .inl (fun _ => 0)))] H := hP
          have hD : va_D A [(h0, .inr (12, [.ref (am 0), .int 0, .int 0, .ref (am 1), .ref (am 2), .ref (am 3), .ref (am 4), .ref (am 5), .int 0, .int 0, .int 0, .int 0, .int 0, .int 0, .int 0, .ref (am 6), .int 0, .ref (am 7), .int 0, .ref (am 8), .ref (am 9), .int (-1), .int 0, .int 0, .int (-1), .int 0, .ref (am 10), .int 0, .ref (am 11), .ref (am 12), .ref (am 13), .ref (am 14), .long 0, .ref (am 15), .ref (am 16), .ref (am 17), .ref (am 18)])), ((am 9), .inl (G.2.2 0, 110, .inl (fun _ => 0))), ((am 15), .inl (G.2.2 0, 440, .inl (fun _ => 0))), ((am 16), .inl (G.2.2 0, 4, .inl (fun _ => 0))), ((am 17), .inl (G.2.2 0, 4, .inl (fun _ => 0))), ((am 18), .inl (G.2.2 3, 4, .inl (fun _ => 0)))] := hD
          rw [show (mi_in (Int32.toInt64 n) 0 3) = 0 from mi_out c_1 c_4 c_7 c_10]
          refine lv_if_ne (tgt := 14) hx hb dX12_image_9 (by decide) (fun c0 => absurd (by decide +kernel) c0) (fun _ => ?_)
          refine lv_iconst (v := (-1)) hx hb dX12_image_12 (by decide) ?_
          have hP9 := hP.sub (ws' := []) [] rfl
          have hD9 := hD.sub (ws' := []) [] (by decide) rfl
          exact W.iret (v := (-1)) hx hb hr (gq_endI () (by simp only [sp_image, c_1, c_4, c_7, c_10, if_false]) hP9 hD9 hS) hS.2.2 dX12_image_13
set_option maxHeartbeats 4000000 in
set_option maxRecDepth 100000 in
theorem c_M_back (l : Launch) (G : gg_T) (sz : Nat) (h0 : Nat) (am : Nat → Nat) (n : Int32) : Met l yX12_back (ts_L yX12_back cX12_back 3 (some .int)) ({ frames := 1, cells := 0, slots := 0, locals := 25 }) (gc_P G [(h0, .inr (12, [.ref (am 0), .int 0, .int 0, .ref (am 1), .ref (am 2), .ref (am 3), .ref (am 4), .ref (am 5), .int 0, .int 0, .int 0, .int 0, .int 0, .int 0, .int 0, .ref (am 6), .int 0, .ref (am 7), .int 0, .ref (am 8), .ref (am 9), .int (-1), .int 0, .int 0, .int (-1), .int 0, .ref (am 10), .int 0, .ref (am 11), .ref (am 12), .ref (am 13), .ref (am 14), .long 0, .ref (am 15), .ref (am 16), .ref (am 17), .ref (am 18)])), ((am 18), .inl (G.2.2 3, 4, .inl (fun _ => 0)))] sz [.ref h0, .int n]) (gc_I G (va_A [(h0, .inr (12, [.ref (am 0), .int 0, .int 0, .ref (am 1), .ref (am 2), .ref (am 3), .ref (am 4), .ref (am 5), .int 0, .int 0, .int 0, .int 0, .int 0, .int 0, .int 0, .ref (am 6), .int 0, .ref (am 7), .int 0, .ref (am 8), .ref (am 9), .int (-1), .int 0, .int 0, .int (-1), .int 0, .ref (am 10), .int 0, .ref (am 11), .ref (am 12), .ref (am 13), .ref (am 14), .long 0, .ref (am 15), .ref (am 16), .ref (am 17), .ref (am 18)])), ((am 18), .inl (G.2.2 3, 4, .inl (fun _ => 0)))] sz) (fun r (_ : Unit) => r = (-1)) (fun _ => [])) 0 0 (va_A [(h0, .inr (12, [.ref (am 0), .int 0, .int 0, .ref (am 1), .ref (am 2), .ref (am 3), .ref (am 4), .ref (am 5), .int 0, .int 0, .int 0, .int 0, .int 0, .int 0, .int 0, .ref (am 6), .int 0, .ref (am 7), .int 0, .ref (am 8), .ref (am 9), .int (-1), .int 0, .int 0, .int (-1), .int 0, .ref (am 10), .int 0, .ref (am 11), .ref (am 12), .ref (am 13), .ref (am 14), .long 0, .ref (am 15), .ref (am 16), .ref (am 17), .ref (am 18)])), ((am 18), .inl (G.2.2 3, 4, .inl (fun _ => 0)))] sz) := by
  refine Met.ofW (cc := cX12_back) (maxL := 3) (ret := (some .int)) (by decide) rfl ?_
  intro p e s m args below meth c s₁ B hml hv
  obtain ⟨rfl, hsz, hP, hK, hD0⟩ := hv
  have hx := B.exec
  have hb := B.bytes
  have hr := B.returns
  have ht := ts_ht (atoms_spec (ws := ts_L yX12_back cX12_back 3 (some .int)) B.pre)
  have hown : s.vm.findClass RX12 = some m.cls := findClass_of_methodNamed B.named
  have hlocks := B.notSynchronized
  subst hsz
  have hD := hD0.self (sz := s.heap.size)
  generalize hAe : va_A [(h0, .inr (12, [.ref (am 0), .int 0, .int 0, .ref (am 1), .ref (am 2), .ref (am 3), .ref (am 4), .ref (am 5), .int 0, .int 0, .int 0, .int 0, .int 0, .int 0, .int 0, .ref (am 6), .int 0, .ref (am 7), .int 0, .ref (am 8), .ref (am 9), .int (-1), .int 0, .int 0, .int (-1), .int 0, .ref (am 10), .int 0, .ref (am 11), .ref (am 12), .ref (am 13), .ref (am 14), .long 0, .ref (am 15), .ref (am 16), .ref (am 17), .ref (am 18)])), ((am 18), .inl (G.2.2 3, 4, .inl (fun _ => 0)))] s.heap.size = A at hD ⊢
  have hA : ∀ q : Nat, s.heap.size ≤ q → A q := fun q h => by rw [← hAe]; exact Or.inr h
  have hS : va_S A s.heap s.heap [] := va_S.rf
  have hl := lv_entry ([.ref h0, .int n]) (n := 3) (Nat.le_of_ble_eq_true rfl)
  rw [lg_entry_eq]
  generalize (lg_sl ([.ref h0, .int n]) ++ List.replicate (3 - (lg_sl ([.ref h0, .int n])).length) Slot.unset).toArray = ls at hl ⊢
  have hl : lv_has ls 3 [(0, .ref h0), (1, .int n)] := hl
  by_cases c_1 : n = 0
  · subst c_1
    refine lv_iload_n hx hb dX12_back_0 rfl (lv_at hl 1 rfl) ?_
    refine lv_i2l (v := 0) hx hb dX12_back_1 (by decide +kernel) ?_
    refine lv_lconst (v := 0) hx hb dX12_back_2 (by decide +kernel) ?_
    refine lv_ldc2 hx hb hown (ht _ wd_1868) dX12_back_3 ?_
    have hPc := hP.sub (ws' := []) [] rfl
    have hDc := hD.sub (ws' := []) [] (by decide) rfl
    refine gq_callI (wr := [(h0, .inr (12, [.ref (am 0), .int 0, .int 0, .ref (am 1), .ref (am 2), .ref (am 3), .ref (am 4), .ref (am 5), .int 0, .int 0, .int 0, .int 0, .int 0, .int 0, .int 0, .ref (am 6), .int 0, .ref (am 7), .int 0, .ref (am 8), .ref (am 9), .int (-1), .int 0, .int 0, .int (-1), .int 0, .ref (am 10), .int 0, .ref (am 11), .ref (am 12), .ref (am 13), .ref (am 14), .long 0, .ref (am 15), .ref (am 16), .ref (am 17), .ref (am 18)])), ((am 18), .inl (G.2.2 3, 4, .inl (fun _ => 0)))]) (va_runS (As := [.long 0, .long 0, .long 3]) (rest := []) ⟨hx, hb, hml, hown, ht⟩ (c_M_in l G H.size 0 0 3) (va_cwS 3 ht (ts_gS wd_1439 wd_1440 wd_134 wd_1441) rfl rfl rfl (by decide +kernel) ⟨Nat.le_of_ble_eq_true rfl, Nat.le_of_ble_eq_true rfl⟩) (gc_preS hK hPc hDc) rfl rfl hl.1 rfl (lv_room (Nat.le_of_ble_eq_true rfl)) dX12_back_6 ⟨Nat.le_of_ble_eq_true rfl, Nat.le_of_ble_eq_true rfl⟩) hP hD hS hA [] [0, 1] rfl rfl (by decide) (by decide) (fun r u H locs hw hP hD hS => ?_)
    have hw : r = (mi_in 0 0 3) := hw
    subst hw
    have hP : va_P (gg_D G) classes [(h0, .inr (12, [.ref (am 0), .int 0, .int 0, .ref (am 1), .ref (am 2), .ref (am 3), .ref (am 4), .ref (am 5), .int 0, .int 0, .int 0, .int 0, .int 0, .int 0, .int 0, .ref (am 6), .int 0, .ref (am 7), .int 0, .ref (am 8), .ref (am 9), .int (-1), .int 0, .int 0, .int (-1), .int 0, .ref (am 10), .int 0, .ref (am 11), .ref (am 12), .ref (am 13), .ref (am 14), .long 0, .ref (am 15), .ref (am 16), .ref (am 17), .ref (am 18)])), ((am 18), .inl (G.2.2 3, 4, .inl (fun _ => 0)))] H := hP
    have hD : va_D A [(h0, .inr (12, [.ref (am 0), .int 0, .int 0, .ref (am 1), .ref (am 2), .ref (am 3), .ref (am 4), .ref (am 5), .int 0, .int 0, .int 0, .int 0, .int 0, .int 0, .int 0, .ref (am 6), .int 0, .ref (am 7), .int 0, .ref (am 8), .ref (am 9), .int (-1), .int 0, .int 0, .int (-1), .int 0, .ref (am 10), .int 0, .ref (am 11), .ref (am 12), .ref (am 13), .ref (am 14), .long 0, .ref (am 15), .ref (am 16), .ref (am 17), .ref (am 18)])), ((am 18), .inl (G.2.2 3, 4, .inl (fun _ => 0)))] := hD
    rw [show (mi_in 0 0 3) = 1 by decide +kernel]
    refine lv_if_eq (tgt := 21) hx hb dX12_back_9 (by decide) (fun c0 => absurd c0 (by decide +kernel)) (fun _ => ?_)
    refine lv_aload_n hx hb dX12_back_12 rfl (lv_at hl 0 rfl) ?_
    refine gq_get hx hb ht hown hK hP i_X12 0 rfl rfl 36 (by decide) wd_1288 rfl rfl dX12_back_13 ?_
    refine lv_iload_n hx hb dX12_back_16 rfl (lv_at hl 1 rfl) ?_
    refine gq_zald hx hb hK hP 1 rfl 0 (by unfold vp_in; decide +kernel) rfl dX12_back_17 ?_
    refine lv_if_ne (tgt := 23) hx hb dX12_back_18 (by decide) (fun c0 => absurd (by decide +kernel) c0) (fun _ => ?_)
    refine lv_iconst (v := (-1)) hx hb dX12_back_21 (by decide) ?_
    have hP9 := hP.sub (ws' := []) [] rfl
    have hD9 := hD.sub (ws' := []) [] (by decide) rfl
    exact W.iret (v := (-1)) hx hb hr (gq_endI () rfl hP9 hD9 hS) hS.2.2 dX12_back_22
  · by_cases c_2 : n = 1
    · subst c_2
      refine lv_iload_n hx hb dX12_back_0 rfl (lv_at hl 1 rfl) ?_
      refine lv_i2l (v := 1) hx hb dX12_back_1 (by decide +kernel) ?_
      refine lv_lconst (v := 0) hx hb dX12_back_2 (by decide +kernel) ?_
      refine lv_ldc2 hx hb hown (ht _ wd_1868) dX12_back_3 ?_
      have hPc := hP.sub (ws' := []) [] rfl
      have hDc := hD.sub (ws' := []) [] (by decide) rfl
      refine gq_callI (wr := [(h0, .inr (12, [.ref (am 0), .int 0, .int 0, .ref (am 1), .ref (am 2), .ref (am 3), .ref (am 4), .ref (am 5), .int 0, .int 0, .int 0, .int 0, .int 0, .int 0, .int 0, .ref (am 6), .int 0, .ref (am 7), .int 0, .ref (am 8), .ref (am 9), .int (-1), .int 0, .int 0, .int (-1), .int 0, .ref (am 10), .int 0, .ref (am 11), .ref (am 12), .ref (am 13), .ref (am 14), .long 0, .ref (am 15), .ref (am 16), .ref (am 17), .ref (am 18)])), ((am 18), .inl (G.2.2 3, 4, .inl (fun _ => 0)))]) (va_runS (As := [.long 1, .long 0, .long 3]) (rest := []) ⟨hx, hb, hml, hown, ht⟩ (c_M_in l G H.size 1 0 3) (va_cwS 3 ht (ts_gS wd_1439 wd_1440 wd_134 wd_1441) rfl rfl rfl (by decide +kernel) ⟨Nat.le_of_ble_eq_true rfl, Nat.le_of_ble_eq_true rfl⟩) (gc_preS hK hPc hDc) rfl rfl hl.1 rfl (lv_room (Nat.le_of_ble_eq_true rfl)) dX12_back_6 ⟨Nat.le_of_ble_eq_true rfl, Nat.le_of_ble_eq_true rfl⟩) hP hD hS hA [] [0, 1] rfl rfl (by decide) (by decide) (fun r u H locs hw hP hD hS => ?_)
      have hw : r = (mi_in 1 0 3) := hw
      subst hw
      have hP : va_P (gg_D G) classes [(h0, .inr (12, [.ref (am 0), .int 0, .int 0, .ref (am 1), .ref (am 2), .ref (am 3), .ref (am 4), .ref (am 5), .int 0, .int 0, .int 0, .int 0, .int 0, .int 0, .int 0, .ref (am 6), .int 0, .ref (am 7), .int 0, .ref (am 8), .ref (am 9), .int (-1), .int 0, .int 0, .int (-1), .int 0, .ref (am 10), .int 0, .ref (am 11), .ref (am 12), .ref (am 13), .ref (am 14), .long 0, .ref (am 15), .ref (am 16), .ref (am 17), .ref (am 18)])), ((am 18), .inl (G.2.2 3, 4, .inl (fun _ => 0)))] H := hP
      have hD : va_D A [(h0, .inr (12, [.ref (am 0), .int 0, .int 0, .ref (am 1), .ref (am 2), .ref (am 3), .ref (am 4), .ref (am 5), .int 0, .int 0, .int 0, .int 0, .int 0, .int 0, .int 0, .ref (am 6), .int 0, .ref (am 7), .int 0, .ref (am 8), .ref (am 9), .int (-1), .int 0, .int 0, .int (-1), .int 0, .ref (am 10), .int 0, .ref (am 11), .ref (am 12), .ref (am 13), .ref (am 14), .long 0, .ref (am 15), .ref (am 16), .ref (am 17), .ref (am 18)])), ((am 18), .inl (G.2.2 3, 4, .inl (fun _ => 0)))] := hD
      rw [show (mi_in 1 0 3) = 1 by decide +kernel]
      refine lv_if_eq (tgt := 21) hx hb dX12_back_9 (by decide) (fun c0 => absurd c0 (by decide +kernel)) (fun _ => ?_)
      refine lv_aload_n hx hb dX12_back_12 rfl (lv_at hl 0 rfl) ?_
      refine gq_get hx hb ht hown hK hP i_X12 0 rfl rfl 36 (by decide) wd_1288 rfl rfl dX12_back_13 ?_
      refine lv_iload_n hx hb dX12_back_16 rfl (lv_at hl 1 rfl) ?_
      refine gq_zald hx hb hK hP 1 rfl 0 (by unfold vp_in; decide +kernel) rfl dX12_back_17 ?_
      refine lv_if_ne (tgt := 23) hx hb dX12_back_18 (by decide) (fun c0 => absurd (by decide +kernel) c0) (fun _ => ?_)
      refine lv_iconst (v := (-1)) hx hb dX12_back_21 (by decide) ?_
      have hP9 := hP.sub (ws' := []) [] rfl
      have hD9 := hD.sub (ws' := []) [] (by decide) rfl
      exact W.iret (v := (-1)) hx hb hr (gq_endI () rfl hP9 hD9 hS) hS.2.2 dX12_back_22
    · by_cases c_3 : n = 2
      · subst c_3
        refine lv_iload_n hx hb dX12_back_0 rfl (lv_at hl 1 rfl) ?_
        refine lv_i2l (v := 2) hx hb dX12_back_1 (by decide +kernel) ?_
        refine lv_lconst (v := 0) hx hb dX12_back_2 (by decide +kernel) ?_
        refine lv_ldc2 hx hb hown (ht _ wd_1868) dX12_back_3 ?_
        have hPc := hP.sub (ws' := []) [] rfl
        have hDc := hD.sub (ws' := []) [] (by decide) rfl
        refine gq_callI (wr := [(h0, .inr (12, [.ref (am 0), .int 0, .int 0, .ref (am 1), .ref (am 2), .ref (am 3), .ref (am 4), .ref (am 5), .int 0, .int 0, .int 0, .int 0, .int 0, .int 0, .int 0, .ref (am 6), .int 0, .ref (am 7), .int 0, .ref (am 8), .ref (am 9), .int (-1), .int 0, .int 0, .int (-1), .int 0, .ref (am 10), .int 0, .ref (am 11), .ref (am 12), .ref (am 13), .ref (am 14), .long 0, .ref (am 15), .ref (am 16), .ref (am 17), .ref (am 18)])), ((am 18), .inl (G.2.2 3, 4, .inl (fun _ => 0)))]) (va_runS (As := [.long 2, .long 0, .long 3]) (rest := []) ⟨hx, hb, hml, hown, ht⟩ (c_M_in l G H.size 2 0 3) (va_cwS 3 ht (ts_gS wd_1439 wd_1440 wd_134 wd_1441) rfl rfl rfl (by decide +kernel) ⟨Nat.le_of_ble_eq_true rfl, Nat.le_of_ble_eq_true rfl⟩) (gc_preS hK hPc hDc) rfl rfl hl.1 rfl (lv_room (Nat.le_of_ble_eq_true rfl)) dX12_back_6 ⟨Nat.le_of_ble_eq_true rfl, Nat.le_of_ble_eq_true rfl⟩) hP hD hS hA [] [0, 1] rfl rfl (by decide) (by decide) (fun r u H locs hw hP hD hS => ?_)
        have hw : r = (mi_in 2 0 3) := hw
        subst hw
        have hP : va_P (gg_D G) classes [(h0, .inr (12, [.ref (am 0), .int 0, .int 0, .ref (am 1), .ref (am 2), .ref (am 3), .ref (am 4), .ref (am 5), .int 0, .int 0, .int 0, .int 0, .int 0, .int 0, .int 0, .ref (am 6), .int 0, .ref (am 7), .int 0, .ref (am 8), .ref (am 9), .int (-1), .int 0, .int 0, .int (-1), .int 0, .ref (am 10), .int 0, .ref (am 11), .ref (am 12), .ref (am 13), .ref (am 14), .long 0, .ref (am 15), .ref (am 16), .ref (am 17), .ref (am 18)])), ((am 18), .inl (G.2.2 3, 4, .inl (fun _ => 0)))] H := hP
        have hD : va_D A [(h0, .inr (12, [.ref (am 0), .int 0, .int 0, .ref (am 1), .ref (am 2), .ref (am 3), .ref (am 4), .ref (am 5), .int 0, .int 0, .int 0, .int 0, .int 0, .int 0, .int 0, .ref (am 6), .int 0, .ref (am 7), .int 0, .ref (am 8), .ref (am 9), .int (-1), .int 0, .int 0, .int (-1), .int 0, .ref (am 10), .int 0, .ref (am 11), .ref (am 12), .ref (am 13), .ref (am 14), .long 0, .ref (am 15), .ref (am 16), .ref (am 17), .ref (am 18)])), ((am 18), .inl (G.2.2 3, 4, .inl (fun _ => 0)))] := hD
        rw [show (mi_in 2 0 3) = 1 by decide +kernel]
        refine lv_if_eq (tgt := 21) hx hb dX12_back_9 (by decide) (fun c0 => absurd c0 (by decide +kernel)) (fun _ => ?_)
        refine lv_aload_n hx hb dX12_back_12 rfl (lv_at hl 0 rfl) ?_
        refine gq_get hx hb ht hown hK hP i_X12 0 rfl rfl 36 (by decide) wd_1288 rfl rfl dX12_back_13 ?_
        refine lv_iload_n hx hb dX12_back_16 rfl (lv_at hl 1 rfl) ?_
        refine gq_zald hx hb hK hP 1 rfl 0 (by unfold vp_in; decide +kernel) rfl dX12_back_17 ?_
        refine lv_if_ne (tgt := 23) hx hb dX12_back_18 (by decide) (fun c0 => absurd (by decide +kernel) c0) (fun _ => ?_)
        refine lv_iconst (v := (-1)) hx hb dX12_back_21 (by decide) ?_
        have hP9 := hP.sub (ws' := []) [] rfl
        have hD9 := hD.sub (ws' := []) [] (by decide) rfl
        exact W.iret (v := (-1)) hx hb hr (gq_endI () rfl hP9 hD9 hS) hS.2.2 dX12_back_22
      · by_cases c_4 : n = 3
        · subst c_4
          refine lv_iload_n hx hb dX12_back_0 rfl (lv_at hl 1 rfl) ?_
          refine lv_i2l (v := 3) hx hb dX12_back_1 (by decide +kernel) ?_
          refine lv_lconst (v := 0) hx hb dX12_back_2 (by decide +kernel) ?_
          refine lv_ldc2 hx hb hown (ht _ wd_1868) dX12_back_3 ?_
          have hPc := hP.sub (ws' := []) [] rfl
          have hDc := hD.sub (ws' := []) [] (by decide) rfl
          refine gq_callI (wr := [(h0, .inr (12, [.ref (am 0), .int 0, .int 0, .ref (am 1), .ref (am 2), .ref (am 3), .ref (am 4), .ref (am 5), .int 0, .int 0, .int 0, .int 0, .int 0, .int 0, .int 0, .ref (am 6), .int 0, .ref (am 7), .int 0, .ref (am 8), .ref (am 9), .int (-1), .int 0, .int 0, .int (-1), .int 0, .ref (am 10), .int 0, .ref (am 11), .ref (am 12), .ref (am 13), .ref (am 14), .long 0, .ref (am 15), .ref (am 16), .ref (am 17), .ref (am 18)])), ((am 18), .inl (G.2.2 3, 4, .inl (fun _ => 0)))]) (va_runS (As := [.long 3, .long 0, .long 3]) (rest := []) ⟨hx, hb, hml, hown, ht⟩ (c_M_in l G H.size 3 0 3) (va_cwS 3 ht (ts_gS wd_1439 wd_1440 wd_134 wd_1441) rfl rfl rfl (by decide +kernel) ⟨Nat.le_of_ble_eq_true rfl, Nat.le_of_ble_eq_true rfl⟩) (gc_preS hK hPc hDc) rfl rfl hl.1 rfl (lv_room (Nat.le_of_ble_eq_true rfl)) dX12_back_6 ⟨Nat.le_of_ble_eq_true rfl, Nat.le_of_ble_eq_true rfl⟩) hP hD hS hA [] [0, 1] rfl rfl (by decide) (by decide) (fun r u H locs hw hP hD hS => ?_)
          have hw : r = (mi_in 3 0 3) := hw
          subst hw
          have hP : va_P (gg_D G) classes [(h0, .inr (12, [.ref (am 0), .int 0, .int 0, .ref (am 1), .ref (am 2), .ref (am 3), .ref (am 4), .ref (am 5), .int 0, .int 0, .int 0, .int 0, .int 0, .int 0, .int 0, .ref (am 6), .int 0, .ref (am 7), .int 0, .ref (am 8), .ref (am 9), .int (-1), .int 0, .int 0, .int (-1), .int 0, .ref (am 10), .int 0, .ref (am 11), .ref (am 12), .ref (am 13), .ref (am 14), .long 0, .ref (am 15), .ref (am 16), .ref (am 17), .ref (am 18)])), ((am 18), .inl (G.2.2 3, 4, .inl (fun _ => 0)))] H := hP
          have hD : va_D A [(h0, .inr (12, [.ref (am 0), .int 0, .int 0, .ref (am 1), .ref (am 2), .ref (am 3), .ref (am 4), .ref (am 5), .int 0, .int 0, .int 0, .int 0, .int 0, .int 0, .int 0, .ref (am 6), .int 0, .ref (am 7), .int 0, .ref (am 8), .ref (am 9), .int (-1), .int 0, .int 0, .int (-1), .int 0, .ref (am 10), .int 0, .ref (am 11), .ref (am 12), .ref (am 13), .ref (am 14), .long 0, .ref (am 15), .ref (am 16), .ref (am 17), .ref (am 18)])), ((am 18), .inl (G.2.2 3, 4, .inl (fun _ => 0)))] := hD
          rw [show (mi_in 3 0 3) = 1 by decide +kernel]
          refine lv_if_eq (tgt := 21) hx hb dX12_back_9 (by decide) (fun c0 => absurd c0 (by decide +kernel)) (fun _ => ?_)
          refine lv_aload_n hx hb dX12_back_12 rfl (lv_at hl 0 rfl) ?_
          refine gq_get hx hb ht hown hK hP i_X12 0 rfl rfl 36 (by decide) wd_1288 rfl rfl dX12_back_13 ?_
          refine lv_iload_n hx hb dX12_back_16 rfl (lv_at hl 1 rfl) ?_
          refine gq_zald hx hb hK hP 1 rfl 0 (by unfold vp_in; decide +kernel) rfl dX12_back_17 ?_
          refine lv_if_ne (tgt := 23) hx hb dX12_back_18 (by decide) (fun c0 => absurd (by decide +kernel) c0) (fun _ => ?_)
          refine lv_iconst (v := (-1)) hx hb dX12_back_21 (by decide) ?_
          have hP9 := hP.sub (ws' := []) [] rfl
          have hD9 := hD.sub (ws' := []) [] (by decide) rfl
          exact W.iret (v := (-1)) hx hb hr (gq_endI () rfl hP9 hD9 hS) hS.2.2 dX12_back_22
        · refine lv_iload_n hx hb dX12_back_0 rfl (lv_at hl 1 rfl) ?_
          refine lv_i2l hx hb dX12_back_1 rfl ?_
          refine lv_lconst (v := 0) hx hb dX12_back_2 (by decide +kernel) ?_
          refine lv_ldc2 hx hb hown (ht _ wd_1868) dX12_back_3 ?_
          have hPc := hP.sub (ws' := []) [] rfl
          have hDc := hD.sub (ws' := []) [] (by decide) rfl
          refine gq_callI (wr := [(h0, .inr (12, [.ref (am 0), .int 0, .int 0, .ref (am 1), .ref (am 2), .ref (am 3), .ref (am 4), .ref (am 5), .int 0, .int 0, .int 0, .int 0, .int 0, .int 0, .int 0, .ref (am 6), .int 0, .ref (am 7), .int 0, .ref (am 8), .ref (am 9), .int (-1), .int 0, .int 0, .int (-1), .int 0, .ref (am 10), .int 0, .ref (am 11), .ref (am 12), .ref (am 13), .ref (am 14), .long 0, .ref (am 15), .ref (am 16), .ref (am 17), .ref (am 18)])), ((am 18), .inl (G.2.2 3, 4, .inl (fun _ => 0)))]) (va_runS (As := [.long (Int32.toInt64 n), .long 0, .long 3]) (rest := []) ⟨hx, hb, hml, hown, ht⟩ (c_M_in l G H.size (Int32.toInt64 n) 0 3) (va_cwS 3 ht (ts_gS wd_1439 wd_1440 wd_134 wd_1441) rfl rfl rfl (by decide +kernel) ⟨Nat.le_of_ble_eq_true rfl, Nat.le_of_ble_eq_true rfl⟩) (gc_preS hK hPc hDc) rfl rfl hl.1 rfl (lv_room (Nat.le_of_ble_eq_true rfl)) dX12_back_6 ⟨Nat.le_of_ble_eq_true rfl, Nat.le_of_ble_eq_true rfl⟩) hP hD hS hA [] [0, 1] rfl rfl (by decide) (by decide) (fun r u H locs hw hP hD hS => ?_)
          have hw : r = (mi_in (Int32.toInt64 n) 0 3) := hw
          subst hw
          have hP : va_P (gg_D G) classes [(h0, .inr (12, [.ref (am 0), .int 0, .int 0, .ref (am 1), .ref (am 2), .ref (am 3), .ref (am 4), .ref (am 5), .int 0, .int 0, .int 0, .int 0, .int 0, .int 0, .int 0, .ref (am 6), .int 0, .ref (am 7), .int 0, .ref (am 8), .ref (am 9), .int (-1), .int 0, .int 0, .int (-1), .int 0, .ref (am 10), .int 0, .ref (am 11), .ref (am 12), .ref (am 13), .ref (am 14), .long 0, .ref (am 15), .ref (am 16), .ref (am 17), .ref (am 18)])), ((am 18), .inl (G.2.2 3, 4, .inl (fun _ => 0)))] H := hP
          have hD : va_D A [(h0, .inr (12, [.ref (am 0), .int 0, .int 0, .ref (am 1), .ref (am 2), .ref (am 3), .ref (am 4), .ref (am 5), .int 0, .int 0, .int 0, .int 0, .int 0, .int 0, .int 0, .ref (am 6), .int 0, .ref (am 7), .int 0, .ref (am 8), .ref (am 9), .int (-1), .int 0, .int 0, .int (-1), .int 0, .ref (am 10), .int 0, .ref (am 11), .ref (am 12), .ref (am 13), .ref (am 14), .long 0, .ref (am 15), .ref (am 16), .ref (am 17), .ref (am 18)])), ((am 18), .inl (G.2.2 3, 4, .inl (fun _ => 0)))] := hD
          rw [show (mi_in (Int32.toInt64 n) 0 3) = 0 from mi_out c_1 c_2 c_3 c_4]
          refine lv_if_eq (tgt := 21) hx hb dX12_back_9 (by decide) (fun _ => ?_) (fun c0 => absurd (by decide +kernel) c0)
          refine lv_iconst (v := (-1)) hx hb dX12_back_21 (by decide) ?_
          have hP9 := hP.sub (ws' := []) [] rfl
          have hD9 := hD.sub (ws' := []) [] (by decide) rfl
          exact W.iret (v := (-1)) hx hb hr (gq_endI () rfl hP9 hD9 hS) hS.2.2 dX12_back_22

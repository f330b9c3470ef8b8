/-! the texts that the class reads by, as they lie in the heap -/
def sx_b (i : Nat) : List Int32 := match i with
  | 0 => [115, 97, 108, 101, 32, 98, 105, 100, 100, 101, 114, 32, 108, 111, 116, 32, 119, 111, 114, 116, 104, 32, 116, 114, 105, 99, 107]
  | 1 => [115, 112, 101, 97, 107]
  | 2 => [98, 105, 100, 100, 101, 114, 32, 108, 111, 116, 32, 119, 111, 114, 116, 104, 32, 112, 117, 114, 115, 101, 32, 112, 97, 116, 105, 101, 110, 99, 101, 32, 109, 105, 110, 117, 116, 101, 32, 111, 116, 104, 101, 114, 115, 32, 116, 114, 105, 99, 107, 101, 100, 32, 98, 101, 115, 116, 32, 114, 111, 111, 109, 115]
  | 3 => [105, 102]
  | 4 => [110, 111, 116]
  | 5 => [97, 110, 100]
  | _ => [111, 114]
theorem sx_vin {k n : Int32} {N : Nat} (h1 : ¬ k < 0) (h2 : k < n) (hn : n.toInt = N) : vp_in k N := by
  rw [vp_in_iff]
  have z : (0 : Int32).toInt = 0 := by decide +kernel
  rw [Int32.lt_iff_toInt_lt] at h1 h2
  omega
def sx_G (K V : Nat → Nat) (A : Nat → Prop) (U : State) (H : Heap) : Prop :=
  (∀ i : Nat, i < 7 → va_O "java/lang/String" (K i) A U H ∧ va_OF "java/lang/String" "coder" "B" (.int 0) (K i) A U H ∧ va_OF "java/lang/String" "value" "[B" (.ref (V i)) (K i) A U H ∧ va_T .byte (V i) (sx_b i).length (fun j => .int ((sx_b i).getD j 0)) A U H) ∧
  va_Z "java/lang/String" "COMPACT_STRINGS" "Z" (.int 1) A U H ∧ va_Zq "jdk/internal/util/Preconditions" "SIOOBE_FORMATTER" "Ljava/util/function/BiFunction;" A U H ∧ vk_R "SilentSale$Terms" 73 "sale bidder lot worth trick" (K 0) U ∧ vk_R "SilentSale$Rule" 79 "speak" (K 1) U ∧ vk_R "SilentSale$Rule" 130 "bidder lot worth purse patience minute others tricked best rooms" (K 2) U ∧ vk_R "SilentSale$Rule" 58 "if" (K 3) U ∧ vk_R "SilentSale$Rule" 94 "not" (K 4) U ∧ vk_R "SilentSale$Rule" 113 "and" (K 5) U ∧ vk_R "SilentSale$Rule" 115 "or" (K 6) U
theorem sx_G.warm {K V : Nat → Nat} {A : Nat → Prop} {s U : State} {H : Heap} (h : sx_G K V A s H) (hW : s.WarmedH U.vm) : sx_G K V A U H :=
  ⟨fun i hi => ⟨va_O.moved hW.alike (h.1 i hi).1, va_OF.moved hW.alike (h.1 i hi).2.1, va_OF.moved hW.alike (h.1 i hi).2.2.1, va_T.moved hW.alike (h.1 i hi).2.2.2⟩, va_Z.moved hW.alike h.2.1, va_Zq.moved hW.alike h.2.2.1, (h.2.2.2.1).warm hW, (h.2.2.2.2.1).warm hW, (h.2.2.2.2.2.1).warm hW, (h.2.2.2.2.2.2.1).warm hW, (h.2.2.2.2.2.2.2.1).warm hW, (h.2.2.2.2.2.2.2.2.1).warm hW, (h.2.2.2.2.2.2.2.2.2).warm hW⟩
theorem sx_G.calls {K V : Nat → Nat} {A : Nat → Prop} {U : State} {H : Heap} {g : JFrame} {mk : MethodId} {a : Array Value} (h : sx_G K V A U H) : sx_G K V A (U.calling g mk a) H :=
  have q : U.vm.Alike (U.calling g mk a).vm := Vm.Alike.refl U.vm
  ⟨fun i hi => ⟨va_O.moved q (h.1 i hi).1, va_OF.moved q (h.1 i hi).2.1, va_OF.moved q (h.1 i hi).2.2.1, va_T.moved q (h.1 i hi).2.2.2⟩, va_Z.moved q h.2.1, va_Zq.moved q h.2.2.1, vk_R.same (u := U) rfl (h.2.2.2.1), vk_R.same (u := U) rfl (h.2.2.2.2.1), vk_R.same (u := U) rfl (h.2.2.2.2.2.1), vk_R.same (u := U) rfl (h.2.2.2.2.2.2.1), vk_R.same (u := U) rfl (h.2.2.2.2.2.2.2.1), vk_R.same (u := U) rfl (h.2.2.2.2.2.2.2.2.1), vk_R.same (u := U) rfl (h.2.2.2.2.2.2.2.2.2)⟩
theorem sx_G.to {K V : Nat → Nat} {A B : Nat → Prop} {s : State} {H : Heap} {locs : List Loc} (h : sx_G K V A s s.heap) (hS : va_S A s.heap H locs) (hB : ∀ q, B q → A q) : sx_G K V B s H :=
  ⟨fun i hi => ⟨((h.1 i hi).1.kept hS.2.1).narrow hB, ((h.1 i hi).2.1.kept hS.2.1).narrow hB, ((h.1 i hi).2.2.1.kept hS.2.1).narrow hB, ((h.1 i hi).2.2.2.kept hS.2.1).narrow hB⟩, (h.2.1.kept hS.2.1).narrow hB, (h.2.2.1.kept hS.2.1).narrow hB, h.2.2.2⟩
abbrev gx_P (G : gg_T) (K V : Nat → Nat) (ws : va_W) (sz : Nat) (av : List Value) : Array Value → State → Prop := va_Pc av (fun U => U.heap.size = sz ∧ va_P (gg_D G) classes ws U.heap ∧ gg_K G U ∧ va_D (fun _ => True) ws ∧ sx_G K V (va_A ws sz) U U.heap)
theorem gx_preS {G : gg_T} {K V : Nat → Nat} {s : State} {H : Heap} {locs : List Loc} {wc : va_W} {A : Nat → Prop} {As : List Value} (hK : gg_K G s) (hP : va_P (gg_D G) classes wc H) (hD : va_D A wc) (hX : sx_G K V A s s.heap) (hS : va_S A s.heap H locs) (hF : ∀ q, va_A wc H.size q → A q) : PreS s H (gx_P G K V wc H.size As) As :=
  ⟨fun a U g mk q => by obtain ⟨q0, q1, qP, qK, qD, qX⟩ := q; exact ⟨q0, q1, qP, qK.calls, qD, qX.calls⟩, fun U hU hW => ⟨rfl, by rw [hU], by rw [hU]; exact hP, hK.warm hW, hD.weaken (fun _ _ _ _ => trivial), by rw [hU]; exact (hX.to hS hF).warm hW⟩⟩
theorem gx_preV {G : gg_T} {K V : Nat → Nat} {s : State} {H : Heap} {locs : List Loc} {wc : va_W} {A : Nat → Prop} {As : List Value} {b ci q0 : Nat} {r : vw_C} {fs : List Value} (hK : gg_K G s) (hP : va_P (gg_D G) classes wc H) (hD : va_D A wc) (hX : sx_G K V A s s.heap) (hS : va_S A s.heap H locs) (hF : ∀ q, va_A wc H.size q → A q) (hc : classes[ci]? = some r) (he : wc[q0]? = some (b, .inr (ci, fs))) : PreV s H r.1 b (gx_P G K V wc H.size (.ref b :: As)) As :=
  ⟨(gx_preS hK hP hD hX hS hF).1, va_recv hK.1 hP hc he, (gx_preS hK hP hD hX hS hF).2⟩
theorem gx_preK {G : gg_T} {K V : Nat → Nat} {s : State} {H : Heap} {locs : List Loc} {wc : va_W} {A : Nat → Prop} {As : List Value} (i : Nat) (hi : i < 7) (hK : gg_K G s) (hP : va_P (gg_D G) classes wc H) (hD : va_D A wc) (hX : sx_G K V A s s.heap) (hS : va_S A s.heap H locs) (hF : ∀ q, va_A wc H.size q → A q) : PreV s H "java/lang/String" (K i) (gx_P G K V wc H.size (.ref (K i) :: As)) As :=
  ⟨(gx_preS hK hP hD hX hS hF).1, (by
    obtain ⟨cell, h1, h2, h3, -⟩ := (hX.1 i hi).1.kept hS.2.1
    exact ⟨cell, h1, h2, h3⟩), (gx_preS hK hP hD hX hS hF).2⟩
theorem sx_nrw (x : Int32) : narrow .char (.int (x.toUInt32 % 65536).toInt32) = .int (x.toUInt32 % 65536).toInt32 := pk_nc _
theorem gx_preW {G : gg_T} {Γ : Nat → Nat} {K V : Nat → Nat} {s : State} {H : Heap} {locs : List Loc} {we wt : va_W} {A : Nat → Prop} {As : List Value} {b ci : Nat} {r : vw_C} (hK : gg_K G s) (hT : tk_ty G Γ wt) (hP : va_P (gg_D G) classes (we ++ wt) H) (hD : va_D A (we ++ wt)) (hX : sx_G K V A s s.heap) (hS : va_S A s.heap H locs) (hF : ∀ q, va_A (we ++ wt) H.size q → A q) (hk : Γ b = ci + 1) (hci : ci < 13) (hc : classes[ci]? = some r) : PreV s H r.1 b (gx_P G K V (we ++ wt) H.size (.ref b :: As)) As := by
  obtain ⟨i, en, h1, h2⟩ := hT b (by rw [hk]; omega)
  rw [hk] at h2
  obtain ⟨fs, rfl, -, -⟩ := tk_obj hci h2
  exact gx_preV (ci := ci) (q0 := we.length + i) hK hP hD hX hS hF hc (by rw [tk_ix]; exact h1)

/-! rows of our own: the good words of the tables, the global picture, and the kit's rows with their results named -/
def tb_L : List Cond := lw_tbl.filter goodWord
theorem tb_in {w : Cond} {i : Nat} (h : lw_tbl[i]? = some w) (g : goodWord w = true) : w ∈ tb_L := List.mem_filter.mpr ⟨List.mem_of_getElem? h, g⟩
theorem tb_good {ws : List Cond} (h : ∀ w ∈ ws, w ∈ tb_L) : GoodIn tb_L ws := fun w hw => ⟨h w hw, good_of_word (List.mem_filter.mp (h w hw)).2⟩
theorem tb_lay {C : String} {T : u_T} {N : Nat} (ps : List Nat) (h : u_ws C T N = ps.filterMap (fun i => lw_tbl[i]?)) (g : (u_ws C T N).all goodWord = true) : ∀ w ∈ u_ws C T N, w ∈ tb_L := by
  intro w hw
  have h1 := List.all_eq_true.mp g w hw
  rw [h] at hw
  obtain ⟨i, -, hi⟩ := List.mem_filterMap.mp hw
  exact tb_in hi h1
abbrev ts_L (y : MethodName) (b : ByteArray) (n : Nat) (r : Option FieldType) : List Cond := .code y b n r :: tb_L
theorem ts_ht {y : MethodName} {b : ByteArray} {n : Nat} {r : Option FieldType} {args : Array Value} {s : State} (h : ∀ w ∈ ts_L y b n r, w.before args s = true) : ∀ w ∈ tb_L, w.before args s = true := fun w hw => h w (List.mem_cons_of_mem _ hw)
theorem ts_good {y : MethodName} {b : ByteArray} {n : Nat} {r : Option FieldType} (h : Cond.code y b n r ∈ tb_L) : ∀ w ∈ ts_L y b n r, w ∈ tb_L := fun w hw => (List.mem_cons.mp hw).elim (fun e => e ▸ h) (fun h => h)
theorem ts_gV {y : MethodName} {b : ByteArray} {n : Nat} {r : Option FieldType} {own C : String} {idx : Nat} (h1 : Cond.methodLink own idx y ∈ tb_L) (h2 : Cond.instanceMethod y ∈ tb_L) (h3 : Cond.selects C y y ∈ tb_L) (h4 : Cond.initialized C ∈ tb_L) (h : Cond.code y b n r ∈ tb_L) : GoodIn tb_L (wsV own idx C y (ts_L y b n r)) := by
  refine tb_good (fun w hw => ?_)
  rcases List.mem_append.mp hw with h9 | h9
  · simp only [List.mem_cons, List.not_mem_nil, or_false] at h9
    rcases h9 with rfl | rfl | rfl | rfl
    · exact h1
    · exact h2
    · exact h3
    · exact h4
  · exact ts_good h w h9
theorem ts_gS {y : MethodName} {b : ByteArray} {n : Nat} {r : Option FieldType} {own : String} {idx : Nat} (h1 : Cond.methodLink own idx y ∈ tb_L) (h2 : Cond.static y ∈ tb_L) (h4 : Cond.initialized y.cls ∈ tb_L) (h : Cond.code y b n r ∈ tb_L) : GoodIn tb_L (va_wsS own idx y (ts_L y b n r)) := by
  refine tb_good (fun w hw => ?_)
  rcases List.mem_append.mp hw with h9 | h9
  · simp only [List.mem_cons, List.not_mem_nil, or_false] at h9
    rcases h9 with rfl | rfl | rfl
    · exact h1
    · exact h2
    · exact h4
  · exact ts_good h w h9
/-- the classes' numbers, the fields' slots, the array classes -/
abbrev gg_T : Type := (Nat → ClassId) × (Nat → Nat → Nat) × (Nat → ClassId)
abbrev gg_D (G : gg_T) : va_G := (G.1, G.2.1)
abbrev gg_ty (G : gg_T) : List (ClassId × FieldType) := [(G.2.2 0, .int), (G.2.2 1, .long), (G.2.2 2, .byte), (G.2.2 3, .boolean), (G.2.2 4, .object "SilentSale$State"), (G.2.2 5, .object "SilentSale$Rule"), (G.2.2 6, .object "SilentSale$Image")]
def gg_nest : Cond → Bool
  | .methodLinkNest .. => true
  | _ => false
def gg_K (G : gg_T) (U : State) : Prop := va_K (gg_D G) classes (gg_ty G) U ∧ (∀ w ∈ lw_tbl, gg_nest w = true → va_Nw w U) ∧ va_AO "SilentSale$State" U ∧ va_AO "SilentSale$Rule" U ∧ va_AO "SilentSale$Image" U
theorem gg_K.warm {G : gg_T} {s U : State} (h : gg_K G s) (hW : s.WarmedH U.vm) : gg_K G U := by
  refine ⟨va_K.moved hW.alike h.1, fun w hw g => ?_, va_AO.moved hW.alike h.2.2.1, va_AO.moved hW.alike h.2.2.2.1, va_AO.moved hW.alike h.2.2.2.2⟩
  have h1 := h.2.1 w hw g
  cases w with
  | methodLinkNest a i x h => exact va_Nw.warmM hW h1
  | _ => cases g
theorem gg_K.calls {G : gg_T} {U : State} {g : JFrame} {mk : MethodId} {a : Array Value} (h : gg_K G U) : gg_K G (U.calling g mk a) := by
  refine ⟨va_K.moved (u := U) (U := U.calling g mk a) (Vm.Alike.refl U.vm) h.1, fun w hw g1 => ?_, va_AO.moved (u := U) (U := U.calling g mk a) (Vm.Alike.refl U.vm) h.2.2.1, va_AO.moved (u := U) (U := U.calling g mk a) (Vm.Alike.refl U.vm) h.2.2.2.1, va_AO.moved (u := U) (U := U.calling g mk a) (Vm.Alike.refl U.vm) h.2.2.2.2⟩
  have h1 := h.2.1 w hw g1
  cases w with
  | methodLinkNest a1 i x h => exact va_Nw.same (u := U) (U := U.calling g mk a) rfl rfl h1
  | _ => cases g1
/-- a method's start: its world, whatever lies below -/
abbrev gc_P (G : gg_T) (ws : va_W) (sz : Nat) (av : List Value) : Array Value → State → Prop := va_Pc av (fun U => U.heap.size = sz ∧ va_P (gg_D G) classes ws U.heap ∧ gg_K G U ∧ va_D (fun _ => True) ws)
abbrev gc_I (G : gg_T) (A : Nat → Prop) {S : Type} (post : Int32 → S → Prop) (w1 : S → va_W) : Array Value → State → Outcome → State → Prop := va_Qi post (fun u t => va_P (gg_D G) classes (w1 u) t.heap ∧ va_D A (w1 u)) A
abbrev gc_V (G : gg_T) (A : Nat → Prop) {S : Type} (post : S → Prop) (w1 : S → va_W) : Array Value → State → Outcome → State → Prop := va_Qv post (fun u t => va_P (gg_D G) classes (w1 u) t.heap ∧ va_D A (w1 u)) A
theorem gc_preS {G : gg_T} {s : State} {H : Heap} {wc : va_W} {A : Nat → Prop} {As : List Value} (hK : gg_K G s) (hP : va_P (gg_D G) classes wc H) (hD : va_D A wc) : PreS s H (gc_P G wc H.size As) As :=
  ⟨fun a U g mk q => by obtain ⟨q0, q1, qP, qK, qD⟩ := q; exact ⟨q0, q1, qP, qK.calls, qD⟩, fun U hU hW => ⟨rfl, by rw [hU], by rw [hU]; exact hP, hK.warm hW, hD.weaken (fun _ _ _ _ => trivial)⟩⟩
theorem gc_preV {G : gg_T} {s : State} {H : Heap} {wc : va_W} {A : Nat → Prop} {As : List Value} {b ci q0 : Nat} {r : vw_C} {fs : List Value} (hK : gg_K G s) (hP : va_P (gg_D G) classes wc H) (hD : va_D A wc) (hc : classes[ci]? = some r) (he : wc[q0]? = some (b, .inr (ci, fs))) : PreV s H r.1 b (gc_P G wc H.size (.ref b :: As)) As :=
  ⟨(gc_preS hK hP hD).1, va_recv hK.1 hP hc he, (gc_preS hK hP hD).2⟩
theorem ra_eq {U : State} {cA cB : ClassId} {ty : FieldType} (h1 : va_RA U cA ty) (h2 : va_RA U cB ty) : cA = cB := by
  cases ty with
  | object C =>
    obtain ⟨k1, p1, -, -, -, e1⟩ := h1
    obtain ⟨k2, p2, -, -, -, e2⟩ := h2
    exact Option.some.inj (e1.symm.trans e2)
  | _ => exact Option.some.inj ((show U.vm.findClass _ = some cA from h1).symm.trans (show U.vm.findClass _ = some cB from h2))
theorem ra_last {G : gg_T} {U : State} {cA cB : ClassId} {ty : FieldType} {D : va_G} {cl : List vw_C} (hK : va_K D cl (gg_ty G ++ [(cA, ty)]) U) {t0 : Nat} (ht : (gg_ty G)[t0]? = some (cB, ty)) : cA = cB := by
  have h1 := (hK.2 7 (cA, ty) rfl).2
  have h2 := (hK.2 t0 (cB, ty) (by rw [List.getElem?_append_left (List.getElem?_eq_some_iff.mp ht).1]; exact ht)).2
  exact ra_eq h1 h2
theorem up_z (k : Nat) (c : Int32) : upd (fun _ => c) k c = fun _ => c := by
  funext j
  simp [upd]
theorem up_nq {f : Nat → Option Nat} {k j : Nat} {v w : Option Nat} (h : j ≠ k) (h2 : f j = w) : va_up f k v j = w := (va_up_ne f v h).trans h2
section GRR
variable {p : Program} {l : Launch} {e : Env} {R : Room} {s : State} {m : MethodId} {args : Array Value} {below : List Frame} {meth : Method} {c : Code} {H : Heap} {locs : List Loc} {cells slots : Nat} {Q : State → Prop}
variable {cc : ByteArray} {pc : Nat} {ls : Array Slot} {rest : List Value} {G : gg_T} {A : Nat → Prop} {a : Nat} {ws ws' : va_W} {H0 : Heap}
theorem gq_iadd (hx : p.tables.exec = Jvm.exec) (hb : c.code = cc) {x y : Int32} (v : Int32) (hv : x + y = v) (hdg : decode cc pc = .ok (.iadd, 1)) (k : W p l e R s m args below meth c H locs cells slots Q (F0 m (pc + 1) ls (.int v :: rest))) : W p l e R s m args below meth c H locs cells slots Q (F0 m pc ls (.int y :: .int x :: rest)) := by
  subst hv; exact lv_iadd hx hb hdg k
theorem gq_isub (hx : p.tables.exec = Jvm.exec) (hb : c.code = cc) {x y : Int32} (v : Int32) (hv : x - y = v) (hdg : decode cc pc = .ok (.isub, 1)) (k : W p l e R s m args below meth c H locs cells slots Q (F0 m (pc + 1) ls (.int v :: rest))) : W p l e R s m args below meth c H locs cells slots Q (F0 m pc ls (.int y :: .int x :: rest)) := by
  subst hv; exact lv_isub hx hb hdg k
theorem gq_imul (hx : p.tables.exec = Jvm.exec) (hb : c.code = cc) {x y : Int32} (v : Int32) (hv : x * y = v) (hdg : decode cc pc = .ok (.imul, 1)) (k : W p l e R s m args below meth c H locs cells slots Q (F0 m (pc + 1) ls (.int v :: rest))) : W p l e R s m args below meth c H locs cells slots Q (F0 m pc ls (.int y :: .int x :: rest)) := by
  subst hv; exact lv_imul hx hb hdg k
theorem gq_iand (hx : p.tables.exec = Jvm.exec) (hb : c.code = cc) {x y : Int32} (v : Int32) (hv : x &&& y = v) (hdg : decode cc pc = .ok (.iand, 1)) (k : W p l e R s m args below meth c H locs cells slots Q (F0 m (pc + 1) ls (.int v :: rest))) : W p l e R s m args below meth c H locs cells slots Q (F0 m pc ls (.int y :: .int x :: rest)) := by
  subst hv; exact lv_iand hx hb hdg k
theorem gq_ior (hx : p.tables.exec = Jvm.exec) (hb : c.code = cc) {x y : Int32} (v : Int32) (hv : x ||| y = v) (hdg : decode cc pc = .ok (.ior, 1)) (k : W p l e R s m args below meth c H locs cells slots Q (F0 m (pc + 1) ls (.int v :: rest))) : W p l e R s m args below meth c H locs cells slots Q (F0 m pc ls (.int y :: .int x :: rest)) := by
  subst hv; exact lv_ior hx hb hdg k
theorem gq_ishl (hx : p.tables.exec = Jvm.exec) (hb : c.code = cc) {x y : Int32} (v : Int32) (hv : x <<< (y &&& 31) = v) (hdg : decode cc pc = .ok (.ishl, 1)) (k : W p l e R s m args below meth c H locs cells slots Q (F0 m (pc + 1) ls (.int v :: rest))) : W p l e R s m args below meth c H locs cells slots Q (F0 m pc ls (.int y :: .int x :: rest)) := by
  subst hv; exact lv_ishl hx hb hdg k
theorem gq_ishr (hx : p.tables.exec = Jvm.exec) (hb : c.code = cc) {x y : Int32} (v : Int32) (hv : x >>> (y &&& 31) = v) (hdg : decode cc pc = .ok (.ishr, 1)) (k : W p l e R s m args below meth c H locs cells slots Q (F0 m (pc + 1) ls (.int v :: rest))) : W p l e R s m args below meth c H locs cells slots Q (F0 m pc ls (.int y :: .int x :: rest)) := by
  subst hv; exact lv_ishr hx hb hdg k
theorem gq_lcmp (hx : p.tables.exec = Jvm.exec) (hb : c.code = cc) {x y : Int64} (v : Int32) (hv : lg_cmp x y = v) (hdg : decode cc pc = .ok (.lcmp, 1)) (k : W p l e R s m args below meth c H locs cells slots Q (F0 m (pc + 1) ls (.int v :: rest))) : W p l e R s m args below meth c H locs cells slots Q (F0 m pc ls (.long y :: .long x :: rest)) := by
  subst hv; exact W.lcmp hx hb hdg k
theorem gq_get (hx : p.tables.exec = Jvm.exec) (hb : c.code = cc) (ht : ∀ w ∈ tb_L, w.before args s = true) {own C : String} {T : u_T} {N ci index : Nat} (hown : s.vm.findClass own = some m.cls) (hK : gg_K G s) (hP : va_P (gg_D G) classes ws H) (hin : ∀ w ∈ u_ws C T N, w ∈ tb_L) (q0 : Nat) {fs : List Value} (he : ws[q0]? = some (a, .inr (ci, fs))) (hc : classes[ci]? = some (C, T, N)) (k : Nat) (hk : k < N) (hl : Cond.fieldLink own index C (T k).2.1 (T k).2.2.1 ∈ tb_L) (hsm : (T k).1 = C) {v : Value} (hv : fs[k]? = some v) (hdg : decode cc pc = .ok (.getfield index, 3))
    (kk : W p l e R s m args below meth c H locs cells slots Q (F0 m (pc + 3) ls (v :: rest))) : W p l e R s m args below meth c H locs cells slots Q (F0 m pc ls (.ref a :: rest)) :=
  va_get hx hb ht hin hown hK.1 hP q0 he hc k hk (ht _ hl) (fun _ h => by rw [hsm] at h; exact h) hv hdg kk
theorem gq_put (hx : p.tables.exec = Jvm.exec) (hb : c.code = cc) (ht : ∀ w ∈ tb_L, w.before args s = true) {own C : String} {T : u_T} {N ci index : Nat} (hown : s.vm.findClass own = some m.cls) (hK : gg_K G s) (hP : va_P (gg_D G) classes ws H) (hD : va_D A ws) (hS : va_S A H0 H locs) (hin : ∀ w ∈ u_ws C T N, w ∈ tb_L) (ty0 : Nat → FieldType) (hty : ∀ k, k < N → parseFieldDescriptor (T k).2.2.1 = some (ty0 k)) (hnm : ∀ a, a < N → ∀ b, b < N → a ≠ b → (T a).2.1 ≠ (T b).2.1) (q0 : Nat) {fs : List Value} (he : ws[q0]? = some (a, .inr (ci, fs))) (hc : classes[ci]? = some (C, T, N)) (k : Nat) (hk : k < N) (hl : Cond.fieldLink own index C (T k).2.1 (T k).2.2.1 ∈ tb_L) (hsm : (T k).1 = C) (hfin : (T k).2.2.2 = false) {v : Value} (hn : narrow (ty0 k) v = v) (hfit : fits (ty0 k) v = true) (hlen : k < fs.length) (hw : ws.set q0 (a, .inr (ci, fs.set k v)) = ws') (hdg : decode cc pc = .ok (.putfield index, 3))
    (kk : ∀ (H1 : Heap) (locs1 : List Loc), va_P (gg_D G) classes ws' H1 → va_D A ws' → va_S A H0 H1 locs1 → W p l e R s m args below meth c H1 locs1 cells slots Q (F0 m (pc + 3) ls rest)) : W p l e R s m args below meth c H locs cells slots Q (F0 m pc ls (v :: .ref a :: rest)) := by
  subst hw
  exact va_put hx hb ht hin ty0 hty hnm hown hK.1 hP hD hS q0 he hc k hk (ht _ hl) (fun _ h => by rw [hsm] at h; exact h) hfin (hty k hk) hn hfit hlen hdg kk
theorem gq_putF (hx : p.tables.exec = Jvm.exec) (hb : c.code = cc) (ht : ∀ w ∈ tb_L, w.before args s = true) {C : String} {T : u_T} {N ci index : Nat} (hown : s.vm.findClass C = some m.cls) (hin2 : meth.name = "<init>") (hK : gg_K G s) (hP : va_P (gg_D G) classes ws H) (hD : va_D A ws) (hS : va_S A H0 H locs) (hin : ∀ w ∈ u_ws C T N, w ∈ tb_L) (ty0 : Nat → FieldType) (hty : ∀ k, k < N → parseFieldDescriptor (T k).2.2.1 = some (ty0 k)) (hnm : ∀ a, a < N → ∀ b, b < N → a ≠ b → (T a).2.1 ≠ (T b).2.1) (q0 : Nat) {fs : List Value} (he : ws[q0]? = some (a, .inr (ci, fs))) (hc : classes[ci]? = some (C, T, N)) (k : Nat) (hk : k < N) (hl : Cond.fieldLink C index C (T k).2.1 (T k).2.2.1 ∈ tb_L) (hsm : (T k).1 = C) (hfin : (T k).2.2.2 = true) {v : Value} (hn : narrow (ty0 k) v = v) (hfit : fits (ty0 k) v = true) (hlen : k < fs.length) (hw : ws.set q0 (a, .inr (ci, fs.set k v)) = ws') (hdg : decode cc pc = .ok (.putfield index, 3))
    (kk : ∀ (H1 : Heap) (locs1 : List Loc), va_P (gg_D G) classes ws' H1 → va_D A ws' → va_S A H0 H1 locs1 → W p l e R s m args below meth c H1 locs1 cells slots Q (F0 m (pc + 3) ls rest)) : W p l e R s m args below meth c H locs cells slots Q (F0 m pc ls (v :: .ref a :: rest)) := by
  subst hw
  exact va_putF hx hb ht hin ty0 hty hnm hown hK.1 hP hD hS q0 he hc k hk (ht _ hl) (fun _ h => by rw [hsm] at h; exact h) hfin hin2 hsm (hty k hk) hn hfit hlen hdg kk
theorem gq_iald (hx : p.tables.exec = Jvm.exec) (hb : c.code = cc) (hK : gg_K G s) (hP : va_P (gg_D G) classes ws H) (q0 : Nat) {n : Nat} {f : Nat → Int32} (ha : ws[q0]? = some (a, .inl (G.2.2 0, n, .inl f))) {i : Int32} (v : Int32) (hi : vp_in i n) (hv : f i.toNatClampNeg = v) (hdg : decode cc pc = .ok (.iaload, 1))
    (kk : W p l e R s m args below meth c H locs cells slots Q (F0 m (pc + 1) ls (.int v :: rest))) : W p l e R s m args below meth c H locs cells slots Q (F0 m pc ls (.int i :: .ref a :: rest)) := by
  subst hv; exact va_iald hx hb hK.1 hP q0 0 ha rfl hi hdg kk
theorem gq_zald (hx : p.tables.exec = Jvm.exec) (hb : c.code = cc) (hK : gg_K G s) (hP : va_P (gg_D G) classes ws H) (q0 : Nat) {n : Nat} {f : Nat → Int32} (ha : ws[q0]? = some (a, .inl (G.2.2 3, n, .inl f))) {i : Int32} (v : Int32) (hi : vp_in i n) (hv : f i.toNatClampNeg = v) (hdg : decode cc pc = .ok (.baload, 1))
    (kk : W p l e R s m args below meth c H locs cells slots Q (F0 m (pc + 1) ls (.int v :: rest))) : W p l e R s m args below meth c H locs cells slots Q (F0 m pc ls (.int i :: .ref a :: rest)) := by
  subst hv; exact va_zald hx hb hK.1 hP q0 3 ha rfl hi hdg kk
theorem gq_bald (hx : p.tables.exec = Jvm.exec) (hb : c.code = cc) (hK : gg_K G s) (hP : va_P (gg_D G) classes ws H) (q0 : Nat) {n : Nat} {f : Nat → Int32} (ha : ws[q0]? = some (a, .inl (G.2.2 2, n, .inl f))) {i : Int32} (v : Int32) (hi : vp_in i n) (hv : f i.toNatClampNeg = v) (hdg : decode cc pc = .ok (.baload, 1))
    (kk : W p l e R s m args below meth c H locs cells slots Q (F0 m (pc + 1) ls (.int v :: rest))) : W p l e R s m args below meth c H locs cells slots Q (F0 m pc ls (.int i :: .ref a :: rest)) := by
  subst hv; exact va_bald hx hb hK.1 hP q0 2 ha rfl hi hdg kk
theorem gq_aald (hx : p.tables.exec = Jvm.exec) (hb : c.code = cc) (hK : gg_K G s) (hP : va_P (gg_D G) classes ws H) (q0 t0 : Nat) {n : Nat} {cA : ClassId} {C : String} {f : Nat → Option Nat} (ha : ws[q0]? = some (a, .inl (cA, n, .inr (.inr (.inr (.inr f)))))) (hty : (gg_ty G)[t0]? = some (cA, .object C)) {i : Int32} (v : Nat) (hi : vp_in i n) (hv : f i.toNatClampNeg = some v) (hdg : decode cc pc = .ok (.aaload, 1))
    (kk : W p l e R s m args below meth c H locs cells slots Q (F0 m (pc + 1) ls (.ref v :: rest))) : W p l e R s m args below meth c H locs cells slots Q (F0 m pc ls (.int i :: .ref a :: rest)) := by
  refine va_aldq hx hb hK.1 hP q0 t0 ha hty hi hdg ?_
  rw [hv]; exact kk
theorem gq_iast (hx : p.tables.exec = Jvm.exec) (hb : c.code = cc) (hK : gg_K G s) (hP : va_P (gg_D G) classes ws H) (hD : va_D A ws) (hS : va_S A H0 H locs) (q0 : Nat) {n : Nat} {f : Nat → Int32} (ha : ws[q0]? = some (a, .inl (G.2.2 0, n, .inl f))) {i x : Int32} (f1 : Nat → Int32) (hi : vp_in i n) (hf : upd f i.toNatClampNeg x = f1) (hw : ws.set q0 (a, .inl (G.2.2 0, n, .inl f1)) = ws') (hdg : decode cc pc = .ok (.iastore, 1))
    (kk : ∀ (H1 : Heap) (locs1 : List Loc), va_P (gg_D G) classes ws' H1 → va_D A ws' → va_S A H0 H1 locs1 → W p l e R s m args below meth c H1 locs1 cells slots Q (F0 m (pc + 1) ls rest)) : W p l e R s m args below meth c H locs cells slots Q (F0 m pc ls (.int x :: .int i :: .ref a :: rest)) := by
  subst hf; subst hw
  exact va_iast hx hb hK.1 hP hD hS q0 0 ha rfl hi hdg kk
theorem gq_bast (hx : p.tables.exec = Jvm.exec) (hb : c.code = cc) (hK : gg_K G s) (hP : va_P (gg_D G) classes ws H) (hD : va_D A ws) (hS : va_S A H0 H locs) (q0 : Nat) {n : Nat} {f : Nat → Int32} (ha : ws[q0]? = some (a, .inl (G.2.2 2, n, .inl f))) {i x : Int32} (f1 : Nat → Int32) (hi : vp_in i n) (hf : upd f i.toNatClampNeg (vp_nar .byte x) = f1) (hw : ws.set q0 (a, .inl (G.2.2 2, n, .inl f1)) = ws') (hdg : decode cc pc = .ok (.bastore, 1))
    (kk : ∀ (H1 : Heap) (locs1 : List Loc), va_P (gg_D G) classes ws' H1 → va_D A ws' → va_S A H0 H1 locs1 → W p l e R s m args below meth c H1 locs1 cells slots Q (F0 m (pc + 1) ls rest)) : W p l e R s m args below meth c H locs cells slots Q (F0 m pc ls (.int x :: .int i :: .ref a :: rest)) := by
  subst hf; subst hw
  exact va_bast hx hb hK.1 hP hD hS q0 2 ha rfl hi hdg kk
theorem gq_zast (hx : p.tables.exec = Jvm.exec) (hb : c.code = cc) (hK : gg_K G s) (hP : va_P (gg_D G) classes ws H) (hD : va_D A ws) (hS : va_S A H0 H locs) (q0 : Nat) {n : Nat} {f : Nat → Int32} (ha : ws[q0]? = some (a, .inl (G.2.2 3, n, .inl f))) {i x : Int32} (f1 : Nat → Int32) (hi : vp_in i n) (hf : upd f i.toNatClampNeg (vp_nar .boolean x) = f1) (hw : ws.set q0 (a, .inl (G.2.2 3, n, .inl f1)) = ws') (hdg : decode cc pc = .ok (.bastore, 1))
    (kk : ∀ (H1 : Heap) (locs1 : List Loc), va_P (gg_D G) classes ws' H1 → va_D A ws' → va_S A H0 H1 locs1 → W p l e R s m args below meth c H1 locs1 cells slots Q (F0 m (pc + 1) ls rest)) : W p l e R s m args below meth c H locs cells slots Q (F0 m pc ls (.int x :: .int i :: .ref a :: rest)) := by
  subst hf; subst hw
  exact va_zast hx hb hK.1 hP hD hS q0 3 ha rfl hi hdg kk
theorem gq_aast (hx : p.tables.exec = Jvm.exec) (hb : c.code = cc) (hK : gg_K G s) (hP : va_P (gg_D G) classes ws H) (hD : va_D A ws) (hS : va_S A H0 H locs) (q0 t0 qk ci : Nat) {cA : ClassId} {r : vw_C} {n v : Nat} {vs : List Value} {f : Nat → Option Nat} (ha : ws[q0]? = some (a, .inl (cA, n, .inr (.inr (.inr (.inr f)))))) (hty : (gg_ty G)[t0]? = some (cA, .object r.1)) (hv : ws[qk]? = some (v, .inr (ci, vs))) (hc : classes[ci]? = some r) {i : Int32} (f1 : Nat → Option Nat) (hi : vp_in i n) (hf : va_up f i.toNatClampNeg (some v) = f1) (hw : ws.set q0 (a, .inl (cA, n, .inr (.inr (.inr (.inr f1))))) = ws') (hdg : decode cc pc = .ok (.aastore, 1))
    (kk : ∀ (H1 : Heap) (locs1 : List Loc), va_P (gg_D G) classes ws' H1 → va_D A ws' → va_S A H0 H1 locs1 → W p l e R s m args below meth c H1 locs1 cells slots Q (F0 m (pc + 1) ls rest)) : W p l e R s m args below meth c H locs cells slots Q (F0 m pc ls (.ref v :: .int i :: .ref a :: rest)) := by
  subst hf; subst hw
  exact va_astq hx hb hK.1 hP hD hS q0 t0 qk ci ha hty hv hc hi hdg kk
theorem gq_alen (hx : p.tables.exec = Jvm.exec) (hb : c.code = cc) (hK : gg_K G s) (hP : va_P (gg_D G) classes ws H) (q0 t0 : Nat) {cA : ClassId} {x : vp_A} (ha : ws[q0]? = some (a, .inl (cA, x))) {ty : FieldType} (hty : (gg_ty G)[t0]? = some (cA, ty)) (v : Int32) (hv : Int32.ofNat x.1 = v) (hdg : decode cc pc = .ok (.arraylength, 1))
    (kk : W p l e R s m args below meth c H locs cells slots Q (F0 m (pc + 1) ls (.int v :: rest))) : W p l e R s m args below meth c H locs cells slots Q (F0 m pc ls (.ref a :: rest)) := va_alen hx hb hK.1 hP q0 t0 ha hty hv hdg kk
theorem gq_newa (hx : p.tables.exec = Jvm.exec) (hb : c.code = cc) {atype : ArrayType} {ty : FieldType} (hty : newarray.typeOf atype = ty) (harr : (Cond.arrayClass ty).before args s = true) (hK : gg_K G s) (hP : va_P (gg_D G) classes ws H) (hD : va_D A ws) (hS : va_S A H0 H locs) (hA : ∀ q, H0.size ≤ q → A q) (t0 : Nat) {cB : ClassId} (ht0 : (gg_ty G)[t0]? = some (cB, ty))
    {n : Int32} (N' : Nat) (a0 : vp_A) (ha : ∀ cA : ClassId, vp_cell cA a0 = arrV cA N' (fun _ => defaultValue ty)) (hn : ¬ n < 0) (hN : n.toNatClampNeg = N') (hbytes : N' * componentBytes ty ≤ 536870912) (cells' slots' : Nat) (hc1 : cells + 1 ≤ cells') (hs1 : slots + N' ≤ slots') (hc2 : cells' ≤ R.cells) (hs2 : slots' ≤ R.slots) (hdg : decode cc pc = .ok (.newarray atype, 2))
    (kk : ∀ (q : Nat) (H1 : Heap), va_P (gg_D G) classes (ws ++ [(q, .inl (cB, a0))]) H1 → va_D A (ws ++ [(q, .inl (cB, a0))]) → va_S A H0 H1 locs → W p l e R s m args below meth c H1 locs cells' slots' Q (F0 m (pc + 2) ls (.ref q :: rest))) : W p l e R s m args below meth c H locs cells slots Q (F0 m pc ls (.int n :: rest)) := by
  refine va_newa hx hb (by rw [hty]; exact harr) hty hK.1 hP hD hS hA ha hn hN hbytes (Nat.le_trans hc1 hc2) (Nat.le_trans hs1 hs2) hdg (fun q cA H1 hK1 hP1 hD1 hS1 => ?_)
  have e := ra_last hK1 ht0
  subst e
  exact W.widen hc1 hs1 (kk q H1 hP1 hD1 hS1)
theorem gq_newq (hx : p.tables.exec = Jvm.exec) (hb : c.code = cc) {own C : String} {index : Nat} (hown : s.vm.findClass own = some m.cls) (hcl : (Cond.classLink own index C).before args s = true) (hover : va_AO C s) (hK : gg_K G s) (hP : va_P (gg_D G) classes ws H) (hD : va_D A ws) (hS : va_S A H0 H locs) (hA : ∀ q, H0.size ≤ q → A q) (t0 : Nat) {cB : ClassId} (ht0 : (gg_ty G)[t0]? = some (cB, .object C))
    {n : Int32} (N' : Nat) (hn : ¬ n < 0) (hN : n.toNatClampNeg = N') (hbytes : N' * 4 ≤ 536870912) (cells' slots' : Nat) (hc1 : cells + 1 ≤ cells') (hs1 : slots + N' ≤ slots') (hc2 : cells' ≤ R.cells) (hs2 : slots' ≤ R.slots) (hdg : decode cc pc = .ok (.anewarray index, 3))
    (kk : ∀ (q : Nat) (H1 : Heap), va_P (gg_D G) classes (ws ++ [(q, .inl (cB, N', .inr (.inr (.inr (.inr (fun _ => none))))))]) H1 → va_D A (ws ++ [(q, .inl (cB, N', .inr (.inr (.inr (.inr (fun _ => none))))))]) → va_S A H0 H1 locs → W p l e R s m args below meth c H1 locs cells' slots' Q (F0 m (pc + 3) ls (.ref q :: rest))) : W p l e R s m args below meth c H locs cells slots Q (F0 m pc ls (.int n :: rest)) := by
  refine va_newq hx hb hown hcl hover hK.1 hP hD hS hA hn hN hbytes (Nat.le_trans hc1 hc2) (Nat.le_trans hs1 hs2) hdg (fun q cA H1 hK1 hP1 hD1 hS1 => ?_)
  have e := ra_last hK1 ht0
  subst e
  exact W.widen hc1 hs1 (kk q H1 hP1 hD1 hS1)
theorem gq_new (hx : p.tables.exec = Jvm.exec) (hb : c.code = cc) (ht : ∀ w ∈ tb_L, w.before args s = true) {own C : String} {T : u_T} {N ci index : Nat} (hown : s.vm.findClass own = some m.cls) (hin : ∀ w ∈ u_ws C T N, w ∈ tb_L) (ty0 : Nat → FieldType) (hty : ∀ k, k < N → parseFieldDescriptor (T k).2.2.1 = some (ty0 k)) (hcl : Cond.classLink own index C ∈ tb_L) (hinst : Cond.instantiable C N ∈ tb_L) (hini : Cond.initialized C ∈ tb_L)
    (hK : gg_K G s) (hP : va_P (gg_D G) classes ws H) (hD : va_D A ws) (hS : va_S A H0 H locs) (hA : ∀ q, H0.size ≤ q → A q) (hc : classes[ci]? = some (C, T, N)) (fs : List Value) (hfs : ∀ j, j < N → defaultValue (ty0 j) = vp_V fs j) (cells' slots' : Nat) (hc1 : cells + 1 ≤ cells') (hs1 : slots + N ≤ slots') (hc2 : cells' ≤ R.cells) (hs2 : slots' ≤ R.slots) (hdg : decode cc pc = .ok (.new index, 3))
    (kk : ∀ (q : Nat) (H1 : Heap), va_P (gg_D G) classes (ws ++ [(q, .inr (ci, fs))]) H1 → va_D A (ws ++ [(q, .inr (ci, fs))]) → va_S A H0 H1 locs → W p l e R s m args below meth c H1 locs cells' slots' Q (F0 m (pc + 3) ls (.ref q :: rest))) : W p l e R s m args below meth c H locs cells slots Q (F0 m pc ls rest) :=
  va_new hx hb ht hin ty0 hty hown (ht _ hcl) (ht _ hinst) (ht _ hini) hK.1 hP hD hS hA hc hfs (Nat.le_trans hc1 hc2) (Nat.le_trans hs1 hs2) hdg (fun q H1 hP1 hD1 hS1 => W.widen hc1 hs1 (kk q H1 hP1 hD1 hS1))
theorem gq_copy (hx : p.tables.exec = Jvm.exec) (hb : c.code = cc) (hml : c.maxLocals = ls.size) {own : String} {index : Nat} (hown : s.vm.findClass own = some m.cls) (hlink : (Cond.methodLink own index arraycopyName).before args s = true) (hnat : (Cond.native arraycopyName).before args s = true) (hstat : (Cond.static arraycopyName).before args s = true) (hini : (Cond.initialized "java/lang/System").before args s = true)
    (hK : gg_K G s) (hP : va_P (gg_D G) classes ws H) (hD : va_D A ws) (hS : va_S A H0 H locs) (q0 q1 : Nat) {a0 n0 n1 : Nat} {f g : Nat → Int32} (ha0 : ws[q0]? = some (a0, .inl (G.2.2 0, n0, .inl f))) (ha1 : ws[q1]? = some (a, .inl (G.2.2 0, n1, .inl g)))
    {sp dp n : Int32} (h1 : ¬ sp < 0) (h2 : ¬ dp < 0) (h3 : ¬ n < 0) (h4 : sp.toNatClampNeg + n.toNatClampNeg ≤ n0) (h5 : dp.toNatClampNeg + n.toNatClampNeg ≤ n1) (f1 : Nat → Int32) (hf : va_cpy f g sp.toNatClampNeg dp.toNatClampNeg n.toNatClampNeg = f1) (hw : ws.set q1 (a, .inl (G.2.2 0, n1, .inl f1)) = ws')
    (hframes : 1 ≤ R.frames) (hlocals : (rest.map fun v => v.category).sum + (nativeFrameWords "java/lang/System" "arraycopy" 5 + 11) ≤ R.locals) (hdg : decode cc pc = .ok (.invokestatic index, 3))
    (kk : ∀ (H1 : Heap) (locs1 : List Loc), va_P (gg_D G) classes ws' H1 → va_D A ws' → va_S A H0 H1 locs1 → W p l e R s m args below meth c H1 locs1 cells slots Q (F0 m (pc + 3) ls rest)) : W p l e R s m args below meth c H locs cells slots Q (F0 m pc ls (.int n :: .int dp :: .ref a :: .int sp :: .ref a0 :: rest)) := by
  subst hf; subst hw
  exact va_copyi (ty := .int) hx hb hml hown hlink hnat hstat hini hK.1 hP hD hS q0 q1 0 0 ha0 ha1 rfl rfl rfl h1 h2 h3 h4 h5 (fun _ _ => rfl) hframes hlocals hdg kk
/-- behind a call: the callee's cells as it left them, then the rest -/
theorem gq_callI {S : Type} {post : Int32 → S → Prop} {w1 : S → va_W} {wc wr : va_W} {mc ms : Nat} {st0 : List Value} {av : Array Value} (hr : va_Run p l e R s m args below meth c H locs cells slots mc ms (F0 m pc ls st0) rest (gc_I G (va_A wc H.size) post w1 av) (va_A wc H.size)) (hP : va_P (gg_D G) classes ws H) (hD : va_D A ws) (hS : va_S A H0 H locs) (hA : ∀ q, H0.size ≤ q → A q) (isC isR : List Nat) (hC : isC.map (fun i => ws[i]?) = wc.map some) (hR : isR.map (fun i => ws[i]?) = wr.map some) (hn : va_nd isR = true) (hdis : ∀ i ∈ isR, i ∉ isC)
    (kk : ∀ (r : Int32) (u : S) (H1 : Heap) (locs1 : List Loc), post r u → va_P (gg_D G) classes (wr ++ w1 u) H1 → va_D A (wr ++ w1 u) → va_S A H0 H1 locs1 → W p l e R s m args below meth c H1 locs1 (cells + mc) (slots + ms) Q (F0 m (pc + 3) ls (.int r :: rest))) : W p l e R s m args below meth c H locs cells slots Q (F0 m pc ls st0) := by
  have hFc := va_free (wc := wc) hD hS hA isC hC
  refine va_calli hr hS (fun q _ h => hFc q h) hFc (fun r u t H1 locs1 ht hvm hw hB hz1 hk1 hS1 => ?_)
  obtain ⟨hP1, hD1⟩ := hB
  rw [ht] at hP1
  obtain ⟨hP2, hD2⟩ := va_join (wr := wr) (w1 := w1 u) hP hD isC isR hC hR hn hdis hk1 hFc hP1 hD1
  exact kk r u H1 locs1 hw hP2 hD2 hS1
theorem gq_callV {S : Type} {post : S → Prop} {w1 : S → va_W} {wc wr : va_W} {mc ms : Nat} {st0 : List Value} {av : Array Value} (hr : va_Run p l e R s m args below meth c H locs cells slots mc ms (F0 m pc ls st0) rest (gc_V G (va_A wc H.size) post w1 av) (va_A wc H.size)) (hP : va_P (gg_D G) classes ws H) (hD : va_D A ws) (hS : va_S A H0 H locs) (hA : ∀ q, H0.size ≤ q → A q) (isC isR : List Nat) (hC : isC.map (fun i => ws[i]?) = wc.map some) (hR : isR.map (fun i => ws[i]?) = wr.map some) (hn : va_nd isR = true) (hdis : ∀ i ∈ isR, i ∉ isC)
    (kk : ∀ (u : S) (H1 : Heap) (locs1 : List Loc), post u → va_P (gg_D G) classes (wr ++ w1 u) H1 → va_D A (wr ++ w1 u) → va_S A H0 H1 locs1 → W p l e R s m args below meth c H1 locs1 (cells + mc) (slots + ms) Q (F0 m (pc + 3) ls rest)) : W p l e R s m args below meth c H locs cells slots Q (F0 m pc ls st0) := by
  have hFc := va_free (wc := wc) hD hS hA isC hC
  refine va_callv hr hS (fun q _ h => hFc q h) hFc (fun u t H1 locs1 ht hvm hw hB hz1 hk1 hS1 => ?_)
  obtain ⟨hP1, hD1⟩ := hB
  rw [ht] at hP1
  obtain ⟨hP2, hD2⟩ := va_join (wr := wr) (w1 := w1 u) hP hD isC isR hC hR hn hdis hk1 hFc hP1 hD1
  exact kk u H1 locs1 hw hP2 hD2 hS1
theorem gq_endI {S : Type} {post : Int32 → S → Prop} {w1 : S → va_W} (u : S) {v : Int32} (hp : post v u) (hP : va_P (gg_D G) classes (w1 u) H) (hD : va_D A (w1 u)) (hS : va_S A s.heap H locs) : ∀ t : State, t.heap = H → s.WarmedH t.vm → gc_I G A post w1 args s (.returned (some (.int v))) t :=
  fun t ht _ => ⟨⟨v, u, rfl, hp, by rw [ht]; exact hP, hD⟩, hS.F ht⟩
theorem gq_endV {S : Type} {post : S → Prop} {w1 : S → va_W} (u : S) (hp : post u) (hP : va_P (gg_D G) classes (w1 u) H) (hD : va_D A (w1 u)) (hS : va_S A s.heap H locs) : ∀ t : State, t.heap = H → s.WarmedH t.vm → gc_V G A post w1 args s (.returned none) t :=
  fun t ht _ => ⟨⟨u, rfl, hp, by rw [ht]; exact hP, hD⟩, hS.F ht⟩
theorem lp_cnt {nL head : Nat} (N : Nat) (lv : Int32 → List (Nat × Value))
    (hx : ∀ (H : Heap) (locs : List Loc) (ls : Array Slot), va_P (gg_D G) classes ws H → va_D A ws → va_S A H0 H locs → lv_has ls nL (lv (nI N)) → W p l e R s m args below meth c H locs cells slots Q (F0 m head ls []))
    (hs : ∀ i : Nat, i < N → ∀ (H : Heap) (locs : List Loc) (ls : Array Slot), va_P (gg_D G) classes ws H → va_D A ws → va_S A H0 H locs → lv_has ls nL (lv (nI i)) → (∀ (H : Heap) (locs : List Loc) (ls : Array Slot), va_P (gg_D G) classes ws H → va_D A ws → va_S A H0 H locs → lv_has ls nL (lv (nI (i + 1))) → W p l e R s m args below meth c H locs cells slots Q (F0 m head ls [])) → W p l e R s m args below meth c H locs cells slots Q (F0 m head ls [])) :
    ∀ i : Nat, i ≤ N → ∀ (H : Heap) (locs : List Loc) (ls : Array Slot), va_P (gg_D G) classes ws H → va_D A ws → va_S A H0 H locs → lv_has ls nL (lv (nI i)) → W p l e R s m args below meth c H locs cells slots Q (F0 m head ls []) := by
  have key : ∀ n i : Nat, i ≤ N → N - i = n → ∀ (H : Heap) (locs : List Loc) (ls : Array Slot), va_P (gg_D G) classes ws H → va_D A ws → va_S A H0 H locs → lv_has ls nL (lv (nI i)) → W p l e R s m args below meth c H locs cells slots Q (F0 m head ls []) := by
    intro n
    induction n with
    | zero =>
      intro i h1 h2 H locs ls a b d h
      have e : i = N := by omega
      subst e
      exact hx H locs ls a b d h
    | succ n ih =>
      intro i h1 h2 H locs ls a b d h
      exact hs i (by omega) H locs ls a b d h (fun H2 locs2 ls2 a2 b2 d2 h2' => ih (i + 1) (by omega) (by omega) H2 locs2 ls2 a2 b2 d2 h2')
  exact fun i h => key (N - i) i h rfl
end GRR
def sp_count (n : Int32) : Int32 := if n = 0 then 0 else if n = 1 then 0 else if n = 2 then 0 else if n = 3 then 0 else if n = 4 then 0 else if n = 5 then -1 else if n = 6 then 0 else if n = 7 then 0 else if n = 8 then 0 else if n = 9 then 0 else if n = 10 then 0 else if n = 11 then 0 else if n = 12 then 0 else if n = 13 then 0 else if n = 14 then 0 else -1
def sp_image (n : Int32) : Int32 := if n = 0 then 0 else if n = 1 then 0 else if n = 2 then 0 else if n = 3 then 0 else -1
def mi_in (v lo hi : Int64) : Int32 := if lo ≤ v ∧ v ≤ hi then 1 else 0
theorem mi_1 {v lo hi : Int64} {t1 t2 : Int32} (e1 : lg_cmp v lo = t1) (h1 : ¬ t1 < 0) (e2 : lg_cmp v hi = t2) (h2 : ¬ 0 < t2) : mi_in v lo hi = 1 := by
  subst e1; subst e2
  have a : lo ≤ v := by
    rw [lg_cmp_lt] at h1
    exact Int64.not_lt.mp h1
  have b : v ≤ hi := by
    rw [lg_cmp_gt] at h2
    exact Int64.not_lt.mp h2
  exact if_pos ⟨a, b⟩
theorem mi_2 {v lo hi : Int64} {t1 : Int32} (e1 : lg_cmp v lo = t1) (h1 : t1 < 0) : mi_in v lo hi = 0 := by
  subst e1
  rw [lg_cmp_lt] at h1
  exact if_neg (fun h => Int64.not_le.mpr h1 h.1)
theorem mi_3 {v lo hi : Int64} {t2 : Int32} (e2 : lg_cmp v hi = t2) (h2 : 0 < t2) : mi_in v lo hi = 0 := by
  subst e2
  rw [lg_cmp_gt] at h2
  exact if_neg (fun h => Int64.not_le.mpr h2 h.2)
theorem mi_out {n : Int32} (h0 : ¬ n = 0) (h1 : ¬ n = 1) (h2 : ¬ n = 2) (h3 : ¬ n = 3) : mi_in (Int32.toInt64 n) 0 3 = 0 := by
  refine if_neg (fun h => ?_)
  have k0 : (0 : Int32).toInt = 0 := by decide +kernel
  have k1 : (1 : Int32).toInt = 1 := by decide +kernel
  have k2 : (2 : Int32).toInt = 2 := by decide +kernel
  have k3 : (3 : Int32).toInt = 3 := by decide +kernel
  have z0 : (0 : Int64).toInt = 0 := by decide +kernel
  have z3 : (3 : Int64).toInt = 3 := by decide +kernel
  obtain ⟨ha, hb⟩ := h
  rw [Int64.le_iff_toInt_le, Int32.toInt_toInt64] at ha hb
  simp only [← Int32.toInt_inj] at h0 h1 h2 h3
  omega

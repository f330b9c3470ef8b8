/-! kinds: each address of the class's lasting cells has a kind; what lies there keeps it. Kinds 1 to 13: an object of the class of that number less 1; 20 to 29: rows of ints; 30, 31: rows of longs; 40 to 42: rows of objects -/
def tk_len (k : Nat) : Nat := if k = 20 then 5 else if k = 21 then 3 else if k = 22 then 3 else if k = 23 then 10 else if k = 24 then 15 else if k = 25 then 400 else if k = 26 then 11 else if k = 27 then 96 else if k = 28 then 21 else if k = 30 then 10 else if k = 31 then 60 else if k = 32 then 64 else if k = 40 then 20 else if k = 41 then 6 else if k = 42 then 4 else 0
/-- what an int of a row is -/
def tk_e (k : Nat) (x : Int32) : Prop := if k = 22 then 0 ≤ x.toInt ∧ x.toInt ≤ 31 else if k = 25 then 0 ≤ x.toInt else True
def tk_el (k : Nat) : Nat := if k = 40 then 8 else if k = 41 then 5 else 2
def tf_any (v : Value) : Prop := ∃ n : Int32, v = .int n
def tf_r (lo hi : Int) (v : Value) : Prop := ∃ n : Int32, v = .int n ∧ lo ≤ n.toInt ∧ n.toInt ≤ hi
def tf_ref (Γ : Nat → Nat) (k : Nat) (v : Value) : Prop := ∃ q : Nat, v = .ref q ∧ Γ q = k
def tf_nref (Γ : Nat → Nat) (k : Nat) (v : Value) : Prop := v = .null ∨ ∃ q : Nat, v = .ref q ∧ Γ q = k
def tf_long (v : Value) : Prop := ∃ n : Int64, v = .long n
/-- the field j of an object of kind k -/
def tk_f (Γ : Nat → Nat) (k j : Nat) : Value → Prop := match k, j with
  | 1, 0 => tf_ref Γ 10
  | 1, 1 => tf_nref Γ 5
  | 1, 2 => tf_any
  | 1, _ => tf_long
  | 2, 0 => tf_ref Γ 10
  | 2, 1 => tf_ref Γ 8
  | 2, 2 => tf_ref Γ 3
  | 2, 3 => tf_r 0 1
  | 2, _ => tf_any
  | 3, 3 => tf_r 0 10
  | 3, _ => tf_ref Γ 23
  | 4, 0 => tf_ref Γ 40
  | 4, 1 => tf_r 0 19
  | 4, _ => tf_r 0 20
  | 5, 0 => tf_ref Γ 25
  | 5, 1 => tf_ref Γ 30
  | 5, 2 => tf_ref Γ 31
  | 5, 3 => tf_ref Γ 26
  | 5, 4 => tf_ref Γ 26
  | 5, 5 => tf_r 0 10
  | 5, 6 => tf_r 0 400
  | 5, 7 => tf_r 0 60
  | 5, _ => tf_any
  | 6, 0 => tf_ref Γ 8
  | 6, 1 => tf_ref Γ 20
  | 6, 2 => tf_ref Γ 27
  | 6, 3 => tf_ref Γ 20
  | 6, _ => tf_any
  | 7, 0 => tf_ref Γ 8
  | 7, 1 => tf_ref Γ 28
  | 7, 2 => tf_ref Γ 28
  | 7, _ => tf_any
  | 8, 0 => tf_ref Γ 20
  | 8, 1 => tf_ref Γ 20
  | 8, 2 => tf_ref Γ 20
  | 8, 3 => tf_ref Γ 20
  | 8, 8 => tf_ref Γ 22
  | 8, 9 => tf_any
  | 8, _ => tf_ref Γ 21
  | 10, 0 => tf_any
  | 10, 1 => tf_r 0 5
  | 10, 2 => tf_r 0 3
  | 10, 3 => tf_r 0 3
  | 10, 4 => tf_ref Γ 20
  | 10, 5 => tf_ref Γ 20
  | 10, 6 => tf_ref Γ 24
  | 10, _ => tf_ref Γ 21
  | 11, 0 => tf_ref Γ 8
  | 11, 1 => tf_ref Γ 20
  | 11, 2 => tf_ref Γ 20
  | 11, _ => tf_any
  | _, _ => fun _ => False
def tk_en (G : gg_T) (Γ : Nat → Nat) (k : Nat) (e : va_E) : Prop := match e with
  | .inr (ci, fs) => k = ci + 1 ∧ (∃ r : vw_C, classes[ci]? = some r ∧ fs.length = r.2.2) ∧ ∀ (j : Nat) (v : Value), fs[j]? = some v → tk_f Γ k j v
  | .inl (cA, n, .inl f) => (20 ≤ k ∧ k < 30) ∧ cA = G.2.2 0 ∧ n = tk_len k ∧ ∀ j : Nat, tk_e k (f j)
  | .inl (cA, n, .inr (.inl _)) => (30 ≤ k ∧ k < 40) ∧ cA = G.2.2 1 ∧ n = tk_len k
  | .inl (cA, n, .inr (.inr (.inr (.inr f)))) => 40 ≤ k ∧ cA = G.2.2 (k - 36) ∧ n = tk_len k ∧ ∀ j : Nat, j < n → ∃ q : Nat, f j = some q ∧ Γ q = tk_el k
  | _ => False
def tk_ty (G : gg_T) (Γ : Nat → Nat) (wt : va_W) : Prop := ∀ a : Nat, Γ a ≠ 0 → ∃ (i : Nat) (e : va_E), wt[i]? = some (a, e) ∧ tk_en G Γ (Γ a) e
theorem tk_ix {we wt : va_W} {i : Nat} : (we ++ wt)[we.length + i]? = wt[i]? := by
  rw [List.getElem?_append_right (Nat.le_add_right _ _), Nat.add_sub_cancel_left]
theorem tk_st {we wt : va_W} {i : Nat} {x : Nat × va_E} : (we ++ wt).set (we.length + i) x = we ++ wt.set i x := by
  rw [List.set_append_right _ _ (Nat.le_add_right _ _), Nat.add_sub_cancel_left]
/-- a cell is put in the place of one at the same address -/
theorem tk_ty.set {G : gg_T} {Γ : Nat → Nat} {wt : va_W} (h : tk_ty G Γ wt) {i a : Nat} {e0 e : va_E} (hi : wt[i]? = some (a, e0)) (he : Γ a ≠ 0 → tk_en G Γ (Γ a) e) : tk_ty G Γ (wt.set i (a, e)) := by
  intro b hb
  have hl := (List.getElem?_eq_some_iff.mp hi).1
  by_cases hab : b = a
  · subst hab
    exact ⟨i, e, by rw [List.getElem?_set_self hl], he hb⟩
  · obtain ⟨j, e1, h1, h2⟩ := h b hb
    refine ⟨j, e1, ?_, h2⟩
    have hji : i ≠ j := fun z => hab (by subst z; rw [hi] at h1; cases h1; rfl)
    rw [List.getElem?_set_ne hji]
    exact h1
theorem tk_obj {G : gg_T} {Γ : Nat → Nat} {ci : Nat} {e : va_E} (hci : ci < 13) (h : tk_en G Γ (ci + 1) e) : ∃ fs : List Value, e = .inr (ci, fs) ∧ (∃ r : vw_C, classes[ci]? = some r ∧ fs.length = r.2.2) ∧ ∀ (j : Nat) (v : Value), fs[j]? = some v → tk_f Γ (ci + 1) j v := by
  match e, h with
  | .inr (cj, fs), h =>
    obtain ⟨h1, h2, h3⟩ := h
    have : cj = ci := by omega
    subst this
    exact ⟨fs, rfl, h2, h3⟩
  | .inl (_, _, .inl _), h => exact absurd h.1.1 (by omega)
  | .inl (_, _, .inr (.inl _)), h => exact absurd h.1.1 (by omega)
  | .inl (_, _, .inr (.inr (.inl _))), h => exact h.elim
  | .inl (_, _, .inr (.inr (.inr (.inl _)))), h => exact h.elim
  | .inl (_, _, .inr (.inr (.inr (.inr _)))), h => exact absurd h.1 (by omega)
theorem tk_ints {G : gg_T} {Γ : Nat → Nat} {k : Nat} {e : va_E} (h1 : 20 ≤ k) (h2 : k < 30) (h : tk_en G Γ k e) : ∃ f : Nat → Int32, e = .inl (G.2.2 0, tk_len k, .inl f) ∧ ∀ j : Nat, tk_e k (f j) := by
  match e, h with
  | .inr (cj, fs), h =>
    obtain ⟨q1, ⟨r, q2, -⟩, -⟩ := h
    have hl := (List.getElem?_eq_some_iff.mp q2).1
    exact absurd (show cj < 13 from hl) (by omega)
  | .inl (cA, n, .inl f), h =>
    obtain ⟨-, rfl, rfl, h4⟩ := h
    exact ⟨f, rfl, h4⟩
  | .inl (_, _, .inr (.inl _)), h => exact absurd h.1.1 (by omega)
  | .inl (_, _, .inr (.inr (.inl _))), h => exact h.elim
  | .inl (_, _, .inr (.inr (.inr (.inl _)))), h => exact h.elim
  | .inl (_, _, .inr (.inr (.inr (.inr _)))), h => exact absurd h.1 (by omega)
theorem tk_longs {G : gg_T} {Γ : Nat → Nat} {k : Nat} {e : va_E} (h1 : 30 ≤ k) (h2 : k < 40) (h : tk_en G Γ k e) : ∃ f : Nat → Int64, e = .inl (G.2.2 1, tk_len k, .inr (.inl f)) := by
  match e, h with
  | .inr (cj, fs), h =>
    obtain ⟨q1, ⟨r, q2, -⟩, -⟩ := h
    have hl := (List.getElem?_eq_some_iff.mp q2).1
    exact absurd (show cj < 13 from hl) (by omega)
  | .inl (cA, n, .inl f), h => exact absurd h.1.2 (by omega)
  | .inl (_, _, .inr (.inl f)), h =>
    obtain ⟨-, rfl, rfl⟩ := h
    exact ⟨f, rfl⟩
  | .inl (_, _, .inr (.inr (.inl _))), h => exact h.elim
  | .inl (_, _, .inr (.inr (.inr (.inl _)))), h => exact h.elim
  | .inl (_, _, .inr (.inr (.inr (.inr _)))), h => exact absurd h.1 (by omega)
theorem tk_refs {G : gg_T} {Γ : Nat → Nat} {k : Nat} {e : va_E} (h1 : 40 ≤ k) (h : tk_en G Γ k e) : ∃ f : Nat → Option Nat, e = .inl (G.2.2 (k - 36), tk_len k, .inr (.inr (.inr (.inr f)))) ∧ ∀ j : Nat, j < tk_len k → ∃ q : Nat, f j = some q ∧ Γ q = tk_el k := by
  match e, h with
  | .inr (cj, fs), h =>
    obtain ⟨q1, ⟨r, q2, -⟩, -⟩ := h
    have hl := (List.getElem?_eq_some_iff.mp q2).1
    exact absurd (show cj < 13 from hl) (by omega)
  | .inl (cA, n, .inl f), h => exact absurd h.1.2 (by omega)
  | .inl (_, _, .inr (.inl f)), h => exact absurd h.1.2 (by omega)
  | .inl (_, _, .inr (.inr (.inl _))), h => exact h.elim
  | .inl (_, _, .inr (.inr (.inr (.inl _)))), h => exact h.elim
  | .inl (_, _, .inr (.inr (.inr (.inr f)))), h =>
    obtain ⟨-, rfl, rfl, h4⟩ := h
    exact ⟨f, rfl, h4⟩
/-- the field j of the object at a holds v now -/
def tk_fl (wt : va_W) (a ci j : Nat) (v : Value) : Prop := ∃ (i : Nat) (fs : List Value), wt[i]? = some (a, .inr (ci, fs)) ∧ fs[j]? = some v
/-- the fields that WR doesn't name (class times 100, and the field) are as they were -/
def tk_kp (WR : List Nat) (w0 wt : va_W) : Prop := ∀ (b cj j : Nat) (v : Value), j < 100 → cj * 100 + j ∉ WR → tk_fl w0 b cj j v → tk_fl wt b cj j v
theorem tk_kp.rf {WR : List Nat} {w : va_W} : tk_kp WR w w := fun _ _ _ _ _ _ h => h
theorem tk_kp.arr {WR : List Nat} {w0 wt w1 : va_W} (h : tk_kp WR w0 wt) (f : ∀ (b cj j : Nat) (v : Value), tk_fl wt b cj j v → tk_fl w1 b cj j v) : tk_kp WR w0 w1 := fun b cj j v hj hn h0 => f b cj j v (h b cj j v hj hn h0)
theorem tk_kp.obj {WR : List Nat} {w0 wt w1 : va_W} {a ci j0 : Nat} (h : tk_kp WR w0 wt) (hc : ci * 100 + j0 ∈ WR) (f : ∀ (b cj j : Nat) (v : Value), (cj ≠ ci ∨ b ≠ a ∨ j ≠ j0) → tk_fl wt b cj j v → tk_fl w1 b cj j v) : tk_kp WR w0 w1 := fun b cj j v hj hn h0 => by
  refine f b cj j v ?_ (h b cj j v hj hn h0)
  by_cases e1 : cj = ci
  · by_cases e2 : j = j0
    · subst e1; subst e2; exact absurd hc hn
    · exact Or.inr (Or.inr e2)
  · exact Or.inl e1
theorem tk_kp.call {WR WC : List Nat} {w0 wt w1 : va_W} (h : tk_kp WR w0 wt) (hs : ∀ x ∈ WC, x ∈ WR) (f : tk_kp WC wt w1) : tk_kp WR w0 w1 := fun b cj j v hj hn h0 => f b cj j v hj (fun q => hn (hs _ q)) (h b cj j v hj hn h0)
theorem fl_arr {wt : va_W} {i a : Nat} {x y : ClassId × vp_A} (hi : wt[i]? = some (a, .inl x)) : ∀ (b cj j : Nat) (v : Value), tk_fl wt b cj j v → tk_fl (wt.set i (a, .inl y)) b cj j v := by
  intro b cj j v h
  obtain ⟨i2, fs, h1, h2⟩ := h
  refine ⟨i2, fs, ?_, h2⟩
  have hne : i ≠ i2 := fun e => by subst e; rw [hi] at h1; cases h1
  rw [List.getElem?_set_ne hne]; exact h1
theorem fl_obj {wt : va_W} {i a ci j0 : Nat} {fs0 : List Value} {v0 : Value} (hi : wt[i]? = some (a, .inr (ci, fs0))) : ∀ (b cj j : Nat) (v : Value), (cj ≠ ci ∨ b ≠ a ∨ j ≠ j0) → tk_fl wt b cj j v → tk_fl (wt.set i (a, .inr (ci, fs0.set j0 v0))) b cj j v := by
  intro b cj j v hd h
  obtain ⟨i2, fs, h1, h2⟩ := h
  by_cases e : i = i2
  · subst e
    rw [hi] at h1
    cases h1
    refine ⟨i, fs0.set j0 v0, by rw [List.getElem?_set_self (List.getElem?_eq_some_iff.mp hi).1], ?_⟩
    rcases hd with hd | hd | hd
    · exact absurd rfl hd
    · exact absurd rfl hd
    · rw [List.getElem?_set_ne (Ne.symm hd)]; exact h2
  · exact ⟨i2, fs, by rw [List.getElem?_set_ne e]; exact h1, h2⟩
theorem tk_peek {G : gg_T} {Γ : Nat → Nat} {wt : va_W} {a ci : Nat} {r : vw_C} (hT : tk_ty G Γ wt) (hk : Γ a = ci + 1) (hci : ci < 13) (hc : classes[ci]? = some r) (j : Nat) (hj : j < r.2.2) : ∃ v : Value, tk_f Γ (ci + 1) j v ∧ tk_fl wt a ci j v := by
  obtain ⟨i, en, h1, h2⟩ := hT a (by rw [hk]; omega)
  rw [hk] at h2
  obtain ⟨fs, rfl, ⟨r2, h3, h4⟩, h5⟩ := tk_obj hci h2
  rw [hc] at h3
  cases h3
  have hlt : j < fs.length := by rw [h4]; exact hj
  exact ⟨fs[j], h5 j _ (List.getElem?_eq_getElem hlt), i, fs, h1, List.getElem?_eq_getElem hlt⟩
section TRR
variable {p : Program} {l : Launch} {e : Env} {R : Room} {s : State} {m : MethodId} {args : Array Value} {below : List Frame} {meth : Method} {c : Code} {H : Heap} {locs : List Loc} {cells slots : Nat} {Q : State → Prop}
variable {cc : ByteArray} {pc : Nat} {ls : Array Slot} {rest : List Value} {G : gg_T} {Γ : Nat → Nat} {A : Nat → Prop} {a : Nat} {we wt : va_W} {H0 : Heap}
theorem tr_get (hx : p.tables.exec = Jvm.exec) (hb : c.code = cc) (ht : ∀ w ∈ tb_L, w.before args s = true) {own C : String} {T : u_T} {N ci index : Nat} (hown : s.vm.findClass own = some m.cls) (hK : gg_K G s) (hT : tk_ty G Γ wt) (hP : va_P (gg_D G) classes (we ++ wt) H) (hk : Γ a = ci + 1) (hci : ci < 13) (hin : ∀ w ∈ u_ws C T N, w ∈ tb_L) (hc : classes[ci]? = some (C, T, N)) (j : Nat) (hj : j < N) (hl : Cond.fieldLink own index C (T j).2.1 (T j).2.2.1 ∈ tb_L) (hsm : (T j).1 = C) (hdg : decode cc pc = .ok (.getfield index, 3))
    (kk : ∀ v : Value, tk_f Γ (ci + 1) j v → tk_fl wt a ci j v → W p l e R s m args below meth c H locs cells slots Q (F0 m (pc + 3) ls (v :: rest))) : W p l e R s m args below meth c H locs cells slots Q (F0 m pc ls (.ref a :: rest)) := by
  obtain ⟨i, en, h1, h2⟩ := hT a (by rw [hk]; omega)
  rw [hk] at h2
  obtain ⟨fs, rfl, ⟨r, h3, h4⟩, h5⟩ := tk_obj hci h2
  rw [hc] at h3
  cases h3
  have hlt : j < fs.length := by rw [h4]; exact hj
  exact gq_get hx hb ht hown hK hP hin (we.length + i) (by rw [tk_ix]; exact h1) hc j hj hl hsm (v := fs[j]) (List.getElem?_eq_getElem hlt) hdg (kk _ (h5 j _ (List.getElem?_eq_getElem hlt)) ⟨i, fs, h1, List.getElem?_eq_getElem hlt⟩)
theorem tr_getK (hx : p.tables.exec = Jvm.exec) (hb : c.code = cc) (ht : ∀ w ∈ tb_L, w.before args s = true) {own C : String} {T : u_T} {N ci index : Nat} (hown : s.vm.findClass own = some m.cls) (hK : gg_K G s) (hP : va_P (gg_D G) classes (we ++ wt) H) (hin : ∀ w ∈ u_ws C T N, w ∈ tb_L) (hc : classes[ci]? = some (C, T, N)) (j : Nat) (hj : j < N) (hl : Cond.fieldLink own index C (T j).2.1 (T j).2.2.1 ∈ tb_L) (hsm : (T j).1 = C) {v : Value} (hf : tk_fl wt a ci j v) (hdg : decode cc pc = .ok (.getfield index, 3))
    (kk : W p l e R s m args below meth c H locs cells slots Q (F0 m (pc + 3) ls (v :: rest))) : W p l e R s m args below meth c H locs cells slots Q (F0 m pc ls (.ref a :: rest)) := by
  obtain ⟨i, fs, h1, h2⟩ := hf
  exact gq_get hx hb ht hown hK hP hin (we.length + i) (by rw [tk_ix]; exact h1) hc j hj hl hsm h2 hdg kk
theorem tr_put (hx : p.tables.exec = Jvm.exec) (hb : c.code = cc) (ht : ∀ w ∈ tb_L, w.before args s = true) {own C : String} {T : u_T} {N ci index : Nat} (hown : s.vm.findClass own = some m.cls) (hK : gg_K G s) (hT : tk_ty G Γ wt) (hP : va_P (gg_D G) classes (we ++ wt) H) (hD : va_D A (we ++ wt)) (hS : va_S A H0 H locs) (hk : Γ a = ci + 1) (hci : ci < 13) (hin : ∀ w ∈ u_ws C T N, w ∈ tb_L) (ty0 : Nat → FieldType) (hty : ∀ k, k < N → parseFieldDescriptor (T k).2.2.1 = some (ty0 k)) (hnm : ∀ a, a < N → ∀ b, b < N → a ≠ b → (T a).2.1 ≠ (T b).2.1) (hc : classes[ci]? = some (C, T, N)) (j : Nat) (hj : j < N) (hl : Cond.fieldLink own index C (T j).2.1 (T j).2.2.1 ∈ tb_L) (hsm : (T j).1 = C) (hfin : (T j).2.2.2 = false) {v : Value} (hn : narrow (ty0 j) v = v) (hfit : fits (ty0 j) v = true) (hv : tk_f Γ (ci + 1) j v) (hdg : decode cc pc = .ok (.putfield index, 3))
    (kk : ∀ (H1 : Heap) (locs1 : List Loc) (wt1 : va_W), tk_ty G Γ wt1 → (∀ (b cj j2 : Nat) (v2 : Value), (cj ≠ ci ∨ b ≠ a ∨ j2 ≠ j) → tk_fl wt b cj j2 v2 → tk_fl wt1 b cj j2 v2) → tk_fl wt1 a ci j v → va_P (gg_D G) classes (we ++ wt1) H1 → va_D A (we ++ wt1) → va_S A H0 H1 locs1 → W p l e R s m args below meth c H1 locs1 cells slots Q (F0 m (pc + 3) ls rest)) : W p l e R s m args below meth c H locs cells slots Q (F0 m pc ls (v :: .ref a :: rest)) := by
  obtain ⟨i, en, h1, h2⟩ := hT a (by rw [hk]; omega)
  rw [hk] at h2
  obtain ⟨fs, rfl, ⟨r, h3, h4⟩, h5⟩ := tk_obj hci h2
  rw [hc] at h3
  cases h3
  have hlt : j < fs.length := by rw [h4]; exact hj
  refine gq_put (ws' := we ++ wt.set i (a, .inr (ci, fs.set j v))) hx hb ht hown hK hP hD hS hin ty0 hty hnm (we.length + i) (by rw [tk_ix]; exact h1) hc j hj hl hsm hfin hn hfit hlt tk_st hdg (fun H1 locs1 hP1 hD1 hS1 => ?_)
  refine kk H1 locs1 _ (hT.set h1 (fun _ => ?_)) (fl_obj h1) ⟨i, fs.set j v, by rw [List.getElem?_set_self (List.getElem?_eq_some_iff.mp h1).1], by rw [List.getElem?_set_self hlt]⟩ hP1 hD1 hS1
  rw [hk]
  refine ⟨rfl, ⟨_, hc, by rw [List.length_set]; exact h4⟩, fun j2 v2 hj2 => ?_⟩
  by_cases e2 : j2 = j
  · subst e2
    rw [List.getElem?_set_self hlt] at hj2
    cases hj2
    exact hv
  · rw [List.getElem?_set_ne (Ne.symm e2)] at hj2
    exact h5 j2 v2 hj2
theorem tr_iald (hx : p.tables.exec = Jvm.exec) (hb : c.code = cc) (hK : gg_K G s) (hT : tk_ty G Γ wt) (hP : va_P (gg_D G) classes (we ++ wt) H) (k : Nat) (hk : Γ a = k) (h20 : 20 ≤ k) (h30 : k < 30) {i : Int32} (hi : vp_in i (tk_len k)) (hdg : decode cc pc = .ok (.iaload, 1))
    (kk : ∀ v : Int32, tk_e k v → W p l e R s m args below meth c H locs cells slots Q (F0 m (pc + 1) ls (.int v :: rest))) : W p l e R s m args below meth c H locs cells slots Q (F0 m pc ls (.int i :: .ref a :: rest)) := by
  obtain ⟨i0, en, h1, h2⟩ := hT a (by omega)
  rw [hk] at h2
  obtain ⟨f, rfl, h3⟩ := tk_ints h20 h30 h2
  exact gq_iald hx hb hK hP (we.length + i0) (by rw [tk_ix]; exact h1) _ hi rfl hdg (kk _ (h3 _))
theorem tr_iast (hx : p.tables.exec = Jvm.exec) (hb : c.code = cc) (hK : gg_K G s) (hT : tk_ty G Γ wt) (hP : va_P (gg_D G) classes (we ++ wt) H) (hD : va_D A (we ++ wt)) (hS : va_S A H0 H locs) (k : Nat) (hk : Γ a = k) (h20 : 20 ≤ k) (h30 : k < 30) {i x : Int32} (hi : vp_in i (tk_len k)) (hv : tk_e k x) (hdg : decode cc pc = .ok (.iastore, 1))
    (kk : ∀ (H1 : Heap) (locs1 : List Loc) (wt1 : va_W), tk_ty G Γ wt1 → (∀ (b cj j2 : Nat) (v2 : Value), tk_fl wt b cj j2 v2 → tk_fl wt1 b cj j2 v2) → va_P (gg_D G) classes (we ++ wt1) H1 → va_D A (we ++ wt1) → va_S A H0 H1 locs1 → W p l e R s m args below meth c H1 locs1 cells slots Q (F0 m (pc + 1) ls rest)) : W p l e R s m args below meth c H locs cells slots Q (F0 m pc ls (.int x :: .int i :: .ref a :: rest)) := by
  obtain ⟨i0, en, h1, h2⟩ := hT a (by omega)
  rw [hk] at h2
  obtain ⟨f, rfl, h3⟩ := tk_ints h20 h30 h2
  refine gq_iast (ws' := we ++ wt.set i0 (a, .inl (G.2.2 0, tk_len k, .inl (upd f i.toNatClampNeg x)))) hx hb hK hP hD hS (we.length + i0) (by rw [tk_ix]; exact h1) _ hi rfl tk_st hdg (fun H1 locs1 hP1 hD1 hS1 => ?_)
  refine kk H1 locs1 _ (hT.set h1 (fun _ => ?_)) (fl_arr h1) hP1 hD1 hS1
  rw [hk]
  refine ⟨⟨h20, h30⟩, rfl, rfl, fun j => ?_⟩
  by_cases ej : j = i.toNatClampNeg
  · simp only [upd, ej, if_true]; exact hv
  · simp only [upd, ej, if_false]; exact h3 j
theorem tr_alen (hx : p.tables.exec = Jvm.exec) (hb : c.code = cc) (hK : gg_K G s) (hT : tk_ty G Γ wt) (hP : va_P (gg_D G) classes (we ++ wt) H) (k : Nat) (hk : Γ a = k) (h20 : 20 ≤ k) (h30 : k < 30) (v : Int32) (hv : Int32.ofNat (tk_len k) = v) (hdg : decode cc pc = .ok (.arraylength, 1))
    (kk : W p l e R s m args below meth c H locs cells slots Q (F0 m (pc + 1) ls (.int v :: rest))) : W p l e R s m args below meth c H locs cells slots Q (F0 m pc ls (.ref a :: rest)) := by
  obtain ⟨i0, en, h1, h2⟩ := hT a (by omega)
  rw [hk] at h2
  obtain ⟨f, rfl, h3⟩ := tk_ints h20 h30 h2
  exact gq_alen hx hb hK hP (we.length + i0) 0 (by rw [tk_ix]; exact h1) rfl v hv hdg kk
theorem tr_aald (hx : p.tables.exec = Jvm.exec) (hb : c.code = cc) (hK : gg_K G s) (hT : tk_ty G Γ wt) (hP : va_P (gg_D G) classes (we ++ wt) H) (k : Nat) (hk : Γ a = k) (h40 : 40 ≤ k) {C : String} (hty : (gg_ty G)[k - 36]? = some (G.2.2 (k - 36), .object C)) {i : Int32} (hi : vp_in i (tk_len k)) (hdg : decode cc pc = .ok (.aaload, 1))
    (kk : ∀ q : Nat, Γ q = tk_el k → W p l e R s m args below meth c H locs cells slots Q (F0 m (pc + 1) ls (.ref q :: rest))) : W p l e R s m args below meth c H locs cells slots Q (F0 m pc ls (.int i :: .ref a :: rest)) := by
  obtain ⟨i0, en, h1, h2⟩ := hT a (by omega)
  rw [hk] at h2
  obtain ⟨f, rfl, h3⟩ := tk_refs h40 h2
  have hlt : i.toNatClampNeg < tk_len k := Nat.not_le.mp fun q => hi (Or.inr q)
  obtain ⟨q, h4, h5⟩ := h3 _ hlt
  exact gq_aald hx hb hK hP (we.length + i0) (k - 36) (by rw [tk_ix]; exact h1) hty q hi h4 hdg (kk q h5)
end TRR
theorem tw_right {D : va_G} {cl : List vw_C} {wr wc : va_W} {H : Heap} (h : va_P D cl (wr ++ wc) H) : va_P D cl wc H := fun k q hq => h (wr.length + k) q (by rw [tk_ix]; exact hq)
theorem tw_rightD {A : Nat → Prop} {wr wc : va_W} (h : va_D A (wr ++ wc)) : va_D A wc := ⟨fun i j x y hi hj e => by
    have := h.1 (wr.length + i) (wr.length + j) x y (by rw [tk_ix]; exact hi) (by rw [tk_ix]; exact hj) e
    omega, fun k q hq => h.2 (wr.length + k) q (by rw [tk_ix]; exact hq)⟩
theorem tw_free {A : Nat → Prop} {wr wc : va_W} {H0 H : Heap} {locs : List Loc} (hD : va_D A (wr ++ wc)) (hS : va_S A H0 H locs) (hA : ∀ q, H0.size ≤ q → A q) : ∀ q, va_A wc H.size q → A q := by
  intro q h
  rcases h with ⟨k, e, h⟩ | h
  · exact (tw_rightD hD).2 k (q, e) h
  · exact hA q (Nat.le_trans hS.1 h)
theorem tw_join {A : Nat → Prop} {D : va_G} {cl : List vw_C} {wr wc w1 : va_W} {H H1 : Heap} (hP : va_P D cl (wr ++ wc) H) (hD : va_D A (wr ++ wc)) (hk : ∀ q : Nat, q < H.size → ¬ va_A wc H.size q → H1[q]? = H[q]?) (hF : ∀ q, va_A wc H.size q → A q) (hP1 : va_P D cl w1 H1) (hD1 : va_D (va_A wc H.size) w1) : va_P D cl (wr ++ w1) H1 ∧ va_D A (wr ++ w1) := by
  have left : ∀ (k : Nat) (q : Nat × va_E), wr[k]? = some q → (wr ++ wc)[k]? = some q := fun k q hq => by
    rw [List.getElem?_append_left (List.getElem?_eq_some_iff.mp hq).1]; exact hq
  have apart : ∀ (k : Nat) (q : Nat × va_E), wr[k]? = some q → q.1 < H.size ∧ ¬ va_A wc H.size q.1 := by
    intro k q hq
    have hl := (hP k q (left k q hq)).lt
    refine ⟨hl, fun h => ?_⟩
    rcases h with ⟨k2, e, h⟩ | h
    · have := hD.1 k (wr.length + k2) q (q.1, e) (left k q hq) (by rw [tk_ix]; exact h) rfl
      have hk1 := (List.getElem?_eq_some_iff.mp hq).1
      omega
    · omega
  refine ⟨va_P.app (fun k q hq => ?_) hP1, va_D.app ⟨fun i j x y hi hj e => hD.1 i j x y (left i x hi) (left j y hj) e, fun k q hq => hD.2 k q (left k q hq)⟩ (hD1.weaken (fun k q _ h => hF q.1 h)) (fun i j x y hx hy hxy => ?_)⟩
  · obtain ⟨g1, g2⟩ := apart k q hq
    exact (hP k q (left k q hq)).kept (hk q.1 g1 g2)
  · exact (apart i x hx).2 (by rw [hxy]; exact hD1.2 j y hy)
theorem gt_preV {G : gg_T} {Γ : Nat → Nat} {s : State} {H : Heap} {we wt : va_W} {A : Nat → Prop} {As : List Value} {b ci : Nat} {r : vw_C} (hK : gg_K G s) (hT : tk_ty G Γ wt) (hP : va_P (gg_D G) classes (we ++ wt) H) (hD : va_D A (we ++ wt)) (hk : Γ b = ci + 1) (hci : ci < 13) (hc : classes[ci]? = some r) : PreV s H r.1 b (gc_P G (we ++ wt) H.size (.ref b :: As)) As := by
  obtain ⟨i, en, h1, h2⟩ := hT b (by rw [hk]; omega)
  rw [hk] at h2
  obtain ⟨fs, rfl, -, -⟩ := tk_obj hci h2
  exact gc_preV (ci := ci) (q0 := we.length + i) hK hP hD hc (by rw [tk_ix]; exact h1)
section TRC
variable {p : Program} {l : Launch} {e : Env} {R : Room} {s : State} {m : MethodId} {args : Array Value} {below : List Frame} {meth : Method} {c : Code} {H : Heap} {locs : List Loc} {cells slots : Nat} {Q : State → Prop}
variable {pc : Nat} {ls : Array Slot} {rest : List Value} {G : gg_T} {Γ : Nat → Nat} {A : Nat → Prop} {H0 : Heap}
theorem gt_callI {S : Type} {post : Int32 → S → Prop} {w1 : S → va_W} {wr wc : va_W} {mc ms : Nat} {st0 : List Value} {av : Array Value} (hr : va_Run p l e R s m args below meth c H locs cells slots mc ms (F0 m pc ls st0) rest (gc_I G (va_A wc H.size) post w1 av) (va_A wc H.size)) (hP : va_P (gg_D G) classes (wr ++ wc) H) (hD : va_D A (wr ++ wc)) (hS : va_S A H0 H locs) (hA : ∀ q, H0.size ≤ q → A q)
    (kk : ∀ (r : Int32) (u : S) (H1 : Heap) (locs1 : List Loc), post r u → va_P (gg_D G) classes (wr ++ w1 u) H1 → va_D A (wr ++ w1 u) → va_S A H0 H1 locs1 → W p l e R s m args below meth c H1 locs1 (cells + mc) (slots + ms) Q (F0 m (pc + 3) ls (.int r :: rest))) : W p l e R s m args below meth c H locs cells slots Q (F0 m pc ls st0) := by
  have hFc := tw_free hD hS hA
  refine va_calli hr hS (fun q _ h => hFc q h) hFc (fun r u t H1 locs1 ht hvm hw hB hz1 hk1 hS1 => ?_)
  obtain ⟨hP1, hD1⟩ := hB
  rw [ht] at hP1
  obtain ⟨hP2, hD2⟩ := tw_join hP hD hk1 hFc hP1 hD1
  exact kk r u H1 locs1 hw hP2 hD2 hS1
theorem gt_callV {S : Type} {post : S → Prop} {w1 : S → va_W} {wr wc : va_W} {mc ms : Nat} {st0 : List Value} {av : Array Value} (hr : va_Run p l e R s m args below meth c H locs cells slots mc ms (F0 m pc ls st0) rest (gc_V G (va_A wc H.size) post w1 av) (va_A wc H.size)) (hP : va_P (gg_D G) classes (wr ++ wc) H) (hD : va_D A (wr ++ wc)) (hS : va_S A H0 H locs) (hA : ∀ q, H0.size ≤ q → A q)
    (kk : ∀ (u : S) (H1 : Heap) (locs1 : List Loc), post u → va_P (gg_D G) classes (wr ++ w1 u) H1 → va_D A (wr ++ w1 u) → va_S A H0 H1 locs1 → W p l e R s m args below meth c H1 locs1 (cells + mc) (slots + ms) Q (F0 m (pc + 3) ls rest)) : W p l e R s m args below meth c H locs cells slots Q (F0 m pc ls st0) := by
  have hFc := tw_free hD hS hA
  refine va_callv hr hS (fun q _ h => hFc q h) hFc (fun u t H1 locs1 ht hvm hw hB hz1 hk1 hS1 => ?_)
  obtain ⟨hP1, hD1⟩ := hB
  rw [ht] at hP1
  obtain ⟨hP2, hD2⟩ := tw_join hP hD hk1 hFc hP1 hD1
  exact kk u H1 locs1 hw hP2 hD2 hS1
/-- a loop: what its locals hold is a tuple x with I x, and the number μ falls -/
theorem tl_loop {σ : Type} (I : σ → Prop) (μ : σ → Nat) (lv : σ → List (Nat × Value)) {nL head : Nat} {we : va_W} (Rw : va_W → Prop)
    (hs : ∀ x : σ, I x → ∀ (H : Heap) (locs : List Loc) (wt : va_W) (ls : Array Slot), tk_ty G Γ wt → Rw wt → va_P (gg_D G) classes (we ++ wt) H → va_D A (we ++ wt) → va_S A H0 H locs → lv_has ls nL (lv x) → (∀ y : σ, I y → μ y < μ x → ∀ (H : Heap) (locs : List Loc) (wt : va_W) (ls : Array Slot), tk_ty G Γ wt → Rw wt → va_P (gg_D G) classes (we ++ wt) H → va_D A (we ++ wt) → va_S A H0 H locs → lv_has ls nL (lv y) → W p l e R s m args below meth c H locs cells slots Q (F0 m head ls [])) → W p l e R s m args below meth c H locs cells slots Q (F0 m head ls [])) :
    ∀ x : σ, I x → ∀ (H : Heap) (locs : List Loc) (wt : va_W) (ls : Array Slot), tk_ty G Γ wt → Rw wt → va_P (gg_D G) classes (we ++ wt) H → va_D A (we ++ wt) → va_S A H0 H locs → lv_has ls nL (lv x) → W p l e R s m args below meth c H locs cells slots Q (F0 m head ls []) := by
  have key : ∀ (n : Nat) (x : σ), μ x < n → I x → ∀ (H : Heap) (locs : List Loc) (wt : va_W) (ls : Array Slot), tk_ty G Γ wt → Rw wt → va_P (gg_D G) classes (we ++ wt) H → va_D A (we ++ wt) → va_S A H0 H locs → lv_has ls nL (lv x) → W p l e R s m args below meth c H locs cells slots Q (F0 m head ls []) := by
    intro n
    induction n with
    | zero => intro x h; exact absurd h (Nat.not_lt_zero _)
    | succ n ih =>
      intro x hx hI H locs wt ls h1 hR h2 h3 h4 h5
      exact hs x hI H locs wt ls h1 hR h2 h3 h4 h5 (fun y hy hlt H2 l2 w2 ls2 => ih y (by omega) hy H2 l2 w2 ls2)
  exact fun x hI => key (μ x + 1) x (Nat.lt_succ_self _) hI
end TRC
theorem ia_add {x y t : Int32} (e : x + y = t) (h1 : -2147483648 ≤ x.toInt + y.toInt) (h2 : x.toInt + y.toInt ≤ 2147483647) : t.toInt = x.toInt + y.toInt := by
  subst e
  rw [Int32.toInt_add]
  rw [Int.bmod_eq_of_le] <;> omega
theorem ia_sub {x y t : Int32} (e : x - y = t) (h1 : -2147483648 ≤ x.toInt - y.toInt) (h2 : x.toInt - y.toInt ≤ 2147483647) : t.toInt = x.toInt - y.toInt := by
  subst e
  rw [Int32.toInt_sub]
  rw [Int.bmod_eq_of_le] <;> omega
theorem ia_mul {x y t : Int32} (e : x * y = t) (h1 : -2147483648 ≤ x.toInt * y.toInt) (h2 : x.toInt * y.toInt ≤ 2147483647) : t.toInt = x.toInt * y.toInt := by
  subst e
  rw [Int32.toInt_mul]
  rw [Int.bmod_eq_of_le] <;> omega
theorem ia_in {x : Int32} {n : Nat} (h1 : 0 ≤ x.toInt) (h2 : x.toInt < n) : vp_in x n := vp_in_iff.mpr ⟨h1, h2⟩
theorem gt_preW {G : gg_T} {Γ : Nat → Nat} {s : State} {H : Heap} {wt : va_W} {A : Nat → Prop} {As : List Value} {b ci : Nat} {r : vw_C} (hK : gg_K G s) (hT : tk_ty G Γ wt) (hP : va_P (gg_D G) classes wt H) (hD : va_D A wt) (hk : Γ b = ci + 1) (hci : ci < 13) (hc : classes[ci]? = some r) : PreV s H r.1 b (gc_P G wt H.size (.ref b :: As)) As := by
  obtain ⟨i, en, h1, h2⟩ := hT b (by rw [hk]; omega)
  rw [hk] at h2
  obtain ⟨fs, rfl, -, -⟩ := tk_obj hci h2
  exact gc_preV (ci := ci) (q0 := i) hK hP hD hc h1
theorem ia_nn (x : Int32) : x.toInt = if 2 * x.toBitVec.toNat < 2 ^ 32 then (x.toBitVec.toNat : Int) else (x.toBitVec.toNat : Int) - ((2 ^ 32 : Nat) : Int) := BitVec.toInt_eq_toNat_cond _
theorem ia_and1 {x y t : Int32} (e : x &&& y = t) (h : 0 ≤ x.toInt) : 0 ≤ t.toInt ∧ t.toInt ≤ x.toInt := by
  subst e
  have h1 : (x &&& y).toBitVec.toNat ≤ x.toBitVec.toNat := by
    rw [Int32.toBitVec_and, BitVec.toNat_and]
    exact Nat.and_le_left
  have h2 := x.toBitVec.isLt
  rw [ia_nn] at h ⊢
  rw [ia_nn x]
  split at h <;> split <;> omega
theorem ia_and2 {x y t : Int32} (e : x &&& y = t) (h : 0 ≤ y.toInt) : 0 ≤ t.toInt ∧ t.toInt ≤ y.toInt := by
  subst e
  have h1 : (x &&& y).toBitVec.toNat ≤ y.toBitVec.toNat := by
    rw [Int32.toBitVec_and, BitVec.toNat_and]
    exact Nat.and_le_right
  have h2 := y.toBitVec.isLt
  rw [ia_nn] at h ⊢
  rw [ia_nn y]
  split at h <;> split <;> omega
theorem ia_or31 {x y t : Int32} (e : x ||| y = t) (h1 : 0 ≤ x.toInt) (h2 : x.toInt ≤ 31) (h3 : 0 ≤ y.toInt) (h4 : y.toInt ≤ 31) : 0 ≤ t.toInt ∧ t.toInt ≤ 31 := by
  subst e
  have b1 := x.toBitVec.isLt
  have b2 := y.toBitVec.isLt
  have a1 : x.toBitVec.toNat < 2 ^ 5 := by
    rw [ia_nn] at h1 h2
    split at h1 <;> simp_all <;> omega
  have a2 : y.toBitVec.toNat < 2 ^ 5 := by
    rw [ia_nn] at h3 h4
    split at h3 <;> simp_all <;> omega
  have a3 : (x ||| y).toBitVec.toNat < 2 ^ 5 := by
    rw [Int32.toBitVec_or, BitVec.toNat_or]
    exact Nat.or_lt_two_pow a1 a2
  rw [ia_nn]
  split <;> omega
theorem ia_bit {y t : Int32} (e : (1 : Int32) <<< (y &&& 31) = t) (h1 : 0 ≤ y.toInt) (h2 : y.toInt ≤ 4) : 0 ≤ t.toInt ∧ t.toInt ≤ 31 := by
  subst e
  have z0 : (0 : Int32).toInt = 0 := by decide +kernel
  have z4 : (4 : Int32).toInt = 4 := by decide +kernel
  obtain ⟨j, hj, rfl⟩ := nI_of2 (x := y) (M := 4) (n := 4) (by decide +kernel) (by rw [Int32.lt_iff_toInt_lt]; omega) (by rw [Int32.le_iff_toInt_le]; omega)
  rcases (show j = 0 ∨ j = 1 ∨ j = 2 ∨ j = 3 ∨ j = 4 by omega) with rfl | rfl | rfl | rfl | rfl <;> decide +kernel
theorem ia_bool {v : Int32} (h1 : 0 ≤ v.toInt) (h2 : v.toInt ≤ 1) : narrow .boolean (.int v) = .int v := by
  have z0 : (0 : Int32).toInt = 0 := by decide +kernel
  have z1 : (1 : Int32).toInt = 1 := by decide +kernel
  have : v = 0 ∨ v = 1 := by
    rw [← Int32.toInt_inj, ← Int32.toInt_inj]
    omega
  rcases this with rfl | rfl <;> decide +kernel
theorem ia_shr {x y t u : Int32} (e1 : x >>> (y &&& 31) = t) (e2 : t &&& 1 = u) (h1 : 0 ≤ x.toInt) (h2 : x.toInt ≤ 31) (h3 : 0 ≤ y.toInt) (h4 : y.toInt ≤ 31) (hu : ¬ u = 0) : y.toInt ≤ 4 := by
  have z0 : (0 : Int32).toInt = 0 := by decide +kernel
  have z31 : (31 : Int32).toInt = 31 := by decide +kernel
  obtain ⟨j, hj, rfl⟩ := nI_of2 (x := y) (M := 31) (n := 31) (by decide +kernel) (by rw [Int32.lt_iff_toInt_lt]; omega) (by rw [Int32.le_iff_toInt_le]; omega)
  obtain ⟨k, hk, rfl⟩ := nI_of2 (x := x) (M := 31) (n := 31) (by decide +kernel) (by rw [Int32.lt_iff_toInt_lt]; omega) (by rw [Int32.le_iff_toInt_le]; omega)
  have key : ∀ k : Nat, k < 32 → ∀ j : Nat, j < 32 → 4 < j → (nI k >>> (nI j &&& 31)) &&& 1 = 0 := by decide +kernel
  have hy : (nI j).toInt = (j : Int) := nI_toInt (by omega)
  by_cases h : 4 < j
  · exact absurd (by rw [← e2, ← e1]; exact key k (by omega) j (by omega) h) hu
  · omega
abbrev gc_J (G : gg_T) (A : Nat → Prop) {S : Type} (post : Int64 → S → Prop) (w1 : S → va_W) : Array Value → State → Outcome → State → Prop := va_Ql post (fun u t => va_P (gg_D G) classes (w1 u) t.heap ∧ va_D A (w1 u)) A
section TRL
variable {p : Program} {l : Launch} {e : Env} {R : Room} {s : State} {m : MethodId} {args : Array Value} {below : List Frame} {meth : Method} {c : Code} {H : Heap} {locs : List Loc} {cells slots : Nat} {Q : State → Prop}
variable {cc : ByteArray} {pc : Nat} {ls : Array Slot} {rest : List Value} {G : gg_T} {Γ : Nat → Nat} {A : Nat → Prop} {a : Nat} {we wt : va_W} {H0 : Heap}
theorem gq_endJ {S : Type} {post : Int64 → S → Prop} {w1 : S → va_W} (u : S) {v : Int64} (hp : post v u) (hP : va_P (gg_D G) classes (w1 u) H) (hD : va_D A (w1 u)) (hS : va_S A s.heap H locs) : ∀ t : State, t.heap = H → s.WarmedH t.vm → gc_J G A post w1 args s (.returned (some (.long v))) t :=
  fun t ht _ => ⟨⟨v, u, rfl, hp, by rw [ht]; exact hP, hD⟩, hS.F ht⟩
theorem gt_callJ {S : Type} {post : Int64 → S → Prop} {w1 : S → va_W} {wr wc : va_W} {mc ms : Nat} {st0 : List Value} {av : Array Value} (hr : va_Run p l e R s m args below meth c H locs cells slots mc ms (F0 m pc ls st0) rest (gc_J G (va_A wc H.size) post w1 av) (va_A wc H.size)) (hP : va_P (gg_D G) classes (wr ++ wc) H) (hD : va_D A (wr ++ wc)) (hS : va_S A H0 H locs) (hA : ∀ q, H0.size ≤ q → A q)
    (kk : ∀ (r : Int64) (u : S) (H1 : Heap) (locs1 : List Loc), post r u → va_P (gg_D G) classes (wr ++ w1 u) H1 → va_D A (wr ++ w1 u) → va_S A H0 H1 locs1 → W p l e R s m args below meth c H1 locs1 (cells + mc) (slots + ms) Q (F0 m (pc + 3) ls (.long r :: rest))) : W p l e R s m args below meth c H locs cells slots Q (F0 m pc ls st0) := by
  have hFc := tw_free hD hS hA
  refine va_calll hr hS (fun q _ h => hFc q h) hFc (fun r u t H1 locs1 ht hvm hw hB hz1 hk1 hS1 => ?_)
  obtain ⟨hP1, hD1⟩ := hB
  rw [ht] at hP1
  obtain ⟨hP2, hD2⟩ := tw_join hP hD hk1 hFc hP1 hD1
  exact kk r u H1 locs1 hw hP2 hD2 hS1
theorem tr_lald (hx : p.tables.exec = Jvm.exec) (hb : c.code = cc) (hK : gg_K G s) (hT : tk_ty G Γ wt) (hP : va_P (gg_D G) classes (we ++ wt) H) (k : Nat) (hk : Γ a = k) (h30 : 30 ≤ k) (h40 : k < 40) {i : Int32} (hi : vp_in i (tk_len k)) (hdg : decode cc pc = .ok (.laload, 1))
    (kk : ∀ v : Int64, W p l e R s m args below meth c H locs cells slots Q (F0 m (pc + 1) ls (.long v :: rest))) : W p l e R s m args below meth c H locs cells slots Q (F0 m pc ls (.int i :: .ref a :: rest)) := by
  obtain ⟨i0, en, h1, h2⟩ := hT a (by omega)
  rw [hk] at h2
  obtain ⟨f, rfl⟩ := tk_longs h30 h40 h2
  exact va_lald hx hb hK.1 hP (we.length + i0) 1 (by rw [tk_ix]; exact h1) rfl hi hdg (kk _)
theorem tr_last (hx : p.tables.exec = Jvm.exec) (hb : c.code = cc) (hK : gg_K G s) (hT : tk_ty G Γ wt) (hP : va_P (gg_D G) classes (we ++ wt) H) (hD : va_D A (we ++ wt)) (hS : va_S A H0 H locs) (k : Nat) (hk : Γ a = k) (h30 : 30 ≤ k) (h40 : k < 40) {i : Int32} {x : Int64} (hi : vp_in i (tk_len k)) (hdg : decode cc pc = .ok (.lastore, 1))
    (kk : ∀ (H1 : Heap) (locs1 : List Loc) (wt1 : va_W), tk_ty G Γ wt1 → (∀ (b cj j2 : Nat) (v2 : Value), tk_fl wt b cj j2 v2 → tk_fl wt1 b cj j2 v2) → va_P (gg_D G) classes (we ++ wt1) H1 → va_D A (we ++ wt1) → va_S A H0 H1 locs1 → W p l e R s m args below meth c H1 locs1 cells slots Q (F0 m (pc + 1) ls rest)) : W p l e R s m args below meth c H locs cells slots Q (F0 m pc ls (.long x :: .int i :: .ref a :: rest)) := by
  obtain ⟨i0, en, h1, h2⟩ := hT a (by omega)
  rw [hk] at h2
  obtain ⟨f, rfl⟩ := tk_longs h30 h40 h2
  refine va_last hx hb hK.1 hP hD hS (we.length + i0) 1 (by rw [tk_ix]; exact h1) rfl hi hdg (fun H1 locs1 hP1 hD1 hS1 => ?_)
  rw [tk_st] at hP1 hD1
  refine kk H1 locs1 _ (hT.set h1 (fun _ => ?_)) (fl_arr h1) hP1 hD1 hS1
  rw [hk]
  exact ⟨⟨h30, h40⟩, rfl, rfl⟩
theorem tr_copy (hx : p.tables.exec = Jvm.exec) (hb : c.code = cc) (hml : c.maxLocals = ls.size) {own : String} {index : Nat} (hown : s.vm.findClass own = some m.cls) (hlink : (Cond.methodLink own index arraycopyName).before args s = true) (hnat : (Cond.native arraycopyName).before args s = true) (hstat : (Cond.static arraycopyName).before args s = true) (hini : (Cond.initialized "java/lang/System").before args s = true)
    (hK : gg_K G s) (hT : tk_ty G Γ wt) (hP : va_P (gg_D G) classes (we ++ wt) H) (hD : va_D A (we ++ wt)) (hS : va_S A H0 H locs) {a0 : Nat} (k : Nat) (hk0 : Γ a0 = k) (hk1 : Γ a = k) (h20 : 20 ≤ k) (h30 : k < 30)
    {sp dp n : Int32} (h1 : ¬ sp < 0) (h2 : ¬ dp < 0) (h3 : ¬ n < 0) (h4 : sp.toNatClampNeg + n.toNatClampNeg ≤ tk_len k) (h5 : dp.toNatClampNeg + n.toNatClampNeg ≤ tk_len k)
    (hframes : 1 ≤ R.frames) (hlocals : (rest.map fun v => v.category).sum + (nativeFrameWords "java/lang/System" "arraycopy" 5 + 11) ≤ R.locals) (hdg : decode cc pc = .ok (.invokestatic index, 3))
    (kk : ∀ (H1 : Heap) (locs1 : List Loc) (wt1 : va_W), tk_ty G Γ wt1 → (∀ (b cj j2 : Nat) (v2 : Value), tk_fl wt b cj j2 v2 → tk_fl wt1 b cj j2 v2) → va_P (gg_D G) classes (we ++ wt1) H1 → va_D A (we ++ wt1) → va_S A H0 H1 locs1 → W p l e R s m args below meth c H1 locs1 cells slots Q (F0 m (pc + 3) ls rest)) : W p l e R s m args below meth c H locs cells slots Q (F0 m pc ls (.int n :: .int dp :: .ref a :: .int sp :: .ref a0 :: rest)) := by
  obtain ⟨i0, en0, g1, g2⟩ := hT a0 (by omega)
  rw [hk0] at g2
  obtain ⟨f, rfl, g3⟩ := tk_ints h20 h30 g2
  obtain ⟨i1, en1, q1, q2⟩ := hT a (by omega)
  rw [hk1] at q2
  obtain ⟨f2, rfl, q3⟩ := tk_ints h20 h30 q2
  refine gq_copy (ws' := we ++ wt.set i1 (a, .inl (G.2.2 0, tk_len k, .inl (va_cpy f f2 sp.toNatClampNeg dp.toNatClampNeg n.toNatClampNeg)))) hx hb hml hown hlink hnat hstat hini hK hP hD hS (we.length + i0) (we.length + i1) (by rw [tk_ix]; exact g1) (by rw [tk_ix]; exact q1) h1 h2 h3 h4 h5 _ rfl tk_st hframes hlocals hdg (fun H1 locs1 hP1 hD1 hS1 => ?_)
  refine kk H1 locs1 _ (hT.set q1 (fun _ => ?_)) (fl_arr q1) hP1 hD1 hS1
  rw [hk1]
  refine ⟨⟨h20, h30⟩, rfl, rfl, fun j => ?_⟩
  show tk_e k (va_cpy f f2 _ _ _ j)
  unfold va_cpy
  split
  · exact g3 _
  · exact q3 j
end TRL
theorem ia_nat {x : Int32} (h : 0 ≤ x.toInt) : ∃ j : Nat, j < 2 ^ 31 ∧ x = nI j ∧ x.toInt = (j : Int) := by
  have z0 : (0 : Int32).toInt = 0 := by decide +kernel
  obtain ⟨j, hj, rfl⟩ := nI_of (x := x) (by rw [Int32.lt_iff_toInt_lt]; omega)
  exact ⟨j, hj, rfl, nI_toInt hj⟩
theorem ia_rem {x y t : Int32} (e : x - x / y * y = t) (h1 : 0 ≤ x.toInt) (h2 : 0 < y.toInt) : 0 ≤ t.toInt ∧ t.toInt < y.toInt := by
  obtain ⟨a, ha, rfl, ea⟩ := ia_nat h1
  obtain ⟨b, hb, rfl, eb⟩ := ia_nat (x := y) (by omega)
  rw [pk_rem ha (by omega) hb] at e
  have hm : a % b < b := Nat.mod_lt _ (by omega)
  have et : t.toInt = ((a % b : Nat) : Int) := by rw [← e]; exact nI_toInt (by omega)
  omega
theorem ia_div {x y t : Int32} (e : x / y = t) (h1 : 0 ≤ x.toInt) (h2 : 0 < y.toInt) : t.toInt = x.toInt / y.toInt := by
  obtain ⟨a, ha, rfl, ea⟩ := ia_nat h1
  obtain ⟨b, hb, rfl, eb⟩ := ia_nat (x := y) (by omega)
  rw [pk_div ha (by omega) hb] at e
  have hd : a / b ≤ a := Nat.div_le_self _ _
  have et : t.toInt = ((a / b : Nat) : Int) := by rw [← e]; exact nI_toInt (by omega)
  rw [et, ea, eb]
  exact Int.natCast_ediv a b
theorem ia_max {x y t : Int32} (e : (if x < y then y else x) = t) : x.toInt ≤ t.toInt ∧ y.toInt ≤ t.toInt ∧ (t.toInt = x.toInt ∨ t.toInt = y.toInt) := by
  subst e
  split
  · rename_i h
    rw [Int32.lt_iff_toInt_lt] at h
    omega
  · rename_i h
    rw [Int32.lt_iff_toInt_lt] at h
    omega
theorem ia_min {x y t : Int32} (e : (if y < x then y else x) = t) : t.toInt ≤ x.toInt ∧ t.toInt ≤ y.toInt ∧ (t.toInt = x.toInt ∨ t.toInt = y.toInt) := by
  subst e
  split
  · rename_i h
    rw [Int32.lt_iff_toInt_lt] at h
    omega
  · rename_i h
    rw [Int32.lt_iff_toInt_lt] at h
    omega
theorem il_ne {y : Int64} {t : Int32} (e : lg_cmp y 0 = t) (h : ¬ t.toInt = (0 : Int32).toInt) : ¬ y = 0 := by
  intro hy
  apply h
  rw [← e, (lg_cmp_eq y 0).mpr hy]
theorem ia_bd (x : Int32) : -2147483648 ≤ x.toInt ∧ x.toInt ≤ 2147483647 := by
  have h := x.toBitVec.isLt
  rw [ia_nn]
  split <;> omega
section TRE
variable {p : Program} {l : Launch} {e : Env} {R : Room} {s : State} {m : MethodId} {args : Array Value} {below : List Frame} {meth : Method} {c : Code} {cells slots : Nat} {Q : State → Prop}
variable {G : gg_T} {Γ : Nat → Nat} {A : Nat → Prop} {H0 : Heap}
/-- the same loop, over cells of our own that the tuple tells too -/
theorem tl_loopE {σ : Type} (I : σ → Prop) (μ : σ → Nat) (lv : σ → List (Nat × Value)) (we : σ → va_W) {nL head : Nat} (Rw : σ → va_W → Prop)
    (hs : ∀ x : σ, I x → ∀ (H : Heap) (locs : List Loc) (wt : va_W) (ls : Array Slot), tk_ty G Γ wt → Rw x wt → va_P (gg_D G) classes (we x ++ wt) H → va_D A (we x ++ wt) → va_S A H0 H locs → lv_has ls nL (lv x) → (∀ y : σ, I y → μ y < μ x → ∀ (H : Heap) (locs : List Loc) (wt : va_W) (ls : Array Slot), tk_ty G Γ wt → Rw y wt → va_P (gg_D G) classes (we y ++ wt) H → va_D A (we y ++ wt) → va_S A H0 H locs → lv_has ls nL (lv y) → W p l e R s m args below meth c H locs cells slots Q (F0 m head ls [])) → W p l e R s m args below meth c H locs cells slots Q (F0 m head ls [])) :
    ∀ x : σ, I x → ∀ (H : Heap) (locs : List Loc) (wt : va_W) (ls : Array Slot), tk_ty G Γ wt → Rw x wt → va_P (gg_D G) classes (we x ++ wt) H → va_D A (we x ++ wt) → va_S A H0 H locs → lv_has ls nL (lv x) → W p l e R s m args below meth c H locs cells slots Q (F0 m head ls []) := by
  have key : ∀ (n : Nat) (x : σ), μ x < n → I x → ∀ (H : Heap) (locs : List Loc) (wt : va_W) (ls : Array Slot), tk_ty G Γ wt → Rw x wt → va_P (gg_D G) classes (we x ++ wt) H → va_D A (we x ++ wt) → va_S A H0 H locs → lv_has ls nL (lv x) → W p l e R s m args below meth c H locs cells slots Q (F0 m head ls []) := by
    intro n
    induction n with
    | zero => intro x h; exact absurd h (Nat.not_lt_zero _)
    | succ n ih =>
      intro x hx hI H locs wt ls h1 hR h2 h3 h4 h5
      exact hs x hI H locs wt ls h1 hR h2 h3 h4 h5 (fun y hy hlt H2 l2 w2 ls2 => ih y (by omega) hy H2 l2 w2 ls2)
  exact fun x hI => key (μ x + 1) x (Nat.lt_succ_self _) hI
end TRE

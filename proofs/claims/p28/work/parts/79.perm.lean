theorem tw_permP {D : va_G} {cl : List vw_C} {we we' wt : va_W} {H : Heap} (is : List Nat) (hs : is.filterMap (fun i => we[i]?) = we') (h : va_P D cl (we ++ wt) H) : va_P D cl (we' ++ wt) H := by
  refine va_P.app (fun k q hk => ?_) (tw_right h)
  subst hs
  obtain ⟨i, -, hi⟩ := List.mem_filterMap.mp (List.mem_of_getElem? hk)
  exact h i q (by rw [List.getElem?_append_left (List.getElem?_eq_some_iff.mp hi).1]; exact hi)
theorem tw_permD {A : Nat → Prop} {we we' wt : va_W} (is : List Nat) (hn : va_nd is = true) (hs : is.map (fun i => we[i]?) = we'.map some) (h : va_D A (we ++ wt)) : va_D A (we' ++ wt) := by
  have left : ∀ (k : Nat) (q : Nat × va_E), we[k]? = some q → (we ++ wt)[k]? = some q := fun k q hq => by
    rw [List.getElem?_append_left (List.getElem?_eq_some_iff.mp hq).1]; exact hq
  have hw : va_D A we := ⟨fun i j x y hi hj e => h.1 i j x y (left i x hi) (left j y hj) e, fun k q hq => h.2 k q (left k q hq)⟩
  refine va_D.app (hw.sub is hn hs) (tw_rightD h) (fun i j x y hx hy hxy => ?_)
  have h1 : (is.map (fun i => we[i]?))[i]? = some (some x) := by rw [hs, List.getElem?_map, hx]; rfl
  rw [List.getElem?_map] at h1
  cases hi : is[i]? with
  | none => rw [hi] at h1; cases h1
  | some k =>
    rw [hi] at h1
    have hk : we[k]? = some x := Option.some.inj h1
    have := h.1 k (we.length + j) x y (left k x hk) (by rw [tk_ix]; exact hy) hxy
    have hl := (List.getElem?_eq_some_iff.mp hk).1
    omega

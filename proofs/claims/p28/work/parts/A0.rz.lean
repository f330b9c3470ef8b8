theorem oc_end {op : Nat → Int32} {o w : Int} (h : rOC op o) (hi : ¬ rIN op o) (ht : w = 0 ∨ ((op (w.toNat - 1)).toInt ≠ 11 ∧ (op (w.toNat - 1)).toInt ≠ 12 ∧ (op (w.toNat - 1)).toInt ≠ 13)) (h0 : 0 ≤ w) (hw : w ≤ o) : w = 0 := by
  rcases ht with h1 | h1
  · exact h1
  · refine Classical.byContradiction fun hn => ?_
    have := h (w.toNat - 1) (by omega)
    exact hi ⟨w.toNat - 1, by omega, by omega⟩
/-- what a sale's text told so far -/
def rRD (rd : Nat → Int32) : Prop := (0 ≤ (rd 0).toInt ∧ (rd 0).toInt ≤ 300) ∧ (0 ≤ (rd 1).toInt ∧ (rd 1).toInt ≤ 5) ∧ (0 ≤ (rd 2).toInt ∧ (rd 2).toInt ≤ 3) ∧ (0 ≤ (rd 3).toInt ∧ (rd 3).toInt ≤ 3)
theorem rRD.st {rd rd1 : Nat → Int32} {i : Nat} {v : Int32} (h : rRD rd) (e : upd rd i v = rd1) (h0 : i = 0 → 0 ≤ v.toInt ∧ v.toInt ≤ 300) (h1 : i = 1 → 0 ≤ v.toInt ∧ v.toInt ≤ 5) (h2 : i = 2 → 0 ≤ v.toInt ∧ v.toInt ≤ 3) (h3 : i = 3 → 0 ≤ v.toInt ∧ v.toInt ≤ 3) : rRD rd1 := by
  obtain ⟨a, b, c, d⟩ := h
  refine ⟨?_, ?_, ?_, ?_⟩
  · by_cases q : 0 = i
    · rw [q, upd_eq e]; exact h0 q.symm
    · rw [upd_ne e q]; exact a
  · by_cases q : 1 = i
    · rw [q, upd_eq e]; exact h1 q.symm
    · rw [upd_ne e q]; exact b
  · by_cases q : 2 = i
    · rw [q, upd_eq e]; exact h2 q.symm
    · rw [upd_ne e q]; exact c
  · by_cases q : 3 = i
    · rw [q, upd_eq e]; exact h3 q.symm
    · rw [upd_ne e q]; exact d
theorem rRD.ce {rd rd1 : Nat → Int32} {i : Nat} {v r : Int32} {lo hi : Int} (h : rRD rd) (e : (r.toInt = 0 ∧ rd1 = rd) ∨ (r.toInt = 1 ∧ lo ≤ v.toInt ∧ v.toInt ≤ hi ∧ upd rd i v = rd1)) (h0 : i = 0 → 0 ≤ lo ∧ hi ≤ 300) (h1 : i = 1 → 0 ≤ lo ∧ hi ≤ 5) (h2 : i = 2 → 0 ≤ lo ∧ hi ≤ 3) (h3 : i = 3 → 0 ≤ lo ∧ hi ≤ 3) : rRD rd1 := by
  rcases e with e | e
  · rw [e.2]; exact h
  · exact h.st e.2.2.2 (by omega) (by omega) (by omega) (by omega)

theorem oc_end {op : Nat → Int32} {o w : Int} (h : rOC op o) (hi : ¬ rIN op o) (ht : w = 0 ∨ ((op (w.toNat - 1)).toInt ≠ 11 ∧ (op (w.toNat - 1)).toInt ≠ 12 ∧ (op (w.toNat - 1)).toInt ≠ 13)) (h0 : 0 ≤ w) (hw : w ≤ o) : w = 0 := by
  rcases ht with h1 | h1
  · exact h1
  · refine Classical.byContradiction fun hn => ?_
    have := h (w.toNat - 1) (by omega)
    exact hi ⟨w.toNat - 1, by omega, by omega⟩
/-- what a sale's text told so far -/
def rRD (rd : Nat → Int32) : Prop := (0 ≤ (rd 0).toInt ∧ (rd 0).toInt ≤ 300) ∧ (0 ≤ (rd 1).toInt ∧ (rd 1).toInt ≤ 5) ∧ (0 ≤ (rd 2).toInt ∧ (rd 2).toInt ≤ 3) ∧ (0 ≤ (rd 3).toInt ∧ (rd 3).toInt ≤ 3)
theorem rRD.st {rd rd1 : Nat → Int32} {i : Nat} {v : Int32} (h : rRD rd) (e : upd rd i v = rd1) (h0 : i = 0 → 0 ≤ v.toInt ∧ v.toInt ≤ 300) (h1 : i = 1 → 0 ≤ v.toInt ∧ v.toInt ≤ 5) (h2 : i = 2 → 0 ≤ v.toInt ∧ v.toInt ≤ 3) (h3 : i = 3 → 0 ≤ v.toInt ∧ v.toInt ≤ 3) : rRD rd1 := by
  obtain ⟨a, b, c, d⟩ := h
  refine ⟨?_, ?_, ?_, ?_⟩
  · by_cases q : 0 = i
    · rw [q, upd_eq e]; exact h0 q.symm
    · rw [upd_ne e q]; exact a
  · by_cases q : 1 = i
    · rw [q, upd_eq e]; exact h1 q.symm
    · rw [upd_ne e q]; exact b
  · by_cases q : 2 = i
    · rw [q, upd_eq e]; exact h2 q.symm
    · rw [upd_ne e q]; exact c
  · by_cases q : 3 = i
    · rw [q, upd_eq e]; exact h3 q.symm
    · rw [upd_ne e q]; exact d
theorem rRD.ce {rd rd1 : Nat → Int32} {i : Nat} {v r : Int32} {lo hi : Int} (h : rRD rd) (e : (r.toInt = 0 ∧ rd1 = rd) ∨ (r.toInt = 1 ∧ lo ≤ v.toInt ∧ v.toInt ≤ hi ∧ upd rd i v = rd1)) (h0 : i = 0 → 0 ≤ lo ∧ hi ≤ 300) (h1 : i = 1 → 0 ≤ lo ∧ hi ≤ 5) (h2 : i = 2 → 0 ≤ lo ∧ hi ≤ 3) (h3 : i = 3 → 0 ≤ lo ∧ hi ≤ 3) : rRD rd1 := by
  rcases e with e | e
  · rw [e.2]; exact h
  · exact h.st e.2.2.2 (by omega) (by omega) (by omega) (by omega)
/-- what was read is told -/
def rCQ (rd f : Nat → Int32) (n : Int) : Prop := ∀ j : Nat, (j : Int) < n → (j < 79 → f j = rd j) ∧ (79 ≤ j → (f j).toInt = 0)
theorem rCQ.s {rd f f1 : Nat → Int32} {n : Int} {k : Nat} {v : Int32} (h : rCQ rd f n) (e : upd f k v = f1) (hn : n = k) (hk : k < 79) (hv : rd k = v) : rCQ rd f1 (n + 1) := fun j hj => by
  by_cases hjk : j = k
  · subst hjk; rw [upd_eq e]; exact ⟨fun _ => hv.symm, fun q => by omega⟩
  · rw [upd_ne e hjk]; exact h j (by omega)
theorem rCQ.z {rd f f1 : Nat → Int32} {n : Int} {k : Nat} (h : rCQ rd f n) (e : upd f k 0 = f1) (hn : n = k) (hk : 79 ≤ k) : rCQ rd f1 (n + 1) := fun j hj => by
  by_cases hjk : j = k
  · subst hjk; rw [upd_eq e]; exact ⟨fun q => by omega, fun _ => by decide +kernel⟩
  · rw [upd_ne e hjk]; exact h j (by omega)
theorem rCQ.hd {rd f : Nat → Int32} {n : Int} (h : rCQ rd f n) (hr : rRD rd) (hn : 110 ≤ n) : HD f 0 := by
  obtain ⟨a, b, c, d⟩ := hr
  refine ⟨by rw [(h 0 (by omega)).1 (by omega)]; exact a, by rw [(h (0 + 1) (by omega)).1 (by omega)]; exact b, by rw [(h (0 + 2) (by omega)).1 (by omega)]; exact c, by rw [(h (0 + 3) (by omega)).1 (by omega)]; exact d, ?_, fun j hj => ?_⟩
  · have := (h (0 + 109) (by omega)).2 (by omega)
    omega
  · have := (h (0 + 79 + 3 * j) (by omega)).2 (by omega)
    omega
theorem rIF.le {imd imf : Nat → Int32} {n m : Int} (h : rIF imd imf n) (hm : n ≤ m) : rIF imd imf m := fun k hk q => by
  have := h k hk q
  omega
theorem rIG.im {b v21 v22 : Int32} {sd imd imx imf im imd1 imx1 imf1 im1 : Nat → Int32} (h : rIG b v21 v22 sd imd imx imf im imd1 imx1 imf1 im1) (hm : rIM im) (hs : SD sd) : rIM im1 := by
  rcases h with ⟨h1, h2, -, -, -, h6, h7⟩ | ⟨-, -, -, -, h5⟩
  · intro k hk
    by_cases hkb : k = b.toInt.toNat
    · subst hkb
      refine ⟨hs.1.copy (fun i hi => by rw [h6 i hi, Nat.zero_add]), ?_⟩
      rw [h6 2 (by omega)]
      exact hs.2.copy (fun i hi => by rw [Nat.add_assoc, h6 (10 + i) (by omega)])
    · obtain ⟨a, c⟩ := hm k hk
      refine ⟨a.copy (fun i hi => h7 _ (by omega)), ?_⟩
      rw [h7 (110 * k + 2) (by omega)]
      exact c.copy (fun i hi => h7 _ (by omega))
  · rw [h5]; exact hm
theorem rIG.fi {b v21 v22 : Int32} {sd imd imx imf im imd1 imx1 imf1 im1 : Nat → Int32} {n : Int} (h : rIG b v21 v22 sd imd imx imf im imd1 imx1 imf1 im1) (hf : rIF imd imf n) (h1 : -1 ≤ v21.toInt) (h2 : v21.toInt < n) : rIF imd1 imf1 n := by
  rcases h with ⟨-, -, h3, -, h5, -, -⟩ | ⟨-, h3, -, h5, -⟩
  · intro k hk hq
    by_cases hkb : k = b.toInt.toNat
    · rw [hkb, upd_eq h5]; exact ⟨h1, h2⟩
    · rw [upd_ne h5 hkb]; exact hf k hk (by rw [← upd_ne h3 hkb]; exact hq)
  · rw [h3, h5]; exact hf
theorem rIG.md {b v21 v22 xx : Int32} {sd imd imx imf im imd1 imx1 imf1 im1 md md1 ix ix1 : Nat → Int32} (h : rIG b v21 v22 sd imd imx imf im imd1 imx1 imf1 im1) (hm : ∀ j : Nat, j < 4 → ((imd j).toInt = 0 ↔ (md j).toInt = 0)) (g : (0 ≤ b.toInt ∧ b.toInt ≤ 3 ∧ md1 = upd md (Int32.toNatClampNeg b) 1 ∧ ix1 = upd ix (Int32.toNatClampNeg b) xx) ∨ ((b.toInt < 0 ∨ 3 < b.toInt) ∧ md1 = md ∧ ix1 = ix)) : ∀ j : Nat, j < 4 → ((imd1 j).toInt = 0 ↔ (md1 j).toInt = 0) := by
  intro j hj
  rcases h with ⟨h1, h2, h3, -⟩ | ⟨h1, h3, -⟩
  · rcases g with ⟨-, -, g3, -⟩ | ⟨g1, -⟩
    · have g3 : upd md b.toInt.toNat 1 = md1 := g3.symm
      by_cases hk : j = b.toInt.toNat
      · rw [hk, upd_eq h3, upd_eq g3]
      · rw [upd_ne h3 hk, upd_ne g3 hk]; exact hm j hj
    · omega
  · rcases g with ⟨g1, g2, -⟩ | ⟨-, g3, -⟩
    · omega
    · rw [h3, g3]; exact hm j hj
theorem rIG.ix {b v21 v22 xx : Int32} {sd imd imx imf im imd1 imx1 imf1 im1 md md1 ix ix1 : Nat → Int32} (h : rIG b v21 v22 sd imd imx imf im imd1 imx1 imf1 im1) (hm : ∀ j : Nat, j < 4 → (imd j).toInt ≠ 0 → (imx j).toInt = (ix j).toInt) (g : (0 ≤ b.toInt ∧ b.toInt ≤ 3 ∧ md1 = upd md (Int32.toNatClampNeg b) 1 ∧ ix1 = upd ix (Int32.toNatClampNeg b) xx) ∨ ((b.toInt < 0 ∨ 3 < b.toInt) ∧ md1 = md ∧ ix1 = ix)) (hx : v22.toInt = xx.toInt) : ∀ j : Nat, j < 4 → (imd1 j).toInt ≠ 0 → (imx1 j).toInt = (ix1 j).toInt := by
  intro j hj hq
  rcases h with ⟨h1, h2, h3, h4, -⟩ | ⟨h1, h3, h4, -⟩
  · rcases g with ⟨-, -, -, g4⟩ | ⟨g1, -⟩
    · have g4 : upd ix b.toInt.toNat xx = ix1 := g4.symm
      by_cases hk : j = b.toInt.toNat
      · rw [hk, upd_eq h4, upd_eq g4]; exact hx
      · rw [upd_ne h4 hk, upd_ne g4 hk]; exact hm j hj (by rw [← upd_ne h3 hk]; exact hq)
    · omega
  · rcases g with ⟨g1, g2, -⟩ | ⟨-, -, g4⟩
    · omega
    · rw [h4, g4]; exact hm j hj (by rw [← h3]; exact hq)
theorem bk_x {b v22 w22 v27 w27 xx x1 : Int32} {sd sd1 imd imx md ix : Nat → Int32} (h : ((b.toInt < 0 ∨ 3 < b.toInt ∨ (imd b.toInt.toNat).toInt = 0) ∧ w22.toInt = v22.toInt ∧ w27.toInt = v27.toInt ∧ sd1 = sd) ∨ (0 ≤ b.toInt ∧ b.toInt ≤ 3 ∧ (imd b.toInt.toNat).toInt ≠ 0 ∧ w22.toInt = (imx b.toInt.toNat).toInt ∧ w27.toInt = 0)) (g : ((b.toInt < 0 ∨ 3 < b.toInt ∨ (md (Int32.toNatClampNeg b)).toInt = 0) ∧ x1.toInt = xx.toInt) ∨ (0 ≤ b.toInt ∧ b.toInt ≤ 3 ∧ (md (Int32.toNatClampNeg b)).toInt ≠ 0 ∧ x1.toInt = (ix (Int32.toNatClampNeg b)).toInt)) (hm : ∀ j : Nat, j < 4 → ((imd j).toInt = 0 ↔ (md j).toInt = 0)) (hi : ∀ j : Nat, j < 4 → (imd j).toInt ≠ 0 → (imx j).toInt = (ix j).toInt) (hx : v22.toInt = xx.toInt) : w22.toInt = x1.toInt := by
  rw [show Int32.toNatClampNeg b = b.toInt.toNat from rfl] at g
  by_cases hb : 0 ≤ b.toInt ∧ b.toInt ≤ 3
  · have h1 := hm b.toInt.toNat (by omega)
    have h2 := hi b.toInt.toNat (by omega)
    by_cases h3 : (imd b.toInt.toNat).toInt = 0
    · have := h1.mp h3
      omega
    · have h4 := h2 h3
      have h5 : (md b.toInt.toNat).toInt ≠ 0 := fun q => h3 (h1.mpr q)
      omega
  · omega
/-- at the beginning -/
theorem SL.zero {o : Nat} {n : Int} : SL (fun _ => 0) o n := by
  have z : (0 : Int32).toInt = 0 := by decide +kernel
  exact ⟨fun b _ => ⟨by show -1 ≤ (0 : Int32).toInt; omega, by show (0 : Int32).toInt ≤ 2; omega, fun _ => by show 0 ≤ (0 : Int32).toInt; omega⟩, fun l _ => ⟨fun q => by have q : (0 : Int32).toInt = 1 := q; omega, Or.inr ⟨by show 0 ≤ (0 : Int32).toInt; omega, by show (0 : Int32).toInt < 300; omega⟩⟩⟩
theorem HD.zero {o : Nat} : HD (fun _ => 0) o := by
  have z : (0 : Int32).toInt = 0 := by decide +kernel
  have h : ∀ n : Int, 0 ≤ n → 0 ≤ (0 : Int32).toInt ∧ (0 : Int32).toInt ≤ n := fun n hn => by omega
  exact ⟨h 300 (by omega), h 5 (by omega), h 3 (by omega), h 3 (by omega), h 10 (by omega), fun j _ => h 2 (by omega)⟩
theorem SD.zero : SD (fun _ => 0) := ⟨HD.zero, SL.zero⟩
theorem rIM.zero : rIM (fun _ => 0) := fun _ _ => ⟨HD.zero, SL.zero⟩
theorem rIF.zero {f : Nat → Int32} {n : Int} : rIF (fun _ => 0) f n := fun _ _ q => absurd (show (0 : Int32).toInt = 0 by decide +kernel) q
theorem rRU.zero {cs cl sg : Nat → Int32} {n : Int} (h : n = 0) : rRU cs cl sg n := fun r hr => by omega
/-- no blank lies there -/
def rNB (bt : Nat → Int32) (v1 : Int32) (k : Int) : Prop := k < v1.toInt → (bt k.toNat).toInt ≠ 32
theorem rCH.nb {bt : Nat → Int32} {v1 : Int32} {k : Int} (h : rCH 97 122 bt v1 k) : rNB bt v1 k := fun _ q => by
  have := h.2.1
  omega

/-! the reference's numbers: what is told (said), and slices of it that are kept -/
def SL (g : Nat → Int32) (o : Nat) (n2 : Int) : Prop := (∀ b : Nat, b < 5 → -1 ≤ (g (o + 3 + 5 * b)).toInt ∧ (g (o + 3 + 5 * b)).toInt ≤ 2 ∧ ((g (o + 4 + 5 * b)).toInt = 1 → 0 ≤ (g (o + 3 + 5 * b)).toInt)) ∧ (∀ l : Nat, l < 3 → ((g (o + 26 + 4 * l)).toInt = 1 → (l : Int) < n2) ∧ ((g (o + 26 + 4 * l)).toInt = 2 ∨ (0 ≤ (g (o + 27 + 4 * l)).toInt ∧ (g (o + 27 + 4 * l)).toInt < 300)))
def HD (g : Nat → Int32) (o : Nat) : Prop := (0 ≤ (g o).toInt ∧ (g o).toInt ≤ 300) ∧ (0 ≤ (g (o + 1)).toInt ∧ (g (o + 1)).toInt ≤ 5) ∧ (0 ≤ (g (o + 2)).toInt ∧ (g (o + 2)).toInt ≤ 3) ∧ (0 ≤ (g (o + 3)).toInt ∧ (g (o + 3)).toInt ≤ 3) ∧ (0 ≤ (g (o + 109)).toInt ∧ (g (o + 109)).toInt ≤ 10) ∧ (∀ j : Nat, j < 10 → 0 ≤ (g (o + 79 + 3 * j)).toInt ∧ (g (o + 79 + 3 * j)).toInt ≤ 2)
def SD (f : Nat → Int32) : Prop := HD f 0 ∧ SL f 10 (f 2).toInt
/-- but for the lot l -/
def SDw (f : Nat → Int32) (l : Nat) : Prop := HD f 0 ∧ (∀ b : Nat, b < 5 → -1 ≤ (f (10 + 3 + 5 * b)).toInt ∧ (f (10 + 3 + 5 * b)).toInt ≤ 2 ∧ ((f (10 + 4 + 5 * b)).toInt = 1 → 0 ≤ (f (10 + 3 + 5 * b)).toInt)) ∧ (∀ k : Nat, k < 3 → k ≠ l → ((f (10 + 26 + 4 * k)).toInt = 1 → (k : Int) < (f 2).toInt) ∧ ((f (10 + 26 + 4 * k)).toInt = 2 ∨ (0 ≤ (f (10 + 27 + 4 * k)).toInt ∧ (f (10 + 27 + 4 * k)).toInt < 300)))
theorem SD.w {f : Nat → Int32} (h : SD f) (l : Nat) : SDw f l := ⟨h.1, h.2.1, fun k hk _ => h.2.2 k hk⟩
/-- only the slice may differ -/
def KH (f f1 : Nat → Int32) : Prop := ∀ i : Nat, i < 10 ∨ 48 ≤ i → f1 i = f i
theorem KH.rf {f : Nat → Int32} : KH f f := fun _ _ => rfl
theorem KH.tr {f f1 f2 : Nat → Int32} (h : KH f f1) (h2 : KH f1 f2) : KH f f2 := fun i hi => (h2 i hi).trans (h i hi)
theorem upd_ne {f f1 : Nat → Int32} {i j : Nat} {v : Int32} (e : upd f i v = f1) (h : j ≠ i) : f1 j = f j := by rw [← e]; simp only [upd, h, if_false]
theorem upd_eq {f f1 : Nat → Int32} {i : Nat} {v : Int32} (e : upd f i v = f1) : f1 i = v := by rw [← e]; simp only [upd, if_true]
theorem KH.st {f f0 f1 : Nat → Int32} {i : Nat} {v : Int32} (h : KH f0 f) (e : upd f i v = f1) (h1 : 10 ≤ i) (h2 : i < 48) : KH f0 f1 := fun j hj => (upd_ne e (by omega)).trans (h j hj)
theorem ix_n {t : Int32} {n : Nat} (h : t.toInt = (n : Int)) : t.toNatClampNeg = n := by
  have : t.toNatClampNeg = t.toInt.toNat := rfl
  rw [this, h]; rfl
theorem HD.st {f f1 : Nat → Int32} {i : Nat} {v : Int32} (h : HD f 0) (e : upd f i v = f1) (h1 : 10 ≤ i) (h2 : i < 79) : HD f1 0 := by
  obtain ⟨a, b, c, d, g, k⟩ := h
  refine ⟨?_, ?_, ?_, ?_, ?_, fun j hj => ?_⟩
  · rw [upd_ne e (by omega)]; exact a
  · rw [upd_ne e (by omega)]; exact b
  · rw [upd_ne e (by omega)]; exact c
  · rw [upd_ne e (by omega)]; exact d
  · rw [upd_ne e (by omega)]; exact g
  · rw [upd_ne e (by omega)]; exact k j hj
/-- a cell of the slice that says nothing: a purse, a patience, a number of tricks, the minute, an owner, coins -/
theorem SD.free {f f1 : Nat → Int32} {i : Nat} {v : Int32} (h : SD f) (e : upd f i v = f1) (h1 : 10 ≤ i) (h2 : i < 79) (h3 : ∀ b : Nat, b < 5 → i ≠ 13 + 5 * b ∧ i ≠ 14 + 5 * b) (h4 : ∀ l : Nat, l < 3 → i ≠ 36 + 4 * l ∧ i ≠ 37 + 4 * l) : SD f1 := by
  refine ⟨h.1.st e h1 h2, fun b hb => ?_, fun l hl => ?_⟩
  · have := h3 b hb
    rw [upd_ne e (by omega), upd_ne (j := 10 + 4 + 5 * b) e (by omega)]; exact h.2.1 b hb
  · have := h4 l hl
    rw [upd_ne e (by omega), upd_ne (j := 10 + 27 + 4 * l) e (by omega), upd_ne (j := 2) e (by omega)]; exact h.2.2 l hl
theorem SDw.free {f f1 : Nat → Int32} {i k : Nat} {v : Int32} (h : SDw f k) (e : upd f i v = f1) (h1 : 10 ≤ i) (h2 : i < 79) (h3 : ∀ b : Nat, b < 5 → i ≠ 13 + 5 * b ∧ i ≠ 14 + 5 * b) (h4 : ∀ l : Nat, l < 3 → l ≠ k → i ≠ 36 + 4 * l ∧ i ≠ 37 + 4 * l) : SDw f1 k := by
  refine ⟨h.1.st e h1 h2, fun b hb => ?_, fun l hl hn => ?_⟩
  · have := h3 b hb
    rw [upd_ne e (by omega), upd_ne (j := 10 + 4 + 5 * b) e (by omega)]; exact h.2.1 b hb
  · have := h4 l hl hn
    rw [upd_ne e (by omega), upd_ne (j := 10 + 27 + 4 * l) e (by omega), upd_ne (j := 2) e (by omega)]; exact h.2.2 l hl hn
/-- a bidder sits down, or rises -/
theorem SD.seat {f f1 : Nat → Int32} {i b : Nat} {v : Int32} (h : SD f) (e : upd f i v = f1) (hi : i = 13 + 5 * b) (hb : b < 5) (h1 : -1 ≤ v.toInt) (h2 : v.toInt ≤ 2) (h3 : (f (14 + 5 * b)).toInt = 1 → 0 ≤ v.toInt) : SD f1 := by
  refine ⟨h.1.st e (by omega) (by omega), fun k hk => ?_, fun l hl => ?_⟩
  · by_cases hkb : k = b
    · subst hkb
      rw [show 10 + 3 + 5 * k = i by omega, upd_eq e, upd_ne (j := 10 + 4 + 5 * k) e (by omega)]
      exact ⟨h1, h2, fun hh => h3 (by rw [show 14 + 5 * k = 10 + 4 + 5 * k by omega]; exact hh)⟩
    · rw [upd_ne e (by omega), upd_ne (j := 10 + 4 + 5 * k) e (by omega)]; exact h.2.1 k hk
  · rw [upd_ne e (by omega), upd_ne (j := 10 + 27 + 4 * l) e (by omega), upd_ne (j := 2) e (by omega)]; exact h.2.2 l hl
theorem SD.sil {f f1 : Nat → Int32} {i b : Nat} {v : Int32} (h : SD f) (e : upd f i v = f1) (hi : i = 14 + 5 * b) (hb : b < 5) (h3 : v.toInt = 1 → 0 ≤ (f (13 + 5 * b)).toInt) : SD f1 := by
  refine ⟨h.1.st e (by omega) (by omega), fun k hk => ?_, fun l hl => ?_⟩
  · by_cases hkb : k = b
    · subst hkb
      rw [show 10 + 4 + 5 * k = i by omega, upd_eq e, upd_ne e (by omega)]
      obtain ⟨a1, a2, -⟩ := h.2.1 k hk
      exact ⟨a1, a2, fun hh => by have := h3 hh; rw [show 13 + 5 * k = 10 + 3 + 5 * k by omega] at this; exact this⟩
    · rw [upd_ne e (by omega), upd_ne (j := 10 + 4 + 5 * k) e (by omega)]; exact h.2.1 k hk
  · rw [upd_ne e (by omega), upd_ne (j := 10 + 27 + 4 * l) e (by omega), upd_ne (j := 2) e (by omega)]; exact h.2.2 l hl
/-- a lot begins, is over, or hasn't begun -/
theorem SDw.st {f f1 : Nat → Int32} {i l : Nat} {v : Int32} (h : SDw f l) (e : upd f i v = f1) (hi : i = 36 + 4 * l) (hl : l < 3) (h1 : v.toInt = 1 → (l : Int) < (f 2).toInt) (h2 : v.toInt = 2 ∨ (0 ≤ (f (37 + 4 * l)).toInt ∧ (f (37 + 4 * l)).toInt < 300)) : SD f1 := by
  refine ⟨h.1.st e (by omega) (by omega), fun k hk => ?_, fun k hk => ?_⟩
  · rw [upd_ne e (by omega), upd_ne (j := 10 + 4 + 5 * k) e (by omega)]; exact h.2.1 k hk
  · by_cases hkb : k = l
    · subst hkb
      rw [show 10 + 26 + 4 * k = i by omega, upd_eq e, upd_ne (j := 10 + 27 + 4 * k) e (by omega), upd_ne (j := 2) e (by omega)]
      refine ⟨h1, ?_⟩
      rw [show 37 + 4 * k = 10 + 27 + 4 * k by omega] at h2; exact h2
    · rw [upd_ne e (by omega), upd_ne (j := 10 + 27 + 4 * k) e (by omega), upd_ne (j := 2) e (by omega)]; exact h.2.2 k hk hkb
theorem SD.gone {f f1 : Nat → Int32} {i l : Nat} {v : Int32} (h : SD f) (e : upd f i v = f1) (hi : i = 37 + 4 * l) (hl : l < 3) (h2 : 0 ≤ v.toInt) (h3 : v.toInt < 300) : SD f1 := by
  refine ⟨h.1.st e (by omega) (by omega), fun k hk => ?_, fun k hk => ?_⟩
  · rw [upd_ne e (by omega), upd_ne (j := 10 + 4 + 5 * k) e (by omega)]; exact h.2.1 k hk
  · by_cases hkb : k = l
    · subst hkb
      rw [show 10 + 27 + 4 * k = i by omega, upd_eq e, upd_ne (j := 10 + 26 + 4 * k) e (by omega), upd_ne (j := 2) e (by omega)]
      exact ⟨(h.2.2 k hk).1, Or.inr ⟨h2, h3⟩⟩
    · rw [upd_ne e (by omega), upd_ne (j := 10 + 27 + 4 * k) e (by omega), upd_ne (j := 2) e (by omega)]; exact h.2.2 k hk
theorem SL.copy {g g1 : Nat → Int32} {o o1 : Nat} {n2 : Int} (h : SL g o n2) (e : ∀ i : Nat, i < 38 → g1 (o1 + i) = g (o + i)) : SL g1 o1 n2 := by
  refine ⟨fun b hb => ?_, fun l hl => ?_⟩
  · have a1 := e (3 + 5 * b) (by omega)
    have a2 := e (4 + 5 * b) (by omega)
    rw [← Nat.add_assoc, ← Nat.add_assoc] at a1 a2
    rw [a1, a2]; exact h.1 b hb
  · have a1 := e (26 + 4 * l) (by omega)
    have a2 := e (27 + 4 * l) (by omega)
    rw [← Nat.add_assoc, ← Nat.add_assoc] at a1 a2
    rw [a1, a2]; exact h.2 l hl
theorem HD.copy {g g1 : Nat → Int32} {o o1 : Nat} (h : HD g o) (e : ∀ i : Nat, i < 110 → g1 (o1 + i) = g (o + i)) : HD g1 o1 := by
  obtain ⟨a, b, c, d, x, k⟩ := h
  have a0 := e 0 (by omega)
  rw [Nat.add_zero, Nat.add_zero] at a0
  refine ⟨by rw [a0]; exact a, by rw [e 1 (by omega)]; exact b, by rw [e 2 (by omega)]; exact c, by rw [e 3 (by omega)]; exact d, by rw [e 109 (by omega)]; exact x, fun j hj => ?_⟩
  have a1 := e (79 + 3 * j) (by omega)
  rw [← Nat.add_assoc, ← Nat.add_assoc] at a1
  rw [a1]; exact k j hj
theorem HD.kh {f f1 : Nat → Int32} (h : HD f 0) (k : KH f f1) : HD f1 0 := by
  obtain ⟨a, b, c, d, x, q⟩ := h
  refine ⟨by rw [k 0 (by omega)]; exact a, by rw [k _ (by omega)]; exact b, by rw [k _ (by omega)]; exact c, by rw [k _ (by omega)]; exact d, by rw [k _ (by omega)]; exact x, fun j hj => ?_⟩
  rw [k _ (by omega)]; exact q j hj
theorem SD.r0 {f : Nat → Int32} (h : SD f) : 0 ≤ (f 0).toInt ∧ (f 0).toInt ≤ 300 := h.1.1
theorem SD.r1 {f : Nat → Int32} (h : SD f) : 0 ≤ (f 1).toInt ∧ (f 1).toInt ≤ 5 := h.1.2.1
theorem SD.r2 {f : Nat → Int32} (h : SD f) : 0 ≤ (f 2).toInt ∧ (f 2).toInt ≤ 3 := h.1.2.2.1
theorem SD.r3 {f : Nat → Int32} (h : SD f) : 0 ≤ (f 3).toInt ∧ (f 3).toInt ≤ 3 := h.1.2.2.2.1
theorem SD.r109 {f : Nat → Int32} (h : SD f) : 0 ≤ (f 109).toInt ∧ (f 109).toInt ≤ 10 := h.1.2.2.2.2.1
/-- bits of small sets -/
def tb (x : Int32) (k : Nat) : Prop := Nat.testBit x.toInt.toNat k = true
theorem s31 {x : Int32} (h1 : 0 ≤ x.toInt) (h2 : x.toInt ≤ 31) : ∃ k : Fin 32, x = Int32.ofNat k.val := by
  refine ⟨⟨x.toInt.toNat, by omega⟩, ?_⟩
  apply Int32.toInt_inj.mp
  rw [Int32.toInt_ofNat_of_lt (by show x.toInt.toNat < _; omega)]
  show x.toInt = (x.toInt.toNat : Int)
  omega
theorem tb_shr {x y t u : Int32} (e1 : x >>> (y &&& 31) = t) (e2 : t &&& 1 = u) (h1 : 0 ≤ x.toInt) (h2 : x.toInt ≤ 31) (h3 : 0 ≤ y.toInt) (h4 : y.toInt ≤ 31) : (u.toInt = 1 ↔ tb x y.toInt.toNat) ∧ 0 ≤ u.toInt ∧ u.toInt ≤ 1 := by
  obtain ⟨a, rfl⟩ := s31 h1 h2
  obtain ⟨b, rfl⟩ := s31 h3 h4
  subst e1; subst e2
  have : ∀ a b : Fin 32, (((Int32.ofNat a.val >>> (Int32.ofNat b.val &&& 31)) &&& 1).toInt = 1 ↔ Nat.testBit (Int32.ofNat a.val).toInt.toNat (Int32.ofNat b.val).toInt.toNat = true) ∧ 0 ≤ ((Int32.ofNat a.val >>> (Int32.ofNat b.val &&& 31)) &&& 1).toInt ∧ ((Int32.ofNat a.val >>> (Int32.ofNat b.val &&& 31)) &&& 1).toInt ≤ 1 := by decide +kernel
  exact this a b
theorem tb_or {x y t : Int32} (e : x ||| y = t) (h1 : 0 ≤ x.toInt) (h2 : x.toInt ≤ 31) (h3 : 0 ≤ y.toInt) (h4 : y.toInt ≤ 31) : ∀ k : Nat, tb t k ↔ (tb x k ∨ tb y k) := by
  obtain ⟨a, rfl⟩ := s31 h1 h2
  obtain ⟨b, rfl⟩ := s31 h3 h4
  subst e
  have : ∀ a b : Fin 32, (Int32.ofNat a.val ||| Int32.ofNat b.val).toInt.toNat = (Int32.ofNat a.val).toInt.toNat ||| (Int32.ofNat b.val).toInt.toNat := by decide +kernel
  intro k
  unfold tb
  rw [this a b, Nat.testBit_or, Bool.or_eq_true]
theorem tb_bit {y t : Int32} (e : (1 : Int32) <<< (y &&& 31) = t) (h1 : 0 ≤ y.toInt) (h2 : y.toInt ≤ 4) : ∀ k : Nat, tb t k ↔ k = y.toInt.toNat := by
  obtain ⟨b, rfl⟩ := s31 h1 (by omega)
  subst e
  have : ∀ b : Fin 32, (Int32.ofNat b.val).toInt ≤ 4 → ((1 : Int32) <<< (Int32.ofNat b.val &&& 31)).toInt.toNat = 2 ^ (Int32.ofNat b.val).toInt.toNat := by decide +kernel
  intro k
  unfold tb
  rw [this b h2, Nat.testBit_two_pow]
  constructor
  · intro h; exact (of_decide_eq_true h).symm
  · intro h; exact decide_eq_true h.symm
theorem tb_zero (k : Nat) : ¬ tb 0 k := by
  unfold tb
  rw [show (0 : Int32).toInt.toNat = 0 by decide +kernel, Nat.zero_testBit]
  decide
theorem tb_lt {x : Int32} {k : Nat} (h : tb x k) (h1 : 0 ≤ x.toInt) (h2 : x.toInt ≤ 31) : k < 5 := by
  refine Classical.byContradiction fun hn => ?_
  have : x.toInt.toNat < 2 ^ k := Nat.lt_of_lt_of_le (show x.toInt.toNat < 2 ^ 5 by omega) (Nat.pow_le_pow_right (by decide) (by omega))
  have h3 := Nat.testBit_lt_two_pow this
  unfold tb at h
  rw [h3] at h; cases h
/-- a set that isn't empty has a bit at or above b once all below are wanting -/
theorem tb_some {x : Int32} (h1 : 0 < x.toInt) (h2 : x.toInt ≤ 31) : ∃ k : Nat, k < 5 ∧ tb x k := by
  obtain ⟨a, rfl⟩ := s31 (by omega) h2
  have : ∀ a : Fin 32, 0 < (Int32.ofNat a.val).toInt → ∃ k : Fin 5, Nat.testBit (Int32.ofNat a.val).toInt.toNat k.val = true := by decide +kernel
  obtain ⟨k, hk⟩ := this a h1
  exact ⟨k.val, k.isLt, hk⟩
/-- s and s less 1 -/
theorem ia_less {x t u : Int32} (e1 : x - 1 = t) (e2 : x &&& t = u) (h1 : 0 < x.toInt) (h2 : x.toInt ≤ 31) : 0 ≤ u.toInt ∧ u.toInt < x.toInt := by
  obtain ⟨a, rfl⟩ := s31 (by omega) h2
  subst e1; subst e2
  have : ∀ a : Fin 32, 0 < (Int32.ofNat a.val).toInt → 0 ≤ (Int32.ofNat a.val &&& (Int32.ofNat a.val - 1)).toInt ∧ (Int32.ofNat a.val &&& (Int32.ofNat a.val - 1)).toInt < (Int32.ofNat a.val).toInt := by decide +kernel
  exact this a h1
theorem il_i2l {x : Int32} {v : Int64} (e : v = x.toInt64) : v.toInt = x.toInt := by rw [e]; exact Int32.toInt_toInt64 x
theorem il_cmp {x y : Int64} {t : Int32} (e : lg_cmp x y = t) : (t.toInt = -1 ∧ x.toInt < y.toInt) ∨ (t.toInt = 0 ∧ x.toInt = y.toInt) ∨ (t.toInt = 1 ∧ y.toInt < x.toInt) := by
  subst e
  unfold lg_cmp
  by_cases h : x > y
  · rw [if_pos h]; exact Or.inr (Or.inr ⟨by decide +kernel, Int64.lt_iff_toInt_lt.mp h⟩)
  · rw [if_neg h]
    by_cases h2 : x = y
    · rw [if_pos h2]; exact Or.inr (Or.inl ⟨by decide +kernel, by rw [h2]⟩)
    · rw [if_neg h2]
      have h3 : ¬ y.toInt < x.toInt := fun q => h (Int64.lt_iff_toInt_lt.mpr q)
      have h4 : ¬ x.toInt = y.toInt := fun q => h2 (Int64.toInt_inj.mp q)
      exact Or.inl ⟨by decide +kernel, by omega⟩
theorem SD.q2 {f : Nat → Int32} (h : SD f) {b : Nat} (hb : b < 5) : -1 ≤ (f (13 + 5 * b)).toInt ∧ (f (13 + 5 * b)).toInt ≤ 2 ∧ ((f (14 + 5 * b)).toInt = 1 → 0 ≤ (f (13 + 5 * b)).toInt) := h.2.1 b hb
theorem SD.q4 {f : Nat → Int32} (h : SD f) {l : Nat} (hl : l < 3) : ((f (36 + 4 * l)).toInt = 1 → (l : Int) < (f 2).toInt) ∧ ((f (36 + 4 * l)).toInt = 2 ∨ (0 ≤ (f (37 + 4 * l)).toInt ∧ (f (37 + 4 * l)).toInt < 300)) := h.2.2 l hl
/-- of the bits of r, each one's bidder sits by l -/
def SB (f : Nat → Int32) (r : Int32) (l : Int) : Prop := ∀ b : Nat, tb r b → (f (13 + 5 * b)).toInt = l
theorem SB.z {f : Nat → Int32} {l : Int} : SB f 0 l := fun b h => absurd h (tb_zero b)
theorem SB.or {f : Nat → Int32} {r x t y : Int32} {l : Int} (h : SB f r l) (e0 : (1 : Int32) <<< (y &&& 31) = x) (e : r ||| x = t) (h1 : 0 ≤ r.toInt) (h2 : r.toInt ≤ 31) (h3 : 0 ≤ y.toInt) (h4 : y.toInt ≤ 4) (hs : (f (13 + 5 * y.toInt.toNat)).toInt = l) : SB f t l := fun b hb => by
  have hx := ia_bit e0 h3 h4
  rcases (tb_or e h1 h2 hx.1 hx.2 b).mp hb with a | a
  · exact h b a
  · have := (tb_bit e0 h3 h4 b).mp a
    rw [this]; exact hs
theorem SB.or0 {f : Nat → Int32} {r t : Int32} {l : Int} (h : SB f r l) (e : r ||| 0 = t) (h1 : 0 ≤ r.toInt) (h2 : r.toInt ≤ 31) : SB f t l := fun b hb => by
  rcases (tb_or e h1 h2 (by decide +kernel) (by decide +kernel) b).mp hb with a | a
  · exact h b a
  · exact absurd a (tb_zero b)
theorem first_le {x b : Int32} (h1 : 0 < x.toInt) (h2 : x.toInt ≤ 31) (h3 : 0 ≤ b.toInt) (hn : ∀ j : Nat, (j : Int) < b.toInt → ¬ tb x j) : b.toInt ≤ 4 := by
  obtain ⟨k, hk, ht⟩ := tb_some h1 h2
  refine Classical.byContradiction fun h => hn k (by omega) ht
theorem first_in {x b t : Int32} (hn : ∀ j : Nat, (j : Int) < b.toInt → ¬ tb x j) (h : ¬ tb x b.toInt.toNat) (e : t.toInt = b.toInt + 1) (h3 : 0 ≤ b.toInt) : ∀ j : Nat, (j : Int) < t.toInt → ¬ tb x j := fun j hj => by
  by_cases h1 : (j : Int) < b.toInt
  · exact hn j h1
  · have : j = b.toInt.toNat := by omega
    rw [this]; exact h
/-- all begins anew -/
def SA (f : Nat → Int32) (n m : Int) : Prop := (∀ b : Nat, (b : Int) < n → (f (13 + 5 * b)).toInt = -1 ∧ (f (14 + 5 * b)).toInt = 0) ∧ (∀ l : Nat, (l : Int) < m → (f (36 + 4 * l)).toInt = 0 ∧ (f (37 + 4 * l)).toInt = 0)
theorem SA.z {f : Nat → Int32} : SA f 0 0 := ⟨fun b h => by omega, fun l h => by omega⟩
theorem SA.keep {f f1 : Nat → Int32} {n m : Int} {i : Nat} {v : Int32} (h : SA f n m) (e : upd f i v = f1) (h1 : ∀ b : Nat, (b : Int) < n → i ≠ 13 + 5 * b ∧ i ≠ 14 + 5 * b) (h2 : ∀ l : Nat, (l : Int) < m → i ≠ 36 + 4 * l ∧ i ≠ 37 + 4 * l) : SA f1 n m := by
  refine ⟨fun b hb => ?_, fun l hl => ?_⟩
  · have := h1 b hb
    rw [upd_ne e (by omega), upd_ne e (by omega)]; exact h.1 b hb
  · have := h2 l hl
    rw [upd_ne e (by omega), upd_ne e (by omega)]; exact h.2 l hl
theorem SA.stepB {f : Nat → Int32} {n m k : Int} {b : Nat} (h : SA f n m) (hn : n = b) (hk : k = n + 1) (h1 : (f (13 + 5 * b)).toInt = -1) (h2 : (f (14 + 5 * b)).toInt = 0) : SA f k m := by
  refine ⟨fun c hc => ?_, h.2⟩
  by_cases hcb : (c : Int) < n
  · exact h.1 c hcb
  · have : c = b := by omega
    rw [this]; exact ⟨h1, h2⟩
theorem SA.stepL {f : Nat → Int32} {n m k : Int} {b : Nat} (h : SA f n m) (hn : m = b) (hk : k = m + 1) (h1 : (f (36 + 4 * b)).toInt = 0) (h2 : (f (37 + 4 * b)).toInt = 0) : SA f n k := by
  refine ⟨h.1, fun c hc => ?_⟩
  by_cases hcb : (c : Int) < m
  · exact h.2 c hcb
  · have : c = b := by omega
    rw [this]; exact ⟨h1, h2⟩
theorem SA.sd {f : Nat → Int32} {n m : Int} (h : SA f n m) (hd : HD f 0) (hn : 5 ≤ n) (hm : 3 ≤ m) : SD f := by
  refine ⟨hd, fun b hb => ?_, fun l hl => ?_⟩
  · obtain ⟨a1, a2⟩ := h.1 b (by omega)
    rw [show 10 + 3 + 5 * b = 13 + 5 * b by omega, show 10 + 4 + 5 * b = 14 + 5 * b by omega, a1, a2]
    exact ⟨by omega, by omega, fun z => by omega⟩
  · obtain ⟨a1, a2⟩ := h.2 l (by omega)
    rw [show 10 + 26 + 4 * l = 36 + 4 * l by omega, show 10 + 27 + 4 * l = 37 + 4 * l by omega, a1, a2]
    exact ⟨fun z => by omega, Or.inr ⟨by omega, by omega⟩⟩
/-- a bidder rises and is no more silent -/
theorem SD.rise {f f1 f2 : Nat → Int32} {i j b : Nat} {v w : Int32} (h : SD f) (e1 : upd f i v = f1) (e2 : upd f1 j w = f2) (hi : i = 13 + 5 * b) (hj : j = 14 + 5 * b) (hb : b < 5) (h1 : v.toInt = -1) (h2 : w.toInt = 0) : SD f2 := by
  have n1 : ∀ k : Nat, k ≠ i → k ≠ j → f2 k = f k := fun k a c => (upd_ne e2 c).trans (upd_ne e1 a)
  refine ⟨(h.1.st e1 (by omega) (by omega)).st e2 (by omega) (by omega), fun k hk => ?_, fun l hl => ?_⟩
  · by_cases hkb : k = b
    · subst hkb
      rw [show 10 + 3 + 5 * k = i by omega, show 10 + 4 + 5 * k = j by omega, upd_eq e2, upd_ne e2 (by omega), upd_eq e1]
      exact ⟨by omega, by omega, fun z => by omega⟩
    · rw [n1 _ (by omega) (by omega), n1 (10 + 4 + 5 * k) (by omega) (by omega)]; exact h.2.1 k hk
  · rw [n1 _ (by omega) (by omega), n1 (10 + 27 + 4 * l) (by omega) (by omega), n1 2 (by omega) (by omega)]; exact h.2.2 l hl
/-- the other lots stay -/
def LF (f f1 : Nat → Int32) (l : Nat) : Prop := ∀ k : Nat, k < 3 → k ≠ l → f1 (36 + 4 * k) = f (36 + 4 * k) ∧ f1 (37 + 4 * k) = f (37 + 4 * k)
theorem LF.rf {f : Nat → Int32} {l : Nat} : LF f f l := fun _ _ _ => ⟨rfl, rfl⟩
theorem LF.tr {f f1 f2 : Nat → Int32} {l : Nat} (h : LF f f1 l) (h2 : LF f1 f2 l) : LF f f2 l := fun k a b => ⟨(h2 k a b).1.trans (h k a b).1, (h2 k a b).2.trans (h k a b).2⟩
theorem LF.st {f f1 f2 : Nat → Int32} {l i : Nat} {v : Int32} (h : LF f f1 l) (e : upd f1 i v = f2) (hi : ∀ k : Nat, k < 3 → k ≠ l → i ≠ 36 + 4 * k ∧ i ≠ 37 + 4 * k) : LF f f2 l := fun k a b => by
  have := hi k a b
  exact ⟨(upd_ne e (by omega)).trans (h k a b).1, (upd_ne e (by omega)).trans (h k a b).2⟩
theorem SB.keep {f f1 : Nat → Int32} {r v : Int32} {l : Int} {i : Nat} (h : SB f r l) (e : upd f i v = f1) (h1 : 0 ≤ r.toInt) (h2 : r.toInt ≤ 31) (hi : ∀ b : Nat, b < 5 → i ≠ 13 + 5 * b) : SB f1 r l := fun b hb => by
  rw [upd_ne e (fun q => hi b (tb_lt hb h1 h2) q.symm)]; exact h b hb
/-- a row is copied -/
def CP (g f : Nat → Int32) (o1 o : Nat) (n : Int) : Prop := ∀ j : Nat, (j : Int) < n → g (o1 + j) = f (o + j)
theorem CP.z {g f : Nat → Int32} {o1 o : Nat} : CP g f o1 o 0 := fun j h => by omega
theorem CP.step {g g1 f : Nat → Int32} {o1 o i k : Nat} {n : Int} {v : Int32} (h : CP g f o1 o n) (e : upd g i v = g1) (hi : i = o1 + k) (hv : f (o + k) = v) (hn : n = k) : CP g1 f o1 o (n + 1) := fun j hj => by
  by_cases hjk : j = k
  · subst hjk; rw [← hi, upd_eq e]; exact hv.symm
  · rw [upd_ne e (by omega)]; exact h j (by omega)
/-- slices of old times -/
def WS (w : Nat → Int32) (n2 n : Int) : Prop := ∀ j : Nat, (j : Int) < n → SL w (38 * j) n2
theorem SD.lay {f f1 g : Nat → Int32} (h : SD f) (k : KH f f1) (hg : SL g 0 (f 2).toInt) (e : ∀ i : Nat, i < 38 → f1 (10 + i) = g (0 + i)) : SD f1 :=
  ⟨h.1.kh k, by rw [k 2 (by omega)]; exact hg.copy e⟩

/-- how long a lot goes on at most -/
def TM (f : Nat → Int32) (l : Nat) : Int := if (f (36 + 4 * l)).toInt = 1 then 301 - (f (37 + 4 * l)).toInt else 0
theorem TM.lt {f f1 : Nat → Int32} {l : Nat} (h : SD f) (h1 : (f (36 + 4 * l)).toInt = 1) (hp : PS f f1) (hl : l < 3) : (TM f1 l).toNat < (TM f l).toNat := by
  have q := h.q4 hl
  have a1 : TM f l = 301 - (f (37 + 4 * l)).toInt := if_pos h1
  rw [a1]
  by_cases h2 : (f1 (36 + 4 * l)).toInt = 1
  · have a2 : TM f1 l = 301 - (f1 (37 + 4 * l)).toInt := if_pos h2
    have := (hp l hl h2).2
    rw [a2]; omega
  · have a2 : TM f1 l = 0 := if_neg h2
    rw [a2]; omega
/-- slices are shifted by one -/
def SH (w f : Nat → Int32) (n : Int) : Prop := (∀ i : Nat, (i : Int) + 38 < n → f i = w (i + 38)) ∧ (∀ i : Nat, n ≤ (i : Int) + 38 → f i = w i)
theorem SH.z {w : Nat → Int32} {n : Int} (h : n = 38) : SH w w n := ⟨fun i hi => by omega, fun _ _ => rfl⟩
theorem SH.step {w f f1 : Nat → Int32} {n : Int} {i k : Nat} {v : Int32} (h : SH w f n) (e : upd f i v = f1) (hn : n = k) (hi : i = k - 38) (hk : 38 ≤ k) (hv : f k = v) : SH w f1 (n + 1) := by
  have hw : f k = w k := h.2 k (by omega)
  refine ⟨fun j hj => ?_, fun j hj => ?_⟩
  · by_cases hji : j = i
    · subst hji; rw [upd_eq e, ← hv, hw, show k = j + 38 by omega]
    · rw [upd_ne e hji]; exact h.1 j (by omega)
  · rw [upd_ne e (by omega)]; exact h.2 j (by omega)
theorem WS.shift {w f : Nat → Int32} {n2 m n k : Int} (h : WS w n2 m) (hs : SH w f n) (hn : n = 760 ∧ m = 20 ∧ k = 19) : WS f n2 k := fun j hj => by
  have := h (j + 1) (by omega)
  exact this.copy (fun i hi => by rw [hs.1 (38 * j + i) (by omega), show 38 * j + i + 38 = 38 * (j + 1) + i by omega])
theorem WS.keep {w w1 : Nat → Int32} {n2 n : Int} {i : Nat} {v : Int32} (h : WS w n2 n) (e : upd w i v = w1) (hi : 38 * n ≤ (i : Int)) : WS w1 n2 n := fun j hj => (h j hj).copy (fun k hk => upd_ne e (by omega))
theorem WS.add {w f : Nat → Int32} {n2 n m : Int} {u : Nat} {q : Int} (h : WS w n2 n) (hc : CP w f (38 * u) 10 q) (hu : n = u) (hm : m = n + 1) (hq : q = 38) (hs : SL f 10 n2) : WS w n2 m := fun j hj => by
  by_cases hju : j = u
  · subst hju; exact hs.copy (fun i hi => hc i (by omega))
  · exact h j (by omega)
theorem SD.layW {f f1 w : Nat → Int32} {o : Nat} (h : SD f) (k : KH f f1) (hg : SL w o (f 2).toInt) (e : ∀ i : Nat, i < 38 → f1 (10 + i) = w (o + i)) : SD f1 :=
  ⟨h.1.kh k, by rw [k 2 (by omega)]; exact hg.copy e⟩
theorem pw_rng {b : Int} {k : Nat} (h1 : 1 ≤ b) (h4 : b ≤ 4) (hk : k ≤ 5) : 1 ≤ b ^ k ∧ b ^ k ≤ 1024 := by
  rcases (show b = 1 ∨ b = 2 ∨ b = 3 ∨ b = 4 by omega) with rfl | rfl | rfl | rfl <;> rcases (show k = 0 ∨ k = 1 ∨ k = 2 ∨ k = 3 ∨ k = 4 ∨ k = 5 by omega) with rfl | rfl | rfl | rfl | rfl | rfl <;> decide
theorem pw_mul {v b t : Int32} {k : Nat} (e : v * b = t) (hp : v.toInt = b.toInt ^ k) (h1 : 1 ≤ b.toInt) (h4 : b.toInt ≤ 4) (hk : k ≤ 4) : t.toInt = b.toInt ^ (k + 1) := by
  have hr := pw_rng (b := b.toInt) (k := k + 1) h1 h4 (by omega)
  have hm : v.toInt * b.toInt = b.toInt ^ (k + 1) := by rw [hp, Int.pow_succ]
  rw [← hm]
  exact ia_mul e (by omega) (by omega)
/-- what lies below the logs stays -/
def KL (f f1 : Nat → Int32) : Prop := ∀ i : Nat, i < 79 → f1 i = f i
theorem KL.rf {f : Nat → Int32} : KL f f := fun _ _ => rfl
theorem KL.st {f f0 f1 : Nat → Int32} {i : Nat} {v : Int32} (h : KL f0 f) (e : upd f i v = f1) (hi : 79 ≤ i) : KL f0 f1 := fun j hj => (upd_ne e (by omega)).trans (h j hj)
theorem SD.log {f f1 : Nat → Int32} {i : Nat} {v : Int32} (h : SD f) (e : upd f i v = f1) (hi : 79 ≤ i) (h1 : i = 109 → 0 ≤ v.toInt ∧ v.toInt ≤ 10) (h2 : ∀ j : Nat, j < 10 → i = 79 + 3 * j → 0 ≤ v.toInt ∧ v.toInt ≤ 2) : SD f1 := by
  obtain ⟨⟨a, b, c, d, g, k⟩, s1, s2⟩ := h
  refine ⟨⟨?_, ?_, ?_, ?_, ?_, fun j hj => ?_⟩, fun b hb => ?_, fun l hl => ?_⟩
  · rw [upd_ne e (by omega)]; exact a
  · rw [upd_ne e (by omega)]; exact b
  · rw [upd_ne e (by omega)]; exact c
  · rw [upd_ne e (by omega)]; exact d
  · by_cases hq : 0 + 109 = i
    · rw [hq, upd_eq e]; exact h1 (by omega)
    · rw [upd_ne e hq]; exact g
  · by_cases hq : 0 + 79 + 3 * j = i
    · rw [hq, upd_eq e]; exact h2 j hj (by omega)
    · rw [upd_ne e hq]; exact k j hj
  · rw [upd_ne e (by omega), upd_ne (j := 10 + 4 + 5 * b) e (by omega)]; exact s1 b hb
  · rw [upd_ne e (by omega), upd_ne (j := 10 + 27 + 4 * l) e (by omega), upd_ne (j := 2) e (by omega)]; exact s2 l hl
theorem vp_nb1 : vp_nar .boolean (1 : Int32) = 1 := by decide +kernel
/-- images -/
def rKI (k : Nat) (f f1 : Nat → Int32) : Prop := ∀ i : Nat, (i < 110 * k ∨ 110 * k + 110 ≤ i) → f1 i = f i
theorem rKI.rf {k : Nat} {f : Nat → Int32} : rKI k f f := fun _ _ => rfl
theorem rKI.st {k i : Nat} {f f0 f1 : Nat → Int32} {v : Int32} (h : rKI k f0 f) (e : upd f i v = f1) (h1 : 110 * k ≤ i) (h2 : i < 110 * k + 110) : rKI k f0 f1 := fun j hj => (upd_ne e (by omega)).trans (h j hj)
def rIM (im : Nat → Int32) : Prop := ∀ k : Nat, k < 4 → HD im (110 * k) ∧ SL im (110 * k + 10) (im (110 * k + 2)).toInt
def rIF (imd imf : Nat → Int32) (n : Int) : Prop := ∀ k : Nat, k < 4 → (imd k).toInt ≠ 0 → -1 ≤ (imf k).toInt ∧ (imf k).toInt < n
theorem rIM.sd {im f : Nat → Int32} {k : Nat} (h : rIM im) (hk : k < 4) (e : ∀ i : Nat, i < 110 → f (0 + i) = im (110 * k + i)) : SD f := by
  obtain ⟨a, b⟩ := h k hk
  refine ⟨a.copy e, ?_⟩
  have e2 : f 2 = im (110 * k + 2) := e 2 (by omega)
  rw [e2]
  exact b.copy (fun i hi => by have := e (10 + i) (by omega); rw [show 0 + (10 + i) = 10 + i by omega, ← Nat.add_assoc] at this; exact this)
def rIG (b v21 v22 : Int32) (sd imd imx imf im imd1 imx1 imf1 im1 : Nat → Int32) : Prop := (0 ≤ b.toInt ∧ b.toInt ≤ 3 ∧ upd imd b.toInt.toNat 1 = imd1 ∧ upd imx b.toInt.toNat v22 = imx1 ∧ upd imf b.toInt.toNat v21 = imf1 ∧ (∀ i : Nat, i < 110 → im1 (110 * b.toInt.toNat + i) = sd i) ∧ rKI b.toInt.toNat im im1) ∨ ((b.toInt < 0 ∨ 3 < b.toInt) ∧ imd1 = imd ∧ imx1 = imx ∧ imf1 = imf ∧ im1 = im)

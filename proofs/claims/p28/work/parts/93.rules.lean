/-! signs, reckoned out on a stack; what is read -/
def rST (x : Int32) (a c : Int) : Prop := 0 ≤ a ∧ 0 ≤ c ∧ c ≤ 60 ∧ ∃ s v : Int, x.toInt = s + 16 * v ∧ 0 ≤ s ∧ s ≤ 14 ∧ 0 ≤ v ∧ v ≤ 99999 ∧ ((s = 0 ∧ c = a + 1) ∨ (s = 1 ∧ v ≤ 9 ∧ c = a + 1) ∨ (s = 11 ∧ 1 ≤ a ∧ c = a) ∨ (s ≠ 0 ∧ s ≠ 1 ∧ s ≠ 11 ∧ 2 ≤ a ∧ c = a - 1))
def rDP (sg : Nat → Int32) (t b n : Nat) (d : Int) : Prop := b ≤ n ∧ 0 ≤ d ∧ ∃ g : Nat → Int, g b = 0 ∧ g n = d ∧ ∀ i : Nat, b ≤ i → i < n → rST (sg (400 * t + i)) (g i) (g (i + 1))
theorem rDP.z {sg : Nat → Int32} {t b : Nat} : rDP sg t b b 0 := ⟨Nat.le_refl _, Int.le_refl _, fun _ => 0, rfl, rfl, fun i h1 h2 => by omega⟩
theorem rDP.step {sg sg1 : Nat → Int32} {t b n : Nat} {d c : Int} {x : Int32} (h : rDP sg t b n d) (hs : rST x d c) (e : upd sg (400 * t + n) x = sg1) : rDP sg1 t b (n + 1) c := by
  obtain ⟨h1, h2, g, g0, gn, gs⟩ := h
  refine ⟨by omega, hs.2.1, fun i => if i = n + 1 then c else g i, ?_, ?_, fun i hi1 hi2 => ?_⟩
  · show (if b = n + 1 then c else g b) = 0
    rw [if_neg (by omega)]; exact g0
  · show (if n + 1 = n + 1 then c else g (n + 1)) = c
    rw [if_pos rfl]
  · show rST (sg1 (400 * t + i)) (if i = n + 1 then c else g i) (if i + 1 = n + 1 then c else g (i + 1))
    by_cases hin : i = n
    · subst hin
      rw [if_neg (by omega), if_pos rfl, gn, upd_eq e]; exact hs
    · rw [if_neg (by omega), if_neg (by omega), upd_ne e (by omega)]; exact gs i hi1 (by omega)
theorem rDP.ks {sg sg1 : Nat → Int32} {t b n : Nat} {d : Int} (h : rDP sg t b n d) (e : ∀ i : Nat, i < n → sg1 (400 * t + i) = sg (400 * t + i)) : rDP sg1 t b n d := by
  obtain ⟨h1, h2, g, g0, gn, gs⟩ := h
  exact ⟨h1, h2, g, g0, gn, fun i a c => by rw [e i c]; exact gs i a c⟩
/-- more signs come behind those of a text -/
def rQS (t : Nat) (ln sg ln1 sg1 : Nat → Int32) : Prop := (ln t).toInt ≤ (ln1 t).toInt ∧ ∀ i : Nat, (i < 400 * t + (ln t).toInt.toNat ∨ 400 * t + 400 ≤ i) → sg1 i = sg i
theorem rQS.rf {t : Nat} {ln sg : Nat → Int32} : rQS t ln sg ln sg := ⟨Int.le_refl _, fun _ _ => rfl⟩
theorem rQS.tr {t : Nat} {ln sg ln1 sg1 ln2 sg2 : Nat → Int32} (h : rQS t ln sg ln1 sg1) (h2 : rQS t ln1 sg1 ln2 sg2) : rQS t ln sg ln2 sg2 := by
  obtain ⟨a1, a2⟩ := h
  obtain ⟨b1, b2⟩ := h2
  exact ⟨by omega, fun i hi => (b2 i (by omega)).trans (a2 i hi)⟩
theorem rDP.qs {t b : Nat} {ln sg ln1 sg1 : Nat → Int32} {d : Int} {n : Nat} (h : rDP sg t b n d) (q : rQS t ln sg ln1 sg1) (hn : n ≤ (ln t).toInt.toNat) : rDP sg1 t b n d := h.ks (fun i hi => q.2 _ (by omega))
/-- one sign is put -/
def rPU (t : Nat) (s v : Int) (ln ln1 sg sg1 : Nat → Int32) : Prop := (∃ x : Int32, x.toInt = s + 16 * v ∧ upd sg (400 * t + (ln t).toInt.toNat) x = sg1) ∧ (ln1 t).toInt = (ln t).toInt + 1
theorem rPU.qs {t : Nat} {s v : Int} {ln sg ln1 sg1 : Nat → Int32} (h : rPU t s v ln ln1 sg sg1) (h4 : (ln t).toInt < 400) (h0 : 0 ≤ (ln t).toInt) : rQS t ln sg ln1 sg1 := by
  obtain ⟨⟨x, -, e⟩, hn⟩ := h
  exact ⟨by omega, fun i hi => upd_ne e (by omega)⟩
theorem rPU.bin {t b : Nat} {s d : Int} {ln sg ln1 sg1 : Nat → Int32} (h : rPU t s 0 ln ln1 sg sg1) (h0 : 0 ≤ (ln t).toInt) (hs : 2 ≤ s ∧ s ≤ 14 ∧ s ≠ 11) (hd : rDP sg t b (ln t).toInt.toNat d) (h2 : 2 ≤ d) (h6 : d ≤ 61) : rDP sg1 t b (ln1 t).toInt.toNat (d - 1) := by
  obtain ⟨⟨x, hx, e⟩, hn⟩ := h
  rw [show (ln1 t).toInt.toNat = (ln t).toInt.toNat + 1 by omega]
  exact hd.step ⟨by omega, by omega, by omega, s, 0, hx, by omega, by omega, by omega, by omega, Or.inr (Or.inr (Or.inr ⟨by omega, by omega, by omega, h2, rfl⟩))⟩ e
theorem rPU.un {t b : Nat} {s d : Int} {ln sg ln1 sg1 : Nat → Int32} (h : rPU t s 0 ln ln1 sg sg1) (h0 : 0 ≤ (ln t).toInt) (hs : s = 11) (hd : rDP sg t b (ln t).toInt.toNat d) (h2 : 1 ≤ d) (h6 : d ≤ 60) : rDP sg1 t b (ln1 t).toInt.toNat d := by
  obtain ⟨⟨x, hx, e⟩, hn⟩ := h
  rw [show (ln1 t).toInt.toNat = (ln t).toInt.toNat + 1 by omega]
  exact hd.step ⟨by omega, by omega, by omega, s, 0, hx, by omega, by omega, by omega, by omega, Or.inr (Or.inr (Or.inl ⟨hs, h2, rfl⟩))⟩ e
/-- one number more lies on the stack -/
def rTR (t : Nat) (ln sg ln1 sg1 : Nat → Int32) (m m1 : Int) : Prop := ∀ (b : Nat) (d : Int), rDP sg t b (ln t).toInt.toNat d → d ≤ m → rDP sg1 t b (ln1 t).toInt.toNat (d + 1) ∧ d + 1 ≤ m1
theorem rPU.one {t : Nat} {s v m m1 : Int} {ln sg ln1 sg1 : Nat → Int32} (h : rPU t s v ln ln1 sg sg1) (h0 : 0 ≤ (ln t).toInt) (hs : (s = 0 ∧ 0 ≤ v ∧ v ≤ 99999) ∨ (s = 1 ∧ 0 ≤ v ∧ v ≤ 9)) (hm : m + 1 ≤ m1) (h6 : m1 ≤ 60) : rTR t ln sg ln1 sg1 m m1 := by
  intro b d hd hdm
  obtain ⟨⟨x, hx, e⟩, hn⟩ := h
  have hd0 := hd.2.1
  rw [show (ln1 t).toInt.toNat = (ln t).toInt.toNat + 1 by omega]
  exact ⟨hd.step ⟨hd0, by omega, by omega, s, v, hx, by omega, by omega, by omega, by omega, by omega⟩ e, by omega⟩
theorem rTR.bin {t : Nat} {s m m1 m2 m3 : Int} {ln sg ln1 sg1 ln2 sg2 ln3 sg3 : Nat → Int32} (h1 : rTR t ln sg ln1 sg1 m m1) (h2 : rTR t ln1 sg1 ln2 sg2 m2 m3) (hm : m1 ≤ m2) (hp : rPU t s 0 ln2 ln3 sg2 sg3) (h0 : 0 ≤ (ln2 t).toInt) (hs : 2 ≤ s ∧ s ≤ 14 ∧ s ≠ 11) (h6 : m3 ≤ 60) : rTR t ln sg ln3 sg3 m m3 := by
  intro b d hd hdm
  have hd0 := hd.2.1
  obtain ⟨a1, a2⟩ := h1 b d hd hdm
  obtain ⟨b1, b2⟩ := h2 b (d + 1) a1 (by omega)
  have := hp.bin h0 hs b1 (by omega) (by omega)
  rw [show d + 1 + 1 - 1 = d + 1 by omega] at this
  exact ⟨this, by omega⟩
theorem rTR.le {t : Nat} {m m1 m2 : Int} {ln sg ln1 sg1 : Nat → Int32} (h : rTR t ln sg ln1 sg1 m m1) (hm : m1 ≤ m2) : rTR t ln sg ln1 sg1 m m2 := fun b d hd hdm => ⟨(h b d hd hdm).1, by have := (h b d hd hdm).2; omega⟩
/-- the byte there is one of a range -/
def rCH (lo hi : Int) (bt : Nat → Int32) (v1 : Int32) (k : Int) : Prop := k < v1.toInt ∧ lo ≤ (bt k.toNat).toInt ∧ (bt k.toNat).toInt ≤ hi
theorem rCH.eq {lo hi a b : Int} {bt : Nat → Int32} {v1 : Int32} (h : rCH lo hi bt v1 a) (e : a = b) : rCH lo hi bt v1 b := e ▸ h
theorem rCH.pw {lo hi a b : Int} {bt : Nat → Int32} {v1 : Int32} (h : ¬ rCH lo hi bt v1 b) (hab : a ≤ b) (ha : rCH lo hi bt v1 a) : a < b := by
  rcases Int.lt_or_eq_of_le hab with h1 | h1
  · exact h1
  · exact absurd (ha.eq h1) h
/-- how many of the open signs are of two -/
def rBC (op : Nat → Int32) : Nat → Int
  | 0 => 0
  | n + 1 => rBC op n + (if (op n).toInt = 12 ∨ (op n).toInt = 13 then 1 else 0)
theorem rBC.z {op : Nat → Int32} : rBC op 0 = 0 := rfl
theorem rBC.s0 {op : Nat → Int32} {n : Nat} (h : (op n).toInt ≠ 12 ∧ (op n).toInt ≠ 13) : rBC op (n + 1) = rBC op n := by
  show rBC op n + (if (op n).toInt = 12 ∨ (op n).toInt = 13 then 1 else 0) = rBC op n
  rw [if_neg (by omega)]; omega
theorem rBC.s1 {op : Nat → Int32} {n : Nat} (h : (op n).toInt = 12 ∨ (op n).toInt = 13) : rBC op (n + 1) = rBC op n + 1 := by
  show rBC op n + (if (op n).toInt = 12 ∨ (op n).toInt = 13 then 1 else 0) = rBC op n + 1
  rw [if_pos h]
theorem rBC.nn {op : Nat → Int32} {n : Nat} : 0 ≤ rBC op n := by
  induction n with
  | zero => exact Int.le_refl _
  | succ n ih =>
    show 0 ≤ rBC op n + (if (op n).toInt = 12 ∨ (op n).toInt = 13 then 1 else 0)
    split <;> omega
theorem rBC.cong {op op1 : Nat → Int32} {n : Nat} (h : ∀ i : Nat, i < n → op1 i = op i) : rBC op1 n = rBC op n := by
  induction n with
  | zero => rfl
  | succ n ih =>
    show rBC op1 n + (if (op1 n).toInt = 12 ∨ (op1 n).toInt = 13 then 1 else 0) = rBC op n + (if (op n).toInt = 12 ∨ (op n).toInt = 13 then 1 else 0)
    rw [ih (fun i hi => h i (by omega)), h n (by omega)]
def rOC (op : Nat → Int32) (n : Int) : Prop := ∀ k : Nat, (k : Int) < n → (op k).toInt = 11 ∨ (op k).toInt = 12 ∨ (op k).toInt = 13 ∨ (op k).toInt = 91
theorem rOC.z {op : Nat → Int32} : rOC op 0 := fun k h => by omega
theorem rOC.le {op : Nat → Int32} {n m : Int} (h : rOC op n) (hm : m ≤ n) : rOC op m := fun k hk => h k (by omega)
theorem rOC.push {op op1 : Nat → Int32} {n : Nat} {m k : Int} {b : Int32} (h : rOC op m) (hm : m = n) (hk : k = m + 1) (e : upd op n b = op1) (hb : b.toInt = 11 ∨ b.toInt = 12 ∨ b.toInt = 13 ∨ b.toInt = 91) : rOC op1 k := fun i hi => by
  by_cases hin : i = n
  · subst hin; rw [upd_eq e]; exact hb
  · rw [upd_ne e hin]; exact h i (by omega)
theorem rBC.push0 {op op1 : Nat → Int32} {n m : Nat} {b : Int32} (e : upd op n b = op1) (hm : m = n + 1) (hb : b.toInt ≠ 12 ∧ b.toInt ≠ 13) : rBC op1 m = rBC op n := by
  subst hm
  rw [rBC.s0 (by rw [upd_eq e]; exact hb)]
  exact rBC.cong (fun i hi => upd_ne e (by omega))
theorem rBC.push1 {op op1 : Nat → Int32} {n m : Nat} {b : Int32} (e : upd op n b = op1) (hm : m = n + 1) (hb : b.toInt = 12 ∨ b.toInt = 13) : rBC op1 m = rBC op n + 1 := by
  subst hm
  rw [rBC.s1 (by rw [upd_eq e]; exact hb)]
  rw [rBC.cong (fun i hi => upd_ne e (by omega))]
/-- a bracket lies open -/
def rIN (op : Nat → Int32) (n : Int) : Prop := ∃ k : Nat, (k : Int) < n ∧ (op k).toInt = 91
/-- open signs are settled -/
def rTS (t : Nat) (op : Nat → Int32) (o : Int) (ln sg : Nat → Int32) (o1 : Int) (ln1 sg1 : Nat → Int32) (m : Int) : Prop := ∀ b : Nat, rDP sg t b (ln t).toInt.toNat (rBC op o.toNat + 1) → rBC op o.toNat + 1 ≤ m → rDP sg1 t b (ln1 t).toInt.toNat (rBC op o1.toNat + 1) ∧ rBC op o1.toNat + 1 ≤ m
theorem rTS.rf {t : Nat} {op : Nat → Int32} {o m : Int} {ln sg : Nat → Int32} : rTS t op o ln sg o ln sg m := fun _ h1 h2 => ⟨h1, h2⟩
theorem rTS.tr {t : Nat} {op : Nat → Int32} {o o1 o2 m : Int} {ln sg ln1 sg1 ln2 sg2 : Nat → Int32} (h : rTS t op o ln sg o1 ln1 sg1 m) (h2 : rTS t op o1 ln1 sg1 o2 ln2 sg2 m) : rTS t op o ln sg o2 ln2 sg2 m := fun b a1 a2 => by
  obtain ⟨c1, c2⟩ := h b a1 a2
  exact h2 b c1 c2
theorem rTS.drop {t : Nat} {op : Nat → Int32} {o o1 o2 m : Int} {ln sg ln1 sg1 : Nat → Int32} (h : rTS t op o ln sg o1 ln1 sg1 m) (h0 : 0 < o1) (h2 : o2 = o1 - 1) (hb : (op (o1.toNat - 1)).toInt ≠ 11 ∧ (op (o1.toNat - 1)).toInt ≠ 12 ∧ (op (o1.toNat - 1)).toInt ≠ 13) : rTS t op o ln sg o2 ln1 sg1 m := fun b a1 a2 => by
  obtain ⟨c1, c2⟩ := h b a1 a2
  have e : rBC op o1.toNat = rBC op o2.toNat := by
    rw [show o1.toNat = o2.toNat + 1 by omega]
    exact rBC.s0 (by rw [show o2.toNat = o1.toNat - 1 by omega]; exact ⟨hb.2.1, hb.2.2⟩)
  rw [← e]; exact ⟨c1, c2⟩
theorem rTS.pop {t : Nat} {op : Nat → Int32} {o o1 o2 m s : Int} {ln sg ln1 sg1 ln2 sg2 : Nat → Int32} (h : rTS t op o ln sg o1 ln1 sg1 m) (h0 : 0 ≤ o2) (h2 : o1 = o2 + 1) (hp : rPU t s 0 ln1 ln2 sg1 sg2) (hl : 0 ≤ (ln1 t).toInt) (hs : (op o2.toNat).toInt = s) (hb : s = 11 ∨ s = 12 ∨ s = 13) (h6 : m ≤ 60) : rTS t op o ln sg o2 ln2 sg2 m := fun b a1 a2 => by
  obtain ⟨c1, c2⟩ := h b a1 a2
  have hn := rBC.nn (op := op) (n := o2.toNat)
  rw [show o1.toNat = o2.toNat + 1 by omega] at c1 c2
  by_cases h11 : s = 11
  · rw [rBC.s0 (by omega)] at c1 c2
    exact ⟨hp.un hl h11 c1 (by omega) (by omega), c2⟩
  · rw [rBC.s1 (by omega)] at c1 c2
    have := hp.bin hl (by omega) c1 (by omega) (by omega)
    rw [show rBC op o2.toNat + 1 + 1 - 1 = rBC op o2.toNat + 1 by omega] at this
    exact ⟨this, by omega⟩
/-- clauses of rules -/
def rWF (sg : Nat → Int32) (t : Nat) (b e : Int32) (n : Int) : Prop := 0 ≤ b.toInt ∧ b.toInt ≤ e.toInt ∧ e.toInt ≤ n ∧ rDP sg t b.toInt.toNat e.toInt.toNat 1
def rCK (cl sg : Nat → Int32) (t c : Nat) (n : Int) : Prop := rWF sg t (cl (48 * t + 4 * c)) (cl (48 * t + 4 * c + 1)) n ∧ ((cl (48 * t + 4 * c + 2)).toInt < 0 ∨ rWF sg t (cl (48 * t + 4 * c + 2)) (cl (48 * t + 4 * c + 3)) n)
def rCA (cs cl sg : Nat → Int32) (t : Nat) (n : Int) : Prop := ∀ c : Nat, (c : Int) < (cs t).toInt → rCK cl sg t c n
def rRU (cs cl sg : Nat → Int32) (n : Int) : Prop := ∀ r : Nat, (r : Int) < n → (0 ≤ (cs r).toInt ∧ (cs r).toInt ≤ 12) ∧ rCA cs cl sg r 400
theorem rWF.le {sg : Nat → Int32} {t : Nat} {b e : Int32} {n m : Int} (h : rWF sg t b e n) (hm : n ≤ m) : rWF sg t b e m := ⟨h.1, h.2.1, by have := h.2.2.1; omega, h.2.2.2⟩
theorem rCK.le {cl sg : Nat → Int32} {t c : Nat} {n m : Int} (h : rCK cl sg t c n) (hm : n ≤ m) : rCK cl sg t c m := ⟨h.1.le hm, h.2.elim Or.inl (fun q => Or.inr (q.le hm))⟩
theorem rCA.le {cs cl sg : Nat → Int32} {t : Nat} {n m : Int} (h : rCA cs cl sg t n) (hm : n ≤ m) : rCA cs cl sg t m := fun c hc => (h c hc).le hm
theorem rWF.ks {sg sg1 : Nat → Int32} {t : Nat} {b e : Int32} {n : Int} (h : rWF sg t b e n) (k : ∀ i : Nat, (i : Int) < n → sg1 (400 * t + i) = sg (400 * t + i)) : rWF sg1 t b e n := by
  obtain ⟨h1, h2, h3, h4⟩ := h
  exact ⟨h1, h2, h3, h4.ks (fun i hi => k i (by omega))⟩
theorem rCK.ks {cl sg sg1 : Nat → Int32} {t c : Nat} {n : Int} (h : rCK cl sg t c n) (k : ∀ i : Nat, (i : Int) < n → sg1 (400 * t + i) = sg (400 * t + i)) : rCK cl sg1 t c n := ⟨h.1.ks k, h.2.elim Or.inl (fun q => Or.inr (q.ks k))⟩
theorem rCK.cl {cl cl1 sg : Nat → Int32} {t c : Nat} {n : Int} (h : rCK cl sg t c n) (k : ∀ i : Nat, i < 4 → cl1 (48 * t + 4 * c + i) = cl (48 * t + 4 * c + i)) : rCK cl1 sg t c n := by
  have k0 := k 0 (by omega)
  rw [Nat.add_zero] at k0
  unfold rCK
  rw [k0, k 1 (by omega), k 2 (by omega), k 3 (by omega)]; exact h
theorem rCA.qs {cs cl sg ln ln1 sg1 : Nat → Int32} {t : Nat} (h : rCA cs cl sg t (ln t).toInt) (q : rQS t ln sg ln1 sg1) : rCA cs cl sg1 t (ln1 t).toInt := fun c hc => ((h c hc).ks (fun i hi => q.2 _ (by omega))).le q.1
theorem rCA.cl {cs cl cl1 sg : Nat → Int32} {t i : Nat} {n : Int} {v : Int32} (h : rCA cs cl sg t n) (e : upd cl i v = cl1) (h0 : 0 ≤ (cs t).toInt) (hi : 48 * t + 4 * (cs t).toInt.toNat ≤ i) : rCA cs cl1 sg t n := fun c hc => (h c hc).cl (fun j hj => upd_ne e (by omega))
theorem rRU.qs {cs cl sg ln ln1 sg1 : Nat → Int32} {t : Nat} (h : rRU cs cl sg t) (q : rQS t ln sg ln1 sg1) : rRU cs cl sg1 t := fun r hr => ⟨(h r hr).1, fun c hc => ((h r hr).2 c hc).ks (fun i hi => q.2 _ (by omega))⟩
theorem rRU.cl {cs cl cl1 sg : Nat → Int32} {t i : Nat} {v : Int32} (h : rRU cs cl sg t) (e : upd cl i v = cl1) (hi : 48 * t ≤ i) : rRU cs cl1 sg t := fun r hr => ⟨(h r hr).1, fun c hc => ((h r hr).2 c hc).cl (fun j hj => by
  have := (h r hr).1
  exact upd_ne e (by omega))⟩
theorem rRU.cs {cs cs1 cl sg : Nat → Int32} {t i : Nat} {v : Int32} (h : rRU cs cl sg t) (e : upd cs i v = cs1) (hi : t ≤ i) : rRU cs1 cl sg t := fun r hr => by
  have e1 : cs1 r = cs r := upd_ne e (by omega)
  refine ⟨by rw [e1]; exact (h r hr).1, fun c hc => (h r hr).2 c (by rw [← e1]; exact hc)⟩
theorem rRU.more {cs cl sg : Nat → Int32} {t : Nat} {n m : Int} (h : rRU cs cl sg t) (ha : rCA cs cl sg t n) (hn : n ≤ 400) (h0 : 0 ≤ (cs t).toInt) (h1 : (cs t).toInt ≤ 12) (hm : m = (t : Int) + 1) : rRU cs cl sg m := fun r hr => by
  by_cases hrt : r = t
  · subst hrt; exact ⟨⟨h0, h1⟩, ha.le hn⟩
  · exact h r (by omega)
theorem rCA.more {cs cs1 cl sg : Nat → Int32} {t : Nat} {n : Int} {v : Int32} (h : rCA cs cl sg t n) (e : upd cs t v = cs1) (hv : v.toInt = (cs t).toInt + 1) (h0 : 0 ≤ (cs t).toInt) (hc : rCK cl sg t (cs t).toInt.toNat n) : rCA cs1 cl sg t n := fun c hlt => by
  rw [upd_eq e] at hlt
  by_cases hct : c = (cs t).toInt.toNat
  · rw [hct]; exact hc
  · exact h c (by omega)
theorem rRU.eq {cs cl sg : Nat → Int32} {a b : Int} (h : rRU cs cl sg a) (e : a = b) : rRU cs cl sg b := e ▸ h
theorem st_and {x t : Int32} {s v : Int} (e : x &&& 15 = t) (h : x.toInt = s + 16 * v) (h1 : 0 ≤ s) (h2 : s ≤ 14) (h3 : 0 ≤ v) (h4 : v ≤ 99999) : t.toInt = s := by
  subst e
  have hb := x.toBitVec.isLt
  have hx : (x.toBitVec.toNat : Int) = s + 16 * v := by
    rw [ia_nn] at h
    split at h <;> omega
  have hr : (x &&& 15).toBitVec.toNat = x.toBitVec.toNat % 16 := by
    rw [Int32.toBitVec_and, BitVec.toNat_and, show (15 : Int32).toBitVec.toNat = 2 ^ 4 - 1 by decide +kernel, Nat.and_two_pow_sub_one_eq_mod]
  rw [ia_nn, hr]
  split <;> omega
theorem st_shr {x t : Int32} {s v : Int} (e : x >>> (4 &&& 31) = t) (h : x.toInt = s + 16 * v) (h1 : 0 ≤ s) (h2 : s ≤ 14) (h3 : 0 ≤ v) (h4 : v ≤ 99999) : t.toInt = v := by
  subst e
  rw [show ((4 : Int32) &&& 31) = 4 by decide +kernel]
  have hb := x.toBitVec.isLt
  have hx : (x.toBitVec.toNat : Int) = s + 16 * v := by
    rw [ia_nn] at h
    split at h <;> omega
  have hi : x.toInt = ((x.toBitVec.toNat : Nat) : Int) := by omega
  have hr : (x >>> (4 : Int32)).toBitVec = x.toBitVec.sshiftRight 4 := by
    rw [Int32.toBitVec_shiftRight]
    rfl
  show (x >>> (4 : Int32)).toBitVec.toInt = v
  rw [hr, BitVec.toInt_sshiftRight, Int.shiftRight_eq_div_pow]
  show x.toInt / ((2 ^ 4 : Nat) : Int) = v
  rw [h]
  omega
theorem SDw.back {f : Nat → Int32} {l : Nat} (h : SDw f l) (hl : l < 3) (h1 : (f (36 + 4 * l)).toInt = 1) (h2 : (l : Int) < (f 2).toInt) (h3 : 0 ≤ (f (37 + 4 * l)).toInt) (h4 : (f (37 + 4 * l)).toInt < 300) : SD f := by
  refine ⟨h.1, h.2.1, fun k hk => ?_⟩
  by_cases hkl : k = l
  · subst hkl; exact ⟨fun _ => h2, Or.inr ⟨h3, h4⟩⟩
  · exact h.2.2 k hk hkl
/-- lots below n have had their minute -/
def PA (f f1 : Nat → Int32) (n : Int) : Prop := ∀ k : Nat, k < 3 → ((k : Int) < n → (f1 (36 + 4 * k)).toInt = 1 → (f (36 + 4 * k)).toInt = 1 ∧ (f1 (37 + 4 * k)).toInt = (f (37 + 4 * k)).toInt + 1) ∧ (n ≤ (k : Int) → f1 (36 + 4 * k) = f (36 + 4 * k) ∧ f1 (37 + 4 * k) = f (37 + 4 * k))
theorem PA.z {f : Nat → Int32} : PA f f 0 := fun k _ => ⟨fun h => by omega, fun _ => ⟨rfl, rfl⟩⟩
theorem PA.skip {f f1 : Nat → Int32} {n m : Int} {l : Nat} (h : PA f f1 n) (hn : n = l) (hm : m = n + 1) (h1 : (f1 (36 + 4 * l)).toInt ≠ 1) : PA f f1 m := fun k hk => by
  refine ⟨fun a b => ?_, fun a => (h k hk).2 (by omega)⟩
  by_cases hkl : k = l
  · subst hkl; exact absurd b h1
  · exact (h k hk).1 (by omega) b
theorem PA.go {f f1 f2 : Nat → Int32} {n : Int} {l : Nat} (h : PA f f1 n) (hn : n = l) (hl : LF f1 f2 l) (hs : (f1 (36 + 4 * l)).toInt = 1) (hg : (f2 (36 + 4 * l)).toInt = 1 → (f2 (37 + 4 * l)).toInt = (f1 (37 + 4 * l)).toInt + 1) : PA f f2 (n + 1) := fun k hk => by
  by_cases hkl : k = l
  · subst hkl
    have h2 := (h k hk).2 (by omega)
    refine ⟨fun a b => ⟨by rw [← h2.1]; exact hs, by rw [← h2.2]; exact hg b⟩, fun a => by omega⟩
  · obtain ⟨e1, e2⟩ := hl k hk hkl
    rw [e1, e2]
    exact ⟨fun a b => (h k hk).1 (by omega) b, fun a => (h k hk).2 (by omega)⟩
theorem PA.free {f f1 f2 : Nat → Int32} {n : Int} {i : Nat} {v : Int32} (h : PA f f1 n) (e : upd f1 i v = f2) (hi : ∀ k : Nat, k < 3 → i ≠ 36 + 4 * k ∧ i ≠ 37 + 4 * k) : PA f f2 n := fun k hk => by
  have := hi k hk
  rw [upd_ne e (show 36 + 4 * k ≠ i by omega), upd_ne e (show 37 + 4 * k ≠ i by omega)]; exact h k hk
/-- behind a minute: a lot that goes on did so, and has gone on one more -/
def PS (f f1 : Nat → Int32) : Prop := ∀ k : Nat, k < 3 → (f1 (36 + 4 * k)).toInt = 1 → (f (36 + 4 * k)).toInt = 1 ∧ (f1 (37 + 4 * k)).toInt = (f (37 + 4 * k)).toInt + 1
theorem PA.all {f f1 : Nat → Int32} {n : Int} (h : PA f f1 n) (hs : SD f1) (hn : (f1 2).toInt ≤ n) : PS f f1 := fun k hk h1 => (h k hk).1 (by have := (hs.q4 hk).1 h1; omega) h1
theorem ia_bit5 {y t : Int32} (e : (1 : Int32) <<< (y &&& 31) = t) (h1 : 0 ≤ y.toInt) (h2 : y.toInt ≤ 5) : 1 ≤ t.toInt ∧ t.toInt ≤ 32 := by
  obtain ⟨b, rfl⟩ := s31 h1 (by omega)
  subst e
  have : ∀ b : Fin 32, (Int32.ofNat b.val).toInt ≤ 5 → 1 ≤ ((1 : Int32) <<< (Int32.ofNat b.val &&& 31)).toInt ∧ ((1 : Int32) <<< (Int32.ofNat b.val &&& 31)).toInt ≤ 32 := by decide +kernel
  exact this b h2
theorem il_nz {v : Int64} {n : Int} (h : v.toInt = n) (hn : n ≠ 0) : v ≠ 0 := fun q => hn (by rw [← h, q]; decide +kernel)

theorem ia_sub31 {b s n t : Int32} (e1 : n = s ^^^ (-1)) (e2 : b &&& n = t) (h0 : 0 ≤ s.toInt) (h1 : s.toInt ≤ 31) : t.toInt = (0 : Int32).toInt → 0 ≤ b.toInt ∧ b.toInt ≤ 31 := by
  intro h
  have ht : t = 0 := Int32.toInt_inj.mp h
  subst ht; subst e1
  have e : b &&& s = b := by
    apply Int32.toBitVec_inj.mp
    have h2 := congrArg Int32.toBitVec e2
    rw [Int32.toBitVec_and, Int32.toBitVec_xor] at h2
    rw [Int32.toBitVec_and]
    ext i hi
    have h3 := congrArg (fun z : BitVec 32 => z[i]) h2
    have h4 : ((-1 : Int32).toBitVec)[i] = true := by
      have : (-1 : Int32).toBitVec = BitVec.allOnes 32 := by decide +kernel
      rw [this]; rw [BitVec.getElem_allOnes]
    have h5 : ((0 : Int32).toBitVec)[i] = false := by
      have : (0 : Int32).toBitVec = 0#32 := by decide +kernel
      rw [this]; simp
    simp only [BitVec.getElem_and, BitVec.getElem_xor, h4, h5] at h3 ⊢
    revert h3
    cases b.toBitVec[i] <;> cases s.toBitVec[i] <;> simp
  have := ia_and2 e h0
  omega
theorem ia_lt {x : Int32} {n : Nat} (h1 : 0 ≤ x.toInt) (h2 : x.toInt < n) : x.toNatClampNeg < n := Nat.not_le.mp fun q => (ia_in h1 h2) (Or.inr q)

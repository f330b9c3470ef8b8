theorem ia_sub31 {b s n t : Int32} (e1 : n = s ^^^ (-1)) (e2 : b &&& n = t) (h0 : 0 ≤ s.toInt) (h1 : s.toInt ≤ 31) : t.toInt = (0 : Int32).toInt → 0 ≤ b.toInt ∧ b.toInt ≤ 31 := by
  intro h
  have ht : t = 0 := Int32.toInt_inj.mp h
  subst ht; subst e1
  have e : b &&& s = b := by
    apply Int32.toBitVec_inj.mp
    have h2 := congrArg Int32.toBitVec e2
    rw [Int32.toBitVec_and, Int32.toBitVec_xor] at h2
    rw [Int32.toBitVec_and]
    ext i hi
    have h3 := congrArg (fun z : BitVec 32 => z[i]) h2
    have h4 : ((-1 : Int32).toBitVec)[i] = true := by
      have : (-1 : Int32).toBitVec = BitVec.allOnes 32 := by decide +kernel
      rw [this]; rw [BitVec.getElem_allOnes]
    have h5 : ((0 : Int32).toBitVec)[i] = false := by
      have : (0 : Int32).toBitVec = 0#32 := by decide +kernel
      rw [this]; simp
    simp only [BitVec.getElem_and, BitVec.getElem_xor, h4, h5] at h3 ⊢
    revert h3
    cases b.toBitVec[i] <;> cases s.toBitVec[i] <;> simp
  have := ia_and2 e h0
  omega
theorem ia_lt {x : Int32} {n : Nat} (h1 : 0 ≤ x.toInt) (h2 : x.toInt < n) : x.toNatClampNeg < n := Nat.not_le.mp fun q => (ia_in h1 h2) (Or.inr q)
theorem Met.ofWF {l : Launch} {y : MethodName} {ws ws' : List Cond} {rm : Room} {Pc : Array Value → State → Prop} {Qc : Array Value → State → Outcome → State → Prop} {mc ms : Nat} {free : Addr → Prop} {cc : ByteArray} {maxL : Nat} {ret : Option FieldType}
    (hy : plainFor y = true) (hw : ws = Cond.code y cc maxL ret :: ws')
    (body : ∀ p e s m args below meth c s₁, BodyLoose p l y (headSpec ws rm) cc maxL ret e s m args below meth c s₁ → c.maxLocals = maxL → Pc args s →
      W p l e (headSpec ws rm).room s m args below meth c s.heap [] 0 0 (MQ below Qc args s mc ms free) (entryFrame m args maxL)) : Met l y ws rm Pc Qc mc ms free := by
  refine MetFree.of_bodySF (code := cc) (maxLocals := maxL) (ret := ret) hy ?_ ?_
  · intro args s m h hn
    obtain ⟨meth, c, h1, h2, h3, h4, h5, h6, -, -⟩ := Cond.code_spec hn (atoms_spec (ws := ws) h _ (by rw [hw]; exact List.mem_cons_self))
    exact ⟨meth, c, h1, h2, h3, h4, h5, h6⟩
  · intro p e s m args below meth c s₁ B hml hP _
    have hh0 : s₁.heap = s.heap := by rw [B.state]; rfl
    obtain ⟨t, a1, o, b1, b2, b3⟩ := body p e s m args below meth c s₁ B hml hP s₁ hh0 (Stand.of_body B)
    exact ⟨t, o, a1, b1, b2, ⟨b3.1, b3.2⟩⟩

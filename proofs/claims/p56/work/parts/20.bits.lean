/-! Bits of floats and doubles, the library's way. -/
theorem Met.ofWF {l : Launch} {y : MethodName} {ws ws' : List Cond} {rm : Room} {Pc : Array Value → State → Prop} {Qc : Array Value → State → Outcome → State → Prop} {mc ms : Nat} {free : Addr → Prop} {cc : ByteArray} {maxL : Nat} {ret : Option FieldType}
    (hy : plainFor y = true) (hw : ws = Cond.code y cc maxL ret :: ws')
    (body : ∀ p e s m args below meth c s₁, BodyLoose p l y (headSpec ws rm) cc maxL ret e s m args below meth c s₁ → c.maxLocals = maxL → Pc args s →
      W p l e (headSpec ws rm).room s m args below meth c s.heap [] 0 0 (MQ below Qc args s mc ms free) (entryFrame m args maxL)) : Met l y ws rm Pc Qc mc ms free := by
  refine MetFree.of_bodySF (code := cc) (maxLocals := maxL) (ret := ret) hy ?_ ?_
  · intro args s m h hn
    obtain ⟨meth, c, h1, h2, h3, h4, h5, h6, -, -⟩ := Cond.code_spec hn (atoms_spec (ws := ws) h _ (by rw [hw]; exact List.mem_cons_self))
    exact ⟨meth, c, h1, h2, h3, h4, h5, h6⟩
  · intro p e s m args below meth c s₁ B hml hP _
    have hh0 : s₁.heap = s.heap := by rw [B.state]; rfl
    obtain ⟨t, a1, o, b1, b2, b3⟩ := body p e s m args below meth c s₁ B hml hP s₁ hh0 (Stand.of_body B)
    exact ⟨t, o, a1, b1, b2, ⟨b3.1, b3.2⟩⟩
/-- a contract that only reads, of a method whose class has rows of its own in the table of natives -/
theorem rMetF {l : Launch} {D : va_G} {k : Nat → ClassId} {ws : va_W} {ws' ws9 : List Cond} {y : MethodName} {rm : Room} {cc : ByteArray} {maxL : Nat} {ret : Option FieldType} {Qc : Array Value → State → Outcome → State → Prop} (av : List Value) (hy : plainFor y = true) (hw : ws9 = Cond.code y cc maxL ret :: ws') (hlen : (lg_sl av).length ≤ maxL)
    (body : ∀ (p : Program) (e : Env) (s : State) (m : MethodId) (below : List Frame) (meth : Method) (c : Code) (ls : Array Slot), CallFix p m c cc maxL s av.toArray ws9 y.cls → meth.sig.returnType = ret → meth.locks = false → va_P D vwCl ws s.heap → va_K D vwCl (tyL k) s → NW s → lv_has ls maxL (lv_args 0 av) → W p l e rm s m av.toArray below meth c s.heap [] 0 0 (MQ below Qc av.toArray s 0 0 noA) (F0 m 0 ls [])) : Met l y ws9 rm (RPc D k av ws) Qc 0 0 noA := by
  refine Met.ofWF (cc := cc) (maxL := maxL) (ret := ret) hy hw ?_
  intro p e s m args below meth c s₁ B hml hv
  obtain ⟨rfl, hP, hK, hN⟩ := hv
  have hts := atoms_spec (ws := ws9) B.pre
  have hown : s.vm.findClass y.cls = some m.cls := findClass_of_methodNamed B.named
  have hl := lv_entry av (n := maxL) hlen
  rw [lg_entry_eq]
  exact body p e s m below meth c _ ⟨B.exec, B.bytes, hml, hown, hts⟩ B.returns B.notSynchronized hP hK hN hl
theorem order_self {d : FP.Core.Datum} (h : d ≠ .nan) : FP.Core.order d d = some .eq := by
  have e : ∀ a : Int, compare a a = .eq := fun a => by
    rw [Int.compare_eq_ite_lt, if_neg (Int.lt_irrefl a), if_neg (Int.lt_irrefl a)]
  cases d with
  | nan => exact absurd rfl h
  | inf s => exact congrArg some (e _)
  | fin s c q => exact congrArg some (e _)
theorem okF_self {x : UInt32} (h : okF x) : FP.fcmp x x = some .eq := order_self (okF_notNaN h)
theorem okD_self {x : UInt64} (h : okD x) : FP.dcmp x x = some .eq := order_self (okD_notNaN h)
theorem th01_1 {n : Nat} (h : ¬ (if n = 0 then (1 : Int32) else 0) = 0) : n = 0 := Classical.byContradiction fun h9 => h (if_neg h9)
theorem th01_0 {n : Nat} (h : (if n = 0 then (1 : Int32) else 0) = 0) : ¬ n = 0 := fun h9 => by
  rw [if_pos h9] at h
  exact absurd h (by decide)








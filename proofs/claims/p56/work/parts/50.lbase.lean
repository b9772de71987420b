/-! The law's level: one start for all its methods, consequences of contracts, what stands beside a contract's world. -/
theorem tt_room {s : State} {pl : Platform} {r r' : Room} (h : s.hasRoom pl r' = true) (h1 : r.frames ≤ r'.frames) (h2 : r.cells ≤ r'.cells) (h3 : r.slots ≤ r'.slots) (h4 : r.locals ≤ r'.locals) : s.hasRoom pl r = true := by
  simp only [State.hasRoom, Bool.and_eq_true, decide_eq_true_eq] at h ⊢
  obtain ⟨⟨⟨⟨a1, b1, b2, b3, b4, b5⟩, a3⟩, a4⟩, a5⟩ := h
  exact ⟨⟨⟨⟨by omega, by omega, by omega, by omega, by omega, b5⟩, by omega⟩, by omega⟩, a5⟩
/-- a contract says more of less -/
theorem met_cons {l : Launch} {y : MethodName} {ws : List Cond} {rm rm' : Room} {Pc Pc' : Array Value → State → Prop} {Qc Qc' : Array Value → State → Outcome → State → Prop} {mc ms mc' ms' : Nat} {free free' : Addr → Prop} (hM : Met l y ws rm Pc Qc mc ms free)
    (hr : rm.frames ≤ rm'.frames ∧ rm.cells ≤ rm'.cells ∧ rm.slots ≤ rm'.slots ∧ rm.locals ≤ rm'.locals) (hc : mc ≤ mc') (hs : ms ≤ ms')
    (hP : ∀ a s, Pc' a s → Pc a s) (hQ : ∀ a s o t, Pc' a s → Qc a s o t → Qc' a s o t) (hf : ∀ q, free q → free' q) : Met l y ws rm' Pc' Qc' mc' ms' free' := by
  intro p e had hfc hfk s m args below hfr happ hpc hK
  have happ2 : (headSpec ws rm).appliesLoose y e.platform s = true := by
    rw [Spec.appliesLoose_iff hfr] at happ ⊢
    obtain ⟨b1, b2, b3, b4, b5, b6, b7, b8⟩ := happ
    exact ⟨b1, b2, b3, b4, b5, b6, tt_room b7 hr.1 hr.2.1 hr.2.2.1 hr.2.2.2, b8⟩
  obtain ⟨n, o, h1, h2, h3, h4, L, h5, h6⟩ := hM p e had hfc hfk s m args below hfr happ2 (hP _ _ hpc) hK
  exact ⟨n, o, h1, h2, h3, hQ _ _ _ _ hpc h4, L, ⟨h5.1, h5.2.1, h5.2.2.mono hc hs⟩, fun q hq => hf _ (h6 q hq)⟩
/-- a contract whose start names the state it is used at -/
theorem met_at {l : Launch} {y : MethodName} {ws : List Cond} {rm : Room} {Pc : Array Value → State → Prop} {Qc : Array Value → State → Outcome → State → Prop} {mc ms : Nat} {free : Addr → Prop} (h : ∀ a s, Pc a s → Met l y ws rm (fun a' s' => a' = a ∧ s' = s ∧ Pc a s) Qc mc ms free) : Met l y ws rm Pc Qc mc ms free := by
  intro p e had hfc hfk s m args below hfr happ hpc hK
  exact h args s hpc p e had hfc hfk s m args below hfr happ ⟨rfl, rfl, hpc⟩ hK
/-- what the law's and the JDK's methods read: digits, powers, texts -/
def dg1 (j : Nat) : Int32 := nI (48 + j % 10)
def dg10 (j : Nat) : Int32 := nI (48 + j / 10)
def p10L (j : Nat) : Int64 := Int64.ofNat (10 ^ j)
def tyL2 : List Nat := [1, 1, 1, 0, 4, 3, 4]
def txL2 : List (List Int32) := [[43], [45], [63], [], [101, 105, 119, 115], [48, 46, 48], [45, 48, 46, 48]]
abbrev ln2 (i : Nat) : Nat := tyL2.getD i 0
abbrev ch2 (i j : Nat) : Int32 := (txL2.getD i []).getD j 0
/-- addresses of the constants: texts of the forms (their values), forms, the forms' row, the switch's row; the law's texts (their values); digits, tens, g, powers; what g holds -/
abbrev EK : Type := (Nat → Nat) × (Nat → Nat) × (Nat → Nat) × Nat × Nat × (Nat → Nat) × (Nat → Nat) × (Nat → Nat) × (Nat → Int64)
abbrev kjs (E : EK) : Nat → Nat := E.2.2.2.2.2.1
abbrev kjv (E : EK) : Nat → Nat := E.2.2.2.2.2.2.1
abbrev kja (E : EK) : Nat → Nat := E.2.2.2.2.2.2.2.1
abbrev kgf (E : EK) : Nat → Int64 := E.2.2.2.2.2.2.2.2
def KJ (js jv ja : Nat → Nat) (gf : Nat → Int64) (A : Nat → Prop) (U : State) (H : Heap) : Prop :=
  vk_S 7 tyL2 txL2 js jv A U H ∧ va_Z "java/lang/Integer" "DigitOnes" "[B" (.ref (ja 0)) A U H ∧ va_T .byte (ja 0) 100 (fun j => .int (dg1 j)) A U H ∧ va_Z "java/lang/Integer" "DigitTens" "[B" (.ref (ja 1)) A U H ∧ va_T .byte (ja 1) 100 (fun j => .int (dg10 j)) A U H ∧
  va_Z "jdk/internal/math/MathUtils" "g" "[J" (.ref (ja 2)) A U H ∧ va_T .long (ja 2) 1234 (fun j => .long (gf j)) A U H ∧ va_Z "jdk/internal/math/MathUtils" "pow10" "[J" (.ref (ja 3)) A U H ∧ va_T .long (ja 3) 18 (fun j => .long (p10L j)) A U H ∧
  vk_R RL 294 "+" (js 0) U ∧ vk_R RL 296 "-" (js 1) U ∧ vk_R RL 298 "?" (js 2) U ∧ vk_R RL 300 "" (js 3) U ∧ vk_R RL 348 "eiws" (js 4) U ∧ vk_R RJx40b00 32 "0.0" (js 5) U ∧ vk_R RJx40b00 34 "-0.0" (js 6) U
theorem KJ.kept {js jv ja : Nat → Nat} {gf : Nat → Int64} {A : Nat → Prop} {U : State} {H H1 : Heap} (h : KJ js jv ja gf A U H) (hq : ∀ a : Nat, a < H.size → ¬ A a → H1[a]? = H[a]?) : KJ js jv ja gf A U H1 := by
  obtain ⟨a1, a2, a3, a4, a5, a6, a7, a8, a9, a10⟩ := h
  exact ⟨a1.kept hq, a2.kept hq, a3.kept hq, a4.kept hq, a5.kept hq, a6.kept hq, a7.kept hq, a8.kept hq, a9.kept hq, a10⟩
theorem KJ.narrow {js jv ja : Nat → Nat} {gf : Nat → Int64} {A B : Nat → Prop} {U : State} {H : Heap} (h : KJ js jv ja gf A U H) (hAB : ∀ q, B q → A q) : KJ js jv ja gf B U H := by
  obtain ⟨a1, a2, a3, a4, a5, a6, a7, a8, a9, a10⟩ := h
  exact ⟨a1.narrow hAB, a2.narrow hAB, a3.narrow hAB, a4.narrow hAB, a5.narrow hAB, a6.narrow hAB, a7.narrow hAB, a8.narrow hAB, a9.narrow hAB, a10⟩
theorem KJ.warm {js jv ja : Nat → Nat} {gf : Nat → Int64} {A : Nat → Prop} {u U : State} {H : Heap} (hW : u.WarmedH U.vm) (h : KJ js jv ja gf A u H) : KJ js jv ja gf A U H := by
  have hvm := hW.alike
  obtain ⟨a1, a2, a3, a4, a5, a6, a7, a8, a9, b1, b2, b3, b4, b5, b6, b7⟩ := h
  exact ⟨a1.moved hvm, a2.moved hvm, a3.moved hvm, a4.moved hvm, a5.moved hvm, a6.moved hvm, a7.moved hvm, a8.moved hvm, a9.moved hvm, b1.warm hW, b2.warm hW, b3.warm hW, b4.warm hW, b5.warm hW, b6.warm hW, b7.warm hW⟩
theorem KJ.same {js jv ja : Nat → Nat} {gf : Nat → Int64} {A : Nat → Prop} {u U : State} {H : Heap} (hv : U.vm = u.vm) (h : KJ js jv ja gf A u H) : KJ js jv ja gf A U H := by
  have hvm : u.vm.Alike U.vm := by rw [hv]; exact Vm.Alike.refl _
  obtain ⟨a1, a2, a3, a4, a5, a6, a7, a8, a9, b1, b2, b3, b4, b5, b6, b7⟩ := h
  exact ⟨a1.moved hvm, a2.moved hvm, a3.moved hvm, a4.moved hvm, a5.moved hvm, a6.moved hvm, a7.moved hvm, a8.moved hvm, a9.moved hvm, b1.same hv, b2.same hv, b3.same hv, b4.same hv, b5.same hv, b6.same hv, b7.same hv⟩
/-- words of the tables that no method's list holds: rows of bytes can be cloned; a builder as an Appendable -/
def JW (U : State) : Prop := va_Nw (.castable "[B" "java/lang/Cloneable") U ∧ va_Fw RJ4 ⟨"java/lang/Appendable", "append", "(Ljava/lang/CharSequence;)Ljava/lang/Appendable;"⟩ yJ4_append_996db U
theorem JW.moved {u U : State} (hvm : u.vm.Alike U.vm) (hw : va_Nw (.castable "[B" "java/lang/Cloneable") U) (h : JW u) : JW U := ⟨hw, va_Fw.moved (by decide) hvm h.2⟩
def ncL : List (String × String) := [("java/lang/IndexOutOfBoundsException", "java/lang/IllegalArgumentException"), ("java/lang/IndexOutOfBoundsException", "java/lang/IllegalStateException"), ("java/lang/IndexOutOfBoundsException", "java/lang/UnsupportedOperationException"), ("java/lang/IndexOutOfBoundsException", "java/util/NoSuchElementException"), ("java/lang/IndexOutOfBoundsException", "java/lang/ArithmeticException"), ("java/lang/IllegalArgumentException", "java/lang/IndexOutOfBoundsException"), ("java/lang/IllegalArgumentException", "java/lang/IllegalStateException"), ("java/lang/IllegalArgumentException", "java/lang/UnsupportedOperationException"), ("java/lang/IllegalArgumentException", "java/util/NoSuchElementException"), ("java/lang/IllegalArgumentException", "java/lang/ArithmeticException"), ("java/lang/IllegalStateException", "java/lang/IndexOutOfBoundsException"), ("java/lang/IllegalStateException", "java/lang/IllegalArgumentException"), ("java/lang/IllegalStateException", "java/lang/UnsupportedOperationException"), ("java/lang/IllegalStateException", "java/util/NoSuchElementException"), ("java/lang/IllegalStateException", "java/lang/ArithmeticException"), ("java/lang/UnsupportedOperationException", "java/lang/IndexOutOfBoundsException"), ("java/lang/UnsupportedOperationException", "java/lang/IllegalArgumentException"), ("java/lang/UnsupportedOperationException", "java/lang/IllegalStateException"), ("java/lang/UnsupportedOperationException", "java/util/NoSuchElementException"), ("java/lang/UnsupportedOperationException", "java/lang/ArithmeticException"), ("java/util/NoSuchElementException", "java/lang/IndexOutOfBoundsException"), ("java/util/NoSuchElementException", "java/lang/IllegalArgumentException"), ("java/util/NoSuchElementException", "java/lang/IllegalStateException"), ("java/util/NoSuchElementException", "java/lang/UnsupportedOperationException"), ("java/util/NoSuchElementException", "java/lang/ArithmeticException"), ("java/lang/ArithmeticException", "java/lang/IndexOutOfBoundsException"), ("java/lang/ArithmeticException", "java/lang/IllegalArgumentException"), ("java/lang/ArithmeticException", "java/lang/IllegalStateException"), ("java/lang/ArithmeticException", "java/lang/UnsupportedOperationException"), ("java/lang/ArithmeticException", "java/util/NoSuchElementException")]
theorem XN.same {u U : State} (e : u.vm = U.vm) (h : XN u) : XN U := ⟨fun w hw => va_Nw.same (xnL_tables w hw) e (h.1 w hw), fun z hz => (h.2 z hz).elim (fun sa hs => ⟨sa, vk_R.same e.symm hs⟩)⟩
def ENV (E : EK) (A : Nat → Prop) (U : State) (H : Heap) : Prop :=
  NW U ∧ XN U ∧ ((∀ q ∈ ncL, va_Nc q.1 q.2 U) ∧ JW U) ∧ AO U ∧ XZ A U H ∧ KC E.1 E.2.1 E.2.2.1 E.2.2.2.1 E.2.2.2.2.1 A U H ∧ KJ (kjs E) (kjv E) (kja E) (kgf E) A U H
theorem ENV.kept {E : EK} {A : Nat → Prop} {U : State} {H H1 : Heap} (h : ENV E A U H) (hq : ∀ a : Nat, a < H.size → ¬ A a → H1[a]? = H[a]?) : ENV E A U H1 := ⟨h.1, h.2.1, h.2.2.1, h.2.2.2.1, h.2.2.2.2.1.kept hq, h.2.2.2.2.2.1.kept hq, h.2.2.2.2.2.2.kept hq⟩
theorem ENV.narrow {E : EK} {A B : Nat → Prop} {U : State} {H : Heap} (h : ENV E A U H) (hAB : ∀ q, B q → A q) : ENV E B U H := ⟨h.1, h.2.1, h.2.2.1, h.2.2.2.1, h.2.2.2.2.1.narrow hAB, h.2.2.2.2.2.1.narrow hAB, h.2.2.2.2.2.2.narrow hAB⟩
theorem ENV.warm {E : EK} {A : Nat → Prop} {u U : State} {H : Heap} (hW : u.WarmedH U.vm) (h : ENV E A u H) : ENV E A U H := ⟨NW.warm hW h.1, XN.warm hW h.2.1, ⟨fun z hz => va_Nc.moved hW.alike (h.2.2.1.1 z hz), JW.moved hW.alike (va_Nw.warmC hW h.2.2.1.2.1) h.2.2.1.2⟩, AO.moved hW.alike h.2.2.2.1, h.2.2.2.2.1.moved hW.alike, h.2.2.2.2.2.1.warm hW, h.2.2.2.2.2.2.warm hW⟩
theorem ENV.same {E : EK} {A : Nat → Prop} {u U : State} {H : Heap} (hv : U.vm = u.vm) (h : ENV E A u H) : ENV E A U H := by
  have hvm : u.vm.Alike U.vm := by rw [hv]; exact Vm.Alike.refl _
  exact ⟨NW.same hv.symm h.1, XN.same hv.symm h.2.1, ⟨fun z hz => va_Nc.moved hvm (h.2.2.1.1 z hz), JW.moved hvm (va_Nw.same rfl hv.symm h.2.2.1.2.1) h.2.2.1.2⟩, AO.moved hvm h.2.2.2.1, h.2.2.2.2.1.moved hvm, h.2.2.2.2.2.1.same hv, h.2.2.2.2.2.2.same hv⟩
/-- a start: arguments, world, all that is read -/
def TPc (E : EK) (D : va_G) (k : Nat → ClassId) (av : List Value) (ws : va_W) (sz : Nat) : Array Value → State → Prop := va_Pc av (fun U => U.heap.size = sz ∧ va_P D vwCl ws U.heap ∧ va_K D vwCl (tyL k) U ∧ va_D (fun _ => True) ws ∧ ENV E (va_A ws sz) U U.heap)
theorem TPc.blind {E : EK} {D : va_G} {k : Nat → ClassId} {av : List Value} {ws : va_W} {sz : Nat} : FrameBlind (TPc E D k av ws sz) := fun a U g mk q => ⟨q.1, q.2.1, q.2.2.1, va_K.moved (u := U) (U := U.calling g mk a) (Vm.Alike.refl U.vm) q.2.2.2.1, q.2.2.2.2.1, ENV.same (u := U) (U := U.calling g mk a) rfl q.2.2.2.2.2⟩
/-- the world behind -/
abbrev TB {S : Type} (D : va_G) (k : Nat → ClassId) (A : Nat → Prop) (w1 : S → va_W) : S → State → Prop := fun u t => va_P D vwCl (w1 u) t.heap ∧ va_K D vwCl (tyL k) t ∧ va_D A (w1 u)
section TROWS
variable {p : Program} {l : Launch} {e : Env} {R : Room} {s : State} {m : MethodId} {args : Array Value} {below : List Frame} {meth : Method} {c : Code} {H H0 : Heap} {locs : List Loc} {cells slots : Nat} {Q : State → Prop}
variable {cc : ByteArray} {pc : Nat} {ls : Array Slot} {rest As : List Value} {E : EK} {D : va_G} {k : Nat → ClassId} {A : Nat → Prop} {ws wc : va_W} {b : Addr} {C : String}
theorem tFree (hD : va_D A ws) (hS : va_S A H0 H locs) (hA : ∀ q, H0.size ≤ q → A q) : ∀ q, va_A ws H.size q → A q := by
  intro q h
  rcases h with ⟨k, e, h⟩ | h
  · exact hD.2 k (q, e) h
  · exact hA q (Nat.le_trans hS.1 h)
theorem tPreS (hK : va_K D vwCl (tyL k) s) (hE : ENV E A s s.heap) (hS : va_S A s.heap H locs) (hA : ∀ q : Nat, s.heap.size ≤ q → A q) (hP : va_P D vwCl ws H) (hD : va_D A ws) : PreS s H (TPc E D k As ws H.size) As :=
  ⟨TPc.blind, fun U hU hW => ⟨rfl, by rw [hU], by rw [hU]; exact hP, va_K.moved hW.alike hK, hD.weaken (fun _ _ _ _ => trivial), by rw [hU]; exact ((hE.kept hS.2.1).warm hW).narrow (tFree hD hS hA)⟩⟩
theorem tPreV (hr : ∃ cell : Cell, H[b]? = some cell ∧ cell.vm.isStatics = false ∧ s.vm.findClass C = some cell.cls) (hK : va_K D vwCl (tyL k) s) (hE : ENV E A s s.heap) (hS : va_S A s.heap H locs) (hA : ∀ q : Nat, s.heap.size ≤ q → A q) (hP : va_P D vwCl ws H) (hD : va_D A ws) : PreV s H C b (TPc E D k (.ref b :: As) ws H.size) As :=
  ⟨TPc.blind, hr, fun U hU hW => ⟨rfl, by rw [hU], by rw [hU]; exact hP, va_K.moved hW.alike hK, hD.weaken (fun _ _ _ _ => trivial), by rw [hU]; exact ((hE.kept hS.2.1).warm hW).narrow (tFree hD hS hA)⟩⟩
end TROWS
/-- a contract over this start, by the walk of its body -/
theorem tMet {l : Launch} {E : EK} {D : va_G} {k : Nat → ClassId} {ws : va_W} {ws' ws9 : List Cond} {y : MethodName} {rm : Room} {cc : ByteArray} {maxL : Nat} {ret : Option FieldType} {Qc : (Nat → Prop) → Array Value → State → Outcome → State → Prop} {mc ms sz : Nat} (av : List Value) (hy : plainName y.cls = true) (hw : ws9 = Cond.code y cc maxL ret :: ws') (hlen : (lg_sl av).length ≤ maxL)
    (body : ∀ (p : Program) (e : Env) (s : State) (m : MethodId) (below : List Frame) (meth : Method) (c : Code) (ls : Array Slot) (A : Nat → Prop) (H : Heap), CallFix p m c cc maxL s av.toArray ws9 y.cls → meth.sig.returnType = ret → meth.locks = false → va_P D vwCl ws H → va_K D vwCl (tyL k) s → ENV E A s s.heap → va_D A ws → (∀ q : Nat, s.heap.size ≤ q → A q) → va_S A s.heap H [] → lv_has ls maxL (lv_args 0 av) → (y.name = "<init>" → meth.name = "<init>") → W p l e rm s m av.toArray below meth c H [] 0 0 (MQ below (Qc A) av.toArray s mc ms A) (F0 m 0 ls [])) : Met l y ws9 rm (TPc E D k av ws sz) (Qc (va_A ws sz)) mc ms (va_A ws sz) := by
  refine Met.ofW (cc := cc) (maxL := maxL) (ret := ret) hy hw ?_
  intro p e s m args below meth c s₁ B hml hv
  obtain ⟨rfl, hsz, hP, hK, hD0, hE⟩ := hv
  have hts := atoms_spec (ws := ws9) B.pre
  have hown : s.vm.findClass y.cls = some m.cls := findClass_of_methodNamed B.named
  have hl := lv_entry av (n := maxL) hlen
  rw [lg_entry_eq]
  subst hsz
  exact body p e s m below meth c _ _ _ ⟨B.exec, B.bytes, hml, hown, hts⟩ B.returns B.notSynchronized hP hK hE (hD0.self) (fun q h => Or.inr h) va_S.rf hl (fun hi => by rw [← hi]; exact (name_of_methodNamed B.named B.method).1)
/-- the same for a method with an exception table -/
theorem tMetH {l : Launch} {E : EK} {D : va_G} {k : Nat → ClassId} {ws : va_W} {ws' ws9 : List Cond} {y : MethodName} {rm : Room} {cc : ByteArray} {maxL : Nat} {ret : Option FieldType} {hh : List (Nat × Nat × Nat × Nat)} {Qc : (Nat → Prop) → Array Value → State → Outcome → State → Prop} {mc ms sz : Nat} (av : List Value) (hy : plainName y.cls = true) (hw : ws9 = Cond.codeWith y cc maxL ret hh :: ws') (hlen : (lg_sl av).length ≤ maxL)
    (body : ∀ (p : Program) (e : Env) (s : State) (m : MethodId) (below : List Frame) (meth : Method) (c : Code) (ls : Array Slot) (A : Nat → Prop) (H : Heap), CallFix p m c cc maxL s av.toArray ws9 y.cls → meth.sig.returnType = ret → meth.locks = false → c.exceptionTable.toList = tableOf hh → va_P D vwCl ws H → va_K D vwCl (tyL k) s → ENV E A s s.heap → va_D A ws → (∀ q : Nat, s.heap.size ≤ q → A q) → va_S A s.heap H [] → lv_has ls maxL (lv_args 0 av) → W p l e rm s m av.toArray below meth c H [] 0 0 (MQ below (Qc A) av.toArray s mc ms A) (F0 m 0 ls [])) : Met l y ws9 rm (TPc E D k av ws sz) (Qc (va_A ws sz)) mc ms (va_A ws sz) := by
  refine MetFree.of_bodyS (code := cc) (maxLocals := maxL) (ret := ret) hy ?_ ?_
  · intro args s m h hn
    obtain ⟨m9, meth, c, hn9, h1, h2, h3, h4, -, h5, h6, -⟩ := Cond.codeWith_spec (atoms_spec (ws := ws9) h _ (by rw [hw]; exact List.mem_cons_self))
    cases hn.symm.trans hn9
    exact ⟨meth, c, h1, h2, h3, h4, h5, h6⟩
  · intro p e s m args below meth c s₁ B hml hv _
    have hh0 : s₁.heap = s.heap := by rw [B.state]; rfl
    have hts := atoms_spec (ws := ws9) B.pre
    have htab := vx_table (x := y) B (hts _ (by rw [hw]; exact List.mem_cons_self))
    obtain ⟨rfl, hsz, hP, hK, hD0, hE⟩ := hv
    have hown : s.vm.findClass y.cls = some m.cls := findClass_of_methodNamed B.named
    have hl := lv_entry av (n := maxL) hlen
    subst hsz
    have hW := body p e s m below meth c _ _ s.heap ⟨B.exec, B.bytes, hml, hown, hts⟩ B.returns B.notSynchronized htab hP hK hE (hD0.self) (fun q h => Or.inr h) va_S.rf hl
    rw [← lg_entry_eq] at hW
    obtain ⟨t, a1, o, b1, b2, b3⟩ := hW s₁ hh0 (Stand.of_body B)
    exact ⟨t, o, a1, b1, b2, ⟨b3.1, b3.2⟩⟩
/-! What stands beside a contract's world. -/
theorem vP_all {D : va_G} {cl : List vw_C} {ws : va_W} {H : Heap} (h : ∀ q, q ∈ ws → va_at D cl q H) : va_P D cl ws H := fun _ _ hk => h _ (List.mem_of_getElem? hk)
theorem vA_mem {ws : va_W} {sz : Nat} {q : Nat × va_E} (h : q ∈ ws) : va_A ws sz q.1 := by
  obtain ⟨k, hk⟩ := List.mem_iff_getElem?.mp h
  exact Or.inl ⟨k, q.2, hk⟩
theorem vA_iff {ws : va_W} {sz q : Nat} : va_A ws sz q ↔ (∃ x, x ∈ ws ∧ x.1 = q) ∨ sz ≤ q := by
  constructor
  · rintro (⟨k, e, h⟩ | h)
    · exact Or.inl ⟨(q, e), List.mem_of_getElem? h, rfl⟩
    · exact Or.inr h
  · rintro (⟨x, h, rfl⟩ | h)
    · exact vA_mem h
    · exact Or.inr h
theorem vA_app {wa wr : va_W} {sz q : Nat} (h : va_A wa sz q) : va_A (wa ++ wr) sz q := by
  rcases vA_iff.mp h with ⟨x, hx, e⟩ | h
  · exact vA_iff.mpr (Or.inl ⟨x, List.mem_append_left _ hx, e⟩)
  · exact Or.inr h
theorem vD_apart {A : Nat → Prop} {wa wr : va_W} (h : va_D A (wa ++ wr)) {x y : Nat × va_E} (hx : x ∈ wa) (hy : y ∈ wr) : x.1 ≠ y.1 := by
  have h1 := vD_nd h
  rw [List.map_append] at h1
  exact fun e => (List.nodup_append.mp h1).2.2 _ (List.mem_map_of_mem hx) _ (List.mem_map_of_mem hy) e
theorem vD_left {A : Nat → Prop} {wa wr : va_W} (h : va_D A (wa ++ wr)) : va_D A wa := by
  have h1 := vD_nd h
  rw [List.map_append] at h1
  exact vD_of (List.nodup_append.mp h1).1 (fun q hq => vD_mem h (List.mem_append_left _ hq))
theorem fr_B {S : Type} {D : va_G} {k : Nat → ClassId} {wa wr : va_W} {w1 : S → va_W} {sz : Nat} {s t : State} {u : S} (hP : va_P D vwCl (wa ++ wr) s.heap) (hD : va_D (fun _ => True) (wa ++ wr)) (hsz : s.heap.size = sz) (hB : TB D k (va_A wa sz) w1 u t) (hF : va_F (va_A wa sz) s t) : TB D k (va_A (wa ++ wr) sz) (fun u => w1 u ++ wr) u t := by
  obtain ⟨b1, b2, b3⟩ := hB
  have hwr : ∀ q, q ∈ wr → q.1 < sz ∧ ¬ va_A wa sz q.1 := by
    intro q hq
    obtain ⟨i, hi⟩ := List.mem_iff_getElem?.mp (List.mem_append_right wa hq)
    have hl := (hP i q hi).lt
    refine ⟨by omega, fun h => ?_⟩
    rcases vA_iff.mp h with ⟨x, hx, e⟩ | h
    · exact vD_apart hD hx hq e
    · omega
  refine ⟨vP_all (fun q hq => ?_), b2, vD_of ?_ (fun q hq => ?_)⟩
  · rcases List.mem_append.mp hq with h | h
    · exact vP_mem b1 h
    · have h1 := vP_mem hP (List.mem_append_right wa h)
      obtain ⟨g1, g2⟩ := hwr q h
      exact h1.kept (hF.2 q.1 (by omega) g2)
  · rw [List.map_append]
    have hn := vD_nd hD
    rw [List.map_append] at hn
    refine List.nodup_append.mpr ⟨vD_nd b3, (List.nodup_append.mp hn).2.1, fun a ha b hb e => ?_⟩
    obtain ⟨x, hx, rfl⟩ := List.mem_map.mp ha
    obtain ⟨y, hy, rfl⟩ := List.mem_map.mp hb
    exact (hwr y hy).2 (by rw [← e]; exact vD_mem b3 hx)
  · rcases List.mem_append.mp hq with h | h
    · exact vA_app (vD_mem b3 h)
    · exact vA_mem (List.mem_append_right _ h)
theorem fr_F {wa wr : va_W} {sz : Nat} {s t : State} (h : va_F (va_A wa sz) s t) : va_F (va_A (wa ++ wr) sz) s t := ⟨h.1, fun q h1 h2 => h.2 q h1 (fun h3 => h2 (vA_app h3))⟩
theorem TPc.left {E : EK} {D : va_G} {k : Nat → ClassId} {av : List Value} {wa wr : va_W} {sz : Nat} {a : Array Value} {s : State} (h : TPc E D k av (wa ++ wr) sz a s) : TPc E D k av wa sz a s := ⟨h.1, h.2.1, vP_all (fun q hq => vP_mem h.2.2.1 (List.mem_append_left _ hq)), h.2.2.2.1, vD_left h.2.2.2.2.1, h.2.2.2.2.2.narrow (fun _ hq => vA_app hq)⟩
section FRAMES
variable {l : Launch} {y : MethodName} {wl : List Cond} {rm : Room} {E : EK} {D : va_G} {k : Nat → ClassId} {av : List Value} {wa : va_W} {sz mc ms : Nat} {S : Type} {w1 : S → va_W}
theorem fr_i {post : Int32 → S → Prop} (wr : va_W) (h : Met l y wl rm (TPc E D k av wa sz) (va_Qi post (TB D k (va_A wa sz) w1) (va_A wa sz)) mc ms (va_A wa sz)) : Met l y wl rm (TPc E D k av (wa ++ wr) sz) (va_Qi post (TB D k (va_A (wa ++ wr) sz) (fun u => w1 u ++ wr)) (va_A (wa ++ wr) sz)) mc ms (va_A (wa ++ wr) sz) :=
  met_cons h ⟨Nat.le_refl _, Nat.le_refl _, Nat.le_refl _, Nat.le_refl _⟩ (Nat.le_refl _) (Nat.le_refl _) (fun _ _ hp => hp.left) (fun _ _ _ _ hp ⟨⟨r, u, h1, h2, h3⟩, h4⟩ => ⟨⟨r, u, h1, h2, fr_B hp.2.2.1 hp.2.2.2.2.1 hp.2.1 h3 h4⟩, fr_F h4⟩) (fun _ hq => vA_app hq)
theorem fr_l {post : Int64 → S → Prop} (wr : va_W) (h : Met l y wl rm (TPc E D k av wa sz) (va_Ql post (TB D k (va_A wa sz) w1) (va_A wa sz)) mc ms (va_A wa sz)) : Met l y wl rm (TPc E D k av (wa ++ wr) sz) (va_Ql post (TB D k (va_A (wa ++ wr) sz) (fun u => w1 u ++ wr)) (va_A (wa ++ wr) sz)) mc ms (va_A (wa ++ wr) sz) :=
  met_cons h ⟨Nat.le_refl _, Nat.le_refl _, Nat.le_refl _, Nat.le_refl _⟩ (Nat.le_refl _) (Nat.le_refl _) (fun _ _ hp => hp.left) (fun _ _ _ _ hp ⟨⟨r, u, h1, h2, h3⟩, h4⟩ => ⟨⟨r, u, h1, h2, fr_B hp.2.2.1 hp.2.2.2.2.1 hp.2.1 h3 h4⟩, fr_F h4⟩) (fun _ hq => vA_app hq)
theorem fr_f {post : UInt32 → S → Prop} (wr : va_W) (h : Met l y wl rm (TPc E D k av wa sz) (va_Qf post (TB D k (va_A wa sz) w1) (va_A wa sz)) mc ms (va_A wa sz)) : Met l y wl rm (TPc E D k av (wa ++ wr) sz) (va_Qf post (TB D k (va_A (wa ++ wr) sz) (fun u => w1 u ++ wr)) (va_A (wa ++ wr) sz)) mc ms (va_A (wa ++ wr) sz) :=
  met_cons h ⟨Nat.le_refl _, Nat.le_refl _, Nat.le_refl _, Nat.le_refl _⟩ (Nat.le_refl _) (Nat.le_refl _) (fun _ _ hp => hp.left) (fun _ _ _ _ hp ⟨⟨r, u, h1, h2, h3⟩, h4⟩ => ⟨⟨r, u, h1, h2, fr_B hp.2.2.1 hp.2.2.2.2.1 hp.2.1 h3 h4⟩, fr_F h4⟩) (fun _ hq => vA_app hq)
theorem fr_d {post : UInt64 → S → Prop} (wr : va_W) (h : Met l y wl rm (TPc E D k av wa sz) (va_Qd post (TB D k (va_A wa sz) w1) (va_A wa sz)) mc ms (va_A wa sz)) : Met l y wl rm (TPc E D k av (wa ++ wr) sz) (va_Qd post (TB D k (va_A (wa ++ wr) sz) (fun u => w1 u ++ wr)) (va_A (wa ++ wr) sz)) mc ms (va_A (wa ++ wr) sz) :=
  met_cons h ⟨Nat.le_refl _, Nat.le_refl _, Nat.le_refl _, Nat.le_refl _⟩ (Nat.le_refl _) (Nat.le_refl _) (fun _ _ hp => hp.left) (fun _ _ _ _ hp ⟨⟨r, u, h1, h2, h3⟩, h4⟩ => ⟨⟨r, u, h1, h2, fr_B hp.2.2.1 hp.2.2.2.2.1 hp.2.1 h3 h4⟩, fr_F h4⟩) (fun _ hq => vA_app hq)
theorem fr_q {post : Option Nat → S → Prop} (wr : va_W) (h : Met l y wl rm (TPc E D k av wa sz) (va_Qq post (TB D k (va_A wa sz) w1) (va_A wa sz)) mc ms (va_A wa sz)) : Met l y wl rm (TPc E D k av (wa ++ wr) sz) (va_Qq post (TB D k (va_A (wa ++ wr) sz) (fun u => w1 u ++ wr)) (va_A (wa ++ wr) sz)) mc ms (va_A (wa ++ wr) sz) :=
  met_cons h ⟨Nat.le_refl _, Nat.le_refl _, Nat.le_refl _, Nat.le_refl _⟩ (Nat.le_refl _) (Nat.le_refl _) (fun _ _ hp => hp.left) (fun _ _ _ _ hp ⟨⟨r, u, h1, h2, h3⟩, h4⟩ => ⟨⟨r, u, h1, h2, fr_B hp.2.2.1 hp.2.2.2.2.1 hp.2.1 h3 h4⟩, fr_F h4⟩) (fun _ hq => vA_app hq)
theorem fr_v {post : S → Prop} (wr : va_W) (h : Met l y wl rm (TPc E D k av wa sz) (va_Qv post (TB D k (va_A wa sz) w1) (va_A wa sz)) mc ms (va_A wa sz)) : Met l y wl rm (TPc E D k av (wa ++ wr) sz) (va_Qv post (TB D k (va_A (wa ++ wr) sz) (fun u => w1 u ++ wr)) (va_A (wa ++ wr) sz)) mc ms (va_A (wa ++ wr) sz) :=
  met_cons h ⟨Nat.le_refl _, Nat.le_refl _, Nat.le_refl _, Nat.le_refl _⟩ (Nat.le_refl _) (Nat.le_refl _) (fun _ _ hp => hp.left) (fun _ _ _ _ hp ⟨⟨u, h1, h2, h3⟩, h4⟩ => ⟨⟨u, h1, h2, fr_B hp.2.2.1 hp.2.2.2.2.1 hp.2.1 h3 h4⟩, fr_F h4⟩) (fun _ hq => vA_app hq)
end FRAMES
/-! The order of a world's pieces. -/
theorem pm0 (a r : va_W) : (a ++ r).Perm (a ++ r) := List.Perm.refl _
theorem pmS {r b r' : va_W} (a : va_W) (h : r.Perm (b ++ r')) : (a ++ r).Perm (b ++ (a ++ r')) := by
  refine (List.Perm.append_left a h).trans ?_
  rw [← List.append_assoc, ← List.append_assoc]
  exact List.Perm.append_right _ List.perm_append_comm
theorem pmE (a : va_W) : a.Perm (a ++ []) := by rw [List.append_nil]
/-- a new cell comes first -/
theorem pmN (ws : va_W) (x : Nat × va_E) : (ws ++ [x]).Perm ([x] ++ ws) := List.perm_append_comm

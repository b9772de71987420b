/-! The words of this proof: worlds, contracts that only read (RPc, EI ..), contracts that write (WPc, WI ..), their calls. -/
/-- the array classes that the worlds name, by their places -/
abbrev tyL (k : Nat → ClassId) : List (ClassId × FieldType) := [(k 0, .int), (k 1, .char), (k 2, .float), (k 3, .long), (k 4, .array .long), (k 5, .array .int), (k 6, .object "OpinionReactor$State"), (k 7, .object "OpinionReactor$Form"), (k 8, .byte)]
/-- the tables' words of private members of other classes of the nest -/
def nwL : List Cond := [.methodLinkNest RX5 46 yX12_contains RX12, .methodLinkNest RX1 32 yX12_bit RX12, .methodLinkNest RX1 50 yX12_contains RX12, .methodLinkNest RX5 38 yX12_bit RX12, .methodLinkNest RX9 34 yX12_bit RX12, .methodLinkNest RX4 21 yX12_contains RX12, .methodLinkNest RX4 33 yX12_bit RX12, .methodLinkNest RX3 34 yX12_contains RX12, .methodLinkNest RX5 50 yX12_isLayer RX12, .methodLinkNest RX10 18 yX12_isLayer RX12, .methodLinkNest RX10 26 yX12_isSlot RX12, .methodLinkNest RX11 75 yX12_capped RX12, .methodLinkNest RX11 107 yX12_contains RX12, .fieldLinkNest RX6 43 RX7 "ALL" "[LOpinionReactor$Form;" RX12]
def NW (U : State) : Prop := ∀ w ∈ nwL, va_Nw w U
theorem nwL_tables : ∀ w ∈ nwL, w.onTables = true := by
  intro w hw
  simp only [nwL, List.mem_cons, List.not_mem_nil, or_false] at hw
  rcases hw with h | h | h | h | h | h | h | h | h | h | h | h | h | h <;> rw [h] <;> rfl
theorem NW.same {u U : State} (e : u.vm = U.vm) (h : NW u) : NW U := fun w hw => va_Nw.same (nwL_tables w hw) e (h w hw)
theorem NW.warm {s U : State} (hW : s.WarmedH U.vm) (h : NW s) : NW U := by
  intro w hw
  have hz := h w hw
  simp only [nwL, List.mem_cons, List.not_mem_nil, or_false] at hw
  rcases hw with h | h | h | h | h | h | h | h | h | h | h | h | h | h <;> subst h <;> first | exact va_Nw.warmM hW hz | exact va_Nw.warmF hW hz
/-- a method's start: its arguments, its world -/
def RPc (D : va_G) (k : Nat → ClassId) (av : List Value) (ws : va_W) : Array Value → State → Prop := va_Pc av (fun U => va_P D vwCl ws U.heap ∧ va_K D vwCl (tyL k) U ∧ NW U)
theorem RPc.blind {D : va_G} {k : Nat → ClassId} {av : List Value} {ws : va_W} : FrameBlind (RPc D k av ws) := fun a U g mk q => ⟨q.1, q.2.1, va_K.moved (u := U) (U := U.calling g mk a) (Vm.Alike.refl U.vm) q.2.2.1, NW.same (u := U) (U := U.calling g mk a) rfl q.2.2.2⟩
def WPc (D : va_G) (k : Nat → ClassId) (av : List Value) (ws : va_W) (sz : Nat) : Array Value → State → Prop := va_Pc av (fun U => U.heap.size = sz ∧ va_P D vwCl ws U.heap ∧ va_K D vwCl (tyL k) U ∧ NW U ∧ va_D (fun _ => True) ws)
theorem WPc.blind {D : va_G} {k : Nat → ClassId} {av : List Value} {ws : va_W} {sz : Nat} : FrameBlind (WPc D k av ws sz) := fun a U g mk q => ⟨q.1, q.2.1, q.2.2.1, va_K.moved (u := U) (U := U.calling g mk a) (Vm.Alike.refl U.vm) q.2.2.2.1, NW.same (u := U) (U := U.calling g mk a) rfl q.2.2.2.2.1, q.2.2.2.2.2⟩
/-- ends of methods that only read: the answer is this number, the heap is as it was -/
abbrev EI (x : Int32) : Array Value → State → Outcome → State → Prop := vp_Si (fun r => r = x)
abbrev EL (x : Int64) : Array Value → State → Outcome → State → Prop := vp_Sl (fun r => r = x)
abbrev EF (x : UInt32) : Array Value → State → Outcome → State → Prop := vp_Sf (fun r => r = x)
abbrev ED (x : UInt64) : Array Value → State → Outcome → State → Prop := vp_Sd (fun r => r = x)
abbrev noA : Addr → Prop := fun _ => False
/-- the world behind a method that writes -/
abbrev WB (D : va_G) (k : Nat → ClassId) (A : Nat → Prop) (ws : va_W) : Unit → State → Prop := fun _ t => va_P D vwCl ws t.heap ∧ va_K D vwCl (tyL k) t ∧ va_D A ws
abbrev WI (D : va_G) (k : Nat → ClassId) (wc' : va_W) (x : Int32) (A : Nat → Prop) : Array Value → State → Outcome → State → Prop := va_Qi (fun r (_ : Unit) => r = x) (WB D k A wc') A
abbrev WF (D : va_G) (k : Nat → ClassId) (wc' : va_W) (x : UInt32) (A : Nat → Prop) : Array Value → State → Outcome → State → Prop := va_Qf (fun r (_ : Unit) => r = x) (WB D k A wc') A
abbrev WL (D : va_G) (k : Nat → ClassId) (wc' : va_W) (x : Int64) (A : Nat → Prop) : Array Value → State → Outcome → State → Prop := va_Ql (fun r (_ : Unit) => r = x) (WB D k A wc') A
abbrev WV (D : va_G) (k : Nat → ClassId) (wc' : va_W) (A : Nat → Prop) : Array Value → State → Outcome → State → Prop := va_Qv (fun (_ : Unit) => True) (WB D k A wc') A
section BASE
variable {p : Program} {l : Launch} {e : Env} {R : Room} {s : State} {m : MethodId} {args : Array Value} {below : List Frame} {meth : Method} {c : Code} {H H0 : Heap} {locs : List Loc} {cells slots : Nat} {Q : State → Prop}
variable {cc : ByteArray} {pc : Nat} {ls : Array Slot} {rest st0 As : List Value} {D : va_G} {k : Nat → ClassId} {A : Nat → Prop} {ws wc wc' wr wf : va_W} {Ts ws' ws9 : List Cond} {own C : String} {y : MethodName} {rm : Room} {bytes : ByteArray} {maxL nL n index : Nat} {ret : Option FieldType} {b : Addr}
/-- what a call of a virtual method that only reads wants -/
theorem rPreV (hK : va_K D vwCl (tyL k) s) (hN : NW s) (hP : va_P D vwCl ws H) (is : List Nat) (hs : is.filterMap (fun i => ws[i]?) = wc) (i0 ci : Nat) {fs : List Value} (he : ws[i0]? = some (b, .inr (ci, fs))) {r : vw_C} (hc : vwCl[ci]? = some r) : PreV s H r.1 b (RPc D k (.ref b :: As) wc) As :=
  ⟨RPc.blind, va_recv hK hP hc he, fun U hU hW => ⟨rfl, by rw [hU]; exact hP.sub is hs, va_K.moved hW.alike hK, NW.warm hW hN⟩⟩
theorem rPreS (hK : va_K D vwCl (tyL k) s) (hN : NW s) (hP : va_P D vwCl ws H) (is : List Nat) (hs : is.filterMap (fun i => ws[i]?) = wc) : PreS s H (RPc D k As wc) As :=
  ⟨RPc.blind, fun U hU hW => ⟨rfl, by rw [hU]; exact hP.sub is hs, va_K.moved hW.alike hK, NW.warm hW hN⟩⟩
theorem wPreV (hK : va_K D vwCl (tyL k) s) (hN : NW s) (hP : va_P D vwCl ws H) (hD : va_D A ws) (is : List Nat) (hs : is.filterMap (fun i => ws[i]?) = wc) (hnd : va_nd is = true) (hs2 : is.map (fun i => ws[i]?) = wc.map some) (i0 ci : Nat) {fs : List Value} (he : ws[i0]? = some (b, .inr (ci, fs))) {r : vw_C} (hc : vwCl[ci]? = some r) : PreV s H r.1 b (WPc D k (.ref b :: As) wc H.size) As :=
  ⟨WPc.blind, va_recv hK hP hc he, fun U hU hW => ⟨rfl, by rw [hU], by rw [hU]; exact hP.sub is hs, va_K.moved hW.alike hK, NW.warm hW hN, (hD.sub is hnd hs2).weaken (fun _ _ _ _ => trivial)⟩⟩
theorem wPreS (hK : va_K D vwCl (tyL k) s) (hN : NW s) (hP : va_P D vwCl ws H) (hD : va_D A ws) (is : List Nat) (hs : is.filterMap (fun i => ws[i]?) = wc) (hnd : va_nd is = true) (hs2 : is.map (fun i => ws[i]?) = wc.map some) : PreS s H (WPc D k As wc H.size) As :=
  ⟨WPc.blind, fun U hU hW => ⟨rfl, by rw [hU], by rw [hU]; exact hP.sub is hs, va_K.moved hW.alike hK, NW.warm hW hN, (hD.sub is hnd hs2).weaken (fun _ _ _ _ => trivial)⟩⟩
/-- reads of arrays at a place that is a plain number -/
theorem ia_ld {a : Nat} (hexec : p.tables.exec = Jvm.exec) (hb : c.code = cc) (hK : va_K D vwCl (tyL k) s) (hP : va_P D vwCl ws H) (q0 : Nat) {n : Nat} {f : Nat → Int32} (ha : ws[q0]? = some (a, .inl (k 0, n, .inl f))) (j : Nat) (hj : j < n) (hn : n < 2 ^ 31) (hdg : decode cc pc = .ok (.iaload, 1)) (kk : W p l e R s m args below meth c H locs cells slots Q (F0 m (pc + 1) ls (.int (f j) :: rest))) : W p l e R s m args below meth c H locs cells slots Q (F0 m pc ls (.int (nI j) :: .ref a :: rest)) := by
  refine va_iald hexec hb hK hP q0 0 ha rfl (vp_in_nI hj hn) hdg ?_
  rw [nI_clamp (Nat.lt_trans hj hn)]
  exact kk
theorem ca_ld {a : Nat} (hexec : p.tables.exec = Jvm.exec) (hb : c.code = cc) (hK : va_K D vwCl (tyL k) s) (hP : va_P D vwCl ws H) (q0 : Nat) {n : Nat} {f : Nat → Int32} (ha : ws[q0]? = some (a, .inl (k 1, n, .inl f))) (j : Nat) (hj : j < n) (hn : n < 2 ^ 31) (hdg : decode cc pc = .ok (.caload, 1)) (kk : W p l e R s m args below meth c H locs cells slots Q (F0 m (pc + 1) ls (.int (f j) :: rest))) : W p l e R s m args below meth c H locs cells slots Q (F0 m pc ls (.int (nI j) :: .ref a :: rest)) := by
  refine va_cald hexec hb hK hP q0 1 ha rfl (vp_in_nI hj hn) hdg ?_
  rw [nI_clamp (Nat.lt_trans hj hn)]
  exact kk
theorem fa_ld {a : Nat} (hexec : p.tables.exec = Jvm.exec) (hb : c.code = cc) (hK : va_K D vwCl (tyL k) s) (hP : va_P D vwCl ws H) (q0 : Nat) {n : Nat} {f : Nat → UInt32} (ha : ws[q0]? = some (a, .inl (k 2, n, .inr (.inr (.inl f))))) (j : Nat) (hj : j < n) (hn : n < 2 ^ 31) (hdg : decode cc pc = .ok (.faload, 1)) (kk : W p l e R s m args below meth c H locs cells slots Q (F0 m (pc + 1) ls (.float (f j) :: rest))) : W p l e R s m args below meth c H locs cells slots Q (F0 m pc ls (.int (nI j) :: .ref a :: rest)) := by
  refine va_fald hexec hb hK hP q0 2 ha rfl (vp_in_nI hj hn) hdg ?_
  rw [nI_clamp (Nat.lt_trans hj hn)]
  exact kk
theorem la_ld {a : Nat} (hexec : p.tables.exec = Jvm.exec) (hb : c.code = cc) (hK : va_K D vwCl (tyL k) s) (hP : va_P D vwCl ws H) (q0 : Nat) {n : Nat} {f : Nat → Int64} (ha : ws[q0]? = some (a, .inl (k 3, n, .inr (.inl f)))) (j : Nat) (hj : j < n) (hn : n < 2 ^ 31) (hdg : decode cc pc = .ok (.laload, 1)) (kk : W p l e R s m args below meth c H locs cells slots Q (F0 m (pc + 1) ls (.long (f j) :: rest))) : W p l e R s m args below meth c H locs cells slots Q (F0 m pc ls (.int (nI j) :: .ref a :: rest)) := by
  refine va_lald hexec hb hK hP q0 3 ha rfl (vp_in_nI hj hn) hdg ?_
  rw [nI_clamp (Nat.lt_trans hj hn)]
  exact kk
/-- stores likewise -/
theorem ia_st {a : Nat} (hexec : p.tables.exec = Jvm.exec) (hb : c.code = cc) (hK : va_K D vwCl (tyL k) s) (hP : va_P D vwCl ws H) (hD : va_D A ws) (hS : va_S A H0 H locs) (q0 : Nat) {n : Nat} {f : Nat → Int32} (ha : ws[q0]? = some (a, .inl (k 0, n, .inl f))) (j : Nat) {x : Int32} (hj : j < n) (hn : n < 2 ^ 31) (wf : va_W) (hf : ws.set q0 (a, .inl (k 0, n, .inl (upd f j x))) = wf) (hdg : decode cc pc = .ok (.iastore, 1)) (kk : ∀ (H1 : Heap) (locs1 : List Loc), va_P D vwCl wf H1 → va_D A wf → va_S A H0 H1 locs1 → W p l e R s m args below meth c H1 locs1 cells slots Q (F0 m (pc + 1) ls rest)) : W p l e R s m args below meth c H locs cells slots Q (F0 m pc ls (.int x :: .int (nI j) :: .ref a :: rest)) := by
  refine va_iast hexec hb hK hP hD hS q0 0 ha rfl (vp_in_nI hj hn) hdg ?_
  rw [nI_clamp (Nat.lt_trans hj hn), hf]
  exact kk
theorem ca_st {a : Nat} (hexec : p.tables.exec = Jvm.exec) (hb : c.code = cc) (hK : va_K D vwCl (tyL k) s) (hP : va_P D vwCl ws H) (hD : va_D A ws) (hS : va_S A H0 H locs) (q0 : Nat) {n : Nat} {f : Nat → Int32} (ha : ws[q0]? = some (a, .inl (k 1, n, .inl f))) (j : Nat) {x : Int32} (hj : j < n) (hn : n < 2 ^ 31) (hx : vp_nar .char x = x) (wf : va_W) (hf : ws.set q0 (a, .inl (k 1, n, .inl (upd f j x))) = wf) (hdg : decode cc pc = .ok (.castore, 1)) (kk : ∀ (H1 : Heap) (locs1 : List Loc), va_P D vwCl wf H1 → va_D A wf → va_S A H0 H1 locs1 → W p l e R s m args below meth c H1 locs1 cells slots Q (F0 m (pc + 1) ls rest)) : W p l e R s m args below meth c H locs cells slots Q (F0 m pc ls (.int x :: .int (nI j) :: .ref a :: rest)) := by
  refine va_cast hexec hb hK hP hD hS q0 1 ha rfl (vp_in_nI hj hn) hdg ?_
  rw [nI_clamp (Nat.lt_trans hj hn), hx, hf]
  exact kk
theorem fa_st {a : Nat} (hexec : p.tables.exec = Jvm.exec) (hb : c.code = cc) (hK : va_K D vwCl (tyL k) s) (hP : va_P D vwCl ws H) (hD : va_D A ws) (hS : va_S A H0 H locs) (q0 : Nat) {n : Nat} {f : Nat → UInt32} (ha : ws[q0]? = some (a, .inl (k 2, n, .inr (.inr (.inl f))))) (j : Nat) {x : UInt32} (hj : j < n) (hn : n < 2 ^ 31) (wf : va_W) (hf : ws.set q0 (a, .inl (k 2, n, .inr (.inr (.inl (vf_upd f j x))))) = wf) (hdg : decode cc pc = .ok (.fastore, 1)) (kk : ∀ (H1 : Heap) (locs1 : List Loc), va_P D vwCl wf H1 → va_D A wf → va_S A H0 H1 locs1 → W p l e R s m args below meth c H1 locs1 cells slots Q (F0 m (pc + 1) ls rest)) : W p l e R s m args below meth c H locs cells slots Q (F0 m pc ls (.float x :: .int (nI j) :: .ref a :: rest)) := by
  refine va_fast hexec hb hK hP hD hS q0 2 ha rfl (vp_in_nI hj hn) hdg ?_
  rw [nI_clamp (Nat.lt_trans hj hn), hf]
  exact kk
theorem la_st {a : Nat} (hexec : p.tables.exec = Jvm.exec) (hb : c.code = cc) (hK : va_K D vwCl (tyL k) s) (hP : va_P D vwCl ws H) (hD : va_D A ws) (hS : va_S A H0 H locs) (q0 : Nat) {n : Nat} {f : Nat → Int64} (ha : ws[q0]? = some (a, .inl (k 3, n, .inr (.inl f)))) (j : Nat) {x : Int64} (hj : j < n) (hn : n < 2 ^ 31) (wf : va_W) (hf : ws.set q0 (a, .inl (k 3, n, .inr (.inl (vp_updL f j x)))) = wf) (hdg : decode cc pc = .ok (.lastore, 1)) (kk : ∀ (H1 : Heap) (locs1 : List Loc), va_P D vwCl wf H1 → va_D A wf → va_S A H0 H1 locs1 → W p l e R s m args below meth c H1 locs1 cells slots Q (F0 m (pc + 1) ls rest)) : W p l e R s m args below meth c H locs cells slots Q (F0 m pc ls (.long x :: .int (nI j) :: .ref a :: rest)) := by
  refine va_last hexec hb hK hP hD hS q0 3 ha rfl (vp_in_nI hj hn) hdg ?_
  rw [nI_clamp (Nat.lt_trans hj hn), hf]
  exact kk
/-- sums, differences, products of plain numbers -/
theorem ni_add (hexec : p.tables.exec = Jvm.exec) (hb : c.code = cc) (x y : Nat) (hdg : decode cc pc = .ok (.iadd, 1)) (kk : W p l e R s m args below meth c H locs cells slots Q (F0 m (pc + 1) ls (.int (nI (x + y)) :: rest))) : W p l e R s m args below meth c H locs cells slots Q (F0 m pc ls (.int (nI y) :: .int (nI x) :: rest)) := by
  refine lv_iadd hexec hb hdg ?_
  rw [nI_add]
  exact kk
theorem ni_sub (hexec : p.tables.exec = Jvm.exec) (hb : c.code = cc) (x y : Nat) (h : y ≤ x) (hdg : decode cc pc = .ok (.isub, 1)) (kk : W p l e R s m args below meth c H locs cells slots Q (F0 m (pc + 1) ls (.int (nI (x - y)) :: rest))) : W p l e R s m args below meth c H locs cells slots Q (F0 m pc ls (.int (nI y) :: .int (nI x) :: rest)) := by
  refine lv_isub hexec hb hdg ?_
  rw [pk_sub h]
  exact kk
theorem ni_mul (hexec : p.tables.exec = Jvm.exec) (hb : c.code = cc) (x y : Nat) (hdg : decode cc pc = .ok (.imul, 1)) (kk : W p l e R s m args below meth c H locs cells slots Q (F0 m (pc + 1) ls (.int (nI (x * y)) :: rest))) : W p l e R s m args below meth c H locs cells slots Q (F0 m pc ls (.int (nI y) :: .int (nI x) :: rest)) := by
  refine lv_imul hexec hb hdg ?_
  rw [pk_mul]
  exact kk
/-- behind a call that writes: the caller's world anew -/
theorem wjoin {t : State} {H1 : Heap} {u : Unit} (hP : va_P D vwCl ws H) (hD : va_D A ws) (isC isR isF : List Nat) (hC : isC.map (fun i => ws[i]?) = wc.map some) (hR : isR.map (fun i => ws[i]?) = wr.map some) (hn : va_nd isR = true) (hdis : ∀ i ∈ isR, i ∉ isC) (hk1 : ∀ q : Nat, q < H.size → ¬ va_A wc H.size q → H1[q]? = H[q]?) (hFc : ∀ q, va_A wc H.size q → A q) (hB : WB D k (va_A wc H.size) wc' u t) (ht : t.heap = H1) (hF : isF.filterMap (fun i => (wr ++ wc')[i]?) = wf) (hF2 : isF.map (fun i => (wr ++ wc')[i]?) = wf.map some) (hFn : va_nd isF = true) : va_P D vwCl wf H1 ∧ va_D A wf := by
  obtain ⟨h1, _, h3⟩ := hB
  rw [ht] at h1
  obtain ⟨g1, g2⟩ := va_join hP hD isC isR hC hR hn hdis hk1 hFc h1 h3
  exact ⟨g1.sub isF hF, g2.sub isF hFn hF2⟩
/-- a contract that only reads, by the walk of its body -/
theorem rMet {Qc : Array Value → State → Outcome → State → Prop} (av : List Value) (hy : plainName y.cls = true) (hw : ws9 = Cond.code y cc maxL ret :: ws') (hlen : (lg_sl av).length ≤ maxL)
    (body : ∀ (p : Program) (e : Env) (s : State) (m : MethodId) (below : List Frame) (meth : Method) (c : Code) (ls : Array Slot), CallFix p m c cc maxL s av.toArray ws9 y.cls → meth.sig.returnType = ret → meth.locks = false → va_P D vwCl ws s.heap → va_K D vwCl (tyL k) s → NW s → lv_has ls maxL (lv_args 0 av) → W p l e rm s m av.toArray below meth c s.heap [] 0 0 (MQ below Qc av.toArray s 0 0 noA) (F0 m 0 ls [])) : Met l y ws9 rm (RPc D k av ws) Qc 0 0 noA := by
  refine Met.ofW (cc := cc) (maxL := maxL) (ret := ret) hy hw ?_
  intro p e s m args below meth c s₁ B hml hv
  obtain ⟨rfl, hP, hK, hN⟩ := hv
  have hts := atoms_spec (ws := ws9) B.pre
  have hown : s.vm.findClass y.cls = some m.cls := findClass_of_methodNamed B.named
  have hl := lv_entry av (n := maxL) hlen
  rw [lg_entry_eq]
  exact body p e s m below meth c _ ⟨B.exec, B.bytes, hml, hown, hts⟩ B.returns B.notSynchronized hP hK hN hl
/-- a contract that writes, by the walk of its body -/
theorem wMet {Qc : (Nat → Prop) → Array Value → State → Outcome → State → Prop} {mc ms sz : Nat} (av : List Value) (hy : plainName y.cls = true) (hw : ws9 = Cond.code y cc maxL ret :: ws') (hlen : (lg_sl av).length ≤ maxL)
    (body : ∀ (p : Program) (e : Env) (s : State) (m : MethodId) (below : List Frame) (meth : Method) (c : Code) (ls : Array Slot) (A : Nat → Prop) (H : Heap), CallFix p m c cc maxL s av.toArray ws9 y.cls → meth.sig.returnType = ret → meth.locks = false → va_P D vwCl ws H → va_K D vwCl (tyL k) s → NW s → va_D A ws → (∀ q : Nat, s.heap.size ≤ q → A q) → va_S A s.heap H [] → lv_has ls maxL (lv_args 0 av) → (y.name = "<init>" → meth.name = "<init>") → W p l e rm s m av.toArray below meth c H [] 0 0 (MQ below (Qc A) av.toArray s mc ms A) (F0 m 0 ls [])) : Met l y ws9 rm (WPc D k av ws sz) (Qc (va_A ws sz)) mc ms (va_A ws sz) := by
  refine Met.ofW (cc := cc) (maxL := maxL) (ret := ret) hy hw ?_
  intro p e s m args below meth c s₁ B hml hv
  obtain ⟨rfl, hsz, hP, hK, hN, hD0⟩ := hv
  have hts := atoms_spec (ws := ws9) B.pre
  have hown : s.vm.findClass y.cls = some m.cls := findClass_of_methodNamed B.named
  have hl := lv_entry av (n := maxL) hlen
  rw [lg_entry_eq]
  subst hsz
  exact body p e s m below meth c _ _ _ ⟨B.exec, B.bytes, hml, hown, hts⟩ B.returns B.notSynchronized hP hK hN (hD0.self) (fun q h => Or.inr h) va_S.rf hl (fun hi => by rw [← hi]; exact (name_of_methodNamed B.named B.method).1)
theorem ni_div (hexec : p.tables.exec = Jvm.exec) (hb : c.code = cc) (x y : Nat) (h1 : x < 2 ^ 31) (h2 : 0 < y) (h3 : y < 2 ^ 31) (hdg : decode cc pc = .ok (.idiv, 1)) (kk : W p l e R s m args below meth c H locs cells slots Q (F0 m (pc + 1) ls (.int (nI (x / y)) :: rest))) : W p l e R s m args below meth c H locs cells slots Q (F0 m pc ls (.int (nI y) :: .int (nI x) :: rest)) := by
  refine lv_idiv hexec hb hdg (nI_ne0 h2 h3) ?_
  rw [pk_div h1 h2 h3]
  exact kk
theorem ni_rem (hexec : p.tables.exec = Jvm.exec) (hb : c.code = cc) (x y : Nat) (h1 : x < 2 ^ 31) (h2 : 0 < y) (h3 : y < 2 ^ 31) (hdg : decode cc pc = .ok (.irem, 1)) (kk : W p l e R s m args below meth c H locs cells slots Q (F0 m (pc + 1) ls (.int (nI (x % y)) :: rest))) : W p l e R s m args below meth c H locs cells slots Q (F0 m pc ls (.int (nI y) :: .int (nI x) :: rest)) := by
  refine lv_irem hexec hb hdg (nI_ne0 h2 h3) ?_
  rw [pk_rem h1 h2 h3]
  exact kk
end BASE
theorem lv_nil {ls : Array Slot} {nL : Nat} {l : List (Nat × Value)} (h : lv_has ls nL l) : lv_has ls nL [] := ⟨h.1, h.2.1, fun _ hq => by cases hq⟩
theorem lv_one {ls : Array Slot} {nL : Nat} {l l2 : List (Nat × Value)} {i : Nat} {v v2 : Value} (h : lv_has ls nL l) (k : Nat) (hk : l[k]? = some (i, v)) (e : v = v2) (h2 : lv_has ls nL l2) : lv_has ls nL ((i, v2) :: l2) := by
  refine ⟨h2.1, h2.2.1, fun q hq => ?_⟩
  rcases List.mem_cons.mp hq with r | r
  · rw [r, ← e]
    exact lv_at h k hk
  · exact h2.2.2 q r
theorem nI_inc (i : Nat) : nI i + Int32.ofInt 1 = nI (i + 1) := nI_1 i
/-- a truth as the machine's int -/
def bI (b : Bool) : Int32 := if b then 1 else 0
theorem bI_0 {b : Bool} (h : bI b = 0) : b = false := by cases b <;> simp_all [bI]
theorem bI_1 {b : Bool} (h : ¬ bI b = 0) : b = true := by cases b <;> simp_all [bI]
theorem bI_nar (b : Bool) : narrow .boolean (.int (bI b)) = .int (bI b) := by cases b <;> rfl
theorem bI_fit (b : Bool) : fits .boolean (.int (bI b)) = true := by cases b <;> rfl
theorem bI_t : bI true = 1 := rfl
theorem bI_f : bI false = 0 := rfl
/-- n steps of f from a -/
def up {α : Type} (f : Nat → α → α) (a : α) : Nat → α
  | 0 => a
  | n + 1 => f n (up f a n)
theorem up_s {α : Type} (f : Nat → α → α) (a : α) (n : Nat) : up f a (n + 1) = f n (up f a n) := rfl
theorem up_0 {α : Type} (f : Nat → α → α) (a : α) : up f a 0 = a := rfl
theorem up_cong {α : Type} {f g : Nat → α → α} {a b : α} {n : Nat} (h0 : a = b) (h : ∀ i x, i < n → f i x = g i x) : up f a n = up g b n := by
  induction n with
  | zero => exact h0
  | succ n ih => rw [up_s, up_s, ih (fun i x hi => h i x (Nat.lt_succ_of_lt hi)), h n _ (Nat.lt_succ_self n)]
theorem up_inv {α : Type} (P : Nat → α → Prop) {f : Nat → α → α} {a : α} (h0 : P 0 a) {n : Nat} (h : ∀ i x, i < n → P i x → P (i + 1) (f i x)) : P n (up f a n) := by
  induction n with
  | zero => exact h0
  | succ n ih => exact h n _ (Nat.lt_succ_self n) (ih (fun i x hi => h i x (Nat.lt_succ_of_lt hi)))
theorem i32_0 : (0 : Int32).toInt = 0 := by decide
theorem i32_1 : (1 : Int32).toInt = 1 := by decide
theorem i32_2 : (2 : Int32).toInt = 2 := by decide
theorem i32_3 : (3 : Int32).toInt = 3 := by decide
theorem i32_4 : (4 : Int32).toInt = 4 := by decide
theorem i32_9 : (9 : Int32).toInt = 9 := by decide
theorem i32_10 : (10 : Int32).toInt = 10 := by decide
theorem i32_99 : (99 : Int32).toInt = 99 := by decide
theorem i32_100 : (100 : Int32).toInt = 100 := by decide
theorem i32_1000 : (1000 : Int32).toInt = 1000 := by decide
theorem i32_9999 : (9999 : Int32).toInt = 9999 := by decide

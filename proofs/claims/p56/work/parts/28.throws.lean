/-! Exceptions: what stands ready for a throw; contracts that always throw. -/
def xnL : List Cond := [.castable "java/lang/IndexOutOfBoundsException" "java/lang/IndexOutOfBoundsException", .castable "java/lang/IllegalArgumentException" "java/lang/IllegalArgumentException", .castable "java/lang/IllegalStateException" "java/lang/IllegalStateException", .castable "java/lang/UnsupportedOperationException" "java/lang/UnsupportedOperationException", .castable "java/util/NoSuchElementException" "java/util/NoSuchElementException", .castable "java/lang/ArithmeticException" "java/lang/ArithmeticException", .declares (Bundle.initS "java/lang/RuntimeException"), .declares (Bundle.initS "java/lang/Exception"), .declares (Bundle.initS Bundle.tN)]
def strL : List (Nat × String) := [(171, "no such set of claims"), (201, "the length is out of range"), (229, "no such layer or slot"), (235, "no such layer"), (270, "the level is out of range"), (277, "the power stays too high for too long"), (289, "no such rank"), (309, "no such entry"), (311, "no such character in a command text"), (318, "the command text is full"), (327, "not a command text"), (344, "a command fails"), (356, "no error position was set"), (358, "no command has failed"), (372, "no such index in the line"), (376, "no claims"), (412, "no change to undo"), (414, "no snapshot"), (424, "no such claim, layer or slot"), (426, "a parameter is out of range"), (428, "not in this state"), (432, "the rack cannot hold such a remark"), (435, "the slot holds no remark"), (440, "no such claim")]
def XN (U : State) : Prop := (∀ w ∈ xnL, va_Nw w U) ∧ ∀ q ∈ strL, ∃ sa, vk_R RX12 q.1 q.2 sa U
def XZ (A : Nat → Prop) (U : State) (H : Heap) : Prop := vx_Zq Bundle.tN "UNASSIGNED_STACK" Bundle.steD A U H ∧ vx_Zq Bundle.tN "SUPPRESSED_SENTINEL" Bundle.listD A U H
theorem XZ.kept {A : Nat → Prop} {U : State} {H H1 : Heap} (h : XZ A U H) (hq : ∀ a : Nat, a < H.size → ¬ A a → H1[a]? = H[a]?) : XZ A U H1 := ⟨h.1.kept hq, h.2.kept hq⟩
theorem XZ.moved {A : Nat → Prop} {u U : State} {H : Heap} (hvm : u.vm.Alike U.vm) (h : XZ A u H) : XZ A U H := ⟨h.1.moved hvm, h.2.moved hvm⟩
theorem XZ.narrow {A B : Nat → Prop} {U : State} {H : Heap} (h : XZ A U H) (hAB : ∀ q, B q → A q) : XZ B U H := ⟨h.1.narrow hAB, h.2.narrow hAB⟩
theorem xnL_tables : ∀ w ∈ xnL, w.onTables = true := by decide +kernel
theorem XN.warm {s U : State} (hW : s.WarmedH U.vm) (h : XN s) : XN U := by
  refine ⟨fun w hw => ?_, fun q hq => ?_⟩
  · have hz := h.1 w hw
    simp only [xnL, List.mem_cons, List.not_mem_nil, or_false] at hw
    rcases hw with h | h | h | h | h | h | h | h | h <;> subst h <;> first | exact va_Nw.warmC hW hz | exact va_Nw.warmD hW hz
  · obtain ⟨sa, hs⟩ := h.2 q hq
    exact ⟨sa, hs.warm hW⟩
def XPc (D : va_G) (k : Nat → ClassId) (av : List Value) (ws : va_W) (sz : Nat) : Array Value → State → Prop := va_Pc av (fun U => U.heap.size = sz ∧ va_P D vwCl ws U.heap ∧ va_K D vwCl (tyL k) U ∧ NW U ∧ va_D (fun _ => True) ws ∧ XN U ∧ XZ (va_A ws sz) U U.heap)
theorem XPc.blind {D : va_G} {k : Nat → ClassId} {av : List Value} {ws : va_W} {sz : Nat} : FrameBlind (XPc D k av ws sz) := fun a U g mk q => ⟨q.1, q.2.1, q.2.2.1, va_K.moved (u := U) (U := U.calling g mk a) (Vm.Alike.refl U.vm) q.2.2.2.1, NW.same (u := U) (U := U.calling g mk a) rfl q.2.2.2.2.1, q.2.2.2.2.2.1, ⟨fun w hw => va_Nw.same (u := U) (U := U.calling g mk a) (xnL_tables w hw) rfl (q.2.2.2.2.2.2.1.1 w hw), fun z hz => (q.2.2.2.2.2.2.1.2 z hz).elim (fun sa hs => ⟨sa, vk_R.same (u := U) (U := U.calling g mk a) rfl hs⟩)⟩, XZ.moved (u := U) (U := U.calling g mk a) (Vm.Alike.refl U.vm) q.2.2.2.2.2.2.2⟩
abbrev XC (D : va_G) (k : Nat → ClassId) (E : String) (ws' : va_W) (A : Nat → Prop) : String → State → State → Prop := vx_X (fun (_ : Unit) => True) (fun E' _ t => E' = E ∧ va_P D vwCl ws' t.heap ∧ va_K D vwCl (tyL k) t ∧ va_D A ws') A
abbrev XI (A : Nat → Prop) : Array Value → State → Outcome → State → Prop := va_Qi (fun _ (_ : Unit) => False) (fun _ _ => True) A
abbrev XL (A : Nat → Prop) : Array Value → State → Outcome → State → Prop := va_Ql (fun _ (_ : Unit) => False) (fun _ _ => True) A
abbrev XF (A : Nat → Prop) : Array Value → State → Outcome → State → Prop := va_Qf (fun _ (_ : Unit) => False) (fun _ _ => True) A
abbrev XD (A : Nat → Prop) : Array Value → State → Outcome → State → Prop := va_Qd (fun _ (_ : Unit) => False) (fun _ _ => True) A
abbrev XV (A : Nat → Prop) : Array Value → State → Outcome → State → Prop := va_Qv (fun (_ : Unit) => False) (fun _ _ => True) A
section XROWS
variable {p : Program} {l : Launch} {e : Env} {R : Room} {s : State} {m : MethodId} {args : Array Value} {below : List Frame} {meth : Method} {c : Code} {H H0 : Heap} {locs : List Loc} {cells slots : Nat} {Q : State → Prop}
variable {cc : ByteArray} {pc : Nat} {ls : Array Slot} {rest As : List Value} {D : va_G} {k : Nat → ClassId} {A : Nat → Prop} {ws wc : va_W} {b : Addr}
theorem xPreV (hK : va_K D vwCl (tyL k) s) (hN : NW s) (hX : XN s) (hZ : XZ A s s.heap) (hS : va_S A s.heap H locs) (hFc : ∀ q, va_A wc H.size q → A q) (hP : va_P D vwCl ws H) (hD : va_D A ws) (is : List Nat) (hs : is.filterMap (fun i => ws[i]?) = wc) (hnd : va_nd is = true) (hs2 : is.map (fun i => ws[i]?) = wc.map some) (i0 ci : Nat) {fs : List Value} (he : ws[i0]? = some (b, .inr (ci, fs))) {r : vw_C} (hc : vwCl[ci]? = some r) : PreV s H r.1 b (XPc D k (.ref b :: As) wc H.size) As :=
  ⟨XPc.blind, va_recv hK hP hc he, fun U hU hW => ⟨rfl, by rw [hU], by rw [hU]; exact hP.sub is hs, va_K.moved hW.alike hK, NW.warm hW hN, (hD.sub is hnd hs2).weaken (fun _ _ _ _ => trivial), XN.warm hW hX, by rw [hU]; exact ((hZ.kept hS.2.1).moved hW.alike).narrow hFc⟩⟩
theorem xPreS (hK : va_K D vwCl (tyL k) s) (hN : NW s) (hX : XN s) (hZ : XZ A s s.heap) (hS : va_S A s.heap H locs) (hFc : ∀ q, va_A wc H.size q → A q) (hP : va_P D vwCl ws H) (hD : va_D A ws) (is : List Nat) (hs : is.filterMap (fun i => ws[i]?) = wc) (hnd : va_nd is = true) (hs2 : is.map (fun i => ws[i]?) = wc.map some) : PreS s H (XPc D k As wc H.size) As :=
  ⟨XPc.blind, fun U hU hW => ⟨rfl, by rw [hU], by rw [hU]; exact hP.sub is hs, va_K.moved hW.alike hK, NW.warm hW hN, (hD.sub is hnd hs2).weaken (fun _ _ _ _ => trivial), XN.warm hW hX, by rw [hU]; exact ((hZ.kept hS.2.1).moved hW.alike).narrow hFc⟩⟩
/-- what stands when a throw leaves -/
theorem xEnd {t : State} {E : String} (hP : va_P D vwCl ws H) (hK : va_K D vwCl (tyL k) s) (hD : va_D A ws) (hS : va_S A s.heap H locs) (hvm : s.vm.Alike t.vm) (hz : H.size ≤ t.heap.size) (hq : ∀ q : Nat, q < H.size → t.heap[q]? = H[q]?) : XC D k E ws A E s t :=
  ⟨(), trivial, ⟨rfl, hP.kept (fun i q hi => hq _ (vx_lt hP hi)), va_K.moved hvm hK, hD⟩, Nat.le_trans hS.1 hz, fun q h1 h2 => (hq q (Nat.lt_of_lt_of_le h1 hS.1)).trans (hS.2.1 q h1 h2)⟩
end XROWS
/-- a contract that always throws, by the walk of its body -/
theorem xMet {l : Launch} {D : va_G} {k : Nat → ClassId} {ws : va_W} {ws' ws9 : List Cond} {y : MethodName} {rm : Room} {cc : ByteArray} {maxL : Nat} {ret : Option FieldType} {Qc : (Nat → Prop) → Array Value → State → Outcome → State → Prop} {X9 : (Nat → Prop) → String → State → State → Prop} {mc ms sz : Nat} (av : List Value) (hy : plainName y.cls = true) (hw : ws9 = Cond.code y cc maxL ret :: ws') (hlen : (lg_sl av).length ≤ maxL)
    (body : ∀ (p : Program) (e : Env) (s : State) (m : MethodId) (below : List Frame) (meth : Method) (c : Code) (ls : Array Slot) (A : Nat → Prop) (H : Heap), CallFix p m c cc maxL s av.toArray ws9 y.cls → meth.sig.returnType = ret → meth.locks = false → (∀ x ∈ c.exceptionTable.toList, False) → va_P D vwCl ws H → va_K D vwCl (tyL k) s → NW s → XN s → XZ A s s.heap → va_D A ws → (∀ q : Nat, s.heap.size ≤ q → A q) → va_S A s.heap H [] → lv_has ls maxL (lv_args 0 av) → W p l e rm s m av.toArray below meth c H [] 0 0 (vx_MQ below (Qc A) (X9 A) av.toArray s mc ms A) (F0 m 0 ls [])) : vx_Met l y ws9 rm (XPc D k av ws sz) (Qc (va_A ws sz)) (X9 (va_A ws sz)) mc ms (va_A ws sz) := by
  refine vx_ofW (cc := cc) (maxL := maxL) (ret := ret) hy hw ?_
  intro p e s m args below meth c s₁ B hml ht hv
  obtain ⟨rfl, hsz, hP, hK, hN, hD0, hX, hZ⟩ := hv
  have hts := atoms_spec (ws := ws9) B.pre
  have hown : s.vm.findClass y.cls = some m.cls := findClass_of_methodNamed B.named
  have hl := lv_entry av (n := maxL) hlen
  rw [lg_entry_eq]
  subst hsz
  exact body p e s m below meth c _ _ _ ⟨B.exec, B.bytes, hml, hown, hts⟩ B.returns B.notSynchronized ht hP hK hN hX hZ (hD0.self) (fun q h => Or.inr h) va_S.rf hl
theorem xng_231 : ∀ w ∈ (vx_atS RX12 231 "java/lang/IndexOutOfBoundsException" ["java/lang/RuntimeException", "java/lang/Exception"]).filter (fun w => !goodWord w), w ∈ xnL := by decide +kernel
theorem xot_231 : ∀ w ∈ Cond.classLink RX12 227 "java/lang/IndexOutOfBoundsException" :: Cond.initialized "java/lang/IndexOutOfBoundsException" :: vx_atS RX12 231 "java/lang/IndexOutOfBoundsException" ["java/lang/RuntimeException", "java/lang/Exception"], vx_ot w = true := by decide +kernel
theorem xng_173 : ∀ w ∈ (vx_atS RX12 173 "java/lang/IllegalArgumentException" ["java/lang/RuntimeException", "java/lang/Exception"]).filter (fun w => !goodWord w), w ∈ xnL := by decide +kernel
theorem xot_173 : ∀ w ∈ Cond.classLink RX12 169 "java/lang/IllegalArgumentException" :: Cond.initialized "java/lang/IllegalArgumentException" :: vx_atS RX12 173 "java/lang/IllegalArgumentException" ["java/lang/RuntimeException", "java/lang/Exception"], vx_ot w = true := by decide +kernel
theorem xng_320 : ∀ w ∈ (vx_atS RX12 320 "java/lang/IllegalStateException" ["java/lang/RuntimeException", "java/lang/Exception"]).filter (fun w => !goodWord w), w ∈ xnL := by decide +kernel
theorem xot_320 : ∀ w ∈ Cond.classLink RX12 316 "java/lang/IllegalStateException" :: Cond.initialized "java/lang/IllegalStateException" :: vx_atS RX12 320 "java/lang/IllegalStateException" ["java/lang/RuntimeException", "java/lang/Exception"], vx_ot w = true := by decide +kernel
theorem xng_434 : ∀ w ∈ (vx_atS RX12 434 "java/lang/UnsupportedOperationException" ["java/lang/RuntimeException", "java/lang/Exception"]).filter (fun w => !goodWord w), w ∈ xnL := by decide +kernel
theorem xot_434 : ∀ w ∈ Cond.classLink RX12 430 "java/lang/UnsupportedOperationException" :: Cond.initialized "java/lang/UnsupportedOperationException" :: vx_atS RX12 434 "java/lang/UnsupportedOperationException" ["java/lang/RuntimeException", "java/lang/Exception"], vx_ot w = true := by decide +kernel
theorem xng_279 : ∀ w ∈ (nsAt RX12 279 "java/util/NoSuchElementException" ["java/lang/RuntimeException", "java/lang/Exception"]).filter (fun w => !goodWord w), w ∈ xnL := by decide +kernel
theorem xot_279 : ∀ w ∈ Cond.classLink RX12 275 "java/util/NoSuchElementException" :: Cond.initialized "java/util/NoSuchElementException" :: nsAt RX12 279 "java/util/NoSuchElementException" ["java/lang/RuntimeException", "java/lang/Exception"], vx_ot w = true := by decide +kernel
theorem xng_378 : ∀ w ∈ (vx_atS RX12 378 "java/lang/ArithmeticException" ["java/lang/RuntimeException", "java/lang/Exception"]).filter (fun w => !goodWord w), w ∈ xnL := by decide +kernel
theorem xot_378 : ∀ w ∈ Cond.classLink RX12 374 "java/lang/ArithmeticException" :: Cond.initialized "java/lang/ArithmeticException" :: vx_atS RX12 378 "java/lang/ArithmeticException" ["java/lang/RuntimeException", "java/lang/Exception"], vx_ot w = true := by decide +kernel
theorem xfit : ∀ n ∈ ["java/lang/RuntimeException", "java/lang/Exception"], Bundle.fit n = true := by decide +kernel

set_option maxHeartbeats 4000000 in
set_option maxRecDepth 100000 in
theorem x_X12_needClaim (l9 : Launch) (hl9 : l9.stackTraces = false) (D : va_G) (k : Nat → ClassId) (sz : Nat) (o bf pa pn pk sv tr tx li ll ac ci ch : Nat) (iz : Bool) (er fl : Int32) (qs qc qr ql : Nat → Nat) (lim sh sc : Int32) (fr : Nat → UInt32) (n : Nat) (w ly t a : Nat → Int32) (fx : Nat → UInt32) (x : Int32) (hxn : inC n x = false) : vx_Met l9 yX12_needClaim wsX12_needClaim ({ frames := 6, cells := 1, slots := 6, locals := 82 }) (XPc D k [.ref o, .int x] (bRO k o (qs 0) bf pa pn pk sv iz tr tx er fl li ll ac ci ch ++ bSt k qs qc qr ql lim sh sc fr ++ bClaims k qc n w ly t a fx) sz) (XV (va_A (bRO k o (qs 0) bf pa pn pk sv iz tr tx er fl li ll ac ci ch ++ bSt k qs qc qr ql lim sh sc fr ++ bClaims k qc n w ly t a fx) sz)) (XC D k "java/lang/IndexOutOfBoundsException" (bRO k o (qs 0) bf pa pn pk sv iz tr tx er fl li ll ac ci ch ++ bSt k qs qc qr ql lim sh sc fr ++ bClaims k qc n w ly t a fx) (va_A (bRO k o (qs 0) bf pa pn pk sv iz tr tx er fl li ll ac ci ch ++ bSt k qs qc qr ql lim sh sc fr ++ bClaims k qc n w ly t a fx) sz)) 1 6 (va_A (bRO k o (qs 0) bf pa pn pk sv iz tr tx er fl li ll ac ci ch ++ bSt k qs qc qr ql lim sh sc fr ++ bClaims k qc n w ly t a fx) sz) := by
  refine xMet (y := yX12_needClaim) (cc := cX12_needClaim) (maxL := 2) (ret := none) (Qc := XV) (X9 := XC D k "java/lang/IndexOutOfBoundsException" (bRO k o (qs 0) bf pa pn pk sv iz tr tx er fl li ll ac ci ch ++ bSt k qs qc qr ql lim sh sc fr ++ bClaims k qc n w ly t a fx)) [.ref o, .int x] (by decide) rfl (Nat.le_of_ble_eq_true rfl) ?_
  intro p9 e9 s9 m9 bl9 me9 c9 ls A H hF hr hlocks ht9 hP hK hN hXN hZ hD hA hS hl
  have hl : lv_has ls 2 [(0, .ref o), (1, .int x)] := hl
  obtain ⟨hx, hb, hml, hown, hts⟩ := id hF
  have k_fieldLink_10 : (Cond.fieldLink RX12 10 "OpinionReactor" "now" "LOpinionReactor$State;").before _ s9 = true := hts (.fieldLink RX12 10 "OpinionReactor" "now" "LOpinionReactor$State;") (by decide +kernel)
  have kc_RX12 : ∀ w ∈ u_ws RX12 TX12 16, w ∈ wsX12_needClaim := by decide +kernel
  have k_fieldLink_85 : (Cond.fieldLink RX12 85 "OpinionReactor$State" "claims" "LOpinionReactor$Claims;").before _ s9 = true := hts (.fieldLink RX12 85 "OpinionReactor$State" "claims" "LOpinionReactor$Claims;") (by decide +kernel)
  have kc_RX11 : ∀ w ∈ u_ws RX11 TX11 7, w ∈ wsX12_needClaim := by decide +kernel
  refine lv_aload_n hx hb dX12_needClaim_0 rfl (lv_at hl 0 rfl) ?_
  refine va_get (D := D) (ci := 12) (v := .ref (qs 0)) (C := RX12) (T := TX12) (N := 16) hx hb hts kc_RX12 hown hK hP 0 rfl rfl 0 (by decide) k_fieldLink_10 (fun _ h9 => h9) rfl dX12_needClaim_1 ?_
  refine va_get (D := D) (ci := 11) (v := .ref (qc 0)) (C := RX11) (T := TX11) (N := 7) hx hb hts kc_RX11 hown hK hP 1 rfl rfl 0 (by decide) k_fieldLink_85 (fun _ h9 => h9) rfl dX12_needClaim_4 ?_
  refine lv_iload_n hx hb dX12_needClaim_7 rfl (lv_at hl 1 rfl) ?_
  refine vp_callSi (W.runV (As := [.int x]) (rest := []) hF (m_X5_has l9 D k qc n w ly t a fx x ) (cwV 1 hts gX12_needClaim_X5_has rfl rfl rfl (by decide +kernel) ⟨Nat.le_of_ble_eq_true rfl, Nat.le_of_ble_eq_true rfl⟩) (rPreV hK hN hP [3, 4, 5, 6, 7, 8] rfl 3 7 rfl rfl) rfl rfl hl.1 rfl (lv_room (Nat.le_of_ble_eq_true rfl)) dX12_needClaim_8 ⟨Nat.zero_le _, Nat.zero_le _⟩) (fun r_1 hr_1 => ?_)
  subst hr_1
  refine lv_if_ne (tgt := 25) hx hb dX12_needClaim_11 (by decide) (fun c_2 => ?_) (fun c_2 => ?_)
  · skip
    have c_2 : (inC n x) = true := bI_1 c_2
    exact Bool.noConfusion (Eq.trans (Eq.symm c_2) hxn)
  · skip
    have c_2 : (inC n x) = false := bI_0 c_2
    obtain ⟨sa9, hsa9⟩ := hXN.2 (440, "no such claim") (by decide)
    exact vx_throwSW (cls := "java/lang/IndexOutOfBoundsException") (text := "no such claim") (names := ["java/lang/RuntimeException", "java/lang/Exception"]) hx hb hl9 hown (by decide +kernel) xfit (hts (.classLink RX12 227 "java/lang/IndexOutOfBoundsException") (by decide +kernel)) (hts (.initialized "java/lang/IndexOutOfBoundsException") (by decide +kernel)) hsa9 (vx_hat (fun w h9 => hts w (List.mem_cons_of_mem _ (List.mem_append_right _ h9))) xng_231 (fun w h9 => va_Nw.use (xnL_tables w h9) (hXN.1 w h9))) xot_231 hZ.1 hZ.2 hS (hl.1.trans hml.symm) dX12_needClaim_14 dX12_needClaim_17 dX12_needClaim_18 dX12_needClaim_21 dX12_needClaim_24 (fun x h9 => (ht9 x h9).elim) (Nat.le_of_ble_eq_true rfl) (Nat.le_of_ble_eq_true rfl) (Nat.le_of_ble_eq_true rfl) (Nat.le_of_ble_eq_true rfl) hlocks (fun t hvm hz hq => xEnd hP hK hD hS hvm hz hq) hS.2.2 (Nat.le_of_ble_eq_true rfl) (Nat.le_of_ble_eq_true rfl)

set_option maxHeartbeats 4000000 in
set_option maxRecDepth 100000 in
theorem x_X12_weightOf (l9 : Launch) (hl9 : l9.stackTraces = false) (D : va_G) (k : Nat → ClassId) (sz : Nat) (o bf pa pn pk sv tr tx li ll ac ci ch : Nat) (iz : Bool) (er fl : Int32) (qs qc qr ql : Nat → Nat) (lim sh sc : Int32) (fr : Nat → UInt32) (n : Nat) (w ly t a : Nat → Int32) (fx : Nat → UInt32) (x : Int32) (hxn : inC n x = false) : vx_Met l9 yX12_weightOf wsX12_weightOf ({ frames := 7, cells := 1, slots := 6, locals := 103 }) (XPc D k [.ref o, .int x] (bRO k o (qs 0) bf pa pn pk sv iz tr tx er fl li ll ac ci ch ++ bSt k qs qc qr ql lim sh sc fr ++ bClaims k qc n w ly t a fx) sz) (XI (va_A (bRO k o (qs 0) bf pa pn pk sv iz tr tx er fl li ll ac ci ch ++ bSt k qs qc qr ql lim sh sc fr ++ bClaims k qc n w ly t a fx) sz)) (XC D k "java/lang/IndexOutOfBoundsException" (bRO k o (qs 0) bf pa pn pk sv iz tr tx er fl li ll ac ci ch ++ bSt k qs qc qr ql lim sh sc fr ++ bClaims k qc n w ly t a fx) (va_A (bRO k o (qs 0) bf pa pn pk sv iz tr tx er fl li ll ac ci ch ++ bSt k qs qc qr ql lim sh sc fr ++ bClaims k qc n w ly t a fx) sz)) 1 6 (va_A (bRO k o (qs 0) bf pa pn pk sv iz tr tx er fl li ll ac ci ch ++ bSt k qs qc qr ql lim sh sc fr ++ bClaims k qc n w ly t a fx) sz) := by
  refine xMet (y := yX12_weightOf) (cc := cX12_weightOf) (maxL := 2) (ret := (some .int)) (Qc := XI) (X9 := XC D k "java/lang/IndexOutOfBoundsException" (bRO k o (qs 0) bf pa pn pk sv iz tr tx er fl li ll ac ci ch ++ bSt k qs qc qr ql lim sh sc fr ++ bClaims k qc n w ly t a fx)) [.ref o, .int x] (by decide) rfl (Nat.le_of_ble_eq_true rfl) ?_
  intro p9 e9 s9 m9 bl9 me9 c9 ls A H hF hr hlocks ht9 hP hK hN hXN hZ hD hA hS hl
  have hl : lv_has ls 2 [(0, .ref o), (1, .int x)] := hl
  obtain ⟨hx, hb, hml, hown, hts⟩ := id hF
  refine lv_aload_n hx hb dX12_weightOf_0 rfl (lv_at hl 0 rfl) ?_
  refine lv_iload_n hx hb dX12_weightOf_1 rfl (lv_at hl 1 rfl) ?_
  have hFc := va_free (wc := bRO k o (qs 0) bf pa pn pk sv iz tr tx er fl li ll ac ci ch ++ bSt k qs qc qr ql lim sh sc fr ++ bClaims k qc n w ly t a fx) hD hS hA [0, 1, 2, 3, 4, 5, 6, 7, 8] rfl
  refine vx_callv (vx_runV (As := [.int x]) (rest := []) hF (x_X12_needClaim l9 hl9 D k H.size o bf pa pn pk sv tr tx li ll ac ci ch iz er fl qs qc qr ql lim sh sc fr n w ly t a fx x hxn) (cwV 1 hts gX12_weightOf_X12_needClaim rfl rfl rfl (by decide +kernel) ⟨Nat.le_of_ble_eq_true rfl, Nat.le_of_ble_eq_true rfl⟩) (xPreV hK hN hXN hZ hS hFc hP hD [0, 1, 2, 3, 4, 5, 6, 7, 8] rfl (by decide) rfl 0 12 rfl rfl) rfl rfl hl.1 rfl (lv_room (Nat.le_of_ble_eq_true rfl)) dX12_weightOf_2 ⟨Nat.le_of_ble_eq_true rfl, Nat.le_of_ble_eq_true rfl⟩) hS (fun q _ h => hFc q h) hFc (fun q _ h => hFc q h) (fun E9 ce9 q9 u9 t9 H1 locs ht hvm _ hbx hz1 hk1 hS hce hcv hcl => ?_) (fun u9 t9 H1 locs _ _ hp _ _ _ _ => hp.elim)
  obtain ⟨rfl, hbx⟩ := hbx
  obtain ⟨hP, hD⟩ := wjoin (u := ()) (wr := []) (wf := bRO k o (qs 0) bf pa pn pk sv iz tr tx er fl li ll ac ci ch ++ bSt k qs qc qr ql lim sh sc fr ++ bClaims k qc n w ly t a fx) hP hD [0, 1, 2, 3, 4, 5, 6, 7, 8] [] [0, 1, 2, 3, 4, 5, 6, 7, 8] rfl rfl (by decide) (by decide) hk1 hFc hbx ht rfl rfl (by decide)
  exact vx_out (fun x h9 => (ht9 x h9).elim) hlocks hce hcv hcl (fun t ht2 hvm2 => xEnd hP hK hD hS hvm2 (by rw [ht2]; exact Nat.le_refl _) (fun q _ => by rw [ht2])) hS.2.2 (Nat.le_of_ble_eq_true rfl) (Nat.le_of_ble_eq_true rfl)

set_option maxHeartbeats 4000000 in
set_option maxRecDepth 100000 in
theorem x_X12_layerOf (l9 : Launch) (hl9 : l9.stackTraces = false) (D : va_G) (k : Nat → ClassId) (sz : Nat) (o bf pa pn pk sv tr tx li ll ac ci ch : Nat) (iz : Bool) (er fl : Int32) (qs qc qr ql : Nat → Nat) (lim sh sc : Int32) (fr : Nat → UInt32) (n : Nat) (w ly t a : Nat → Int32) (fx : Nat → UInt32) (x : Int32) (hxn : inC n x = false) : vx_Met l9 yX12_layerOf wsX12_layerOf ({ frames := 7, cells := 1, slots := 6, locals := 103 }) (XPc D k [.ref o, .int x] (bRO k o (qs 0) bf pa pn pk sv iz tr tx er fl li ll ac ci ch ++ bSt k qs qc qr ql lim sh sc fr ++ bClaims k qc n w ly t a fx) sz) (XI (va_A (bRO k o (qs 0) bf pa pn pk sv iz tr tx er fl li ll ac ci ch ++ bSt k qs qc qr ql lim sh sc fr ++ bClaims k qc n w ly t a fx) sz)) (XC D k "java/lang/IndexOutOfBoundsException" (bRO k o (qs 0) bf pa pn pk sv iz tr tx er fl li ll ac ci ch ++ bSt k qs qc qr ql lim sh sc fr ++ bClaims k qc n w ly t a fx) (va_A (bRO k o (qs 0) bf pa pn pk sv iz tr tx er fl li ll ac ci ch ++ bSt k qs qc qr ql lim sh sc fr ++ bClaims k qc n w ly t a fx) sz)) 1 6 (va_A (bRO k o (qs 0) bf pa pn pk sv iz tr tx er fl li ll ac ci ch ++ bSt k qs qc qr ql lim sh sc fr ++ bClaims k qc n w ly t a fx) sz) := by
  refine xMet (y := yX12_layerOf) (cc := cX12_layerOf) (maxL := 2) (ret := (some .int)) (Qc := XI) (X9 := XC D k "java/lang/IndexOutOfBoundsException" (bRO k o (qs 0) bf pa pn pk sv iz tr tx er fl li ll ac ci ch ++ bSt k qs qc qr ql lim sh sc fr ++ bClaims k qc n w ly t a fx)) [.ref o, .int x] (by decide) rfl (Nat.le_of_ble_eq_true rfl) ?_
  intro p9 e9 s9 m9 bl9 me9 c9 ls A H hF hr hlocks ht9 hP hK hN hXN hZ hD hA hS hl
  have hl : lv_has ls 2 [(0, .ref o), (1, .int x)] := hl
  obtain ⟨hx, hb, hml, hown, hts⟩ := id hF
  refine lv_aload_n hx hb dX12_layerOf_0 rfl (lv_at hl 0 rfl) ?_
  refine lv_iload_n hx hb dX12_layerOf_1 rfl (lv_at hl 1 rfl) ?_
  have hFc := va_free (wc := bRO k o (qs 0) bf pa pn pk sv iz tr tx er fl li ll ac ci ch ++ bSt k qs qc qr ql lim sh sc fr ++ bClaims k qc n w ly t a fx) hD hS hA [0, 1, 2, 3, 4, 5, 6, 7, 8] rfl
  refine vx_callv (vx_runV (As := [.int x]) (rest := []) hF (x_X12_needClaim l9 hl9 D k H.size o bf pa pn pk sv tr tx li ll ac ci ch iz er fl qs qc qr ql lim sh sc fr n w ly t a fx x hxn) (cwV 1 hts gX12_layerOf_X12_needClaim rfl rfl rfl (by decide +kernel) ⟨Nat.le_of_ble_eq_true rfl, Nat.le_of_ble_eq_true rfl⟩) (xPreV hK hN hXN hZ hS hFc hP hD [0, 1, 2, 3, 4, 5, 6, 7, 8] rfl (by decide) rfl 0 12 rfl rfl) rfl rfl hl.1 rfl (lv_room (Nat.le_of_ble_eq_true rfl)) dX12_layerOf_2 ⟨Nat.le_of_ble_eq_true rfl, Nat.le_of_ble_eq_true rfl⟩) hS (fun q _ h => hFc q h) hFc (fun q _ h => hFc q h) (fun E9 ce9 q9 u9 t9 H1 locs ht hvm _ hbx hz1 hk1 hS hce hcv hcl => ?_) (fun u9 t9 H1 locs _ _ hp _ _ _ _ => hp.elim)
  obtain ⟨rfl, hbx⟩ := hbx
  obtain ⟨hP, hD⟩ := wjoin (u := ()) (wr := []) (wf := bRO k o (qs 0) bf pa pn pk sv iz tr tx er fl li ll ac ci ch ++ bSt k qs qc qr ql lim sh sc fr ++ bClaims k qc n w ly t a fx) hP hD [0, 1, 2, 3, 4, 5, 6, 7, 8] [] [0, 1, 2, 3, 4, 5, 6, 7, 8] rfl rfl (by decide) (by decide) hk1 hFc hbx ht rfl rfl (by decide)
  exact vx_out (fun x h9 => (ht9 x h9).elim) hlocks hce hcv hcl (fun t ht2 hvm2 => xEnd hP hK hD hS hvm2 (by rw [ht2]; exact Nat.le_refl _) (fun q _ => by rw [ht2])) hS.2.2 (Nat.le_of_ble_eq_true rfl) (Nat.le_of_ble_eq_true rfl)

set_option maxHeartbeats 4000000 in
set_option maxRecDepth 100000 in
theorem x_X12_isRejected (l9 : Launch) (hl9 : l9.stackTraces = false) (D : va_G) (k : Nat → ClassId) (sz : Nat) (o bf pa pn pk sv tr tx li ll ac ci ch : Nat) (iz : Bool) (er fl : Int32) (qs qc qr ql : Nat → Nat) (lim sh sc : Int32) (fr : Nat → UInt32) (n : Nat) (w ly t a : Nat → Int32) (fx : Nat → UInt32) (x : Int32) (hxn : inC n x = false) : vx_Met l9 yX12_isRejected wsX12_isRejected ({ frames := 7, cells := 1, slots := 6, locals := 103 }) (XPc D k [.ref o, .int x] (bRO k o (qs 0) bf pa pn pk sv iz tr tx er fl li ll ac ci ch ++ bSt k qs qc qr ql lim sh sc fr ++ bClaims k qc n w ly t a fx) sz) (XI (va_A (bRO k o (qs 0) bf pa pn pk sv iz tr tx er fl li ll ac ci ch ++ bSt k qs qc qr ql lim sh sc fr ++ bClaims k qc n w ly t a fx) sz)) (XC D k "java/lang/IndexOutOfBoundsException" (bRO k o (qs 0) bf pa pn pk sv iz tr tx er fl li ll ac ci ch ++ bSt k qs qc qr ql lim sh sc fr ++ bClaims k qc n w ly t a fx) (va_A (bRO k o (qs 0) bf pa pn pk sv iz tr tx er fl li ll ac ci ch ++ bSt k qs qc qr ql lim sh sc fr ++ bClaims k qc n w ly t a fx) sz)) 1 6 (va_A (bRO k o (qs 0) bf pa pn pk sv iz tr tx er fl li ll ac ci ch ++ bSt k qs qc qr ql lim sh sc fr ++ bClaims k qc n w ly t a fx) sz) := by
  refine xMet (y := yX12_isRejected) (cc := cX12_isRejected) (maxL := 2) (ret := (some .boolean)) (Qc := XI) (X9 := XC D k "java/lang/IndexOutOfBoundsException" (bRO k o (qs 0) bf pa pn pk sv iz tr tx er fl li ll ac ci ch ++ bSt k qs qc qr ql lim sh sc fr ++ bClaims k qc n w ly t a fx)) [.ref o, .int x] (by decide) rfl (Nat.le_of_ble_eq_true rfl) ?_
  intro p9 e9 s9 m9 bl9 me9 c9 ls A H hF hr hlocks ht9 hP hK hN hXN hZ hD hA hS hl
  have hl : lv_has ls 2 [(0, .ref o), (1, .int x)] := hl
  obtain ⟨hx, hb, hml, hown, hts⟩ := id hF
  refine lv_aload_n hx hb dX12_isRejected_0 rfl (lv_at hl 0 rfl) ?_
  refine lv_iload_n hx hb dX12_isRejected_1 rfl (lv_at hl 1 rfl) ?_
  have hFc := va_free (wc := bRO k o (qs 0) bf pa pn pk sv iz tr tx er fl li ll ac ci ch ++ bSt k qs qc qr ql lim sh sc fr ++ bClaims k qc n w ly t a fx) hD hS hA [0, 1, 2, 3, 4, 5, 6, 7, 8] rfl
  refine vx_callv (vx_runV (As := [.int x]) (rest := []) hF (x_X12_needClaim l9 hl9 D k H.size o bf pa pn pk sv tr tx li ll ac ci ch iz er fl qs qc qr ql lim sh sc fr n w ly t a fx x hxn) (cwV 1 hts gX12_isRejected_X12_needClaim rfl rfl rfl (by decide +kernel) ⟨Nat.le_of_ble_eq_true rfl, Nat.le_of_ble_eq_true rfl⟩) (xPreV hK hN hXN hZ hS hFc hP hD [0, 1, 2, 3, 4, 5, 6, 7, 8] rfl (by decide) rfl 0 12 rfl rfl) rfl rfl hl.1 rfl (lv_room (Nat.le_of_ble_eq_true rfl)) dX12_isRejected_2 ⟨Nat.le_of_ble_eq_true rfl, Nat.le_of_ble_eq_true rfl⟩) hS (fun q _ h => hFc q h) hFc (fun q _ h => hFc q h) (fun E9 ce9 q9 u9 t9 H1 locs ht hvm _ hbx hz1 hk1 hS hce hcv hcl => ?_) (fun u9 t9 H1 locs _ _ hp _ _ _ _ => hp.elim)
  obtain ⟨rfl, hbx⟩ := hbx
  obtain ⟨hP, hD⟩ := wjoin (u := ()) (wr := []) (wf := bRO k o (qs 0) bf pa pn pk sv iz tr tx er fl li ll ac ci ch ++ bSt k qs qc qr ql lim sh sc fr ++ bClaims k qc n w ly t a fx) hP hD [0, 1, 2, 3, 4, 5, 6, 7, 8] [] [0, 1, 2, 3, 4, 5, 6, 7, 8] rfl rfl (by decide) (by decide) hk1 hFc hbx ht rfl rfl (by decide)
  exact vx_out (fun x h9 => (ht9 x h9).elim) hlocks hce hcv hcl (fun t ht2 hvm2 => xEnd hP hK hD hS hvm2 (by rw [ht2]; exact Nat.le_refl _) (fun q _ => by rw [ht2])) hS.2.2 (Nat.le_of_ble_eq_true rfl) (Nat.le_of_ble_eq_true rfl)

set_option maxHeartbeats 4000000 in
set_option maxRecDepth 100000 in
theorem x_X12_circleSize (l9 : Launch) (hl9 : l9.stackTraces = false) (D : va_G) (k : Nat → ClassId) (sz : Nat) (o bf pa pn pk sv tr tx li ll ac ci ch : Nat) (iz : Bool) (er fl : Int32) (qs qc qr ql : Nat → Nat) (lim sh sc : Int32) (fr : Nat → UInt32) (n : Nat) (w ly t a : Nat → Int32) (fx : Nat → UInt32) (x : Int32) (hxn : inC n x = false) : vx_Met l9 yX12_circleSize wsX12_circleSize ({ frames := 7, cells := 1, slots := 6, locals := 103 }) (XPc D k [.ref o, .int x] (bRO k o (qs 0) bf pa pn pk sv iz tr tx er fl li ll ac ci ch ++ bSt k qs qc qr ql lim sh sc fr ++ bClaims k qc n w ly t a fx) sz) (XI (va_A (bRO k o (qs 0) bf pa pn pk sv iz tr tx er fl li ll ac ci ch ++ bSt k qs qc qr ql lim sh sc fr ++ bClaims k qc n w ly t a fx) sz)) (XC D k "java/lang/IndexOutOfBoundsException" (bRO k o (qs 0) bf pa pn pk sv iz tr tx er fl li ll ac ci ch ++ bSt k qs qc qr ql lim sh sc fr ++ bClaims k qc n w ly t a fx) (va_A (bRO k o (qs 0) bf pa pn pk sv iz tr tx er fl li ll ac ci ch ++ bSt k qs qc qr ql lim sh sc fr ++ bClaims k qc n w ly t a fx) sz)) 1 6 (va_A (bRO k o (qs 0) bf pa pn pk sv iz tr tx er fl li ll ac ci ch ++ bSt k qs qc qr ql lim sh sc fr ++ bClaims k qc n w ly t a fx) sz) := by
  refine xMet (y := yX12_circleSize) (cc := cX12_circleSize) (maxL := 2) (ret := (some .int)) (Qc := XI) (X9 := XC D k "java/lang/IndexOutOfBoundsException" (bRO k o (qs 0) bf pa pn pk sv iz tr tx er fl li ll ac ci ch ++ bSt k qs qc qr ql lim sh sc fr ++ bClaims k qc n w ly t a fx)) [.ref o, .int x] (by decide) rfl (Nat.le_of_ble_eq_true rfl) ?_
  intro p9 e9 s9 m9 bl9 me9 c9 ls A H hF hr hlocks ht9 hP hK hN hXN hZ hD hA hS hl
  have hl : lv_has ls 2 [(0, .ref o), (1, .int x)] := hl
  obtain ⟨hx, hb, hml, hown, hts⟩ := id hF
  refine lv_aload_n hx hb dX12_circleSize_0 rfl (lv_at hl 0 rfl) ?_
  refine lv_iload_n hx hb dX12_circleSize_1 rfl (lv_at hl 1 rfl) ?_
  have hFc := va_free (wc := bRO k o (qs 0) bf pa pn pk sv iz tr tx er fl li ll ac ci ch ++ bSt k qs qc qr ql lim sh sc fr ++ bClaims k qc n w ly t a fx) hD hS hA [0, 1, 2, 3, 4, 5, 6, 7, 8] rfl
  refine vx_callv (vx_runV (As := [.int x]) (rest := []) hF (x_X12_needClaim l9 hl9 D k H.size o bf pa pn pk sv tr tx li ll ac ci ch iz er fl qs qc qr ql lim sh sc fr n w ly t a fx x hxn) (cwV 1 hts gX12_circleSize_X12_needClaim rfl rfl rfl (by decide +kernel) ⟨Nat.le_of_ble_eq_true rfl, Nat.le_of_ble_eq_true rfl⟩) (xPreV hK hN hXN hZ hS hFc hP hD [0, 1, 2, 3, 4, 5, 6, 7, 8] rfl (by decide) rfl 0 12 rfl rfl) rfl rfl hl.1 rfl (lv_room (Nat.le_of_ble_eq_true rfl)) dX12_circleSize_2 ⟨Nat.le_of_ble_eq_true rfl, Nat.le_of_ble_eq_true rfl⟩) hS (fun q _ h => hFc q h) hFc (fun q _ h => hFc q h) (fun E9 ce9 q9 u9 t9 H1 locs ht hvm _ hbx hz1 hk1 hS hce hcv hcl => ?_) (fun u9 t9 H1 locs _ _ hp _ _ _ _ => hp.elim)
  obtain ⟨rfl, hbx⟩ := hbx
  obtain ⟨hP, hD⟩ := wjoin (u := ()) (wr := []) (wf := bRO k o (qs 0) bf pa pn pk sv iz tr tx er fl li ll ac ci ch ++ bSt k qs qc qr ql lim sh sc fr ++ bClaims k qc n w ly t a fx) hP hD [0, 1, 2, 3, 4, 5, 6, 7, 8] [] [0, 1, 2, 3, 4, 5, 6, 7, 8] rfl rfl (by decide) (by decide) hk1 hFc hbx ht rfl rfl (by decide)
  exact vx_out (fun x h9 => (ht9 x h9).elim) hlocks hce hcv hcl (fun t ht2 hvm2 => xEnd hP hK hD hS hvm2 (by rw [ht2]; exact Nat.le_refl _) (fun q _ => by rw [ht2])) hS.2.2 (Nat.le_of_ble_eq_true rfl) (Nat.le_of_ble_eq_true rfl)

set_option maxHeartbeats 4000000 in
set_option maxRecDepth 100000 in
theorem x_X12_fluxOf (l9 : Launch) (hl9 : l9.stackTraces = false) (D : va_G) (k : Nat → ClassId) (sz : Nat) (o bf pa pn pk sv tr tx li ll ac ci ch : Nat) (iz : Bool) (er fl : Int32) (qs qc qr ql : Nat → Nat) (lim sh sc : Int32) (fr : Nat → UInt32) (n : Nat) (w ly t a : Nat → Int32) (fx : Nat → UInt32) (x : Int32) (hxn : inC n x = false) : vx_Met l9 yX12_fluxOf wsX12_fluxOf ({ frames := 7, cells := 1, slots := 6, locals := 103 }) (XPc D k [.ref o, .int x] (bRO k o (qs 0) bf pa pn pk sv iz tr tx er fl li ll ac ci ch ++ bSt k qs qc qr ql lim sh sc fr ++ bClaims k qc n w ly t a fx) sz) (XF (va_A (bRO k o (qs 0) bf pa pn pk sv iz tr tx er fl li ll ac ci ch ++ bSt k qs qc qr ql lim sh sc fr ++ bClaims k qc n w ly t a fx) sz)) (XC D k "java/lang/IndexOutOfBoundsException" (bRO k o (qs 0) bf pa pn pk sv iz tr tx er fl li ll ac ci ch ++ bSt k qs qc qr ql lim sh sc fr ++ bClaims k qc n w ly t a fx) (va_A (bRO k o (qs 0) bf pa pn pk sv iz tr tx er fl li ll ac ci ch ++ bSt k qs qc qr ql lim sh sc fr ++ bClaims k qc n w ly t a fx) sz)) 1 6 (va_A (bRO k o (qs 0) bf pa pn pk sv iz tr tx er fl li ll ac ci ch ++ bSt k qs qc qr ql lim sh sc fr ++ bClaims k qc n w ly t a fx) sz) := by
  refine xMet (y := yX12_fluxOf) (cc := cX12_fluxOf) (maxL := 2) (ret := (some .float)) (Qc := XF) (X9 := XC D k "java/lang/IndexOutOfBoundsException" (bRO k o (qs 0) bf pa pn pk sv iz tr tx er fl li ll ac ci ch ++ bSt k qs qc qr ql lim sh sc fr ++ bClaims k qc n w ly t a fx)) [.ref o, .int x] (by decide) rfl (Nat.le_of_ble_eq_true rfl) ?_
  intro p9 e9 s9 m9 bl9 me9 c9 ls A H hF hr hlocks ht9 hP hK hN hXN hZ hD hA hS hl
  have hl : lv_has ls 2 [(0, .ref o), (1, .int x)] := hl
  obtain ⟨hx, hb, hml, hown, hts⟩ := id hF
  refine lv_aload_n hx hb dX12_fluxOf_0 rfl (lv_at hl 0 rfl) ?_
  refine lv_iload_n hx hb dX12_fluxOf_1 rfl (lv_at hl 1 rfl) ?_
  have hFc := va_free (wc := bRO k o (qs 0) bf pa pn pk sv iz tr tx er fl li ll ac ci ch ++ bSt k qs qc qr ql lim sh sc fr ++ bClaims k qc n w ly t a fx) hD hS hA [0, 1, 2, 3, 4, 5, 6, 7, 8] rfl
  refine vx_callv (vx_runV (As := [.int x]) (rest := []) hF (x_X12_needClaim l9 hl9 D k H.size o bf pa pn pk sv tr tx li ll ac ci ch iz er fl qs qc qr ql lim sh sc fr n w ly t a fx x hxn) (cwV 1 hts gX12_fluxOf_X12_needClaim rfl rfl rfl (by decide +kernel) ⟨Nat.le_of_ble_eq_true rfl, Nat.le_of_ble_eq_true rfl⟩) (xPreV hK hN hXN hZ hS hFc hP hD [0, 1, 2, 3, 4, 5, 6, 7, 8] rfl (by decide) rfl 0 12 rfl rfl) rfl rfl hl.1 rfl (lv_room (Nat.le_of_ble_eq_true rfl)) dX12_fluxOf_2 ⟨Nat.le_of_ble_eq_true rfl, Nat.le_of_ble_eq_true rfl⟩) hS (fun q _ h => hFc q h) hFc (fun q _ h => hFc q h) (fun E9 ce9 q9 u9 t9 H1 locs ht hvm _ hbx hz1 hk1 hS hce hcv hcl => ?_) (fun u9 t9 H1 locs _ _ hp _ _ _ _ => hp.elim)
  obtain ⟨rfl, hbx⟩ := hbx
  obtain ⟨hP, hD⟩ := wjoin (u := ()) (wr := []) (wf := bRO k o (qs 0) bf pa pn pk sv iz tr tx er fl li ll ac ci ch ++ bSt k qs qc qr ql lim sh sc fr ++ bClaims k qc n w ly t a fx) hP hD [0, 1, 2, 3, 4, 5, 6, 7, 8] [] [0, 1, 2, 3, 4, 5, 6, 7, 8] rfl rfl (by decide) (by decide) hk1 hFc hbx ht rfl rfl (by decide)
  exact vx_out (fun x h9 => (ht9 x h9).elim) hlocks hce hcv hcl (fun t ht2 hvm2 => xEnd hP hK hD hS hvm2 (by rw [ht2]; exact Nat.le_refl _) (fun q _ => by rw [ht2])) hS.2.2 (Nat.le_of_ble_eq_true rfl) (Nat.le_of_ble_eq_true rfl)


set_option maxHeartbeats 4000000 in
set_option maxRecDepth 100000 in
theorem x_X12_describeClaim (l9 : Launch) (hl9 : l9.stackTraces = false) (D : va_G) (k : Nat → ClassId) (sz : Nat) (o bf pa pn pk sv tr tx li ll ac ci ch : Nat) (iz : Bool) (er fl : Int32) (qs qc qr ql : Nat → Nat) (lim sh sc : Int32) (fr : Nat → UInt32) (n : Nat) (w ly t a : Nat → Int32) (fx : Nat → UInt32) (x : Int32) (hxn : inC n x = false) : vx_Met l9 yX12_describeClaim wsX12_describeClaim ({ frames := 7, cells := 1, slots := 6, locals := 103 }) (XPc D k [.ref o, .int x] (bRO k o (qs 0) bf pa pn pk sv iz tr tx er fl li ll ac ci ch ++ bSt k qs qc qr ql lim sh sc fr ++ bClaims k qc n w ly t a fx) sz) (XI (va_A (bRO k o (qs 0) bf pa pn pk sv iz tr tx er fl li ll ac ci ch ++ bSt k qs qc qr ql lim sh sc fr ++ bClaims k qc n w ly t a fx) sz)) (XC D k "java/lang/IndexOutOfBoundsException" (bRO k o (qs 0) bf pa pn pk sv iz tr tx er fl li ll ac ci ch ++ bSt k qs qc qr ql lim sh sc fr ++ bClaims k qc n w ly t a fx) (va_A (bRO k o (qs 0) bf pa pn pk sv iz tr tx er fl li ll ac ci ch ++ bSt k qs qc qr ql lim sh sc fr ++ bClaims k qc n w ly t a fx) sz)) 1 6 (va_A (bRO k o (qs 0) bf pa pn pk sv iz tr tx er fl li ll ac ci ch ++ bSt k qs qc qr ql lim sh sc fr ++ bClaims k qc n w ly t a fx) sz) := by
  refine xMet (y := yX12_describeClaim) (cc := cX12_describeClaim) (maxL := 3) (ret := (some .int)) (Qc := XI) (X9 := XC D k "java/lang/IndexOutOfBoundsException" (bRO k o (qs 0) bf pa pn pk sv iz tr tx er fl li ll ac ci ch ++ bSt k qs qc qr ql lim sh sc fr ++ bClaims k qc n w ly t a fx)) [.ref o, .int x] (by decide) rfl (Nat.le_of_ble_eq_true rfl) ?_
  intro p9 e9 s9 m9 bl9 me9 c9 ls A H hF hr hlocks ht9 hP hK hN hXN hZ hD hA hS hl
  have hl : lv_has ls 3 [(0, .ref o), (1, .int x)] := hl
  obtain ⟨hx, hb, hml, hown, hts⟩ := id hF
  refine lv_aload_n hx hb dX12_describeClaim_0 rfl (lv_at hl 0 rfl) ?_
  refine lv_iload_n hx hb dX12_describeClaim_1 rfl (lv_at hl 1 rfl) ?_
  have hFc := va_free (wc := bRO k o (qs 0) bf pa pn pk sv iz tr tx er fl li ll ac ci ch ++ bSt k qs qc qr ql lim sh sc fr ++ bClaims k qc n w ly t a fx) hD hS hA [0, 1, 2, 3, 4, 5, 6, 7, 8] rfl
  refine vx_callv (vx_runV (As := [.int x]) (rest := []) hF (x_X12_needClaim l9 hl9 D k H.size o bf pa pn pk sv tr tx li ll ac ci ch iz er fl qs qc qr ql lim sh sc fr n w ly t a fx x hxn) (cwV 1 hts gX12_describeClaim_X12_needClaim rfl rfl rfl (by decide +kernel) ⟨Nat.le_of_ble_eq_true rfl, Nat.le_of_ble_eq_true rfl⟩) (xPreV hK hN hXN hZ hS hFc hP hD [0, 1, 2, 3, 4, 5, 6, 7, 8] rfl (by decide) rfl 0 12 rfl rfl) rfl rfl hl.1 rfl (lv_room (Nat.le_of_ble_eq_true rfl)) dX12_describeClaim_2 ⟨Nat.le_of_ble_eq_true rfl, Nat.le_of_ble_eq_true rfl⟩) hS (fun q _ h => hFc q h) hFc (fun q _ h => hFc q h) (fun E9 ce9 q9 u9 t9 H1 locs ht hvm _ hbx hz1 hk1 hS hce hcv hcl => ?_) (fun u9 t9 H1 locs _ _ hp _ _ _ _ => hp.elim)
  obtain ⟨rfl, hbx⟩ := hbx
  obtain ⟨hP, hD⟩ := wjoin (u := ()) (wr := []) (wf := bRO k o (qs 0) bf pa pn pk sv iz tr tx er fl li ll ac ci ch ++ bSt k qs qc qr ql lim sh sc fr ++ bClaims k qc n w ly t a fx) hP hD [0, 1, 2, 3, 4, 5, 6, 7, 8] [] [0, 1, 2, 3, 4, 5, 6, 7, 8] rfl rfl (by decide) (by decide) hk1 hFc hbx ht rfl rfl (by decide)
  exact vx_out (fun x h9 => (ht9 x h9).elim) hlocks hce hcv hcl (fun t ht2 hvm2 => xEnd hP hK hD hS hvm2 (by rw [ht2]; exact Nat.le_refl _) (fun q _ => by rw [ht2])) hS.2.2 (Nat.le_of_ble_eq_true rfl) (Nat.le_of_ble_eq_true rfl)

set_option maxHeartbeats 4000000 in
set_option maxRecDepth 100000 in
theorem x_X12_attacks_a (l9 : Launch) (hl9 : l9.stackTraces = false) (D : va_G) (k : Nat → ClassId) (sz : Nat) (o bf pa pn pk sv tr tx li ll ac ci ch : Nat) (iz : Bool) (er fl : Int32) (qs qc qr ql : Nat → Nat) (lim sh sc : Int32) (fr : Nat → UInt32) (n : Nat) (w ly t a : Nat → Int32) (fx : Nat → UInt32) (x y : Int32) (hxn : inC n x = false) : vx_Met l9 yX12_attacks wsX12_attacks ({ frames := 7, cells := 1, slots := 6, locals := 103 }) (XPc D k [.ref o, .int x, .int y] (bRO k o (qs 0) bf pa pn pk sv iz tr tx er fl li ll ac ci ch ++ bSt k qs qc qr ql lim sh sc fr ++ bClaims k qc n w ly t a fx) sz) (XI (va_A (bRO k o (qs 0) bf pa pn pk sv iz tr tx er fl li ll ac ci ch ++ bSt k qs qc qr ql lim sh sc fr ++ bClaims k qc n w ly t a fx) sz)) (XC D k "java/lang/IndexOutOfBoundsException" (bRO k o (qs 0) bf pa pn pk sv iz tr tx er fl li ll ac ci ch ++ bSt k qs qc qr ql lim sh sc fr ++ bClaims k qc n w ly t a fx) (va_A (bRO k o (qs 0) bf pa pn pk sv iz tr tx er fl li ll ac ci ch ++ bSt k qs qc qr ql lim sh sc fr ++ bClaims k qc n w ly t a fx) sz)) 1 6 (va_A (bRO k o (qs 0) bf pa pn pk sv iz tr tx er fl li ll ac ci ch ++ bSt k qs qc qr ql lim sh sc fr ++ bClaims k qc n w ly t a fx) sz) := by
  refine xMet (y := yX12_attacks) (cc := cX12_attacks) (maxL := 3) (ret := (some .boolean)) (Qc := XI) (X9 := XC D k "java/lang/IndexOutOfBoundsException" (bRO k o (qs 0) bf pa pn pk sv iz tr tx er fl li ll ac ci ch ++ bSt k qs qc qr ql lim sh sc fr ++ bClaims k qc n w ly t a fx)) [.ref o, .int x, .int y] (by decide) rfl (Nat.le_of_ble_eq_true rfl) ?_
  intro p9 e9 s9 m9 bl9 me9 c9 ls A H hF hr hlocks ht9 hP hK hN hXN hZ hD hA hS hl
  have hl : lv_has ls 3 [(0, .ref o), (1, .int x), (2, .int y)] := hl
  obtain ⟨hx, hb, hml, hown, hts⟩ := id hF
  refine lv_aload_n hx hb dX12_attacks_0 rfl (lv_at hl 0 rfl) ?_
  refine lv_iload_n hx hb dX12_attacks_1 rfl (lv_at hl 1 rfl) ?_
  have hFc := va_free (wc := bRO k o (qs 0) bf pa pn pk sv iz tr tx er fl li ll ac ci ch ++ bSt k qs qc qr ql lim sh sc fr ++ bClaims k qc n w ly t a fx) hD hS hA [0, 1, 2, 3, 4, 5, 6, 7, 8] rfl
  refine vx_callv (vx_runV (As := [.int x]) (rest := []) hF (x_X12_needClaim l9 hl9 D k H.size o bf pa pn pk sv tr tx li ll ac ci ch iz er fl qs qc qr ql lim sh sc fr n w ly t a fx x hxn) (cwV 1 hts gX12_attacks_X12_needClaim rfl rfl rfl (by decide +kernel) ⟨Nat.le_of_ble_eq_true rfl, Nat.le_of_ble_eq_true rfl⟩) (xPreV hK hN hXN hZ hS hFc hP hD [0, 1, 2, 3, 4, 5, 6, 7, 8] rfl (by decide) rfl 0 12 rfl rfl) rfl rfl hl.1 rfl (lv_room (Nat.le_of_ble_eq_true rfl)) dX12_attacks_2 ⟨Nat.le_of_ble_eq_true rfl, Nat.le_of_ble_eq_true rfl⟩) hS (fun q _ h => hFc q h) hFc (fun q _ h => hFc q h) (fun E9 ce9 q9 u9 t9 H1 locs ht hvm _ hbx hz1 hk1 hS hce hcv hcl => ?_) (fun u9 t9 H1 locs _ _ hp _ _ _ _ => hp.elim)
  obtain ⟨rfl, hbx⟩ := hbx
  obtain ⟨hP, hD⟩ := wjoin (u := ()) (wr := []) (wf := bRO k o (qs 0) bf pa pn pk sv iz tr tx er fl li ll ac ci ch ++ bSt k qs qc qr ql lim sh sc fr ++ bClaims k qc n w ly t a fx) hP hD [0, 1, 2, 3, 4, 5, 6, 7, 8] [] [0, 1, 2, 3, 4, 5, 6, 7, 8] rfl rfl (by decide) (by decide) hk1 hFc hbx ht rfl rfl (by decide)
  exact vx_out (fun x h9 => (ht9 x h9).elim) hlocks hce hcv hcl (fun t ht2 hvm2 => xEnd hP hK hD hS hvm2 (by rw [ht2]; exact Nat.le_refl _) (fun q _ => by rw [ht2])) hS.2.2 (Nat.le_of_ble_eq_true rfl) (Nat.le_of_ble_eq_true rfl)

set_option maxHeartbeats 4000000 in
set_option maxRecDepth 100000 in
theorem x_X12_attacks_b (l9 : Launch) (hl9 : l9.stackTraces = false) (D : va_G) (k : Nat → ClassId) (sz : Nat) (o bf pa pn pk sv tr tx li ll ac ci ch : Nat) (iz : Bool) (er fl : Int32) (qs qc qr ql : Nat → Nat) (lim sh sc : Int32) (fr : Nat → UInt32) (n : Nat) (w ly t a : Nat → Int32) (fx : Nat → UInt32) (x y : Int32) (hix : inC n x = true) (hxn : inC n y = false) : vx_Met l9 yX12_attacks wsX12_attacks ({ frames := 7, cells := 1, slots := 6, locals := 103 }) (XPc D k [.ref o, .int x, .int y] (bRO k o (qs 0) bf pa pn pk sv iz tr tx er fl li ll ac ci ch ++ bSt k qs qc qr ql lim sh sc fr ++ bClaims k qc n w ly t a fx) sz) (XI (va_A (bRO k o (qs 0) bf pa pn pk sv iz tr tx er fl li ll ac ci ch ++ bSt k qs qc qr ql lim sh sc fr ++ bClaims k qc n w ly t a fx) sz)) (XC D k "java/lang/IndexOutOfBoundsException" (bRO k o (qs 0) bf pa pn pk sv iz tr tx er fl li ll ac ci ch ++ bSt k qs qc qr ql lim sh sc fr ++ bClaims k qc n w ly t a fx) (va_A (bRO k o (qs 0) bf pa pn pk sv iz tr tx er fl li ll ac ci ch ++ bSt k qs qc qr ql lim sh sc fr ++ bClaims k qc n w ly t a fx) sz)) 1 6 (va_A (bRO k o (qs 0) bf pa pn pk sv iz tr tx er fl li ll ac ci ch ++ bSt k qs qc qr ql lim sh sc fr ++ bClaims k qc n w ly t a fx) sz) := by
  refine xMet (y := yX12_attacks) (cc := cX12_attacks) (maxL := 3) (ret := (some .boolean)) (Qc := XI) (X9 := XC D k "java/lang/IndexOutOfBoundsException" (bRO k o (qs 0) bf pa pn pk sv iz tr tx er fl li ll ac ci ch ++ bSt k qs qc qr ql lim sh sc fr ++ bClaims k qc n w ly t a fx)) [.ref o, .int x, .int y] (by decide) rfl (Nat.le_of_ble_eq_true rfl) ?_
  intro p9 e9 s9 m9 bl9 me9 c9 ls A H hF hr hlocks ht9 hP hK hN hXN hZ hD hA hS hl
  have hl : lv_has ls 3 [(0, .ref o), (1, .int x), (2, .int y)] := hl
  obtain ⟨hx, hb, hml, hown, hts⟩ := id hF
  refine lv_aload_n hx hb dX12_attacks_0 rfl (lv_at hl 0 rfl) ?_
  refine lv_iload_n hx hb dX12_attacks_1 rfl (lv_at hl 1 rfl) ?_
  have hFc := va_free (wc := bRO k o (qs 0) bf pa pn pk sv iz tr tx er fl li ll ac ci ch ++ bSt k qs qc qr ql lim sh sc fr ++ bClaims k qc n w ly t a fx) hD hS hA [0, 1, 2, 3, 4, 5, 6, 7, 8] rfl
  refine va_callv (va_runV (As := [.int x]) (rest := []) hF (m_X12_needClaim l9 D k H.size o bf pa pn pk sv tr tx li ll ac ci ch iz er fl qs qc qr ql lim sh sc fr n w ly t a fx x hix) (cwV 1 hts gX12_attacks_X12_needClaim rfl rfl rfl (by decide +kernel) ⟨Nat.le_of_ble_eq_true rfl, Nat.le_of_ble_eq_true rfl⟩) (wPreV hK hN hP hD [0, 1, 2, 3, 4, 5, 6, 7, 8] rfl (by decide) rfl 0 12 rfl rfl) rfl rfl hl.1 rfl (lv_room (Nat.le_of_ble_eq_true rfl)) dX12_attacks_2 ⟨Nat.zero_le _, Nat.zero_le _⟩) hS (fun q _ h => hFc q h) hFc (fun u9 t9 H1 locs ht hvm hw hB hz1 hk1 hS => ?_)
  obtain ⟨hP, hD⟩ := wjoin (wr := []) (wf := bRO k o (qs 0) bf pa pn pk sv iz tr tx er fl li ll ac ci ch ++ bSt k qs qc qr ql lim sh sc fr ++ bClaims k qc n w ly t a fx) hP hD [0, 1, 2, 3, 4, 5, 6, 7, 8] [] [0, 1, 2, 3, 4, 5, 6, 7, 8] rfl rfl (by decide) (by decide) hk1 hFc hB ht rfl rfl (by decide)
  clear hB hk1 hz1 hvm hFc
  clear ht
  clear t9
  generalize H1 = H at hP hS ⊢
  refine lv_aload_n hx hb dX12_attacks_5 rfl (lv_at hl 0 rfl) ?_
  refine lv_iload_n hx hb dX12_attacks_6 rfl (lv_at hl 2 rfl) ?_
  have hFc := va_free (wc := bRO k o (qs 0) bf pa pn pk sv iz tr tx er fl li ll ac ci ch ++ bSt k qs qc qr ql lim sh sc fr ++ bClaims k qc n w ly t a fx) hD hS hA [0, 1, 2, 3, 4, 5, 6, 7, 8] rfl
  refine vx_callv (vx_runV (As := [.int y]) (rest := []) hF (x_X12_needClaim l9 hl9 D k H.size o bf pa pn pk sv tr tx li ll ac ci ch iz er fl qs qc qr ql lim sh sc fr n w ly t a fx y hxn) (cwV 1 hts gX12_attacks_X12_needClaim rfl rfl rfl (by decide +kernel) ⟨Nat.le_of_ble_eq_true rfl, Nat.le_of_ble_eq_true rfl⟩) (xPreV hK hN hXN hZ hS hFc hP hD [0, 1, 2, 3, 4, 5, 6, 7, 8] rfl (by decide) rfl 0 12 rfl rfl) rfl rfl hl.1 rfl (lv_room (Nat.le_of_ble_eq_true rfl)) dX12_attacks_7 ⟨Nat.le_of_ble_eq_true rfl, Nat.le_of_ble_eq_true rfl⟩) hS (fun q _ h => hFc q h) hFc (fun q _ h => hFc q h) (fun E9 ce9 q9 u9 t9 H1 locs ht hvm _ hbx hz1 hk1 hS hce hcv hcl => ?_) (fun u9 t9 H1 locs _ _ hp _ _ _ _ => hp.elim)
  obtain ⟨rfl, hbx⟩ := hbx
  obtain ⟨hP, hD⟩ := wjoin (u := ()) (wr := []) (wf := bRO k o (qs 0) bf pa pn pk sv iz tr tx er fl li ll ac ci ch ++ bSt k qs qc qr ql lim sh sc fr ++ bClaims k qc n w ly t a fx) hP hD [0, 1, 2, 3, 4, 5, 6, 7, 8] [] [0, 1, 2, 3, 4, 5, 6, 7, 8] rfl rfl (by decide) (by decide) hk1 hFc hbx ht rfl rfl (by decide)
  exact vx_out (fun x h9 => (ht9 x h9).elim) hlocks hce hcv hcl (fun t ht2 hvm2 => xEnd hP hK hD hS hvm2 (by rw [ht2]; exact Nat.le_refl _) (fun q _ => by rw [ht2])) hS.2.2 (Nat.le_of_ble_eq_true rfl) (Nat.le_of_ble_eq_true rfl)

set_option maxHeartbeats 4000000 in
set_option maxRecDepth 100000 in
theorem x_X12_needChain_a (l9 : Launch) (hl9 : l9.stackTraces = false) (D : va_G) (k : Nat → ClassId) (sz : Nat) (o bf pa pn pk sv tr tx li ll ac ci ch : Nat) (iz : Bool) (er fl : Int32) (qs qc qr ql : Nat → Nat) (lim sh sc : Int32) (fr : Nat → UInt32) (n : Nat) (w ly t a : Nat → Int32) (fx : Nat → UInt32) (x y le : Int32) (hxn : inC n x = false) : vx_Met l9 yX12_needChain wsX12_needChain ({ frames := 7, cells := 1, slots := 6, locals := 103 }) (XPc D k [.ref o, .int x, .int y, .int le] (bRO k o (qs 0) bf pa pn pk sv iz tr tx er fl li ll ac ci ch ++ bSt k qs qc qr ql lim sh sc fr ++ bClaims k qc n w ly t a fx) sz) (XV (va_A (bRO k o (qs 0) bf pa pn pk sv iz tr tx er fl li ll ac ci ch ++ bSt k qs qc qr ql lim sh sc fr ++ bClaims k qc n w ly t a fx) sz)) (XC D k "java/lang/IndexOutOfBoundsException" (bRO k o (qs 0) bf pa pn pk sv iz tr tx er fl li ll ac ci ch ++ bSt k qs qc qr ql lim sh sc fr ++ bClaims k qc n w ly t a fx) (va_A (bRO k o (qs 0) bf pa pn pk sv iz tr tx er fl li ll ac ci ch ++ bSt k qs qc qr ql lim sh sc fr ++ bClaims k qc n w ly t a fx) sz)) 1 6 (va_A (bRO k o (qs 0) bf pa pn pk sv iz tr tx er fl li ll ac ci ch ++ bSt k qs qc qr ql lim sh sc fr ++ bClaims k qc n w ly t a fx) sz) := by
  refine xMet (y := yX12_needChain) (cc := cX12_needChain) (maxL := 4) (ret := none) (Qc := XV) (X9 := XC D k "java/lang/IndexOutOfBoundsException" (bRO k o (qs 0) bf pa pn pk sv iz tr tx er fl li ll ac ci ch ++ bSt k qs qc qr ql lim sh sc fr ++ bClaims k qc n w ly t a fx)) [.ref o, .int x, .int y, .int le] (by decide) rfl (Nat.le_of_ble_eq_true rfl) ?_
  intro p9 e9 s9 m9 bl9 me9 c9 ls A H hF hr hlocks ht9 hP hK hN hXN hZ hD hA hS hl
  have hl : lv_has ls 4 [(0, .ref o), (1, .int x), (2, .int y), (3, .int le)] := hl
  obtain ⟨hx, hb, hml, hown, hts⟩ := id hF
  refine lv_aload_n hx hb dX12_needChain_0 rfl (lv_at hl 0 rfl) ?_
  refine lv_iload_n hx hb dX12_needChain_1 rfl (lv_at hl 1 rfl) ?_
  have hFc := va_free (wc := bRO k o (qs 0) bf pa pn pk sv iz tr tx er fl li ll ac ci ch ++ bSt k qs qc qr ql lim sh sc fr ++ bClaims k qc n w ly t a fx) hD hS hA [0, 1, 2, 3, 4, 5, 6, 7, 8] rfl
  refine vx_callv (vx_runV (As := [.int x]) (rest := []) hF (x_X12_needClaim l9 hl9 D k H.size o bf pa pn pk sv tr tx li ll ac ci ch iz er fl qs qc qr ql lim sh sc fr n w ly t a fx x hxn) (cwV 1 hts gX12_needChain_X12_needClaim rfl rfl rfl (by decide +kernel) ⟨Nat.le_of_ble_eq_true rfl, Nat.le_of_ble_eq_true rfl⟩) (xPreV hK hN hXN hZ hS hFc hP hD [0, 1, 2, 3, 4, 5, 6, 7, 8] rfl (by decide) rfl 0 12 rfl rfl) rfl rfl hl.1 rfl (lv_room (Nat.le_of_ble_eq_true rfl)) dX12_needChain_2 ⟨Nat.le_of_ble_eq_true rfl, Nat.le_of_ble_eq_true rfl⟩) hS (fun q _ h => hFc q h) hFc (fun q _ h => hFc q h) (fun E9 ce9 q9 u9 t9 H1 locs ht hvm _ hbx hz1 hk1 hS hce hcv hcl => ?_) (fun u9 t9 H1 locs _ _ hp _ _ _ _ => hp.elim)
  obtain ⟨rfl, hbx⟩ := hbx
  obtain ⟨hP, hD⟩ := wjoin (u := ()) (wr := []) (wf := bRO k o (qs 0) bf pa pn pk sv iz tr tx er fl li ll ac ci ch ++ bSt k qs qc qr ql lim sh sc fr ++ bClaims k qc n w ly t a fx) hP hD [0, 1, 2, 3, 4, 5, 6, 7, 8] [] [0, 1, 2, 3, 4, 5, 6, 7, 8] rfl rfl (by decide) (by decide) hk1 hFc hbx ht rfl rfl (by decide)
  exact vx_out (fun x h9 => (ht9 x h9).elim) hlocks hce hcv hcl (fun t ht2 hvm2 => xEnd hP hK hD hS hvm2 (by rw [ht2]; exact Nat.le_refl _) (fun q _ => by rw [ht2])) hS.2.2 (Nat.le_of_ble_eq_true rfl) (Nat.le_of_ble_eq_true rfl)

set_option maxHeartbeats 4000000 in
set_option maxRecDepth 100000 in
theorem x_X12_needChain_b (l9 : Launch) (hl9 : l9.stackTraces = false) (D : va_G) (k : Nat → ClassId) (sz : Nat) (o bf pa pn pk sv tr tx li ll ac ci ch : Nat) (iz : Bool) (er fl : Int32) (qs qc qr ql : Nat → Nat) (lim sh sc : Int32) (fr : Nat → UInt32) (n : Nat) (w ly t a : Nat → Int32) (fx : Nat → UInt32) (x y le : Int32) (hix : inC n x = true) (hxn : inC n y = false) : vx_Met l9 yX12_needChain wsX12_needChain ({ frames := 7, cells := 1, slots := 6, locals := 103 }) (XPc D k [.ref o, .int x, .int y, .int le] (bRO k o (qs 0) bf pa pn pk sv iz tr tx er fl li ll ac ci ch ++ bSt k qs qc qr ql lim sh sc fr ++ bClaims k qc n w ly t a fx) sz) (XV (va_A (bRO k o (qs 0) bf pa pn pk sv iz tr tx er fl li ll ac ci ch ++ bSt k qs qc qr ql lim sh sc fr ++ bClaims k qc n w ly t a fx) sz)) (XC D k "java/lang/IndexOutOfBoundsException" (bRO k o (qs 0) bf pa pn pk sv iz tr tx er fl li ll ac ci ch ++ bSt k qs qc qr ql lim sh sc fr ++ bClaims k qc n w ly t a fx) (va_A (bRO k o (qs 0) bf pa pn pk sv iz tr tx er fl li ll ac ci ch ++ bSt k qs qc qr ql lim sh sc fr ++ bClaims k qc n w ly t a fx) sz)) 1 6 (va_A (bRO k o (qs 0) bf pa pn pk sv iz tr tx er fl li ll ac ci ch ++ bSt k qs qc qr ql lim sh sc fr ++ bClaims k qc n w ly t a fx) sz) := by
  refine xMet (y := yX12_needChain) (cc := cX12_needChain) (maxL := 4) (ret := none) (Qc := XV) (X9 := XC D k "java/lang/IndexOutOfBoundsException" (bRO k o (qs 0) bf pa pn pk sv iz tr tx er fl li ll ac ci ch ++ bSt k qs qc qr ql lim sh sc fr ++ bClaims k qc n w ly t a fx)) [.ref o, .int x, .int y, .int le] (by decide) rfl (Nat.le_of_ble_eq_true rfl) ?_
  intro p9 e9 s9 m9 bl9 me9 c9 ls A H hF hr hlocks ht9 hP hK hN hXN hZ hD hA hS hl
  have hl : lv_has ls 4 [(0, .ref o), (1, .int x), (2, .int y), (3, .int le)] := hl
  obtain ⟨hx, hb, hml, hown, hts⟩ := id hF
  refine lv_aload_n hx hb dX12_needChain_0 rfl (lv_at hl 0 rfl) ?_
  refine lv_iload_n hx hb dX12_needChain_1 rfl (lv_at hl 1 rfl) ?_
  have hFc := va_free (wc := bRO k o (qs 0) bf pa pn pk sv iz tr tx er fl li ll ac ci ch ++ bSt k qs qc qr ql lim sh sc fr ++ bClaims k qc n w ly t a fx) hD hS hA [0, 1, 2, 3, 4, 5, 6, 7, 8] rfl
  refine va_callv (va_runV (As := [.int x]) (rest := []) hF (m_X12_needClaim l9 D k H.size o bf pa pn pk sv tr tx li ll ac ci ch iz er fl qs qc qr ql lim sh sc fr n w ly t a fx x hix) (cwV 1 hts gX12_needChain_X12_needClaim rfl rfl rfl (by decide +kernel) ⟨Nat.le_of_ble_eq_true rfl, Nat.le_of_ble_eq_true rfl⟩) (wPreV hK hN hP hD [0, 1, 2, 3, 4, 5, 6, 7, 8] rfl (by decide) rfl 0 12 rfl rfl) rfl rfl hl.1 rfl (lv_room (Nat.le_of_ble_eq_true rfl)) dX12_needChain_2 ⟨Nat.zero_le _, Nat.zero_le _⟩) hS (fun q _ h => hFc q h) hFc (fun u9 t9 H1 locs ht hvm hw hB hz1 hk1 hS => ?_)
  obtain ⟨hP, hD⟩ := wjoin (wr := []) (wf := bRO k o (qs 0) bf pa pn pk sv iz tr tx er fl li ll ac ci ch ++ bSt k qs qc qr ql lim sh sc fr ++ bClaims k qc n w ly t a fx) hP hD [0, 1, 2, 3, 4, 5, 6, 7, 8] [] [0, 1, 2, 3, 4, 5, 6, 7, 8] rfl rfl (by decide) (by decide) hk1 hFc hB ht rfl rfl (by decide)
  clear hB hk1 hz1 hvm hFc
  clear ht
  clear t9
  generalize H1 = H at hP hS ⊢
  refine lv_aload_n hx hb dX12_needChain_5 rfl (lv_at hl 0 rfl) ?_
  refine lv_iload_n hx hb dX12_needChain_6 rfl (lv_at hl 2 rfl) ?_
  have hFc := va_free (wc := bRO k o (qs 0) bf pa pn pk sv iz tr tx er fl li ll ac ci ch ++ bSt k qs qc qr ql lim sh sc fr ++ bClaims k qc n w ly t a fx) hD hS hA [0, 1, 2, 3, 4, 5, 6, 7, 8] rfl
  refine vx_callv (vx_runV (As := [.int y]) (rest := []) hF (x_X12_needClaim l9 hl9 D k H.size o bf pa pn pk sv tr tx li ll ac ci ch iz er fl qs qc qr ql lim sh sc fr n w ly t a fx y hxn) (cwV 1 hts gX12_needChain_X12_needClaim rfl rfl rfl (by decide +kernel) ⟨Nat.le_of_ble_eq_true rfl, Nat.le_of_ble_eq_true rfl⟩) (xPreV hK hN hXN hZ hS hFc hP hD [0, 1, 2, 3, 4, 5, 6, 7, 8] rfl (by decide) rfl 0 12 rfl rfl) rfl rfl hl.1 rfl (lv_room (Nat.le_of_ble_eq_true rfl)) dX12_needChain_7 ⟨Nat.le_of_ble_eq_true rfl, Nat.le_of_ble_eq_true rfl⟩) hS (fun q _ h => hFc q h) hFc (fun q _ h => hFc q h) (fun E9 ce9 q9 u9 t9 H1 locs ht hvm _ hbx hz1 hk1 hS hce hcv hcl => ?_) (fun u9 t9 H1 locs _ _ hp _ _ _ _ => hp.elim)
  obtain ⟨rfl, hbx⟩ := hbx
  obtain ⟨hP, hD⟩ := wjoin (u := ()) (wr := []) (wf := bRO k o (qs 0) bf pa pn pk sv iz tr tx er fl li ll ac ci ch ++ bSt k qs qc qr ql lim sh sc fr ++ bClaims k qc n w ly t a fx) hP hD [0, 1, 2, 3, 4, 5, 6, 7, 8] [] [0, 1, 2, 3, 4, 5, 6, 7, 8] rfl rfl (by decide) (by decide) hk1 hFc hbx ht rfl rfl (by decide)
  exact vx_out (fun x h9 => (ht9 x h9).elim) hlocks hce hcv hcl (fun t ht2 hvm2 => xEnd hP hK hD hS hvm2 (by rw [ht2]; exact Nat.le_refl _) (fun q _ => by rw [ht2])) hS.2.2 (Nat.le_of_ble_eq_true rfl) (Nat.le_of_ble_eq_true rfl)

set_option maxHeartbeats 4000000 in
set_option maxRecDepth 100000 in
theorem x_X12_needChain_c (l9 : Launch) (hl9 : l9.stackTraces = false) (D : va_G) (k : Nat → ClassId) (sz : Nat) (o bf pa pn pk sv tr tx li ll ac ci ch : Nat) (iz : Bool) (er fl : Int32) (qs qc qr ql : Nat → Nat) (lim sh sc : Int32) (fr : Nat → UInt32) (n : Nat) (w ly t a : Nat → Int32) (fx : Nat → UInt32) (x y le : Int32) (hix : inC n x = true) (hiy : inC n y = true) (hil : rg 0 le 999 = false) : vx_Met l9 yX12_needChain wsX12_needChain ({ frames := 6, cells := 1, slots := 6, locals := 82 }) (XPc D k [.ref o, .int x, .int y, .int le] (bRO k o (qs 0) bf pa pn pk sv iz tr tx er fl li ll ac ci ch ++ bSt k qs qc qr ql lim sh sc fr ++ bClaims k qc n w ly t a fx) sz) (XV (va_A (bRO k o (qs 0) bf pa pn pk sv iz tr tx er fl li ll ac ci ch ++ bSt k qs qc qr ql lim sh sc fr ++ bClaims k qc n w ly t a fx) sz)) (XC D k "java/lang/IllegalArgumentException" (bRO k o (qs 0) bf pa pn pk sv iz tr tx er fl li ll ac ci ch ++ bSt k qs qc qr ql lim sh sc fr ++ bClaims k qc n w ly t a fx) (va_A (bRO k o (qs 0) bf pa pn pk sv iz tr tx er fl li ll ac ci ch ++ bSt k qs qc qr ql lim sh sc fr ++ bClaims k qc n w ly t a fx) sz)) 1 6 (va_A (bRO k o (qs 0) bf pa pn pk sv iz tr tx er fl li ll ac ci ch ++ bSt k qs qc qr ql lim sh sc fr ++ bClaims k qc n w ly t a fx) sz) := by
  refine xMet (y := yX12_needChain) (cc := cX12_needChain) (maxL := 4) (ret := none) (Qc := XV) (X9 := XC D k "java/lang/IllegalArgumentException" (bRO k o (qs 0) bf pa pn pk sv iz tr tx er fl li ll ac ci ch ++ bSt k qs qc qr ql lim sh sc fr ++ bClaims k qc n w ly t a fx)) [.ref o, .int x, .int y, .int le] (by decide) rfl (Nat.le_of_ble_eq_true rfl) ?_
  intro p9 e9 s9 m9 bl9 me9 c9 ls A H hF hr hlocks ht9 hP hK hN hXN hZ hD hA hS hl
  have hl : lv_has ls 4 [(0, .ref o), (1, .int x), (2, .int y), (3, .int le)] := hl
  obtain ⟨hx, hb, hml, hown, hts⟩ := id hF
  refine lv_aload_n hx hb dX12_needChain_0 rfl (lv_at hl 0 rfl) ?_
  refine lv_iload_n hx hb dX12_needChain_1 rfl (lv_at hl 1 rfl) ?_
  have hFc := va_free (wc := bRO k o (qs 0) bf pa pn pk sv iz tr tx er fl li ll ac ci ch ++ bSt k qs qc qr ql lim sh sc fr ++ bClaims k qc n w ly t a fx) hD hS hA [0, 1, 2, 3, 4, 5, 6, 7, 8] rfl
  refine va_callv (va_runV (As := [.int x]) (rest := []) hF (m_X12_needClaim l9 D k H.size o bf pa pn pk sv tr tx li ll ac ci ch iz er fl qs qc qr ql lim sh sc fr n w ly t a fx x hix) (cwV 1 hts gX12_needChain_X12_needClaim rfl rfl rfl (by decide +kernel) ⟨Nat.le_of_ble_eq_true rfl, Nat.le_of_ble_eq_true rfl⟩) (wPreV hK hN hP hD [0, 1, 2, 3, 4, 5, 6, 7, 8] rfl (by decide) rfl 0 12 rfl rfl) rfl rfl hl.1 rfl (lv_room (Nat.le_of_ble_eq_true rfl)) dX12_needChain_2 ⟨Nat.zero_le _, Nat.zero_le _⟩) hS (fun q _ h => hFc q h) hFc (fun u9 t9 H1 locs ht hvm hw hB hz1 hk1 hS => ?_)
  obtain ⟨hP, hD⟩ := wjoin (wr := []) (wf := bRO k o (qs 0) bf pa pn pk sv iz tr tx er fl li ll ac ci ch ++ bSt k qs qc qr ql lim sh sc fr ++ bClaims k qc n w ly t a fx) hP hD [0, 1, 2, 3, 4, 5, 6, 7, 8] [] [0, 1, 2, 3, 4, 5, 6, 7, 8] rfl rfl (by decide) (by decide) hk1 hFc hB ht rfl rfl (by decide)
  clear hB hk1 hz1 hvm hFc
  clear ht
  clear t9
  generalize H1 = H at hP hS ⊢
  refine lv_aload_n hx hb dX12_needChain_5 rfl (lv_at hl 0 rfl) ?_
  refine lv_iload_n hx hb dX12_needChain_6 rfl (lv_at hl 2 rfl) ?_
  have hFc := va_free (wc := bRO k o (qs 0) bf pa pn pk sv iz tr tx er fl li ll ac ci ch ++ bSt k qs qc qr ql lim sh sc fr ++ bClaims k qc n w ly t a fx) hD hS hA [0, 1, 2, 3, 4, 5, 6, 7, 8] rfl
  refine va_callv (va_runV (As := [.int y]) (rest := []) hF (m_X12_needClaim l9 D k H.size o bf pa pn pk sv tr tx li ll ac ci ch iz er fl qs qc qr ql lim sh sc fr n w ly t a fx y hiy) (cwV 1 hts gX12_needChain_X12_needClaim rfl rfl rfl (by decide +kernel) ⟨Nat.le_of_ble_eq_true rfl, Nat.le_of_ble_eq_true rfl⟩) (wPreV hK hN hP hD [0, 1, 2, 3, 4, 5, 6, 7, 8] rfl (by decide) rfl 0 12 rfl rfl) rfl rfl hl.1 rfl (lv_room (Nat.le_of_ble_eq_true rfl)) dX12_needChain_7 ⟨Nat.zero_le _, Nat.zero_le _⟩) hS (fun q _ h => hFc q h) hFc (fun u9 t9 H1 locs ht hvm hw hB hz1 hk1 hS => ?_)
  obtain ⟨hP, hD⟩ := wjoin (wr := []) (wf := bRO k o (qs 0) bf pa pn pk sv iz tr tx er fl li ll ac ci ch ++ bSt k qs qc qr ql lim sh sc fr ++ bClaims k qc n w ly t a fx) hP hD [0, 1, 2, 3, 4, 5, 6, 7, 8] [] [0, 1, 2, 3, 4, 5, 6, 7, 8] rfl rfl (by decide) (by decide) hk1 hFc hB ht rfl rfl (by decide)
  clear hB hk1 hz1 hvm hFc
  clear ht
  clear t9
  generalize H1 = H at hP hS ⊢
  refine lv_iload_n hx hb dX12_needChain_10 rfl (lv_at hl 3 rfl) ?_
  refine lv_if_lt (tgt := 21) hx hb dX12_needChain_11 (by decide) (fun c_1 => ?_) (fun c_1 => ?_)
  · skip
    obtain ⟨sa9, hsa9⟩ := hXN.2 (201, "the length is out of range") (by decide)
    exact vx_throwS (cls := "java/lang/IllegalArgumentException") (text := "the length is out of range") (names := ["java/lang/RuntimeException", "java/lang/Exception"]) hx hb hl9 hown (by decide +kernel) xfit (hts (.classLink RX12 169 "java/lang/IllegalArgumentException") (by decide +kernel)) (hts (.initialized "java/lang/IllegalArgumentException") (by decide +kernel)) hsa9 (vx_hat (fun w h9 => hts w (List.mem_cons_of_mem _ (List.mem_append_left _ (List.mem_append_right _ h9)))) xng_173 (fun w h9 => va_Nw.use (xnL_tables w h9) (hXN.1 w h9))) xot_173 hZ.1 hZ.2 hS (hl.1.trans hml.symm) dX12_needChain_21 dX12_needChain_24 dX12_needChain_25 dX12_needChain_27 dX12_needChain_30 (fun x h9 => (ht9 x h9).elim) (Nat.le_of_ble_eq_true rfl) (Nat.le_of_ble_eq_true rfl) (Nat.le_of_ble_eq_true rfl) (Nat.le_of_ble_eq_true rfl) hlocks (fun t hvm hz hq => xEnd hP hK hD hS hvm hz hq) hS.2.2 (Nat.le_of_ble_eq_true rfl) (Nat.le_of_ble_eq_true rfl)
  · skip
    refine lv_iload_n hx hb dX12_needChain_14 rfl (lv_at hl 3 rfl) ?_
    refine lv_sipush (v := 999) hx hb dX12_needChain_15 (by decide) ?_
    refine lv_icmp_le (tgt := 31) hx hb dX12_needChain_18 (by decide) (fun c_2 => ?_) (fun c_2 => ?_)
    · skip
      exact absurd ⟨Int32.not_lt.mp (by assumption), c_2⟩ (of_decide_eq_false hil)
    · skip
      obtain ⟨sa9, hsa9⟩ := hXN.2 (201, "the length is out of range") (by decide)
      exact vx_throwS (cls := "java/lang/IllegalArgumentException") (text := "the length is out of range") (names := ["java/lang/RuntimeException", "java/lang/Exception"]) hx hb hl9 hown (by decide +kernel) xfit (hts (.classLink RX12 169 "java/lang/IllegalArgumentException") (by decide +kernel)) (hts (.initialized "java/lang/IllegalArgumentException") (by decide +kernel)) hsa9 (vx_hat (fun w h9 => hts w (List.mem_cons_of_mem _ (List.mem_append_left _ (List.mem_append_right _ h9)))) xng_173 (fun w h9 => va_Nw.use (xnL_tables w h9) (hXN.1 w h9))) xot_173 hZ.1 hZ.2 hS (hl.1.trans hml.symm) dX12_needChain_21 dX12_needChain_24 dX12_needChain_25 dX12_needChain_27 dX12_needChain_30 (fun x h9 => (ht9 x h9).elim) (Nat.le_of_ble_eq_true rfl) (Nat.le_of_ble_eq_true rfl) (Nat.le_of_ble_eq_true rfl) (Nat.le_of_ble_eq_true rfl) hlocks (fun t hvm hz hq => xEnd hP hK hD hS hvm hz hq) hS.2.2 (Nat.le_of_ble_eq_true rfl) (Nat.le_of_ble_eq_true rfl)

set_option maxHeartbeats 4000000 in
set_option maxRecDepth 100000 in
theorem m_X12_needChain (l9 : Launch) (D : va_G) (k : Nat → ClassId) (sz : Nat) (o bf pa pn pk sv tr tx li ll ac ci ch : Nat) (iz : Bool) (er fl : Int32) (qs qc qr ql : Nat → Nat) (lim sh sc : Int32) (fr : Nat → UInt32) (n : Nat) (w ly t a : Nat → Int32) (fx : Nat → UInt32) (x y le : Int32) (hix : inC n x = true) (hiy : inC n y = true) (hil : rg 0 le 999 = true) : Met l9 yX12_needChain wsX12_needChain ({ frames := 2, cells := 0, slots := 0, locals := 42 }) (WPc D k [.ref o, .int x, .int y, .int le] (bRO k o (qs 0) bf pa pn pk sv iz tr tx er fl li ll ac ci ch ++ bSt k qs qc qr ql lim sh sc fr ++ bClaims k qc n w ly t a fx) sz) (WV D k (bRO k o (qs 0) bf pa pn pk sv iz tr tx er fl li ll ac ci ch ++ bSt k qs qc qr ql lim sh sc fr ++ bClaims k qc n w ly t a fx) (va_A (bRO k o (qs 0) bf pa pn pk sv iz tr tx er fl li ll ac ci ch ++ bSt k qs qc qr ql lim sh sc fr ++ bClaims k qc n w ly t a fx) sz)) 0 0 (va_A (bRO k o (qs 0) bf pa pn pk sv iz tr tx er fl li ll ac ci ch ++ bSt k qs qc qr ql lim sh sc fr ++ bClaims k qc n w ly t a fx) sz) := by
  refine wMet (y := yX12_needChain) (cc := cX12_needChain) (maxL := 4) (ret := none) (Qc := fun A => WV D k (bRO k o (qs 0) bf pa pn pk sv iz tr tx er fl li ll ac ci ch ++ bSt k qs qc qr ql lim sh sc fr ++ bClaims k qc n w ly t a fx) A) [.ref o, .int x, .int y, .int le] (by decide) rfl (Nat.le_of_ble_eq_true rfl) ?_
  intro p9 e9 s9 m9 bl9 me9 c9 ls A H hF hr hlocks hP hK hN hD hA hS hl hin
  have hl : lv_has ls 4 [(0, .ref o), (1, .int x), (2, .int y), (3, .int le)] := hl
  obtain ⟨hx, hb, hml, hown, hts⟩ := id hF
  refine lv_aload_n hx hb dX12_needChain_0 rfl (lv_at hl 0 rfl) ?_
  refine lv_iload_n hx hb dX12_needChain_1 rfl (lv_at hl 1 rfl) ?_
  have hFc := va_free (wc := bRO k o (qs 0) bf pa pn pk sv iz tr tx er fl li ll ac ci ch ++ bSt k qs qc qr ql lim sh sc fr ++ bClaims k qc n w ly t a fx) hD hS hA [0, 1, 2, 3, 4, 5, 6, 7, 8] rfl
  refine va_callv (va_runV (As := [.int x]) (rest := []) hF (m_X12_needClaim l9 D k H.size o bf pa pn pk sv tr tx li ll ac ci ch iz er fl qs qc qr ql lim sh sc fr n w ly t a fx x hix) (cwV 1 hts gX12_needChain_X12_needClaim rfl rfl rfl (by decide +kernel) ⟨Nat.le_of_ble_eq_true rfl, Nat.le_of_ble_eq_true rfl⟩) (wPreV hK hN hP hD [0, 1, 2, 3, 4, 5, 6, 7, 8] rfl (by decide) rfl 0 12 rfl rfl) rfl rfl hl.1 rfl (lv_room (Nat.le_of_ble_eq_true rfl)) dX12_needChain_2 ⟨Nat.zero_le _, Nat.zero_le _⟩) hS (fun q _ h => hFc q h) hFc (fun u9 t9 H1 locs ht hvm hw hB hz1 hk1 hS => ?_)
  obtain ⟨hP, hD⟩ := wjoin (wr := []) (wf := bRO k o (qs 0) bf pa pn pk sv iz tr tx er fl li ll ac ci ch ++ bSt k qs qc qr ql lim sh sc fr ++ bClaims k qc n w ly t a fx) hP hD [0, 1, 2, 3, 4, 5, 6, 7, 8] [] [0, 1, 2, 3, 4, 5, 6, 7, 8] rfl rfl (by decide) (by decide) hk1 hFc hB ht rfl rfl (by decide)
  clear hB hk1 hz1 hvm hFc
  clear ht
  clear t9
  generalize H1 = H at hP hS ⊢
  refine lv_aload_n hx hb dX12_needChain_5 rfl (lv_at hl 0 rfl) ?_
  refine lv_iload_n hx hb dX12_needChain_6 rfl (lv_at hl 2 rfl) ?_
  have hFc := va_free (wc := bRO k o (qs 0) bf pa pn pk sv iz tr tx er fl li ll ac ci ch ++ bSt k qs qc qr ql lim sh sc fr ++ bClaims k qc n w ly t a fx) hD hS hA [0, 1, 2, 3, 4, 5, 6, 7, 8] rfl
  refine va_callv (va_runV (As := [.int y]) (rest := []) hF (m_X12_needClaim l9 D k H.size o bf pa pn pk sv tr tx li ll ac ci ch iz er fl qs qc qr ql lim sh sc fr n w ly t a fx y hiy) (cwV 1 hts gX12_needChain_X12_needClaim rfl rfl rfl (by decide +kernel) ⟨Nat.le_of_ble_eq_true rfl, Nat.le_of_ble_eq_true rfl⟩) (wPreV hK hN hP hD [0, 1, 2, 3, 4, 5, 6, 7, 8] rfl (by decide) rfl 0 12 rfl rfl) rfl rfl hl.1 rfl (lv_room (Nat.le_of_ble_eq_true rfl)) dX12_needChain_7 ⟨Nat.zero_le _, Nat.zero_le _⟩) hS (fun q _ h => hFc q h) hFc (fun u9 t9 H1 locs ht hvm hw hB hz1 hk1 hS => ?_)
  obtain ⟨hP, hD⟩ := wjoin (wr := []) (wf := bRO k o (qs 0) bf pa pn pk sv iz tr tx er fl li ll ac ci ch ++ bSt k qs qc qr ql lim sh sc fr ++ bClaims k qc n w ly t a fx) hP hD [0, 1, 2, 3, 4, 5, 6, 7, 8] [] [0, 1, 2, 3, 4, 5, 6, 7, 8] rfl rfl (by decide) (by decide) hk1 hFc hB ht rfl rfl (by decide)
  clear hB hk1 hz1 hvm hFc
  clear ht
  clear t9
  generalize H1 = H at hP hS ⊢
  refine lv_iload_n hx hb dX12_needChain_10 rfl (lv_at hl 3 rfl) ?_
  refine lv_if_lt (tgt := 21) hx hb dX12_needChain_11 (by decide) (fun c_1 => ?_) (fun c_1 => ?_)
  · skip
    exact absurd (of_decide_eq_true hil).1 (Int32.not_le.mpr c_1)
  · skip
    refine lv_iload_n hx hb dX12_needChain_14 rfl (lv_at hl 3 rfl) ?_
    refine lv_sipush (v := 999) hx hb dX12_needChain_15 (by decide) ?_
    refine lv_icmp_le (tgt := 31) hx hb dX12_needChain_18 (by decide) (fun c_2 => ?_) (fun c_2 => ?_)
    · skip
      exact W.vret hx hb hr (fun t9 ht hW => ⟨⟨(), rfl, trivial, ⟨by rw [ht]; exact hP, va_K.moved hW.alike hK, hD⟩⟩, hS.F ht⟩) hS.2.2 dX12_needChain_31 hlocks
    · skip
      exact absurd (of_decide_eq_true hil).2 c_2

set_option maxHeartbeats 4000000 in
set_option maxRecDepth 100000 in
theorem x_X12_chains_a (l9 : Launch) (hl9 : l9.stackTraces = false) (D : va_G) (k : Nat → ClassId) (sz : Nat) (o bf pa pn pk sv tr tx li ll ac ci ch : Nat) (iz : Bool) (er fl : Int32) (qs qc qr ql : Nat → Nat) (lim sh sc : Int32) (fr : Nat → UInt32) (n : Nat) (w ly t a : Nat → Int32) (fx : Nat → UInt32) (x y le : Int32) (hxn : inC n x = false) : vx_Met l9 yX12_chains wsX12_chains ({ frames := 8, cells := 1, slots := 6, locals := 126 }) (XPc D k [.ref o, .int x, .int y, .int le] (bRO k o (qs 0) bf pa pn pk sv iz tr tx er fl li ll ac ci ch ++ bSt k qs qc qr ql lim sh sc fr ++ bClaims k qc n w ly t a fx) sz) (XI (va_A (bRO k o (qs 0) bf pa pn pk sv iz tr tx er fl li ll ac ci ch ++ bSt k qs qc qr ql lim sh sc fr ++ bClaims k qc n w ly t a fx) sz)) (XC D k "java/lang/IndexOutOfBoundsException" (bRO k o (qs 0) bf pa pn pk sv iz tr tx er fl li ll ac ci ch ++ bSt k qs qc qr ql lim sh sc fr ++ bClaims k qc n w ly t a fx) (va_A (bRO k o (qs 0) bf pa pn pk sv iz tr tx er fl li ll ac ci ch ++ bSt k qs qc qr ql lim sh sc fr ++ bClaims k qc n w ly t a fx) sz)) 1 6 (va_A (bRO k o (qs 0) bf pa pn pk sv iz tr tx er fl li ll ac ci ch ++ bSt k qs qc qr ql lim sh sc fr ++ bClaims k qc n w ly t a fx) sz) := by
  refine xMet (y := yX12_chains) (cc := cX12_chains) (maxL := 4) (ret := (some .int)) (Qc := XI) (X9 := XC D k "java/lang/IndexOutOfBoundsException" (bRO k o (qs 0) bf pa pn pk sv iz tr tx er fl li ll ac ci ch ++ bSt k qs qc qr ql lim sh sc fr ++ bClaims k qc n w ly t a fx)) [.ref o, .int x, .int y, .int le] (by decide) rfl (Nat.le_of_ble_eq_true rfl) ?_
  intro p9 e9 s9 m9 bl9 me9 c9 ls A H hF hr hlocks ht9 hP hK hN hXN hZ hD hA hS hl
  have hl : lv_has ls 4 [(0, .ref o), (1, .int x), (2, .int y), (3, .int le)] := hl
  obtain ⟨hx, hb, hml, hown, hts⟩ := id hF
  refine lv_aload_n hx hb dX12_chains_0 rfl (lv_at hl 0 rfl) ?_
  refine lv_iload_n hx hb dX12_chains_1 rfl (lv_at hl 1 rfl) ?_
  refine lv_iload_n hx hb dX12_chains_2 rfl (lv_at hl 2 rfl) ?_
  refine lv_iload_n hx hb dX12_chains_3 rfl (lv_at hl 3 rfl) ?_
  have hFc := va_free (wc := bRO k o (qs 0) bf pa pn pk sv iz tr tx er fl li ll ac ci ch ++ bSt k qs qc qr ql lim sh sc fr ++ bClaims k qc n w ly t a fx) hD hS hA [0, 1, 2, 3, 4, 5, 6, 7, 8] rfl
  refine vx_callv (vx_runV (As := [.int x, .int y, .int le]) (rest := []) hF (x_X12_needChain_a l9 hl9 D k H.size o bf pa pn pk sv tr tx li ll ac ci ch iz er fl qs qc qr ql lim sh sc fr n w ly t a fx x y le hxn) (cwV 3 hts gX12_chains_X12_needChain rfl rfl rfl (by decide +kernel) ⟨Nat.le_of_ble_eq_true rfl, Nat.le_of_ble_eq_true rfl⟩) (xPreV hK hN hXN hZ hS hFc hP hD [0, 1, 2, 3, 4, 5, 6, 7, 8] rfl (by decide) rfl 0 12 rfl rfl) rfl rfl hl.1 rfl (lv_room (Nat.le_of_ble_eq_true rfl)) dX12_chains_4 ⟨Nat.le_of_ble_eq_true rfl, Nat.le_of_ble_eq_true rfl⟩) hS (fun q _ h => hFc q h) hFc (fun q _ h => hFc q h) (fun E9 ce9 q9 u9 t9 H1 locs ht hvm _ hbx hz1 hk1 hS hce hcv hcl => ?_) (fun u9 t9 H1 locs _ _ hp _ _ _ _ => hp.elim)
  obtain ⟨rfl, hbx⟩ := hbx
  obtain ⟨hP, hD⟩ := wjoin (u := ()) (wr := []) (wf := bRO k o (qs 0) bf pa pn pk sv iz tr tx er fl li ll ac ci ch ++ bSt k qs qc qr ql lim sh sc fr ++ bClaims k qc n w ly t a fx) hP hD [0, 1, 2, 3, 4, 5, 6, 7, 8] [] [0, 1, 2, 3, 4, 5, 6, 7, 8] rfl rfl (by decide) (by decide) hk1 hFc hbx ht rfl rfl (by decide)
  exact vx_out (fun x h9 => (ht9 x h9).elim) hlocks hce hcv hcl (fun t ht2 hvm2 => xEnd hP hK hD hS hvm2 (by rw [ht2]; exact Nat.le_refl _) (fun q _ => by rw [ht2])) hS.2.2 (Nat.le_of_ble_eq_true rfl) (Nat.le_of_ble_eq_true rfl)

set_option maxHeartbeats 4000000 in
set_option maxRecDepth 100000 in
theorem x_X12_chains_b (l9 : Launch) (hl9 : l9.stackTraces = false) (D : va_G) (k : Nat → ClassId) (sz : Nat) (o bf pa pn pk sv tr tx li ll ac ci ch : Nat) (iz : Bool) (er fl : Int32) (qs qc qr ql : Nat → Nat) (lim sh sc : Int32) (fr : Nat → UInt32) (n : Nat) (w ly t a : Nat → Int32) (fx : Nat → UInt32) (x y le : Int32) (hix : inC n x = true) (hxn : inC n y = false) : vx_Met l9 yX12_chains wsX12_chains ({ frames := 8, cells := 1, slots := 6, locals := 126 }) (XPc D k [.ref o, .int x, .int y, .int le] (bRO k o (qs 0) bf pa pn pk sv iz tr tx er fl li ll ac ci ch ++ bSt k qs qc qr ql lim sh sc fr ++ bClaims k qc n w ly t a fx) sz) (XI (va_A (bRO k o (qs 0) bf pa pn pk sv iz tr tx er fl li ll ac ci ch ++ bSt k qs qc qr ql lim sh sc fr ++ bClaims k qc n w ly t a fx) sz)) (XC D k "java/lang/IndexOutOfBoundsException" (bRO k o (qs 0) bf pa pn pk sv iz tr tx er fl li ll ac ci ch ++ bSt k qs qc qr ql lim sh sc fr ++ bClaims k qc n w ly t a fx) (va_A (bRO k o (qs 0) bf pa pn pk sv iz tr tx er fl li ll ac ci ch ++ bSt k qs qc qr ql lim sh sc fr ++ bClaims k qc n w ly t a fx) sz)) 1 6 (va_A (bRO k o (qs 0) bf pa pn pk sv iz tr tx er fl li ll ac ci ch ++ bSt k qs qc qr ql lim sh sc fr ++ bClaims k qc n w ly t a fx) sz) := by
  refine xMet (y := yX12_chains) (cc := cX12_chains) (maxL := 4) (ret := (some .int)) (Qc := XI) (X9 := XC D k "java/lang/IndexOutOfBoundsException" (bRO k o (qs 0) bf pa pn pk sv iz tr tx er fl li ll ac ci ch ++ bSt k qs qc qr ql lim sh sc fr ++ bClaims k qc n w ly t a fx)) [.ref o, .int x, .int y, .int le] (by decide) rfl (Nat.le_of_ble_eq_true rfl) ?_
  intro p9 e9 s9 m9 bl9 me9 c9 ls A H hF hr hlocks ht9 hP hK hN hXN hZ hD hA hS hl
  have hl : lv_has ls 4 [(0, .ref o), (1, .int x), (2, .int y), (3, .int le)] := hl
  obtain ⟨hx, hb, hml, hown, hts⟩ := id hF
  refine lv_aload_n hx hb dX12_chains_0 rfl (lv_at hl 0 rfl) ?_
  refine lv_iload_n hx hb dX12_chains_1 rfl (lv_at hl 1 rfl) ?_
  refine lv_iload_n hx hb dX12_chains_2 rfl (lv_at hl 2 rfl) ?_
  refine lv_iload_n hx hb dX12_chains_3 rfl (lv_at hl 3 rfl) ?_
  have hFc := va_free (wc := bRO k o (qs 0) bf pa pn pk sv iz tr tx er fl li ll ac ci ch ++ bSt k qs qc qr ql lim sh sc fr ++ bClaims k qc n w ly t a fx) hD hS hA [0, 1, 2, 3, 4, 5, 6, 7, 8] rfl
  refine vx_callv (vx_runV (As := [.int x, .int y, .int le]) (rest := []) hF (x_X12_needChain_b l9 hl9 D k H.size o bf pa pn pk sv tr tx li ll ac ci ch iz er fl qs qc qr ql lim sh sc fr n w ly t a fx x y le hix hxn) (cwV 3 hts gX12_chains_X12_needChain rfl rfl rfl (by decide +kernel) ⟨Nat.le_of_ble_eq_true rfl, Nat.le_of_ble_eq_true rfl⟩) (xPreV hK hN hXN hZ hS hFc hP hD [0, 1, 2, 3, 4, 5, 6, 7, 8] rfl (by decide) rfl 0 12 rfl rfl) rfl rfl hl.1 rfl (lv_room (Nat.le_of_ble_eq_true rfl)) dX12_chains_4 ⟨Nat.le_of_ble_eq_true rfl, Nat.le_of_ble_eq_true rfl⟩) hS (fun q _ h => hFc q h) hFc (fun q _ h => hFc q h) (fun E9 ce9 q9 u9 t9 H1 locs ht hvm _ hbx hz1 hk1 hS hce hcv hcl => ?_) (fun u9 t9 H1 locs _ _ hp _ _ _ _ => hp.elim)
  obtain ⟨rfl, hbx⟩ := hbx
  obtain ⟨hP, hD⟩ := wjoin (u := ()) (wr := []) (wf := bRO k o (qs 0) bf pa pn pk sv iz tr tx er fl li ll ac ci ch ++ bSt k qs qc qr ql lim sh sc fr ++ bClaims k qc n w ly t a fx) hP hD [0, 1, 2, 3, 4, 5, 6, 7, 8] [] [0, 1, 2, 3, 4, 5, 6, 7, 8] rfl rfl (by decide) (by decide) hk1 hFc hbx ht rfl rfl (by decide)
  exact vx_out (fun x h9 => (ht9 x h9).elim) hlocks hce hcv hcl (fun t ht2 hvm2 => xEnd hP hK hD hS hvm2 (by rw [ht2]; exact Nat.le_refl _) (fun q _ => by rw [ht2])) hS.2.2 (Nat.le_of_ble_eq_true rfl) (Nat.le_of_ble_eq_true rfl)

set_option maxHeartbeats 4000000 in
set_option maxRecDepth 100000 in
theorem x_X12_chains_c (l9 : Launch) (hl9 : l9.stackTraces = false) (D : va_G) (k : Nat → ClassId) (sz : Nat) (o bf pa pn pk sv tr tx li ll ac ci ch : Nat) (iz : Bool) (er fl : Int32) (qs qc qr ql : Nat → Nat) (lim sh sc : Int32) (fr : Nat → UInt32) (n : Nat) (w ly t a : Nat → Int32) (fx : Nat → UInt32) (x y le : Int32) (hix : inC n x = true) (hiy : inC n y = true) (hil : rg 0 le 999 = false) : vx_Met l9 yX12_chains wsX12_chains ({ frames := 7, cells := 1, slots := 6, locals := 105 }) (XPc D k [.ref o, .int x, .int y, .int le] (bRO k o (qs 0) bf pa pn pk sv iz tr tx er fl li ll ac ci ch ++ bSt k qs qc qr ql lim sh sc fr ++ bClaims k qc n w ly t a fx) sz) (XI (va_A (bRO k o (qs 0) bf pa pn pk sv iz tr tx er fl li ll ac ci ch ++ bSt k qs qc qr ql lim sh sc fr ++ bClaims k qc n w ly t a fx) sz)) (XC D k "java/lang/IllegalArgumentException" (bRO k o (qs 0) bf pa pn pk sv iz tr tx er fl li ll ac ci ch ++ bSt k qs qc qr ql lim sh sc fr ++ bClaims k qc n w ly t a fx) (va_A (bRO k o (qs 0) bf pa pn pk sv iz tr tx er fl li ll ac ci ch ++ bSt k qs qc qr ql lim sh sc fr ++ bClaims k qc n w ly t a fx) sz)) 1 6 (va_A (bRO k o (qs 0) bf pa pn pk sv iz tr tx er fl li ll ac ci ch ++ bSt k qs qc qr ql lim sh sc fr ++ bClaims k qc n w ly t a fx) sz) := by
  refine xMet (y := yX12_chains) (cc := cX12_chains) (maxL := 4) (ret := (some .int)) (Qc := XI) (X9 := XC D k "java/lang/IllegalArgumentException" (bRO k o (qs 0) bf pa pn pk sv iz tr tx er fl li ll ac ci ch ++ bSt k qs qc qr ql lim sh sc fr ++ bClaims k qc n w ly t a fx)) [.ref o, .int x, .int y, .int le] (by decide) rfl (Nat.le_of_ble_eq_true rfl) ?_
  intro p9 e9 s9 m9 bl9 me9 c9 ls A H hF hr hlocks ht9 hP hK hN hXN hZ hD hA hS hl
  have hl : lv_has ls 4 [(0, .ref o), (1, .int x), (2, .int y), (3, .int le)] := hl
  obtain ⟨hx, hb, hml, hown, hts⟩ := id hF
  refine lv_aload_n hx hb dX12_chains_0 rfl (lv_at hl 0 rfl) ?_
  refine lv_iload_n hx hb dX12_chains_1 rfl (lv_at hl 1 rfl) ?_
  refine lv_iload_n hx hb dX12_chains_2 rfl (lv_at hl 2 rfl) ?_
  refine lv_iload_n hx hb dX12_chains_3 rfl (lv_at hl 3 rfl) ?_
  have hFc := va_free (wc := bRO k o (qs 0) bf pa pn pk sv iz tr tx er fl li ll ac ci ch ++ bSt k qs qc qr ql lim sh sc fr ++ bClaims k qc n w ly t a fx) hD hS hA [0, 1, 2, 3, 4, 5, 6, 7, 8] rfl
  refine vx_callv (vx_runV (As := [.int x, .int y, .int le]) (rest := []) hF (x_X12_needChain_c l9 hl9 D k H.size o bf pa pn pk sv tr tx li ll ac ci ch iz er fl qs qc qr ql lim sh sc fr n w ly t a fx x y le hix hiy hil) (cwV 3 hts gX12_chains_X12_needChain rfl rfl rfl (by decide +kernel) ⟨Nat.le_of_ble_eq_true rfl, Nat.le_of_ble_eq_true rfl⟩) (xPreV hK hN hXN hZ hS hFc hP hD [0, 1, 2, 3, 4, 5, 6, 7, 8] rfl (by decide) rfl 0 12 rfl rfl) rfl rfl hl.1 rfl (lv_room (Nat.le_of_ble_eq_true rfl)) dX12_chains_4 ⟨Nat.le_of_ble_eq_true rfl, Nat.le_of_ble_eq_true rfl⟩) hS (fun q _ h => hFc q h) hFc (fun q _ h => hFc q h) (fun E9 ce9 q9 u9 t9 H1 locs ht hvm _ hbx hz1 hk1 hS hce hcv hcl => ?_) (fun u9 t9 H1 locs _ _ hp _ _ _ _ => hp.elim)
  obtain ⟨rfl, hbx⟩ := hbx
  obtain ⟨hP, hD⟩ := wjoin (u := ()) (wr := []) (wf := bRO k o (qs 0) bf pa pn pk sv iz tr tx er fl li ll ac ci ch ++ bSt k qs qc qr ql lim sh sc fr ++ bClaims k qc n w ly t a fx) hP hD [0, 1, 2, 3, 4, 5, 6, 7, 8] [] [0, 1, 2, 3, 4, 5, 6, 7, 8] rfl rfl (by decide) (by decide) hk1 hFc hbx ht rfl rfl (by decide)
  exact vx_out (fun x h9 => (ht9 x h9).elim) hlocks hce hcv hcl (fun t ht2 hvm2 => xEnd hP hK hD hS hvm2 (by rw [ht2]; exact Nat.le_refl _) (fun q _ => by rw [ht2])) hS.2.2 (Nat.le_of_ble_eq_true rfl) (Nat.le_of_ble_eq_true rfl)

set_option maxHeartbeats 4000000 in
set_option maxRecDepth 100000 in
theorem x_X12_chainsBySteps_a (l9 : Launch) (hl9 : l9.stackTraces = false) (D : va_G) (k : Nat → ClassId) (sz : Nat) (o bf pa pn pk sv tr tx li ll ac ci ch : Nat) (iz : Bool) (er fl : Int32) (qs qc qr ql : Nat → Nat) (lim sh sc : Int32) (fr : Nat → UInt32) (n : Nat) (w ly t a : Nat → Int32) (fx : Nat → UInt32) (x y le : Int32) (hxn : inC n x = false) : vx_Met l9 yX12_chainsBySteps wsX12_chainsBySteps ({ frames := 8, cells := 1, slots := 6, locals := 126 }) (XPc D k [.ref o, .int x, .int y, .int le] (bRO k o (qs 0) bf pa pn pk sv iz tr tx er fl li ll ac ci ch ++ bSt k qs qc qr ql lim sh sc fr ++ bClaims k qc n w ly t a fx) sz) (XI (va_A (bRO k o (qs 0) bf pa pn pk sv iz tr tx er fl li ll ac ci ch ++ bSt k qs qc qr ql lim sh sc fr ++ bClaims k qc n w ly t a fx) sz)) (XC D k "java/lang/IndexOutOfBoundsException" (bRO k o (qs 0) bf pa pn pk sv iz tr tx er fl li ll ac ci ch ++ bSt k qs qc qr ql lim sh sc fr ++ bClaims k qc n w ly t a fx) (va_A (bRO k o (qs 0) bf pa pn pk sv iz tr tx er fl li ll ac ci ch ++ bSt k qs qc qr ql lim sh sc fr ++ bClaims k qc n w ly t a fx) sz)) 1 6 (va_A (bRO k o (qs 0) bf pa pn pk sv iz tr tx er fl li ll ac ci ch ++ bSt k qs qc qr ql lim sh sc fr ++ bClaims k qc n w ly t a fx) sz) := by
  refine xMet (y := yX12_chainsBySteps) (cc := cX12_chainsBySteps) (maxL := 4) (ret := (some .int)) (Qc := XI) (X9 := XC D k "java/lang/IndexOutOfBoundsException" (bRO k o (qs 0) bf pa pn pk sv iz tr tx er fl li ll ac ci ch ++ bSt k qs qc qr ql lim sh sc fr ++ bClaims k qc n w ly t a fx)) [.ref o, .int x, .int y, .int le] (by decide) rfl (Nat.le_of_ble_eq_true rfl) ?_
  intro p9 e9 s9 m9 bl9 me9 c9 ls A H hF hr hlocks ht9 hP hK hN hXN hZ hD hA hS hl
  have hl : lv_has ls 4 [(0, .ref o), (1, .int x), (2, .int y), (3, .int le)] := hl
  obtain ⟨hx, hb, hml, hown, hts⟩ := id hF
  refine lv_aload_n hx hb dX12_chainsBySteps_0 rfl (lv_at hl 0 rfl) ?_
  refine lv_iload_n hx hb dX12_chainsBySteps_1 rfl (lv_at hl 1 rfl) ?_
  refine lv_iload_n hx hb dX12_chainsBySteps_2 rfl (lv_at hl 2 rfl) ?_
  refine lv_iload_n hx hb dX12_chainsBySteps_3 rfl (lv_at hl 3 rfl) ?_
  have hFc := va_free (wc := bRO k o (qs 0) bf pa pn pk sv iz tr tx er fl li ll ac ci ch ++ bSt k qs qc qr ql lim sh sc fr ++ bClaims k qc n w ly t a fx) hD hS hA [0, 1, 2, 3, 4, 5, 6, 7, 8] rfl
  refine vx_callv (vx_runV (As := [.int x, .int y, .int le]) (rest := []) hF (x_X12_needChain_a l9 hl9 D k H.size o bf pa pn pk sv tr tx li ll ac ci ch iz er fl qs qc qr ql lim sh sc fr n w ly t a fx x y le hxn) (cwV 3 hts gX12_chainsBySteps_X12_needChain rfl rfl rfl (by decide +kernel) ⟨Nat.le_of_ble_eq_true rfl, Nat.le_of_ble_eq_true rfl⟩) (xPreV hK hN hXN hZ hS hFc hP hD [0, 1, 2, 3, 4, 5, 6, 7, 8] rfl (by decide) rfl 0 12 rfl rfl) rfl rfl hl.1 rfl (lv_room (Nat.le_of_ble_eq_true rfl)) dX12_chainsBySteps_4 ⟨Nat.le_of_ble_eq_true rfl, Nat.le_of_ble_eq_true rfl⟩) hS (fun q _ h => hFc q h) hFc (fun q _ h => hFc q h) (fun E9 ce9 q9 u9 t9 H1 locs ht hvm _ hbx hz1 hk1 hS hce hcv hcl => ?_) (fun u9 t9 H1 locs _ _ hp _ _ _ _ => hp.elim)
  obtain ⟨rfl, hbx⟩ := hbx
  obtain ⟨hP, hD⟩ := wjoin (u := ()) (wr := []) (wf := bRO k o (qs 0) bf pa pn pk sv iz tr tx er fl li ll ac ci ch ++ bSt k qs qc qr ql lim sh sc fr ++ bClaims k qc n w ly t a fx) hP hD [0, 1, 2, 3, 4, 5, 6, 7, 8] [] [0, 1, 2, 3, 4, 5, 6, 7, 8] rfl rfl (by decide) (by decide) hk1 hFc hbx ht rfl rfl (by decide)
  exact vx_out (fun x h9 => (ht9 x h9).elim) hlocks hce hcv hcl (fun t ht2 hvm2 => xEnd hP hK hD hS hvm2 (by rw [ht2]; exact Nat.le_refl _) (fun q _ => by rw [ht2])) hS.2.2 (Nat.le_of_ble_eq_true rfl) (Nat.le_of_ble_eq_true rfl)

set_option maxHeartbeats 4000000 in
set_option maxRecDepth 100000 in
theorem x_X12_chainsBySteps_b (l9 : Launch) (hl9 : l9.stackTraces = false) (D : va_G) (k : Nat → ClassId) (sz : Nat) (o bf pa pn pk sv tr tx li ll ac ci ch : Nat) (iz : Bool) (er fl : Int32) (qs qc qr ql : Nat → Nat) (lim sh sc : Int32) (fr : Nat → UInt32) (n : Nat) (w ly t a : Nat → Int32) (fx : Nat → UInt32) (x y le : Int32) (hix : inC n x = true) (hxn : inC n y = false) : vx_Met l9 yX12_chainsBySteps wsX12_chainsBySteps ({ frames := 8, cells := 1, slots := 6, locals := 126 }) (XPc D k [.ref o, .int x, .int y, .int le] (bRO k o (qs 0) bf pa pn pk sv iz tr tx er fl li ll ac ci ch ++ bSt k qs qc qr ql lim sh sc fr ++ bClaims k qc n w ly t a fx) sz) (XI (va_A (bRO k o (qs 0) bf pa pn pk sv iz tr tx er fl li ll ac ci ch ++ bSt k qs qc qr ql lim sh sc fr ++ bClaims k qc n w ly t a fx) sz)) (XC D k "java/lang/IndexOutOfBoundsException" (bRO k o (qs 0) bf pa pn pk sv iz tr tx er fl li ll ac ci ch ++ bSt k qs qc qr ql lim sh sc fr ++ bClaims k qc n w ly t a fx) (va_A (bRO k o (qs 0) bf pa pn pk sv iz tr tx er fl li ll ac ci ch ++ bSt k qs qc qr ql lim sh sc fr ++ bClaims k qc n w ly t a fx) sz)) 1 6 (va_A (bRO k o (qs 0) bf pa pn pk sv iz tr tx er fl li ll ac ci ch ++ bSt k qs qc qr ql lim sh sc fr ++ bClaims k qc n w ly t a fx) sz) := by
  refine xMet (y := yX12_chainsBySteps) (cc := cX12_chainsBySteps) (maxL := 4) (ret := (some .int)) (Qc := XI) (X9 := XC D k "java/lang/IndexOutOfBoundsException" (bRO k o (qs 0) bf pa pn pk sv iz tr tx er fl li ll ac ci ch ++ bSt k qs qc qr ql lim sh sc fr ++ bClaims k qc n w ly t a fx)) [.ref o, .int x, .int y, .int le] (by decide) rfl (Nat.le_of_ble_eq_true rfl) ?_
  intro p9 e9 s9 m9 bl9 me9 c9 ls A H hF hr hlocks ht9 hP hK hN hXN hZ hD hA hS hl
  have hl : lv_has ls 4 [(0, .ref o), (1, .int x), (2, .int y), (3, .int le)] := hl
  obtain ⟨hx, hb, hml, hown, hts⟩ := id hF
  refine lv_aload_n hx hb dX12_chainsBySteps_0 rfl (lv_at hl 0 rfl) ?_
  refine lv_iload_n hx hb dX12_chainsBySteps_1 rfl (lv_at hl 1 rfl) ?_
  refine lv_iload_n hx hb dX12_chainsBySteps_2 rfl (lv_at hl 2 rfl) ?_
  refine lv_iload_n hx hb dX12_chainsBySteps_3 rfl (lv_at hl 3 rfl) ?_
  have hFc := va_free (wc := bRO k o (qs 0) bf pa pn pk sv iz tr tx er fl li ll ac ci ch ++ bSt k qs qc qr ql lim sh sc fr ++ bClaims k qc n w ly t a fx) hD hS hA [0, 1, 2, 3, 4, 5, 6, 7, 8] rfl
  refine vx_callv (vx_runV (As := [.int x, .int y, .int le]) (rest := []) hF (x_X12_needChain_b l9 hl9 D k H.size o bf pa pn pk sv tr tx li ll ac ci ch iz er fl qs qc qr ql lim sh sc fr n w ly t a fx x y le hix hxn) (cwV 3 hts gX12_chainsBySteps_X12_needChain rfl rfl rfl (by decide +kernel) ⟨Nat.le_of_ble_eq_true rfl, Nat.le_of_ble_eq_true rfl⟩) (xPreV hK hN hXN hZ hS hFc hP hD [0, 1, 2, 3, 4, 5, 6, 7, 8] rfl (by decide) rfl 0 12 rfl rfl) rfl rfl hl.1 rfl (lv_room (Nat.le_of_ble_eq_true rfl)) dX12_chainsBySteps_4 ⟨Nat.le_of_ble_eq_true rfl, Nat.le_of_ble_eq_true rfl⟩) hS (fun q _ h => hFc q h) hFc (fun q _ h => hFc q h) (fun E9 ce9 q9 u9 t9 H1 locs ht hvm _ hbx hz1 hk1 hS hce hcv hcl => ?_) (fun u9 t9 H1 locs _ _ hp _ _ _ _ => hp.elim)
  obtain ⟨rfl, hbx⟩ := hbx
  obtain ⟨hP, hD⟩ := wjoin (u := ()) (wr := []) (wf := bRO k o (qs 0) bf pa pn pk sv iz tr tx er fl li ll ac ci ch ++ bSt k qs qc qr ql lim sh sc fr ++ bClaims k qc n w ly t a fx) hP hD [0, 1, 2, 3, 4, 5, 6, 7, 8] [] [0, 1, 2, 3, 4, 5, 6, 7, 8] rfl rfl (by decide) (by decide) hk1 hFc hbx ht rfl rfl (by decide)
  exact vx_out (fun x h9 => (ht9 x h9).elim) hlocks hce hcv hcl (fun t ht2 hvm2 => xEnd hP hK hD hS hvm2 (by rw [ht2]; exact Nat.le_refl _) (fun q _ => by rw [ht2])) hS.2.2 (Nat.le_of_ble_eq_true rfl) (Nat.le_of_ble_eq_true rfl)

set_option maxHeartbeats 4000000 in
set_option maxRecDepth 100000 in
theorem x_X12_chainsBySteps_c (l9 : Launch) (hl9 : l9.stackTraces = false) (D : va_G) (k : Nat → ClassId) (sz : Nat) (o bf pa pn pk sv tr tx li ll ac ci ch : Nat) (iz : Bool) (er fl : Int32) (qs qc qr ql : Nat → Nat) (lim sh sc : Int32) (fr : Nat → UInt32) (n : Nat) (w ly t a : Nat → Int32) (fx : Nat → UInt32) (x y le : Int32) (hix : inC n x = true) (hiy : inC n y = true) (hil : rg 0 le 999 = false) : vx_Met l9 yX12_chainsBySteps wsX12_chainsBySteps ({ frames := 7, cells := 1, slots := 6, locals := 105 }) (XPc D k [.ref o, .int x, .int y, .int le] (bRO k o (qs 0) bf pa pn pk sv iz tr tx er fl li ll ac ci ch ++ bSt k qs qc qr ql lim sh sc fr ++ bClaims k qc n w ly t a fx) sz) (XI (va_A (bRO k o (qs 0) bf pa pn pk sv iz tr tx er fl li ll ac ci ch ++ bSt k qs qc qr ql lim sh sc fr ++ bClaims k qc n w ly t a fx) sz)) (XC D k "java/lang/IllegalArgumentException" (bRO k o (qs 0) bf pa pn pk sv iz tr tx er fl li ll ac ci ch ++ bSt k qs qc qr ql lim sh sc fr ++ bClaims k qc n w ly t a fx) (va_A (bRO k o (qs 0) bf pa pn pk sv iz tr tx er fl li ll ac ci ch ++ bSt k qs qc qr ql lim sh sc fr ++ bClaims k qc n w ly t a fx) sz)) 1 6 (va_A (bRO k o (qs 0) bf pa pn pk sv iz tr tx er fl li ll ac ci ch ++ bSt k qs qc qr ql lim sh sc fr ++ bClaims k qc n w ly t a fx) sz) := by
  refine xMet (y := yX12_chainsBySteps) (cc := cX12_chainsBySteps) (maxL := 4) (ret := (some .int)) (Qc := XI) (X9 := XC D k "java/lang/IllegalArgumentException" (bRO k o (qs 0) bf pa pn pk sv iz tr tx er fl li ll ac ci ch ++ bSt k qs qc qr ql lim sh sc fr ++ bClaims k qc n w ly t a fx)) [.ref o, .int x, .int y, .int le] (by decide) rfl (Nat.le_of_ble_eq_true rfl) ?_
  intro p9 e9 s9 m9 bl9 me9 c9 ls A H hF hr hlocks ht9 hP hK hN hXN hZ hD hA hS hl
  have hl : lv_has ls 4 [(0, .ref o), (1, .int x), (2, .int y), (3, .int le)] := hl
  obtain ⟨hx, hb, hml, hown, hts⟩ := id hF
  refine lv_aload_n hx hb dX12_chainsBySteps_0 rfl (lv_at hl 0 rfl) ?_
  refine lv_iload_n hx hb dX12_chainsBySteps_1 rfl (lv_at hl 1 rfl) ?_
  refine lv_iload_n hx hb dX12_chainsBySteps_2 rfl (lv_at hl 2 rfl) ?_
  refine lv_iload_n hx hb dX12_chainsBySteps_3 rfl (lv_at hl 3 rfl) ?_
  have hFc := va_free (wc := bRO k o (qs 0) bf pa pn pk sv iz tr tx er fl li ll ac ci ch ++ bSt k qs qc qr ql lim sh sc fr ++ bClaims k qc n w ly t a fx) hD hS hA [0, 1, 2, 3, 4, 5, 6, 7, 8] rfl
  refine vx_callv (vx_runV (As := [.int x, .int y, .int le]) (rest := []) hF (x_X12_needChain_c l9 hl9 D k H.size o bf pa pn pk sv tr tx li ll ac ci ch iz er fl qs qc qr ql lim sh sc fr n w ly t a fx x y le hix hiy hil) (cwV 3 hts gX12_chainsBySteps_X12_needChain rfl rfl rfl (by decide +kernel) ⟨Nat.le_of_ble_eq_true rfl, Nat.le_of_ble_eq_true rfl⟩) (xPreV hK hN hXN hZ hS hFc hP hD [0, 1, 2, 3, 4, 5, 6, 7, 8] rfl (by decide) rfl 0 12 rfl rfl) rfl rfl hl.1 rfl (lv_room (Nat.le_of_ble_eq_true rfl)) dX12_chainsBySteps_4 ⟨Nat.le_of_ble_eq_true rfl, Nat.le_of_ble_eq_true rfl⟩) hS (fun q _ h => hFc q h) hFc (fun q _ h => hFc q h) (fun E9 ce9 q9 u9 t9 H1 locs ht hvm _ hbx hz1 hk1 hS hce hcv hcl => ?_) (fun u9 t9 H1 locs _ _ hp _ _ _ _ => hp.elim)
  obtain ⟨rfl, hbx⟩ := hbx
  obtain ⟨hP, hD⟩ := wjoin (u := ()) (wr := []) (wf := bRO k o (qs 0) bf pa pn pk sv iz tr tx er fl li ll ac ci ch ++ bSt k qs qc qr ql lim sh sc fr ++ bClaims k qc n w ly t a fx) hP hD [0, 1, 2, 3, 4, 5, 6, 7, 8] [] [0, 1, 2, 3, 4, 5, 6, 7, 8] rfl rfl (by decide) (by decide) hk1 hFc hbx ht rfl rfl (by decide)
  exact vx_out (fun x h9 => (ht9 x h9).elim) hlocks hce hcv hcl (fun t ht2 hvm2 => xEnd hP hK hD hS hvm2 (by rw [ht2]; exact Nat.le_refl _) (fun q _ => by rw [ht2])) hS.2.2 (Nat.le_of_ble_eq_true rfl) (Nat.le_of_ble_eq_true rfl)

set_option maxHeartbeats 4000000 in
set_option maxRecDepth 100000 in
theorem x_X12_isPosition (l9 : Launch) (hl9 : l9.stackTraces = false) (D : va_G) (k : Nat → ClassId) (sz : Nat) (o bf pa pn pk sv tr tx li ll ac ci ch : Nat) (iz : Bool) (er fl : Int32) (qs qc qr ql : Nat → Nat) (lim sh sc : Int32) (fr : Nat → UInt32) (n : Nat) (w ly t a : Nat → Int32) (fx : Nat → UInt32) (x : Int32) (hn : n ≤ 10) (hxn : x < 0 ∨ nI (pw n - 1) < x) : vx_Met l9 yX12_isPosition wsX12_isPosition ({ frames := 6, cells := 1, slots := 6, locals := 82 }) (XPc D k [.ref o, .int x] (bRO k o (qs 0) bf pa pn pk sv iz tr tx er fl li ll ac ci ch ++ bSt k qs qc qr ql lim sh sc fr ++ bClaims k qc n w ly t a fx) sz) (XI (va_A (bRO k o (qs 0) bf pa pn pk sv iz tr tx er fl li ll ac ci ch ++ bSt k qs qc qr ql lim sh sc fr ++ bClaims k qc n w ly t a fx) sz)) (XC D k "java/lang/IllegalArgumentException" (bRO k o (qs 0) bf pa pn pk sv iz tr tx er fl li ll ac ci ch ++ bSt k qs qc qr ql lim sh sc fr ++ bClaims k qc n w ly t a fx) (va_A (bRO k o (qs 0) bf pa pn pk sv iz tr tx er fl li ll ac ci ch ++ bSt k qs qc qr ql lim sh sc fr ++ bClaims k qc n w ly t a fx) sz)) 1 6 (va_A (bRO k o (qs 0) bf pa pn pk sv iz tr tx er fl li ll ac ci ch ++ bSt k qs qc qr ql lim sh sc fr ++ bClaims k qc n w ly t a fx) sz) := by
  refine xMet (y := yX12_isPosition) (cc := cX12_isPosition) (maxL := 2) (ret := (some .boolean)) (Qc := XI) (X9 := XC D k "java/lang/IllegalArgumentException" (bRO k o (qs 0) bf pa pn pk sv iz tr tx er fl li ll ac ci ch ++ bSt k qs qc qr ql lim sh sc fr ++ bClaims k qc n w ly t a fx)) [.ref o, .int x] (by decide) rfl (Nat.le_of_ble_eq_true rfl) ?_
  intro p9 e9 s9 m9 bl9 me9 c9 ls A H hF hr hlocks ht9 hP hK hN hXN hZ hD hA hS hl
  have hl : lv_has ls 2 [(0, .ref o), (1, .int x)] := hl
  obtain ⟨hx, hb, hml, hown, hts⟩ := id hF
  have k_fieldLink_10 : (Cond.fieldLink RX12 10 "OpinionReactor" "now" "LOpinionReactor$State;").before _ s9 = true := hts (.fieldLink RX12 10 "OpinionReactor" "now" "LOpinionReactor$State;") (by decide +kernel)
  have kc_RX12 : ∀ w ∈ u_ws RX12 TX12 16, w ∈ wsX12_isPosition := by decide +kernel
  have k_fieldLink_85 : (Cond.fieldLink RX12 85 "OpinionReactor$State" "claims" "LOpinionReactor$Claims;").before _ s9 = true := hts (.fieldLink RX12 85 "OpinionReactor$State" "claims" "LOpinionReactor$Claims;") (by decide +kernel)
  have kc_RX11 : ∀ w ∈ u_ws RX11 TX11 7, w ∈ wsX12_isPosition := by decide +kernel
  refine lv_iload_n hx hb dX12_isPosition_0 rfl (lv_at hl 1 rfl) ?_
  refine lv_if_lt (tgt := 18) hx hb dX12_isPosition_1 (by decide) (fun c_1 => ?_) (fun c_1 => ?_)
  · skip
    obtain ⟨sa9, hsa9⟩ := hXN.2 (171, "no such set of claims") (by decide)
    exact vx_throwS (cls := "java/lang/IllegalArgumentException") (text := "no such set of claims") (names := ["java/lang/RuntimeException", "java/lang/Exception"]) hx hb hl9 hown (by decide +kernel) xfit (hts (.classLink RX12 169 "java/lang/IllegalArgumentException") (by decide +kernel)) (hts (.initialized "java/lang/IllegalArgumentException") (by decide +kernel)) hsa9 (vx_hat (fun w h9 => hts w (List.mem_cons_of_mem _ (List.mem_append_left _ (List.mem_append_right _ h9)))) xng_173 (fun w h9 => va_Nw.use (xnL_tables w h9) (hXN.1 w h9))) xot_173 hZ.1 hZ.2 hS (hl.1.trans hml.symm) dX12_isPosition_18 dX12_isPosition_21 dX12_isPosition_22 dX12_isPosition_24 dX12_isPosition_27 (fun x h9 => (ht9 x h9).elim) (Nat.le_of_ble_eq_true rfl) (Nat.le_of_ble_eq_true rfl) (Nat.le_of_ble_eq_true rfl) (Nat.le_of_ble_eq_true rfl) hlocks (fun t hvm hz hq => xEnd hP hK hD hS hvm hz hq) hS.2.2 (Nat.le_of_ble_eq_true rfl) (Nat.le_of_ble_eq_true rfl)
  · skip
    refine lv_iload_n hx hb dX12_isPosition_4 rfl (lv_at hl 1 rfl) ?_
    refine lv_aload_n hx hb dX12_isPosition_5 rfl (lv_at hl 0 rfl) ?_
    refine va_get (D := D) (ci := 12) (v := .ref (qs 0)) (C := RX12) (T := TX12) (N := 16) hx hb hts kc_RX12 hown hK hP 0 rfl rfl 0 (by decide) k_fieldLink_10 (fun _ h9 => h9) rfl dX12_isPosition_6 ?_
    refine va_get (D := D) (ci := 11) (v := .ref (qc 0)) (C := RX11) (T := TX11) (N := 7) hx hb hts kc_RX11 hown hK hP 1 rfl rfl 0 (by decide) k_fieldLink_85 (fun _ h9 => h9) rfl dX12_isPosition_9 ?_
    refine vp_callSi (W.runV (As := []) (rest := [.int x]) hF (m_X5_all l9 D k qc n w ly t a fx hn) (cwV 0 hts gX12_isPosition_X5_all rfl rfl rfl (by decide +kernel) ⟨Nat.le_of_ble_eq_true rfl, Nat.le_of_ble_eq_true rfl⟩) (rPreV hK hN hP [3, 4, 5, 6, 7, 8] rfl 3 7 rfl rfl) rfl rfl hl.1 rfl (lv_room (Nat.le_of_ble_eq_true rfl)) dX12_isPosition_12 ⟨Nat.zero_le _, Nat.zero_le _⟩) (fun r_2 hr_2 => ?_)
    subst hr_2
    refine lv_icmp_le (tgt := 28) hx hb dX12_isPosition_15 (by decide) (fun c_3 => ?_) (fun c_3 => ?_)
    · skip
      exact hxn.elim (fun h9 => absurd h9 (by assumption)) (fun h9 => absurd c_3 (Int32.not_le.mpr h9))
    · skip
      obtain ⟨sa9, hsa9⟩ := hXN.2 (171, "no such set of claims") (by decide)
      exact vx_throwS (cls := "java/lang/IllegalArgumentException") (text := "no such set of claims") (names := ["java/lang/RuntimeException", "java/lang/Exception"]) hx hb hl9 hown (by decide +kernel) xfit (hts (.classLink RX12 169 "java/lang/IllegalArgumentException") (by decide +kernel)) (hts (.initialized "java/lang/IllegalArgumentException") (by decide +kernel)) hsa9 (vx_hat (fun w h9 => hts w (List.mem_cons_of_mem _ (List.mem_append_left _ (List.mem_append_right _ h9)))) xng_173 (fun w h9 => va_Nw.use (xnL_tables w h9) (hXN.1 w h9))) xot_173 hZ.1 hZ.2 hS (hl.1.trans hml.symm) dX12_isPosition_18 dX12_isPosition_21 dX12_isPosition_22 dX12_isPosition_24 dX12_isPosition_27 (fun x h9 => (ht9 x h9).elim) (Nat.le_of_ble_eq_true rfl) (Nat.le_of_ble_eq_true rfl) (Nat.le_of_ble_eq_true rfl) (Nat.le_of_ble_eq_true rfl) hlocks (fun t hvm hz hq => xEnd hP hK hD hS hvm hz hq) hS.2.2 (Nat.le_of_ble_eq_true rfl) (Nat.le_of_ble_eq_true rfl)

set_option maxHeartbeats 4000000 in
set_option maxRecDepth 100000 in
theorem m_X12_isPosition (l9 : Launch) (D : va_G) (k : Nat → ClassId) (sz : Nat) (o bf pa pn pk sv tr tx li ll ac ci ch : Nat) (iz : Bool) (er fl : Int32) (qs qc qr ql : Nat → Nat) (lim sh sc : Int32) (fr : Nat → UInt32) (n : Nat) (w ly t a : Nat → Int32) (fx : Nat → UInt32) (x : Int32) (hn : n ≤ 10) (hxn : ¬ (x < 0 ∨ nI (pw n - 1) < x)) : Met l9 yX12_isPosition wsX12_isPosition ({ frames := 3, cells := 0, slots := 0, locals := 66 }) (WPc D k [.ref o, .int x] (bRO k o (qs 0) bf pa pn pk sv iz tr tx er fl li ll ac ci ch ++ bSt k qs qc qr ql lim sh sc fr ++ bClaims k qc n w ly t a fx) sz) (WI D k (bRO k o (qs 0) bf pa pn pk sv iz tr tx er fl li ll ac ci ch ++ bSt k qs qc qr ql lim sh sc fr ++ bClaims k qc n w ly t a fx) (bI (hld n t a x)) (va_A (bRO k o (qs 0) bf pa pn pk sv iz tr tx er fl li ll ac ci ch ++ bSt k qs qc qr ql lim sh sc fr ++ bClaims k qc n w ly t a fx) sz)) 0 0 (va_A (bRO k o (qs 0) bf pa pn pk sv iz tr tx er fl li ll ac ci ch ++ bSt k qs qc qr ql lim sh sc fr ++ bClaims k qc n w ly t a fx) sz) := by
  refine wMet (y := yX12_isPosition) (cc := cX12_isPosition) (maxL := 2) (ret := (some .boolean)) (Qc := fun A => WI D k (bRO k o (qs 0) bf pa pn pk sv iz tr tx er fl li ll ac ci ch ++ bSt k qs qc qr ql lim sh sc fr ++ bClaims k qc n w ly t a fx) (bI (hld n t a x)) A) [.ref o, .int x] (by decide) rfl (Nat.le_of_ble_eq_true rfl) ?_
  intro p9 e9 s9 m9 bl9 me9 c9 ls A H hF hr hlocks hP hK hN hD hA hS hl hin
  have hl : lv_has ls 2 [(0, .ref o), (1, .int x)] := hl
  obtain ⟨hx, hb, hml, hown, hts⟩ := id hF
  have k_fieldLink_10 : (Cond.fieldLink RX12 10 "OpinionReactor" "now" "LOpinionReactor$State;").before _ s9 = true := hts (.fieldLink RX12 10 "OpinionReactor" "now" "LOpinionReactor$State;") (by decide +kernel)
  have kc_RX12 : ∀ w ∈ u_ws RX12 TX12 16, w ∈ wsX12_isPosition := by decide +kernel
  have k_fieldLink_85 : (Cond.fieldLink RX12 85 "OpinionReactor$State" "claims" "LOpinionReactor$Claims;").before _ s9 = true := hts (.fieldLink RX12 85 "OpinionReactor$State" "claims" "LOpinionReactor$Claims;") (by decide +kernel)
  have kc_RX11 : ∀ w ∈ u_ws RX11 TX11 7, w ∈ wsX12_isPosition := by decide +kernel
  refine lv_iload_n hx hb dX12_isPosition_0 rfl (lv_at hl 1 rfl) ?_
  refine lv_if_lt (tgt := 18) hx hb dX12_isPosition_1 (by decide) (fun c_1 => ?_) (fun c_1 => ?_)
  · skip
    exact absurd (Or.inl c_1) hxn
  · skip
    refine lv_iload_n hx hb dX12_isPosition_4 rfl (lv_at hl 1 rfl) ?_
    refine lv_aload_n hx hb dX12_isPosition_5 rfl (lv_at hl 0 rfl) ?_
    refine va_get (D := D) (ci := 12) (v := .ref (qs 0)) (C := RX12) (T := TX12) (N := 16) hx hb hts kc_RX12 hown hK hP 0 rfl rfl 0 (by decide) k_fieldLink_10 (fun _ h9 => h9) rfl dX12_isPosition_6 ?_
    refine va_get (D := D) (ci := 11) (v := .ref (qc 0)) (C := RX11) (T := TX11) (N := 7) hx hb hts kc_RX11 hown hK hP 1 rfl rfl 0 (by decide) k_fieldLink_85 (fun _ h9 => h9) rfl dX12_isPosition_9 ?_
    refine vp_callSi (W.runV (As := []) (rest := [.int x]) hF (m_X5_all l9 D k qc n w ly t a fx hn) (cwV 0 hts gX12_isPosition_X5_all rfl rfl rfl (by decide +kernel) ⟨Nat.le_of_ble_eq_true rfl, Nat.le_of_ble_eq_true rfl⟩) (rPreV hK hN hP [3, 4, 5, 6, 7, 8] rfl 3 7 rfl rfl) rfl rfl hl.1 rfl (lv_room (Nat.le_of_ble_eq_true rfl)) dX12_isPosition_12 ⟨Nat.zero_le _, Nat.zero_le _⟩) (fun r_2 hr_2 => ?_)
    subst hr_2
    refine lv_icmp_le (tgt := 28) hx hb dX12_isPosition_15 (by decide) (fun c_3 => ?_) (fun c_3 => ?_)
    · skip
      refine lv_aload_n hx hb dX12_isPosition_28 rfl (lv_at hl 0 rfl) ?_
      refine va_get (D := D) (ci := 12) (v := .ref (qs 0)) (C := RX12) (T := TX12) (N := 16) hx hb hts kc_RX12 hown hK hP 0 rfl rfl 0 (by decide) k_fieldLink_10 (fun _ h9 => h9) rfl dX12_isPosition_29 ?_
      refine va_get (D := D) (ci := 11) (v := .ref (qc 0)) (C := RX11) (T := TX11) (N := 7) hx hb hts kc_RX11 hown hK hP 1 rfl rfl 0 (by decide) k_fieldLink_85 (fun _ h9 => h9) rfl dX12_isPosition_32 ?_
      refine lv_iload_n hx hb dX12_isPosition_35 rfl (lv_at hl 1 rfl) ?_
      refine vp_callSi (W.runS (As := [.ref (qc 0), .int x]) (rest := []) hF (m_X9_holds l9 D k qc n w ly t a fx x hn) (va_cwS 2 hts gX12_isPosition_X9_holds rfl rfl rfl (by decide +kernel) ⟨Nat.le_of_ble_eq_true rfl, Nat.le_of_ble_eq_true rfl⟩) (rPreS hK hN hP [3, 4, 5, 6, 7, 8] rfl) rfl rfl hl.1 rfl (lv_room (Nat.le_of_ble_eq_true rfl)) dX12_isPosition_36 ⟨Nat.zero_le _, Nat.zero_le _⟩) (fun r_4 hr_4 => ?_)
      subst hr_4
      exact W.zret (v := bI (hld n t a x)) hx hb hr (bI_nar _) (fun t9 ht hW => ⟨⟨_, (), rfl, (by rfl), ⟨by rw [ht]; exact hP, va_K.moved hW.alike hK, hD⟩⟩, hS.F ht⟩) hS.2.2 dX12_isPosition_39 hlocks
    · skip
      exact absurd (Or.inr (Int32.not_le.mp c_3)) hxn

set_option maxHeartbeats 4000000 in
set_option maxRecDepth 100000 in
theorem x_X12_remarkAt (l9 : Launch) (hl9 : l9.stackTraces = false) (D : va_G) (k : Nat → ClassId) (sz : Nat) (o bf pa pn pk sv tr tx li ll ac ci ch : Nat) (iz : Bool) (er fl : Int32) (qs qc qr ql : Nat → Nat) (lim sh sc : Int32) (fr : Nat → UInt32) (kd rk : Nat → Int32) (x y : Int32) (hxn : (rg 0 x 3 && rg 0 y 2) = false) : vx_Met l9 yX12_remarkAt wsX12_remarkAt ({ frames := 6, cells := 1, slots := 6, locals := 82 }) (XPc D k [.ref o, .int x, .int y] (bRO k o (qs 0) bf pa pn pk sv iz tr tx er fl li ll ac ci ch ++ bSt k qs qc qr ql lim sh sc fr ++ bRacks k qr kd rk) sz) (XI (va_A (bRO k o (qs 0) bf pa pn pk sv iz tr tx er fl li ll ac ci ch ++ bSt k qs qc qr ql lim sh sc fr ++ bRacks k qr kd rk) sz)) (XC D k "java/lang/IndexOutOfBoundsException" (bRO k o (qs 0) bf pa pn pk sv iz tr tx er fl li ll ac ci ch ++ bSt k qs qc qr ql lim sh sc fr ++ bRacks k qr kd rk) (va_A (bRO k o (qs 0) bf pa pn pk sv iz tr tx er fl li ll ac ci ch ++ bSt k qs qc qr ql lim sh sc fr ++ bRacks k qr kd rk) sz)) 1 6 (va_A (bRO k o (qs 0) bf pa pn pk sv iz tr tx er fl li ll ac ci ch ++ bSt k qs qc qr ql lim sh sc fr ++ bRacks k qr kd rk) sz) := by
  refine xMet (y := yX12_remarkAt) (cc := cX12_remarkAt) (maxL := 3) (ret := (some .char)) (Qc := XI) (X9 := XC D k "java/lang/IndexOutOfBoundsException" (bRO k o (qs 0) bf pa pn pk sv iz tr tx er fl li ll ac ci ch ++ bSt k qs qc qr ql lim sh sc fr ++ bRacks k qr kd rk)) [.ref o, .int x, .int y] (by decide) rfl (Nat.le_of_ble_eq_true rfl) ?_
  intro p9 e9 s9 m9 bl9 me9 c9 ls A H hF hr hlocks ht9 hP hK hN hXN hZ hD hA hS hl
  have hl : lv_has ls 3 [(0, .ref o), (1, .int x), (2, .int y)] := hl
  obtain ⟨hx, hb, hml, hown, hts⟩ := id hF
  refine lv_iload_n hx hb dX12_remarkAt_0 rfl (lv_at hl 1 rfl) ?_
  refine vp_callSi (W.runS (As := [.int x]) (rest := []) hF (m_X12_isLayer l9 D k x ) (va_cwS 1 hts gX12_remarkAt_X12_isLayer rfl rfl rfl (by decide +kernel) ⟨Nat.le_of_ble_eq_true rfl, Nat.le_of_ble_eq_true rfl⟩) (rPreS hK hN hP [] rfl) rfl rfl hl.1 rfl (lv_room (Nat.le_of_ble_eq_true rfl)) dX12_remarkAt_1 ⟨Nat.zero_le _, Nat.zero_le _⟩) (fun r_1 hr_1 => ?_)
  subst hr_1
  refine lv_if_eq (tgt := 14) hx hb dX12_remarkAt_4 (by decide) (fun c_2 => ?_) (fun c_2 => ?_)
  · skip
    have c_2 : (rg 0 x 3) = false := bI_0 c_2
    obtain ⟨sa9, hsa9⟩ := hXN.2 (229, "no such layer or slot") (by decide)
    exact vx_throwS (cls := "java/lang/IndexOutOfBoundsException") (text := "no such layer or slot") (names := ["java/lang/RuntimeException", "java/lang/Exception"]) hx hb hl9 hown (by decide +kernel) xfit (hts (.classLink RX12 227 "java/lang/IndexOutOfBoundsException") (by decide +kernel)) (hts (.initialized "java/lang/IndexOutOfBoundsException") (by decide +kernel)) hsa9 (vx_hat (fun w h9 => hts w (List.mem_cons_of_mem _ (List.mem_append_left _ (List.mem_append_right _ h9)))) xng_231 (fun w h9 => va_Nw.use (xnL_tables w h9) (hXN.1 w h9))) xot_231 hZ.1 hZ.2 hS (hl.1.trans hml.symm) dX12_remarkAt_14 dX12_remarkAt_17 dX12_remarkAt_18 dX12_remarkAt_20 dX12_remarkAt_23 (fun x h9 => (ht9 x h9).elim) (Nat.le_of_ble_eq_true rfl) (Nat.le_of_ble_eq_true rfl) (Nat.le_of_ble_eq_true rfl) (Nat.le_of_ble_eq_true rfl) hlocks (fun t hvm hz hq => xEnd hP hK hD hS hvm hz hq) hS.2.2 (Nat.le_of_ble_eq_true rfl) (Nat.le_of_ble_eq_true rfl)
  · skip
    have c_2 : (rg 0 x 3) = true := bI_1 c_2
    refine lv_iload_n hx hb dX12_remarkAt_7 rfl (lv_at hl 2 rfl) ?_
    refine vp_callSi (W.runS (As := [.int y]) (rest := []) hF (m_X12_isSlot l9 D k y ) (va_cwS 1 hts gX12_remarkAt_X12_isSlot rfl rfl rfl (by decide +kernel) ⟨Nat.le_of_ble_eq_true rfl, Nat.le_of_ble_eq_true rfl⟩) (rPreS hK hN hP [] rfl) rfl rfl hl.1 rfl (lv_room (Nat.le_of_ble_eq_true rfl)) dX12_remarkAt_8 ⟨Nat.zero_le _, Nat.zero_le _⟩) (fun r_3 hr_3 => ?_)
    subst hr_3
    refine lv_if_ne (tgt := 24) hx hb dX12_remarkAt_11 (by decide) (fun c_4 => ?_) (fun c_4 => ?_)
    · skip
      have c_4 : (rg 0 y 2) = true := bI_1 c_4
      exact Bool.noConfusion (Eq.trans (Eq.symm hxn) (by rw [show rg 0 x 3 = true by assumption, show rg 0 y 2 = true by assumption]))
    · skip
      have c_4 : (rg 0 y 2) = false := bI_0 c_4
      obtain ⟨sa9, hsa9⟩ := hXN.2 (229, "no such layer or slot") (by decide)
      exact vx_throwS (cls := "java/lang/IndexOutOfBoundsException") (text := "no such layer or slot") (names := ["java/lang/RuntimeException", "java/lang/Exception"]) hx hb hl9 hown (by decide +kernel) xfit (hts (.classLink RX12 227 "java/lang/IndexOutOfBoundsException") (by decide +kernel)) (hts (.initialized "java/lang/IndexOutOfBoundsException") (by decide +kernel)) hsa9 (vx_hat (fun w h9 => hts w (List.mem_cons_of_mem _ (List.mem_append_left _ (List.mem_append_right _ h9)))) xng_231 (fun w h9 => va_Nw.use (xnL_tables w h9) (hXN.1 w h9))) xot_231 hZ.1 hZ.2 hS (hl.1.trans hml.symm) dX12_remarkAt_14 dX12_remarkAt_17 dX12_remarkAt_18 dX12_remarkAt_20 dX12_remarkAt_23 (fun x h9 => (ht9 x h9).elim) (Nat.le_of_ble_eq_true rfl) (Nat.le_of_ble_eq_true rfl) (Nat.le_of_ble_eq_true rfl) (Nat.le_of_ble_eq_true rfl) hlocks (fun t hvm hz hq => xEnd hP hK hD hS hvm hz hq) hS.2.2 (Nat.le_of_ble_eq_true rfl) (Nat.le_of_ble_eq_true rfl)

set_option maxHeartbeats 4000000 in
set_option maxRecDepth 100000 in
theorem x_X12_depthOf (l9 : Launch) (hl9 : l9.stackTraces = false) (D : va_G) (k : Nat → ClassId) (sz : Nat) (o bf pa pn pk sv tr tx li ll ac ci ch : Nat) (iz : Bool) (er fl : Int32) (qs qc qr ql : Nat → Nat) (lim sh sc : Int32) (fr : Nat → UInt32) (kd rk : Nat → Int32) (x : Int32) (hxn : rg 0 x 3 = false) : vx_Met l9 yX12_depthOf wsX12_depthOf ({ frames := 6, cells := 1, slots := 6, locals := 82 }) (XPc D k [.ref o, .int x] (bRO k o (qs 0) bf pa pn pk sv iz tr tx er fl li ll ac ci ch ++ bSt k qs qc qr ql lim sh sc fr ++ bRacks k qr kd rk) sz) (XI (va_A (bRO k o (qs 0) bf pa pn pk sv iz tr tx er fl li ll ac ci ch ++ bSt k qs qc qr ql lim sh sc fr ++ bRacks k qr kd rk) sz)) (XC D k "java/lang/IndexOutOfBoundsException" (bRO k o (qs 0) bf pa pn pk sv iz tr tx er fl li ll ac ci ch ++ bSt k qs qc qr ql lim sh sc fr ++ bRacks k qr kd rk) (va_A (bRO k o (qs 0) bf pa pn pk sv iz tr tx er fl li ll ac ci ch ++ bSt k qs qc qr ql lim sh sc fr ++ bRacks k qr kd rk) sz)) 1 6 (va_A (bRO k o (qs 0) bf pa pn pk sv iz tr tx er fl li ll ac ci ch ++ bSt k qs qc qr ql lim sh sc fr ++ bRacks k qr kd rk) sz) := by
  refine xMet (y := yX12_depthOf) (cc := cX12_depthOf) (maxL := 2) (ret := (some .int)) (Qc := XI) (X9 := XC D k "java/lang/IndexOutOfBoundsException" (bRO k o (qs 0) bf pa pn pk sv iz tr tx er fl li ll ac ci ch ++ bSt k qs qc qr ql lim sh sc fr ++ bRacks k qr kd rk)) [.ref o, .int x] (by decide) rfl (Nat.le_of_ble_eq_true rfl) ?_
  intro p9 e9 s9 m9 bl9 me9 c9 ls A H hF hr hlocks ht9 hP hK hN hXN hZ hD hA hS hl
  have hl : lv_has ls 2 [(0, .ref o), (1, .int x)] := hl
  obtain ⟨hx, hb, hml, hown, hts⟩ := id hF
  refine lv_iload_n hx hb dX12_depthOf_0 rfl (lv_at hl 1 rfl) ?_
  refine vp_callSi (W.runS (As := [.int x]) (rest := []) hF (m_X12_isLayer l9 D k x ) (va_cwS 1 hts gX12_depthOf_X12_isLayer rfl rfl rfl (by decide +kernel) ⟨Nat.le_of_ble_eq_true rfl, Nat.le_of_ble_eq_true rfl⟩) (rPreS hK hN hP [] rfl) rfl rfl hl.1 rfl (lv_room (Nat.le_of_ble_eq_true rfl)) dX12_depthOf_1 ⟨Nat.zero_le _, Nat.zero_le _⟩) (fun r_1 hr_1 => ?_)
  subst hr_1
  refine lv_if_ne (tgt := 17) hx hb dX12_depthOf_4 (by decide) (fun c_2 => ?_) (fun c_2 => ?_)
  · skip
    have c_2 : (rg 0 x 3) = true := bI_1 c_2
    exact Bool.noConfusion (Eq.trans (Eq.symm c_2) hxn)
  · skip
    have c_2 : (rg 0 x 3) = false := bI_0 c_2
    obtain ⟨sa9, hsa9⟩ := hXN.2 (235, "no such layer") (by decide)
    exact vx_throwS (cls := "java/lang/IndexOutOfBoundsException") (text := "no such layer") (names := ["java/lang/RuntimeException", "java/lang/Exception"]) hx hb hl9 hown (by decide +kernel) xfit (hts (.classLink RX12 227 "java/lang/IndexOutOfBoundsException") (by decide +kernel)) (hts (.initialized "java/lang/IndexOutOfBoundsException") (by decide +kernel)) hsa9 (vx_hat (fun w h9 => hts w (List.mem_cons_of_mem _ (List.mem_append_left _ (List.mem_append_right _ h9)))) xng_231 (fun w h9 => va_Nw.use (xnL_tables w h9) (hXN.1 w h9))) xot_231 hZ.1 hZ.2 hS (hl.1.trans hml.symm) dX12_depthOf_7 dX12_depthOf_10 dX12_depthOf_11 dX12_depthOf_13 dX12_depthOf_16 (fun x h9 => (ht9 x h9).elim) (Nat.le_of_ble_eq_true rfl) (Nat.le_of_ble_eq_true rfl) (Nat.le_of_ble_eq_true rfl) (Nat.le_of_ble_eq_true rfl) hlocks (fun t hvm hz hq => xEnd hP hK hD hS hvm hz hq) hS.2.2 (Nat.le_of_ble_eq_true rfl) (Nat.le_of_ble_eq_true rfl)

set_option maxHeartbeats 4000000 in
set_option maxRecDepth 100000 in
theorem x_X12_needEntry (l9 : Launch) (hl9 : l9.stackTraces = false) (D : va_G) (k : Nat → ClassId) (sz : Nat) (o bf pa pn pk sv tr tx li ll ac ci ch : Nat) (iz : Bool) (er fl : Int32) (qs qc qr ql : Nat → Nat) (lim sh sc : Int32) (fr : Nat → UInt32) (lsh lk : Nat → Int32) (lc lx : Nat) (x : Int32) (hxn : inC lc x = false) : vx_Met l9 yX12_needEntry wsX12_needEntry ({ frames := 6, cells := 1, slots := 6, locals := 82 }) (XPc D k [.ref o, .int x] (bRO k o (qs 0) bf pa pn pk sv iz tr tx er fl li ll ac ci ch ++ bSt k qs qc qr ql lim sh sc fr ++ bLog k ql lsh lk lc lx) sz) (XV (va_A (bRO k o (qs 0) bf pa pn pk sv iz tr tx er fl li ll ac ci ch ++ bSt k qs qc qr ql lim sh sc fr ++ bLog k ql lsh lk lc lx) sz)) (XC D k "java/util/NoSuchElementException" (bRO k o (qs 0) bf pa pn pk sv iz tr tx er fl li ll ac ci ch ++ bSt k qs qc qr ql lim sh sc fr ++ bLog k ql lsh lk lc lx) (va_A (bRO k o (qs 0) bf pa pn pk sv iz tr tx er fl li ll ac ci ch ++ bSt k qs qc qr ql lim sh sc fr ++ bLog k ql lsh lk lc lx) sz)) 1 6 (va_A (bRO k o (qs 0) bf pa pn pk sv iz tr tx er fl li ll ac ci ch ++ bSt k qs qc qr ql lim sh sc fr ++ bLog k ql lsh lk lc lx) sz) := by
  refine xMet (y := yX12_needEntry) (cc := cX12_needEntry) (maxL := 2) (ret := none) (Qc := XV) (X9 := XC D k "java/util/NoSuchElementException" (bRO k o (qs 0) bf pa pn pk sv iz tr tx er fl li ll ac ci ch ++ bSt k qs qc qr ql lim sh sc fr ++ bLog k ql lsh lk lc lx)) [.ref o, .int x] (by decide) rfl (Nat.le_of_ble_eq_true rfl) ?_
  intro p9 e9 s9 m9 bl9 me9 c9 ls A H hF hr hlocks ht9 hP hK hN hXN hZ hD hA hS hl
  have hl : lv_has ls 2 [(0, .ref o), (1, .int x)] := hl
  obtain ⟨hx, hb, hml, hown, hts⟩ := id hF
  have k_fieldLink_10 : (Cond.fieldLink RX12 10 "OpinionReactor" "now" "LOpinionReactor$State;").before _ s9 = true := hts (.fieldLink RX12 10 "OpinionReactor" "now" "LOpinionReactor$State;") (by decide +kernel)
  have kc_RX12 : ∀ w ∈ u_ws RX12 TX12 16, w ∈ wsX12_needEntry := by decide +kernel
  have k_fieldLink_291 : (Cond.fieldLink RX12 291 "OpinionReactor$State" "log" "LOpinionReactor$Log;").before _ s9 = true := hts (.fieldLink RX12 291 "OpinionReactor$State" "log" "LOpinionReactor$Log;") (by decide +kernel)
  have kc_RX11 : ∀ w ∈ u_ws RX11 TX11 7, w ∈ wsX12_needEntry := by decide +kernel
  have k_fieldLink_295 : (Cond.fieldLink RX12 295 "OpinionReactor$Log" "count" "I").before _ s9 = true := hts (.fieldLink RX12 295 "OpinionReactor$Log" "count" "I") (by decide +kernel)
  have kc_RX8 : ∀ w ∈ u_ws RX8 TX8 4, w ∈ wsX12_needEntry := by decide +kernel
  refine lv_iload_n hx hb dX12_needEntry_0 rfl (lv_at hl 1 rfl) ?_
  refine lv_if_lt (tgt := 18) hx hb dX12_needEntry_1 (by decide) (fun c_1 => ?_) (fun c_1 => ?_)
  · skip
    obtain ⟨sa9, hsa9⟩ := hXN.2 (309, "no such entry") (by decide)
    exact ns_throwSW (cls := "java/util/NoSuchElementException") (text := "no such entry") (names := ["java/lang/RuntimeException", "java/lang/Exception"]) hx hb hl9 hown (by decide +kernel) xfit (hts (.classLink RX12 275 "java/util/NoSuchElementException") (by decide +kernel)) (hts (.initialized "java/util/NoSuchElementException") (by decide +kernel)) hsa9 (vx_hat (fun w h9 => hts w (List.mem_cons_of_mem _ (List.mem_append_right _ h9))) xng_279 (fun w h9 => va_Nw.use (xnL_tables w h9) (hXN.1 w h9))) xot_279 hZ.1 hZ.2 hS (hl.1.trans hml.symm) dX12_needEntry_18 dX12_needEntry_21 dX12_needEntry_22 dX12_needEntry_25 dX12_needEntry_28 (fun x h9 => (ht9 x h9).elim) (Nat.le_of_ble_eq_true rfl) (Nat.le_of_ble_eq_true rfl) (Nat.le_of_ble_eq_true rfl) (Nat.le_of_ble_eq_true rfl) hlocks (fun t hvm hz hq => xEnd hP hK hD hS hvm hz hq) hS.2.2 (Nat.le_of_ble_eq_true rfl) (Nat.le_of_ble_eq_true rfl)
  · skip
    refine lv_iload_n hx hb dX12_needEntry_4 rfl (lv_at hl 1 rfl) ?_
    refine lv_aload_n hx hb dX12_needEntry_5 rfl (lv_at hl 0 rfl) ?_
    refine va_get (D := D) (ci := 12) (v := .ref (qs 0)) (C := RX12) (T := TX12) (N := 16) hx hb hts kc_RX12 hown hK hP 0 rfl rfl 0 (by decide) k_fieldLink_10 (fun _ h9 => h9) rfl dX12_needEntry_6 ?_
    refine va_get (D := D) (ci := 11) (v := .ref (ql 0)) (C := RX11) (T := TX11) (N := 7) hx hb hts kc_RX11 hown hK hP 1 rfl rfl 2 (by decide) k_fieldLink_291 (fun _ h9 => h9) rfl dX12_needEntry_9 ?_
    refine va_get (D := D) (ci := 9) (v := .int (nI lc)) (C := RX8) (T := TX8) (N := 4) hx hb hts kc_RX8 hown hK hP 3 rfl rfl 2 (by decide) k_fieldLink_295 (fun _ h9 => h9) rfl dX12_needEntry_12 ?_
    refine lv_icmp_lt (tgt := 29) hx hb dX12_needEntry_15 (by decide) (fun c_2 => ?_) (fun c_2 => ?_)
    · skip
      exact absurd ⟨Int32.not_lt.mp (by assumption), Int32.not_le.mpr c_2⟩ (of_decide_eq_false hxn)
    · skip
      obtain ⟨sa9, hsa9⟩ := hXN.2 (309, "no such entry") (by decide)
      exact ns_throwSW (cls := "java/util/NoSuchElementException") (text := "no such entry") (names := ["java/lang/RuntimeException", "java/lang/Exception"]) hx hb hl9 hown (by decide +kernel) xfit (hts (.classLink RX12 275 "java/util/NoSuchElementException") (by decide +kernel)) (hts (.initialized "java/util/NoSuchElementException") (by decide +kernel)) hsa9 (vx_hat (fun w h9 => hts w (List.mem_cons_of_mem _ (List.mem_append_right _ h9))) xng_279 (fun w h9 => va_Nw.use (xnL_tables w h9) (hXN.1 w h9))) xot_279 hZ.1 hZ.2 hS (hl.1.trans hml.symm) dX12_needEntry_18 dX12_needEntry_21 dX12_needEntry_22 dX12_needEntry_25 dX12_needEntry_28 (fun x h9 => (ht9 x h9).elim) (Nat.le_of_ble_eq_true rfl) (Nat.le_of_ble_eq_true rfl) (Nat.le_of_ble_eq_true rfl) (Nat.le_of_ble_eq_true rfl) hlocks (fun t hvm hz hq => xEnd hP hK hD hS hvm hz hq) hS.2.2 (Nat.le_of_ble_eq_true rfl) (Nat.le_of_ble_eq_true rfl)

set_option maxHeartbeats 4000000 in
set_option maxRecDepth 100000 in
theorem x_X12_logShift (l9 : Launch) (hl9 : l9.stackTraces = false) (D : va_G) (k : Nat → ClassId) (sz : Nat) (o bf pa pn pk sv tr tx li ll ac ci ch : Nat) (iz : Bool) (er fl : Int32) (qs qc qr ql : Nat → Nat) (lim sh sc : Int32) (fr : Nat → UInt32) (lsh lk : Nat → Int32) (lc lx : Nat) (x : Int32) (hxn : inC lc x = false) : vx_Met l9 yX12_logShift wsX12_logShift ({ frames := 7, cells := 1, slots := 6, locals := 103 }) (XPc D k [.ref o, .int x] (bRO k o (qs 0) bf pa pn pk sv iz tr tx er fl li ll ac ci ch ++ bSt k qs qc qr ql lim sh sc fr ++ bLog k ql lsh lk lc lx) sz) (XI (va_A (bRO k o (qs 0) bf pa pn pk sv iz tr tx er fl li ll ac ci ch ++ bSt k qs qc qr ql lim sh sc fr ++ bLog k ql lsh lk lc lx) sz)) (XC D k "java/util/NoSuchElementException" (bRO k o (qs 0) bf pa pn pk sv iz tr tx er fl li ll ac ci ch ++ bSt k qs qc qr ql lim sh sc fr ++ bLog k ql lsh lk lc lx) (va_A (bRO k o (qs 0) bf pa pn pk sv iz tr tx er fl li ll ac ci ch ++ bSt k qs qc qr ql lim sh sc fr ++ bLog k ql lsh lk lc lx) sz)) 1 6 (va_A (bRO k o (qs 0) bf pa pn pk sv iz tr tx er fl li ll ac ci ch ++ bSt k qs qc qr ql lim sh sc fr ++ bLog k ql lsh lk lc lx) sz) := by
  refine xMet (y := yX12_logShift) (cc := cX12_logShift) (maxL := 2) (ret := (some .int)) (Qc := XI) (X9 := XC D k "java/util/NoSuchElementException" (bRO k o (qs 0) bf pa pn pk sv iz tr tx er fl li ll ac ci ch ++ bSt k qs qc qr ql lim sh sc fr ++ bLog k ql lsh lk lc lx)) [.ref o, .int x] (by decide) rfl (Nat.le_of_ble_eq_true rfl) ?_
  intro p9 e9 s9 m9 bl9 me9 c9 ls A H hF hr hlocks ht9 hP hK hN hXN hZ hD hA hS hl
  have hl : lv_has ls 2 [(0, .ref o), (1, .int x)] := hl
  obtain ⟨hx, hb, hml, hown, hts⟩ := id hF
  refine lv_aload_n hx hb dX12_logShift_0 rfl (lv_at hl 0 rfl) ?_
  refine lv_iload_n hx hb dX12_logShift_1 rfl (lv_at hl 1 rfl) ?_
  have hFc := va_free (wc := bRO k o (qs 0) bf pa pn pk sv iz tr tx er fl li ll ac ci ch ++ bSt k qs qc qr ql lim sh sc fr ++ bLog k ql lsh lk lc lx) hD hS hA [0, 1, 2, 3, 4, 5] rfl
  refine vx_callv (vx_runV (As := [.int x]) (rest := []) hF (x_X12_needEntry l9 hl9 D k H.size o bf pa pn pk sv tr tx li ll ac ci ch iz er fl qs qc qr ql lim sh sc fr lsh lk lc lx x hxn) (cwV 1 hts gX12_logShift_X12_needEntry rfl rfl rfl (by decide +kernel) ⟨Nat.le_of_ble_eq_true rfl, Nat.le_of_ble_eq_true rfl⟩) (xPreV hK hN hXN hZ hS hFc hP hD [0, 1, 2, 3, 4, 5] rfl (by decide) rfl 0 12 rfl rfl) rfl rfl hl.1 rfl (lv_room (Nat.le_of_ble_eq_true rfl)) dX12_logShift_2 ⟨Nat.le_of_ble_eq_true rfl, Nat.le_of_ble_eq_true rfl⟩) hS (fun q _ h => hFc q h) hFc (fun q _ h => hFc q h) (fun E9 ce9 q9 u9 t9 H1 locs ht hvm _ hbx hz1 hk1 hS hce hcv hcl => ?_) (fun u9 t9 H1 locs _ _ hp _ _ _ _ => hp.elim)
  obtain ⟨rfl, hbx⟩ := hbx
  obtain ⟨hP, hD⟩ := wjoin (u := ()) (wr := []) (wf := bRO k o (qs 0) bf pa pn pk sv iz tr tx er fl li ll ac ci ch ++ bSt k qs qc qr ql lim sh sc fr ++ bLog k ql lsh lk lc lx) hP hD [0, 1, 2, 3, 4, 5] [] [0, 1, 2, 3, 4, 5] rfl rfl (by decide) (by decide) hk1 hFc hbx ht rfl rfl (by decide)
  exact vx_out (fun x h9 => (ht9 x h9).elim) hlocks hce hcv hcl (fun t ht2 hvm2 => xEnd hP hK hD hS hvm2 (by rw [ht2]; exact Nat.le_refl _) (fun q _ => by rw [ht2])) hS.2.2 (Nat.le_of_ble_eq_true rfl) (Nat.le_of_ble_eq_true rfl)

set_option maxHeartbeats 4000000 in
set_option maxRecDepth 100000 in
theorem x_X12_logKind (l9 : Launch) (hl9 : l9.stackTraces = false) (D : va_G) (k : Nat → ClassId) (sz : Nat) (o bf pa pn pk sv tr tx li ll ac ci ch : Nat) (iz : Bool) (er fl : Int32) (qs qc qr ql : Nat → Nat) (lim sh sc : Int32) (fr : Nat → UInt32) (lsh lk : Nat → Int32) (lc lx : Nat) (x : Int32) (hxn : inC lc x = false) : vx_Met l9 yX12_logKind wsX12_logKind ({ frames := 7, cells := 1, slots := 6, locals := 103 }) (XPc D k [.ref o, .int x] (bRO k o (qs 0) bf pa pn pk sv iz tr tx er fl li ll ac ci ch ++ bSt k qs qc qr ql lim sh sc fr ++ bLog k ql lsh lk lc lx) sz) (XI (va_A (bRO k o (qs 0) bf pa pn pk sv iz tr tx er fl li ll ac ci ch ++ bSt k qs qc qr ql lim sh sc fr ++ bLog k ql lsh lk lc lx) sz)) (XC D k "java/util/NoSuchElementException" (bRO k o (qs 0) bf pa pn pk sv iz tr tx er fl li ll ac ci ch ++ bSt k qs qc qr ql lim sh sc fr ++ bLog k ql lsh lk lc lx) (va_A (bRO k o (qs 0) bf pa pn pk sv iz tr tx er fl li ll ac ci ch ++ bSt k qs qc qr ql lim sh sc fr ++ bLog k ql lsh lk lc lx) sz)) 1 6 (va_A (bRO k o (qs 0) bf pa pn pk sv iz tr tx er fl li ll ac ci ch ++ bSt k qs qc qr ql lim sh sc fr ++ bLog k ql lsh lk lc lx) sz) := by
  refine xMet (y := yX12_logKind) (cc := cX12_logKind) (maxL := 2) (ret := (some .char)) (Qc := XI) (X9 := XC D k "java/util/NoSuchElementException" (bRO k o (qs 0) bf pa pn pk sv iz tr tx er fl li ll ac ci ch ++ bSt k qs qc qr ql lim sh sc fr ++ bLog k ql lsh lk lc lx)) [.ref o, .int x] (by decide) rfl (Nat.le_of_ble_eq_true rfl) ?_
  intro p9 e9 s9 m9 bl9 me9 c9 ls A H hF hr hlocks ht9 hP hK hN hXN hZ hD hA hS hl
  have hl : lv_has ls 2 [(0, .ref o), (1, .int x)] := hl
  obtain ⟨hx, hb, hml, hown, hts⟩ := id hF
  refine lv_aload_n hx hb dX12_logKind_0 rfl (lv_at hl 0 rfl) ?_
  refine lv_iload_n hx hb dX12_logKind_1 rfl (lv_at hl 1 rfl) ?_
  have hFc := va_free (wc := bRO k o (qs 0) bf pa pn pk sv iz tr tx er fl li ll ac ci ch ++ bSt k qs qc qr ql lim sh sc fr ++ bLog k ql lsh lk lc lx) hD hS hA [0, 1, 2, 3, 4, 5] rfl
  refine vx_callv (vx_runV (As := [.int x]) (rest := []) hF (x_X12_needEntry l9 hl9 D k H.size o bf pa pn pk sv tr tx li ll ac ci ch iz er fl qs qc qr ql lim sh sc fr lsh lk lc lx x hxn) (cwV 1 hts gX12_logKind_X12_needEntry rfl rfl rfl (by decide +kernel) ⟨Nat.le_of_ble_eq_true rfl, Nat.le_of_ble_eq_true rfl⟩) (xPreV hK hN hXN hZ hS hFc hP hD [0, 1, 2, 3, 4, 5] rfl (by decide) rfl 0 12 rfl rfl) rfl rfl hl.1 rfl (lv_room (Nat.le_of_ble_eq_true rfl)) dX12_logKind_2 ⟨Nat.le_of_ble_eq_true rfl, Nat.le_of_ble_eq_true rfl⟩) hS (fun q _ h => hFc q h) hFc (fun q _ h => hFc q h) (fun E9 ce9 q9 u9 t9 H1 locs ht hvm _ hbx hz1 hk1 hS hce hcv hcl => ?_) (fun u9 t9 H1 locs _ _ hp _ _ _ _ => hp.elim)
  obtain ⟨rfl, hbx⟩ := hbx
  obtain ⟨hP, hD⟩ := wjoin (u := ()) (wr := []) (wf := bRO k o (qs 0) bf pa pn pk sv iz tr tx er fl li ll ac ci ch ++ bSt k qs qc qr ql lim sh sc fr ++ bLog k ql lsh lk lc lx) hP hD [0, 1, 2, 3, 4, 5] [] [0, 1, 2, 3, 4, 5] rfl rfl (by decide) (by decide) hk1 hFc hbx ht rfl rfl (by decide)
  exact vx_out (fun x h9 => (ht9 x h9).elim) hlocks hce hcv hcl (fun t ht2 hvm2 => xEnd hP hK hD hS hvm2 (by rw [ht2]; exact Nat.le_refl _) (fun q _ => by rw [ht2])) hS.2.2 (Nat.le_of_ble_eq_true rfl) (Nat.le_of_ble_eq_true rfl)

set_option maxHeartbeats 4000000 in
set_option maxRecDepth 100000 in
theorem x_X12_lineAt (l9 : Launch) (hl9 : l9.stackTraces = false) (D : va_G) (k : Nat → ClassId) (sz : Nat) (now : Nat) (o bf pa pn pk sv tr tx li ll ac ci ch : Nat) (iz : Bool) (er fl : Int32)  (x : Int32) (hxn : inC ll x = false) : vx_Met l9 yX12_lineAt wsX12_lineAt ({ frames := 6, cells := 1, slots := 6, locals := 82 }) (XPc D k [.ref o, .int x] (bRO k o now bf pa pn pk sv iz tr tx er fl li ll ac ci ch) sz) (XI (va_A (bRO k o now bf pa pn pk sv iz tr tx er fl li ll ac ci ch) sz)) (XC D k "java/lang/IndexOutOfBoundsException" (bRO k o now bf pa pn pk sv iz tr tx er fl li ll ac ci ch) (va_A (bRO k o now bf pa pn pk sv iz tr tx er fl li ll ac ci ch) sz)) 1 6 (va_A (bRO k o now bf pa pn pk sv iz tr tx er fl li ll ac ci ch) sz) := by
  refine xMet (y := yX12_lineAt) (cc := cX12_lineAt) (maxL := 2) (ret := (some .char)) (Qc := XI) (X9 := XC D k "java/lang/IndexOutOfBoundsException" (bRO k o now bf pa pn pk sv iz tr tx er fl li ll ac ci ch)) [.ref o, .int x] (by decide) rfl (Nat.le_of_ble_eq_true rfl) ?_
  intro p9 e9 s9 m9 bl9 me9 c9 ls A H hF hr hlocks ht9 hP hK hN hXN hZ hD hA hS hl
  have hl : lv_has ls 2 [(0, .ref o), (1, .int x)] := hl
  obtain ⟨hx, hb, hml, hown, hts⟩ := id hF
  have k_fieldLink_57 : (Cond.fieldLink RX12 57 "OpinionReactor" "lineLength" "I").before _ s9 = true := hts (.fieldLink RX12 57 "OpinionReactor" "lineLength" "I") (by decide +kernel)
  have kc_RX12 : ∀ w ∈ u_ws RX12 TX12 16, w ∈ wsX12_lineAt := by decide +kernel
  refine lv_iload_n hx hb dX12_lineAt_0 rfl (lv_at hl 1 rfl) ?_
  refine lv_if_lt (tgt := 12) hx hb dX12_lineAt_1 (by decide) (fun c_1 => ?_) (fun c_1 => ?_)
  · skip
    obtain ⟨sa9, hsa9⟩ := hXN.2 (372, "no such index in the line") (by decide)
    exact vx_throwSW (cls := "java/lang/IndexOutOfBoundsException") (text := "no such index in the line") (names := ["java/lang/RuntimeException", "java/lang/Exception"]) hx hb hl9 hown (by decide +kernel) xfit (hts (.classLink RX12 227 "java/lang/IndexOutOfBoundsException") (by decide +kernel)) (hts (.initialized "java/lang/IndexOutOfBoundsException") (by decide +kernel)) hsa9 (vx_hat (fun w h9 => hts w (List.mem_cons_of_mem _ (List.mem_append_left _ (List.mem_append_right _ h9)))) xng_231 (fun w h9 => va_Nw.use (xnL_tables w h9) (hXN.1 w h9))) xot_231 hZ.1 hZ.2 hS (hl.1.trans hml.symm) dX12_lineAt_12 dX12_lineAt_15 dX12_lineAt_16 dX12_lineAt_19 dX12_lineAt_22 (fun x h9 => (ht9 x h9).elim) (Nat.le_of_ble_eq_true rfl) (Nat.le_of_ble_eq_true rfl) (Nat.le_of_ble_eq_true rfl) (Nat.le_of_ble_eq_true rfl) hlocks (fun t hvm hz hq => xEnd hP hK hD hS hvm hz hq) hS.2.2 (Nat.le_of_ble_eq_true rfl) (Nat.le_of_ble_eq_true rfl)
  · skip
    refine lv_iload_n hx hb dX12_lineAt_4 rfl (lv_at hl 1 rfl) ?_
    refine lv_aload_n hx hb dX12_lineAt_5 rfl (lv_at hl 0 rfl) ?_
    refine va_get (D := D) (ci := 12) (v := .int (nI ll)) (C := RX12) (T := TX12) (N := 16) hx hb hts kc_RX12 hown hK hP 0 rfl rfl 12 (by decide) k_fieldLink_57 (fun _ h9 => h9) rfl dX12_lineAt_6 ?_
    refine lv_icmp_lt (tgt := 23) hx hb dX12_lineAt_9 (by decide) (fun c_2 => ?_) (fun c_2 => ?_)
    · skip
      exact absurd ⟨Int32.not_lt.mp (by assumption), Int32.not_le.mpr c_2⟩ (of_decide_eq_false hxn)
    · skip
      obtain ⟨sa9, hsa9⟩ := hXN.2 (372, "no such index in the line") (by decide)
      exact vx_throwSW (cls := "java/lang/IndexOutOfBoundsException") (text := "no such index in the line") (names := ["java/lang/RuntimeException", "java/lang/Exception"]) hx hb hl9 hown (by decide +kernel) xfit (hts (.classLink RX12 227 "java/lang/IndexOutOfBoundsException") (by decide +kernel)) (hts (.initialized "java/lang/IndexOutOfBoundsException") (by decide +kernel)) hsa9 (vx_hat (fun w h9 => hts w (List.mem_cons_of_mem _ (List.mem_append_left _ (List.mem_append_right _ h9)))) xng_231 (fun w h9 => va_Nw.use (xnL_tables w h9) (hXN.1 w h9))) xot_231 hZ.1 hZ.2 hS (hl.1.trans hml.symm) dX12_lineAt_12 dX12_lineAt_15 dX12_lineAt_16 dX12_lineAt_19 dX12_lineAt_22 (fun x h9 => (ht9 x h9).elim) (Nat.le_of_ble_eq_true rfl) (Nat.le_of_ble_eq_true rfl) (Nat.le_of_ble_eq_true rfl) (Nat.le_of_ble_eq_true rfl) hlocks (fun t hvm hz hq => xEnd hP hK hD hS hvm hz hq) hS.2.2 (Nat.le_of_ble_eq_true rfl) (Nat.le_of_ble_eq_true rfl)

set_option maxHeartbeats 4000000 in
set_option maxRecDepth 100000 in
theorem x_X12_errorPosition (l9 : Launch) (hl9 : l9.stackTraces = false) (D : va_G) (k : Nat → ClassId) (sz : Nat) (now : Nat) (o bf pa pn pk sv tr tx li ll ac ci ch : Nat) (iz : Bool) (er fl : Int32)  (he : er = -1) : vx_Met l9 yX12_errorPosition wsX12_errorPosition ({ frames := 6, cells := 1, slots := 6, locals := 82 }) (XPc D k [.ref o] (bRO k o now bf pa pn pk sv iz tr tx er fl li ll ac ci ch) sz) (XI (va_A (bRO k o now bf pa pn pk sv iz tr tx er fl li ll ac ci ch) sz)) (XC D k "java/util/NoSuchElementException" (bRO k o now bf pa pn pk sv iz tr tx er fl li ll ac ci ch) (va_A (bRO k o now bf pa pn pk sv iz tr tx er fl li ll ac ci ch) sz)) 1 6 (va_A (bRO k o now bf pa pn pk sv iz tr tx er fl li ll ac ci ch) sz) := by
  refine xMet (y := yX12_errorPosition) (cc := cX12_errorPosition) (maxL := 1) (ret := (some .int)) (Qc := XI) (X9 := XC D k "java/util/NoSuchElementException" (bRO k o now bf pa pn pk sv iz tr tx er fl li ll ac ci ch)) [.ref o] (by decide) rfl (Nat.le_of_ble_eq_true rfl) ?_
  intro p9 e9 s9 m9 bl9 me9 c9 ls A H hF hr hlocks ht9 hP hK hN hXN hZ hD hA hS hl
  have hl : lv_has ls 1 [(0, .ref o)] := hl
  obtain ⟨hx, hb, hml, hown, hts⟩ := id hF
  have k_fieldLink_47 : (Cond.fieldLink RX12 47 "OpinionReactor" "lastError" "I").before _ s9 = true := hts (.fieldLink RX12 47 "OpinionReactor" "lastError" "I") (by decide +kernel)
  have kc_RX12 : ∀ w ∈ u_ws RX12 TX12 16, w ∈ wsX12_errorPosition := by decide +kernel
  refine lv_aload_n hx hb dX12_errorPosition_0 rfl (lv_at hl 0 rfl) ?_
  refine va_get (D := D) (ci := 12) (v := .int er) (C := RX12) (T := TX12) (N := 16) hx hb hts kc_RX12 hown hK hP 0 rfl rfl 9 (by decide) k_fieldLink_47 (fun _ h9 => h9) rfl dX12_errorPosition_1 ?_
  refine lv_iconst (v := (-1)) hx hb dX12_errorPosition_4 (by decide) ?_
  refine lv_icmp_ne (tgt := 19) hx hb dX12_errorPosition_5 (by decide) (fun c_1 => ?_) (fun c_1 => ?_)
  · skip
    exact absurd he c_1
  · skip
    obtain ⟨sa9, hsa9⟩ := hXN.2 (356, "no error position was set") (by decide)
    exact ns_throwSW (cls := "java/util/NoSuchElementException") (text := "no error position was set") (names := ["java/lang/RuntimeException", "java/lang/Exception"]) hx hb hl9 hown (by decide +kernel) xfit (hts (.classLink RX12 275 "java/util/NoSuchElementException") (by decide +kernel)) (hts (.initialized "java/util/NoSuchElementException") (by decide +kernel)) hsa9 (vx_hat (fun w h9 => hts w (List.mem_cons_of_mem _ (List.mem_append_right _ h9))) xng_279 (fun w h9 => va_Nw.use (xnL_tables w h9) (hXN.1 w h9))) xot_279 hZ.1 hZ.2 hS (hl.1.trans hml.symm) dX12_errorPosition_8 dX12_errorPosition_11 dX12_errorPosition_12 dX12_errorPosition_15 dX12_errorPosition_18 (fun x h9 => (ht9 x h9).elim) (Nat.le_of_ble_eq_true rfl) (Nat.le_of_ble_eq_true rfl) (Nat.le_of_ble_eq_true rfl) (Nat.le_of_ble_eq_true rfl) hlocks (fun t hvm hz hq => xEnd hP hK hD hS hvm hz hq) hS.2.2 (Nat.le_of_ble_eq_true rfl) (Nat.le_of_ble_eq_true rfl)

set_option maxHeartbeats 4000000 in
set_option maxRecDepth 100000 in
theorem x_X12_failedCommand (l9 : Launch) (hl9 : l9.stackTraces = false) (D : va_G) (k : Nat → ClassId) (sz : Nat) (now : Nat) (o bf pa pn pk sv tr tx li ll ac ci ch : Nat) (iz : Bool) (er fl : Int32)  (he : fl = -1) : vx_Met l9 yX12_failedCommand wsX12_failedCommand ({ frames := 6, cells := 1, slots := 6, locals := 82 }) (XPc D k [.ref o] (bRO k o now bf pa pn pk sv iz tr tx er fl li ll ac ci ch) sz) (XI (va_A (bRO k o now bf pa pn pk sv iz tr tx er fl li ll ac ci ch) sz)) (XC D k "java/util/NoSuchElementException" (bRO k o now bf pa pn pk sv iz tr tx er fl li ll ac ci ch) (va_A (bRO k o now bf pa pn pk sv iz tr tx er fl li ll ac ci ch) sz)) 1 6 (va_A (bRO k o now bf pa pn pk sv iz tr tx er fl li ll ac ci ch) sz) := by
  refine xMet (y := yX12_failedCommand) (cc := cX12_failedCommand) (maxL := 1) (ret := (some .int)) (Qc := XI) (X9 := XC D k "java/util/NoSuchElementException" (bRO k o now bf pa pn pk sv iz tr tx er fl li ll ac ci ch)) [.ref o] (by decide) rfl (Nat.le_of_ble_eq_true rfl) ?_
  intro p9 e9 s9 m9 bl9 me9 c9 ls A H hF hr hlocks ht9 hP hK hN hXN hZ hD hA hS hl
  have hl : lv_has ls 1 [(0, .ref o)] := hl
  obtain ⟨hx, hb, hml, hown, hts⟩ := id hF
  have k_fieldLink_50 : (Cond.fieldLink RX12 50 "OpinionReactor" "lastFailed" "I").before _ s9 = true := hts (.fieldLink RX12 50 "OpinionReactor" "lastFailed" "I") (by decide +kernel)
  have kc_RX12 : ∀ w ∈ u_ws RX12 TX12 16, w ∈ wsX12_failedCommand := by decide +kernel
  refine lv_aload_n hx hb dX12_failedCommand_0 rfl (lv_at hl 0 rfl) ?_
  refine va_get (D := D) (ci := 12) (v := .int fl) (C := RX12) (T := TX12) (N := 16) hx hb hts kc_RX12 hown hK hP 0 rfl rfl 10 (by decide) k_fieldLink_50 (fun _ h9 => h9) rfl dX12_failedCommand_1 ?_
  refine lv_iconst (v := (-1)) hx hb dX12_failedCommand_4 (by decide) ?_
  refine lv_icmp_ne (tgt := 19) hx hb dX12_failedCommand_5 (by decide) (fun c_1 => ?_) (fun c_1 => ?_)
  · skip
    exact absurd he c_1
  · skip
    obtain ⟨sa9, hsa9⟩ := hXN.2 (358, "no command has failed") (by decide)
    exact ns_throwSW (cls := "java/util/NoSuchElementException") (text := "no command has failed") (names := ["java/lang/RuntimeException", "java/lang/Exception"]) hx hb hl9 hown (by decide +kernel) xfit (hts (.classLink RX12 275 "java/util/NoSuchElementException") (by decide +kernel)) (hts (.initialized "java/util/NoSuchElementException") (by decide +kernel)) hsa9 (vx_hat (fun w h9 => hts w (List.mem_cons_of_mem _ (List.mem_append_right _ h9))) xng_279 (fun w h9 => va_Nw.use (xnL_tables w h9) (hXN.1 w h9))) xot_279 hZ.1 hZ.2 hS (hl.1.trans hml.symm) dX12_failedCommand_8 dX12_failedCommand_11 dX12_failedCommand_12 dX12_failedCommand_15 dX12_failedCommand_18 (fun x h9 => (ht9 x h9).elim) (Nat.le_of_ble_eq_true rfl) (Nat.le_of_ble_eq_true rfl) (Nat.le_of_ble_eq_true rfl) (Nat.le_of_ble_eq_true rfl) hlocks (fun t hvm hz hq => xEnd hP hK hD hS hvm hz hq) hS.2.2 (Nat.le_of_ble_eq_true rfl) (Nat.le_of_ble_eq_true rfl)

set_option maxHeartbeats 4000000 in
set_option maxRecDepth 100000 in
theorem x_X12_meanWeight (l9 : Launch) (hl9 : l9.stackTraces = false) (D : va_G) (k : Nat → ClassId) (sz : Nat) (o bf pa pn pk sv tr tx li ll ac ci ch : Nat) (iz : Bool) (er fl : Int32) (qs qc qr ql : Nat → Nat) (lim sh sc : Int32) (fr : Nat → UInt32) (n : Nat) (w ly t a : Nat → Int32) (fx : Nat → UInt32) (h0 : n = 0) : vx_Met l9 yX12_meanWeight wsX12_meanWeight ({ frames := 6, cells := 1, slots := 6, locals := 82 }) (XPc D k [.ref o] (bRO k o (qs 0) bf pa pn pk sv iz tr tx er fl li ll ac ci ch ++ bSt k qs qc qr ql lim sh sc fr ++ bClaims k qc n w ly t a fx) sz) (XD (va_A (bRO k o (qs 0) bf pa pn pk sv iz tr tx er fl li ll ac ci ch ++ bSt k qs qc qr ql lim sh sc fr ++ bClaims k qc n w ly t a fx) sz)) (XC D k "java/lang/ArithmeticException" (bRO k o (qs 0) bf pa pn pk sv iz tr tx er fl li ll ac ci ch ++ bSt k qs qc qr ql lim sh sc fr ++ bClaims k qc n w ly t a fx) (va_A (bRO k o (qs 0) bf pa pn pk sv iz tr tx er fl li ll ac ci ch ++ bSt k qs qc qr ql lim sh sc fr ++ bClaims k qc n w ly t a fx) sz)) 1 6 (va_A (bRO k o (qs 0) bf pa pn pk sv iz tr tx er fl li ll ac ci ch ++ bSt k qs qc qr ql lim sh sc fr ++ bClaims k qc n w ly t a fx) sz) := by
  refine xMet (y := yX12_meanWeight) (cc := cX12_meanWeight) (maxL := 2) (ret := (some .double)) (Qc := XD) (X9 := XC D k "java/lang/ArithmeticException" (bRO k o (qs 0) bf pa pn pk sv iz tr tx er fl li ll ac ci ch ++ bSt k qs qc qr ql lim sh sc fr ++ bClaims k qc n w ly t a fx)) [.ref o] (by decide) rfl (Nat.le_of_ble_eq_true rfl) ?_
  intro p9 e9 s9 m9 bl9 me9 c9 ls A H hF hr hlocks ht9 hP hK hN hXN hZ hD hA hS hl
  have hl : lv_has ls 2 [(0, .ref o)] := hl
  obtain ⟨hx, hb, hml, hown, hts⟩ := id hF
  have k_fieldLink_10 : (Cond.fieldLink RX12 10 "OpinionReactor" "now" "LOpinionReactor$State;").before _ s9 = true := hts (.fieldLink RX12 10 "OpinionReactor" "now" "LOpinionReactor$State;") (by decide +kernel)
  have kc_RX12 : ∀ w ∈ u_ws RX12 TX12 16, w ∈ wsX12_meanWeight := by decide +kernel
  have k_fieldLink_85 : (Cond.fieldLink RX12 85 "OpinionReactor$State" "claims" "LOpinionReactor$Claims;").before _ s9 = true := hts (.fieldLink RX12 85 "OpinionReactor$State" "claims" "LOpinionReactor$Claims;") (by decide +kernel)
  have kc_RX11 : ∀ w ∈ u_ws RX11 TX11 7, w ∈ wsX12_meanWeight := by decide +kernel
  have k_fieldLink_106 : (Cond.fieldLink RX12 106 "OpinionReactor$Claims" "count" "I").before _ s9 = true := hts (.fieldLink RX12 106 "OpinionReactor$Claims" "count" "I") (by decide +kernel)
  have kc_RX5 : ∀ w ∈ u_ws RX5 TX5 6, w ∈ wsX12_meanWeight := by decide +kernel
  refine lv_aload_n hx hb dX12_meanWeight_0 rfl (lv_at hl 0 rfl) ?_
  refine va_get (D := D) (ci := 12) (v := .ref (qs 0)) (C := RX12) (T := TX12) (N := 16) hx hb hts kc_RX12 hown hK hP 0 rfl rfl 0 (by decide) k_fieldLink_10 (fun _ h9 => h9) rfl dX12_meanWeight_1 ?_
  refine va_get (D := D) (ci := 11) (v := .ref (qc 0)) (C := RX11) (T := TX11) (N := 7) hx hb hts kc_RX11 hown hK hP 1 rfl rfl 0 (by decide) k_fieldLink_85 (fun _ h9 => h9) rfl dX12_meanWeight_4 ?_
  refine lv_astore_n (lv' := [(1, .ref (qc 0)), (0, .ref o)]) hx hb dX12_meanWeight_7 rfl hl (by decide) rfl (fun ls hl => ?_)
  refine lv_aload_n hx hb dX12_meanWeight_8 rfl (lv_at hl 0 rfl) ?_
  refine va_get (D := D) (ci := 7) (v := .int (nI n)) (C := RX5) (T := TX5) (N := 6) hx hb hts kc_RX5 hown hK hP 3 rfl rfl 0 (by decide) k_fieldLink_106 (fun _ h9 => h9) rfl dX12_meanWeight_9 ?_
  refine lv_if_ne (tgt := 26) hx hb dX12_meanWeight_12 (by decide) (fun c_1 => ?_) (fun c_1 => ?_)
  · skip
    have c_1 : ¬ n = 0 := fun h => c_1 ((nI_eq (a := n) (b := 0) (by omega) (by decide)).mpr h)
    exact absurd h0 c_1
  · skip
    have c_1 : n = 0 := (nI_eq (a := n) (b := 0) (by omega) (by decide)).mp c_1
    obtain ⟨sa9, hsa9⟩ := hXN.2 (376, "no claims") (by decide)
    exact vx_throwSW (cls := "java/lang/ArithmeticException") (text := "no claims") (names := ["java/lang/RuntimeException", "java/lang/Exception"]) hx hb hl9 hown (by decide +kernel) xfit (hts (.classLink RX12 374 "java/lang/ArithmeticException") (by decide +kernel)) (hts (.initialized "java/lang/ArithmeticException") (by decide +kernel)) hsa9 (vx_hat (fun w h9 => hts w (List.mem_cons_of_mem _ (List.mem_append_left _ (List.mem_append_right _ h9)))) xng_378 (fun w h9 => va_Nw.use (xnL_tables w h9) (hXN.1 w h9))) xot_378 hZ.1 hZ.2 hS (hl.1.trans hml.symm) dX12_meanWeight_15 dX12_meanWeight_18 dX12_meanWeight_19 dX12_meanWeight_22 dX12_meanWeight_25 (fun x h9 => (ht9 x h9).elim) (Nat.le_of_ble_eq_true rfl) (Nat.le_of_ble_eq_true rfl) (Nat.le_of_ble_eq_true rfl) (Nat.le_of_ble_eq_true rfl) hlocks (fun t hvm hz hq => xEnd hP hK hD hS hvm hz hq) hS.2.2 (Nat.le_of_ble_eq_true rfl) (Nat.le_of_ble_eq_true rfl)


set_option maxHeartbeats 4000000 in
set_option maxRecDepth 100000 in
theorem x_X12_claimAtRank (l9 : Launch) (hl9 : l9.stackTraces = false) (D : va_G) (k : Nat → ClassId) (sz : Nat) (o bf pa pn pk sv tr tx li ll ac ci ch : Nat) (iz : Bool) (er fl : Int32) (qs qc qr ql : Nat → Nat) (lim sh sc : Int32) (fr : Nat → UInt32) (n : Nat) (w ly t a : Nat → Int32) (fx : Nat → UInt32) (x : Int32) (hn : n ≤ 10) (hno : rkF n fx w x = n) : vx_Met l9 yX12_claimAtRank wsX12_claimAtRank ({ frames := 6, cells := 1, slots := 6, locals := 82 }) (XPc D k [.ref o, .int x] (bRO k o (qs 0) bf pa pn pk sv iz tr tx er fl li ll ac ci ch ++ bSt k qs qc qr ql lim sh sc fr ++ bClaims k qc n w ly t a fx) sz) (XI (va_A (bRO k o (qs 0) bf pa pn pk sv iz tr tx er fl li ll ac ci ch ++ bSt k qs qc qr ql lim sh sc fr ++ bClaims k qc n w ly t a fx) sz)) (XC D k "java/util/NoSuchElementException" (bRO k o (qs 0) bf pa pn pk sv iz tr tx er fl li ll ac ci ch ++ bSt k qs qc qr ql lim sh sc fr ++ bClaims k qc n w ly t a fx) (va_A (bRO k o (qs 0) bf pa pn pk sv iz tr tx er fl li ll ac ci ch ++ bSt k qs qc qr ql lim sh sc fr ++ bClaims k qc n w ly t a fx) sz)) 1 6 (va_A (bRO k o (qs 0) bf pa pn pk sv iz tr tx er fl li ll ac ci ch ++ bSt k qs qc qr ql lim sh sc fr ++ bClaims k qc n w ly t a fx) sz) := by
  refine xMet (y := yX12_claimAtRank) (cc := cX12_claimAtRank) (maxL := 3) (ret := (some .int)) (Qc := XI) (X9 := XC D k "java/util/NoSuchElementException" (bRO k o (qs 0) bf pa pn pk sv iz tr tx er fl li ll ac ci ch ++ bSt k qs qc qr ql lim sh sc fr ++ bClaims k qc n w ly t a fx)) [.ref o, .int x] (by decide) rfl (Nat.le_of_ble_eq_true rfl) ?_
  intro p9 e9 s9 m9 bl9 me9 c9 ls A H hF hr hlocks ht9 hP hK hN hXN hZ hD hA hS hl
  have hl : lv_has ls 3 [(0, .ref o), (1, .int x)] := hl
  obtain ⟨hx, hb, hml, hown, hts⟩ := id hF
  have k_fieldLink_10 : (Cond.fieldLink RX12 10 "OpinionReactor" "now" "LOpinionReactor$State;").before _ s9 = true := hts (.fieldLink RX12 10 "OpinionReactor" "now" "LOpinionReactor$State;") (by decide +kernel)
  have kc_RX12 : ∀ w ∈ u_ws RX12 TX12 16, w ∈ wsX12_claimAtRank := by decide +kernel
  have k_fieldLink_85 : (Cond.fieldLink RX12 85 "OpinionReactor$State" "claims" "LOpinionReactor$Claims;").before _ s9 = true := hts (.fieldLink RX12 85 "OpinionReactor$State" "claims" "LOpinionReactor$Claims;") (by decide +kernel)
  have kc_RX11 : ∀ w ∈ u_ws RX11 TX11 7, w ∈ wsX12_claimAtRank := by decide +kernel
  have k_fieldLink_106 : (Cond.fieldLink RX12 106 "OpinionReactor$Claims" "count" "I").before _ s9 = true := hts (.fieldLink RX12 106 "OpinionReactor$Claims" "count" "I") (by decide +kernel)
  have kc_RX5 : ∀ w ∈ u_ws RX5 TX5 6, w ∈ wsX12_claimAtRank := by decide +kernel
  have loop_2 : ∀ (fuel : Nat) (i : Nat), (i ≤ n) → (∀ c, c < i → decide (nI (cntA fx w c n) = x) = false) → n - i < fuel → ∀ (ls : Array Slot), ∀ (H : Heap) (locs : List Loc), va_P D vwCl (bRO k o (qs 0) bf pa pn pk sv iz tr tx er fl li ll ac ci ch ++ bSt k qs qc qr ql lim sh sc fr ++ bClaims k qc n w ly t a fx) H → va_D A (bRO k o (qs 0) bf pa pn pk sv iz tr tx er fl li ll ac ci ch ++ bSt k qs qc qr ql lim sh sc fr ++ bClaims k qc n w ly t a fx) → va_S A s9.heap H locs → lv_has ls 3 [(0, .ref o), (1, .int x), (2, .int (nI i))] → W p9 l9 e9 ({ frames := 6, cells := 1, slots := 6, locals := 82 }) s9 m9 ([.ref o, .int x] : List Value).toArray bl9 me9 c9 H locs 0 0 (vx_MQ bl9 (XI A) (XC D k "java/util/NoSuchElementException" (bRO k o (qs 0) bf pa pn pk sv iz tr tx er fl li ll ac ci ch ++ bSt k qs qc qr ql lim sh sc fr ++ bClaims k qc n w ly t a fx) A) ([.ref o, .int x] : List Value).toArray s9 1 6 A) (F0 m9 2 ls []) := by
    intro fuel
    induction fuel with
    | zero => intro i hi ha hfuel_2; exact absurd hfuel_2 (Nat.not_lt_zero _)
    | succ fuel ih_2 =>
      intro i hi ha hfuel_2 ls H locs hP hD hS hl
      refine lv_iload_n hx hb dX12_claimAtRank_2 rfl (lv_at hl 2 rfl) ?_
      refine lv_aload_n hx hb dX12_claimAtRank_3 rfl (lv_at hl 0 rfl) ?_
      refine va_get (D := D) (ci := 12) (v := .ref (qs 0)) (C := RX12) (T := TX12) (N := 16) hx hb hts kc_RX12 hown hK hP 0 rfl rfl 0 (by decide) k_fieldLink_10 (fun _ h9 => h9) rfl dX12_claimAtRank_4 ?_
      refine va_get (D := D) (ci := 11) (v := .ref (qc 0)) (C := RX11) (T := TX11) (N := 7) hx hb hts kc_RX11 hown hK hP 1 rfl rfl 0 (by decide) k_fieldLink_85 (fun _ h9 => h9) rfl dX12_claimAtRank_7 ?_
      refine va_get (D := D) (ci := 7) (v := .int (nI n)) (C := RX5) (T := TX5) (N := 6) hx hb hts kc_RX5 hown hK hP 3 rfl rfl 0 (by decide) k_fieldLink_106 (fun _ h9 => h9) rfl dX12_claimAtRank_10 ?_
      refine lv_icmp_ge (tgt := 39) hx hb dX12_claimAtRank_13 (by decide) (fun c_1 => ?_) (fun c_1 => ?_)
      · skip
        have c_1 : n ≤ i := (nI_leI (a := n) (b := i) (by omega) (by omega)).mp c_1
        obtain ⟨sa9, hsa9⟩ := hXN.2 (289, "no such rank") (by decide)
        exact ns_throwSW (cls := "java/util/NoSuchElementException") (text := "no such rank") (names := ["java/lang/RuntimeException", "java/lang/Exception"]) hx hb hl9 hown (by decide +kernel) xfit (hts (.classLink RX12 275 "java/util/NoSuchElementException") (by decide +kernel)) (hts (.initialized "java/util/NoSuchElementException") (by decide +kernel)) hsa9 (vx_hat (fun w h9 => hts w (List.mem_cons_of_mem _ (List.mem_append_left _ (List.mem_append_right _ h9)))) xng_279 (fun w h9 => va_Nw.use (xnL_tables w h9) (hXN.1 w h9))) xot_279 hZ.1 hZ.2 hS (hl.1.trans hml.symm) dX12_claimAtRank_39 dX12_claimAtRank_42 dX12_claimAtRank_43 dX12_claimAtRank_46 dX12_claimAtRank_49 (fun x h9 => (ht9 x h9).elim) (Nat.le_of_ble_eq_true rfl) (Nat.le_of_ble_eq_true rfl) (Nat.le_of_ble_eq_true rfl) (Nat.le_of_ble_eq_true rfl) hlocks (fun t hvm hz hq => xEnd hP hK hD hS hvm hz hq) hS.2.2 (Nat.le_of_ble_eq_true rfl) (Nat.le_of_ble_eq_true rfl)
      · skip
        have c_1 : ¬ n ≤ i := fun h => c_1 ((nI_leI (a := n) (b := i) (by omega) (by omega)).mpr h)
        refine lv_aload_n hx hb dX12_claimAtRank_16 rfl (lv_at hl 0 rfl) ?_
        refine va_get (D := D) (ci := 12) (v := .ref (qs 0)) (C := RX12) (T := TX12) (N := 16) hx hb hts kc_RX12 hown hK hP 0 rfl rfl 0 (by decide) k_fieldLink_10 (fun _ h9 => h9) rfl dX12_claimAtRank_17 ?_
        refine va_get (D := D) (ci := 11) (v := .ref (qc 0)) (C := RX11) (T := TX11) (N := 7) hx hb hts kc_RX11 hown hK hP 1 rfl rfl 0 (by decide) k_fieldLink_85 (fun _ h9 => h9) rfl dX12_claimAtRank_20 ?_
        refine lv_iload_n hx hb dX12_claimAtRank_23 rfl (lv_at hl 2 rfl) ?_
        refine vp_callSi (W.runV (As := [.int (nI i)]) (rest := []) hF (m_X5_countAhead l9 D k qc n w ly t a fx i hn (by omega)) (cwV 1 hts gX12_claimAtRank_X5_countAhead rfl rfl rfl (by decide +kernel) ⟨Nat.le_of_ble_eq_true rfl, Nat.le_of_ble_eq_true rfl⟩) (rPreV hK hN hP [3, 4, 5, 6, 7, 8] rfl 3 7 rfl rfl) rfl rfl hl.1 rfl (lv_room (Nat.le_of_ble_eq_true rfl)) dX12_claimAtRank_24 ⟨Nat.zero_le _, Nat.zero_le _⟩) (fun r_2 hr_2 => ?_)
        subst hr_2
        refine lv_iload_n hx hb dX12_claimAtRank_27 rfl (lv_at hl 1 rfl) ?_
        refine lv_icmp_ne (tgt := 33) hx hb dX12_claimAtRank_28 (by decide) (fun c_3 => ?_) (fun c_3 => ?_)
        · skip
          refine lv_iinc (v := nI (i + 1)) (lv' := [(2, .int (nI (i + 1))), (0, .ref o), (1, .int x)]) hx hb dX12_claimAtRank_33 hl (k := 2) rfl (nI_inc i) (by decide) rfl (fun ls hl => ?_)
          refine lv_goto (tgt := 2) hx hb dX12_claimAtRank_36 (by decide) ?_
          exact ih_2 (i + 1) (by omega) (fun c hc => (Nat.lt_succ_iff_lt_or_eq.mp hc).elim (ha c) (fun e => by rw [e]; exact decide_eq_false (by assumption))) (by omega) ls _ _ hP hD hS (lv_one hl 1 rfl rfl (lv_one hl 2 rfl rfl (lv_one hl 0 rfl rfl (lv_nil hl))))
        · skip
          exact absurd (rkF_at ha c_3 (by omega)) (by omega)
  refine lv_iconst (v := 0) hx hb dX12_claimAtRank_0 (by decide) ?_
  refine lv_istore_n (lv' := [(2, .int 0), (0, .ref o), (1, .int x)]) hx hb dX12_claimAtRank_1 rfl hl (by decide) rfl (fun ls hl => ?_)
  exact loop_2 ((n - 0) + 1) 0 (by omega) (fun c hc => absurd hc (Nat.not_lt_zero c)) (Nat.lt_succ_self _) ls _ _ hP hD hS (lv_one hl 1 rfl rfl (lv_one hl 2 rfl rfl (lv_one hl 0 rfl rfl (lv_nil hl))))

set_option maxHeartbeats 4000000 in
set_option maxRecDepth 100000 in
theorem m_X12_claimAtRank (l9 : Launch) (D : va_G) (k : Nat → ClassId) (o bf pa pn pk sv tr tx li ll ac ci ch : Nat) (iz : Bool) (er fl : Int32) (qs qc qr ql : Nat → Nat) (lim sh sc : Int32) (fr : Nat → UInt32) (n : Nat) (w ly t a : Nat → Int32) (fx : Nat → UInt32) (x : Int32) (hn : n ≤ 10) (hno : rkF n fx w x < n) : Met l9 yX12_claimAtRank wsX12_claimAtRank ({ frames := 2, cells := 0, slots := 0, locals := 45 }) (RPc D k [.ref o, .int x] (bRO k o (qs 0) bf pa pn pk sv iz tr tx er fl li ll ac ci ch ++ bSt k qs qc qr ql lim sh sc fr ++ bClaims k qc n w ly t a fx)) (EI (nI (rkF n fx w x))) 0 0 noA := by
  refine rMet (y := yX12_claimAtRank) (cc := cX12_claimAtRank) (maxL := 3) (ret := (some .int)) [.ref o, .int x] (by decide) rfl (Nat.le_of_ble_eq_true rfl) ?_
  intro p9 e9 s9 m9 bl9 me9 c9 ls hF hr hlocks hP hK hN hl
  have hl : lv_has ls 3 [(0, .ref o), (1, .int x)] := hl
  obtain ⟨hx, hb, hml, hown, hts⟩ := id hF
  have k_fieldLink_10 : (Cond.fieldLink RX12 10 "OpinionReactor" "now" "LOpinionReactor$State;").before _ s9 = true := hts (.fieldLink RX12 10 "OpinionReactor" "now" "LOpinionReactor$State;") (by decide +kernel)
  have kc_RX12 : ∀ w ∈ u_ws RX12 TX12 16, w ∈ wsX12_claimAtRank := by decide +kernel
  have k_fieldLink_85 : (Cond.fieldLink RX12 85 "OpinionReactor$State" "claims" "LOpinionReactor$Claims;").before _ s9 = true := hts (.fieldLink RX12 85 "OpinionReactor$State" "claims" "LOpinionReactor$Claims;") (by decide +kernel)
  have kc_RX11 : ∀ w ∈ u_ws RX11 TX11 7, w ∈ wsX12_claimAtRank := by decide +kernel
  have k_fieldLink_106 : (Cond.fieldLink RX12 106 "OpinionReactor$Claims" "count" "I").before _ s9 = true := hts (.fieldLink RX12 106 "OpinionReactor$Claims" "count" "I") (by decide +kernel)
  have kc_RX5 : ∀ w ∈ u_ws RX5 TX5 6, w ∈ wsX12_claimAtRank := by decide +kernel
  have loop_2 : ∀ (fuel : Nat) (i : Nat), (i ≤ n) → (∀ c, c < i → decide (nI (cntA fx w c n) = x) = false) → n - i < fuel → ∀ (ls : Array Slot), lv_has ls 3 [(0, .ref o), (1, .int x), (2, .int (nI i))] → W p9 l9 e9 ({ frames := 2, cells := 0, slots := 0, locals := 45 }) s9 m9 ([.ref o, .int x] : List Value).toArray bl9 me9 c9 s9.heap [] 0 0 (MQ bl9 (EI (nI (rkF n fx w x))) ([.ref o, .int x] : List Value).toArray s9 0 0 noA) (F0 m9 2 ls []) := by
    intro fuel
    induction fuel with
    | zero => intro i hi ha hfuel_2; exact absurd hfuel_2 (Nat.not_lt_zero _)
    | succ fuel ih_2 =>
      intro i hi ha hfuel_2 ls hl
      refine lv_iload_n hx hb dX12_claimAtRank_2 rfl (lv_at hl 2 rfl) ?_
      refine lv_aload_n hx hb dX12_claimAtRank_3 rfl (lv_at hl 0 rfl) ?_
      refine va_get (D := D) (ci := 12) (v := .ref (qs 0)) (C := RX12) (T := TX12) (N := 16) hx hb hts kc_RX12 hown hK hP 0 rfl rfl 0 (by decide) k_fieldLink_10 (fun _ h9 => h9) rfl dX12_claimAtRank_4 ?_
      refine va_get (D := D) (ci := 11) (v := .ref (qc 0)) (C := RX11) (T := TX11) (N := 7) hx hb hts kc_RX11 hown hK hP 1 rfl rfl 0 (by decide) k_fieldLink_85 (fun _ h9 => h9) rfl dX12_claimAtRank_7 ?_
      refine va_get (D := D) (ci := 7) (v := .int (nI n)) (C := RX5) (T := TX5) (N := 6) hx hb hts kc_RX5 hown hK hP 3 rfl rfl 0 (by decide) k_fieldLink_106 (fun _ h9 => h9) rfl dX12_claimAtRank_10 ?_
      refine lv_icmp_ge (tgt := 39) hx hb dX12_claimAtRank_13 (by decide) (fun c_1 => ?_) (fun c_1 => ?_)
      · skip
        have c_1 : n ≤ i := (nI_leI (a := n) (b := i) (by omega) (by omega)).mp c_1
        exact absurd (rkF_no (fun c9 hc9 => ha c9 (by omega))) (by omega)
      · skip
        have c_1 : ¬ n ≤ i := fun h => c_1 ((nI_leI (a := n) (b := i) (by omega) (by omega)).mpr h)
        refine lv_aload_n hx hb dX12_claimAtRank_16 rfl (lv_at hl 0 rfl) ?_
        refine va_get (D := D) (ci := 12) (v := .ref (qs 0)) (C := RX12) (T := TX12) (N := 16) hx hb hts kc_RX12 hown hK hP 0 rfl rfl 0 (by decide) k_fieldLink_10 (fun _ h9 => h9) rfl dX12_claimAtRank_17 ?_
        refine va_get (D := D) (ci := 11) (v := .ref (qc 0)) (C := RX11) (T := TX11) (N := 7) hx hb hts kc_RX11 hown hK hP 1 rfl rfl 0 (by decide) k_fieldLink_85 (fun _ h9 => h9) rfl dX12_claimAtRank_20 ?_
        refine lv_iload_n hx hb dX12_claimAtRank_23 rfl (lv_at hl 2 rfl) ?_
        refine vp_callSi (W.runV (As := [.int (nI i)]) (rest := []) hF (m_X5_countAhead l9 D k qc n w ly t a fx i hn (by omega)) (cwV 1 hts gX12_claimAtRank_X5_countAhead rfl rfl rfl (by decide +kernel) ⟨Nat.le_of_ble_eq_true rfl, Nat.le_of_ble_eq_true rfl⟩) (rPreV hK hN hP [3, 4, 5, 6, 7, 8] rfl 3 7 rfl rfl) rfl rfl hl.1 rfl (lv_room (Nat.le_of_ble_eq_true rfl)) dX12_claimAtRank_24 ⟨Nat.zero_le _, Nat.zero_le _⟩) (fun r_2 hr_2 => ?_)
        subst hr_2
        refine lv_iload_n hx hb dX12_claimAtRank_27 rfl (lv_at hl 1 rfl) ?_
        refine lv_icmp_ne (tgt := 33) hx hb dX12_claimAtRank_28 (by decide) (fun c_3 => ?_) (fun c_3 => ?_)
        · skip
          refine lv_iinc (v := nI (i + 1)) (lv' := [(2, .int (nI (i + 1))), (0, .ref o), (1, .int x)]) hx hb dX12_claimAtRank_33 hl (k := 2) rfl (nI_inc i) (by decide) rfl (fun ls hl => ?_)
          refine lv_goto (tgt := 2) hx hb dX12_claimAtRank_36 (by decide) ?_
          exact ih_2 (i + 1) (by omega) (fun c hc => (Nat.lt_succ_iff_lt_or_eq.mp hc).elim (ha c) (fun e => by rw [e]; exact decide_eq_false (by assumption))) (by omega) ls (lv_one hl 1 rfl rfl (lv_one hl 2 rfl rfl (lv_one hl 0 rfl rfl (lv_nil hl))))
        · skip
          refine lv_iload_n hx hb dX12_claimAtRank_31 rfl (lv_at hl 2 rfl) ?_
          exact W.iret (v := nI i) hx hb hr (fun t9 ht hW => ⟨_, rfl, (by rw [rkF_at ha (by assumption) (by omega)]), ht⟩) (fun _ h => by cases h) dX12_claimAtRank_32 hlocks
  refine lv_iconst (v := 0) hx hb dX12_claimAtRank_0 (by decide) ?_
  refine lv_istore_n (lv' := [(2, .int 0), (0, .ref o), (1, .int x)]) hx hb dX12_claimAtRank_1 rfl hl (by decide) rfl (fun ls hl => ?_)
  exact loop_2 ((n - 0) + 1) 0 (by omega) (fun c hc => absurd hc (Nat.not_lt_zero c)) (Nat.lt_succ_self _) ls (lv_one hl 1 rfl rfl (lv_one hl 2 rfl rfl (lv_one hl 0 rfl rfl (lv_nil hl))))

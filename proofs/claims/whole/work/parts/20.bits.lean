/-! Bits of floats and doubles, the library's way. -/
theorem Met.ofWF {l : Launch} {y : MethodName} {ws ws' : List Cond} {rm : Room} {Pc : Array Value → State → Prop} {Qc : Array Value → State → Outcome → State → Prop} {mc ms : Nat} {free : Addr → Prop} {cc : ByteArray} {maxL : Nat} {ret : Option FieldType}
    (hy : plainFor y = true) (hw : ws = Cond.code y cc maxL ret :: ws')
    (body : ∀ p e s m args below meth c s₁, BodyLoose p l y (headSpec ws rm) cc maxL ret e s m args below meth c s₁ → c.maxLocals = maxL → Pc args s →
      W p l e (headSpec ws rm).room s m args below meth c s.heap [] 0 0 (MQ below Qc args s mc ms free) (entryFrame m args maxL)) : Met l y ws rm Pc Qc mc ms free := by
  refine MetFree.of_bodySF (code := cc) (maxLocals := maxL) (ret := ret) hy ?_ ?_
  · intro args s m h hn
    obtain ⟨meth, c, h1, h2, h3, h4, h5, h6, -, -⟩ := Cond.code_spec hn (atoms_spec (ws := ws) h _ (by rw [hw]; exact List.mem_cons_self))
    exact ⟨meth, c, h1, h2, h3, h4, h5, h6⟩
  · intro p e s m args below meth c s₁ B hml hP _
    have hh0 : s₁.heap = s.heap := by rw [B.state]; rfl
    obtain ⟨t, a1, o, b1, b2, b3⟩ := body p e s m args below meth c s₁ B hml hP s₁ hh0 (Stand.of_body B)
    exact ⟨t, o, a1, b1, b2, ⟨b3.1, b3.2⟩⟩
/-- a contract that only reads, of a method whose class has rows of its own in the table of natives -/
theorem rMetF {l : Launch} {D : va_G} {k : Nat → ClassId} {ws : va_W} {ws' ws9 : List Cond} {y : MethodName} {rm : Room} {cc : ByteArray} {maxL : Nat} {ret : Option FieldType} {Qc : Array Value → State → Outcome → State → Prop} (av : List Value) (hy : plainFor y = true) (hw : ws9 = Cond.code y cc maxL ret :: ws') (hlen : (lg_sl av).length ≤ maxL)
    (body : ∀ (p : Program) (e : Env) (s : State) (m : MethodId) (below : List Frame) (meth : Method) (c : Code) (ls : Array Slot), CallFix p m c cc maxL s av.toArray ws9 y.cls → meth.sig.returnType = ret → meth.locks = false → va_P D vwCl ws s.heap → va_K D vwCl (tyL k) s → NW s → lv_has ls maxL (lv_args 0 av) → W p l e rm s m av.toArray below meth c s.heap [] 0 0 (MQ below Qc av.toArray s 0 0 noA) (F0 m 0 ls [])) : Met l y ws9 rm (RPc D k av ws) Qc 0 0 noA := by
  refine Met.ofWF (cc := cc) (maxL := maxL) (ret := ret) hy hw ?_
  intro p e s m args below meth c s₁ B hml hv
  obtain ⟨rfl, hP, hK, hN⟩ := hv
  have hts := atoms_spec (ws := ws9) B.pre
  have hown : s.vm.findClass y.cls = some m.cls := findClass_of_methodNamed B.named
  have hl := lv_entry av (n := maxL) hlen
  rw [lg_entry_eq]
  exact body p e s m below meth c _ ⟨B.exec, B.bytes, hml, hown, hts⟩ B.returns B.notSynchronized hP hK hN hl
theorem order_self {d : FP.Core.Datum} (h : d ≠ .nan) : FP.Core.order d d = some .eq := by
  have e : ∀ a : Int, compare a a = .eq := fun a => by
    rw [Int.compare_eq_ite_lt, if_neg (Int.lt_irrefl a), if_neg (Int.lt_irrefl a)]
  cases d with
  | nan => exact absurd rfl h
  | inf s => exact congrArg some (e _)
  | fin s c q => exact congrArg some (e _)
theorem okF_self {x : UInt32} (h : okF x) : FP.fcmp x x = some .eq := order_self (okF_notNaN h)
theorem okD_self {x : UInt64} (h : okD x) : FP.dcmp x x = some .eq := order_self (okD_notNaN h)
theorem th01_1 {n : Nat} (h : ¬ (if n = 0 then (1 : Int32) else 0) = 0) : n = 0 := Classical.byContradiction fun h9 => h (if_neg h9)
theorem th01_0 {n : Nat} (h : (if n = 0 then (1 : Int32) else 0) = 0) : ¬ n = 0 := fun h9 => by
  rw [if_pos h9] at h
  exact absurd h (by decide)

set_option maxHeartbeats 4000000 in
set_option maxRecDepth 100000 in
theorem m_Jxf58ca_isNaN_12338 (l9 : Launch) (D : va_G) (k : Nat → ClassId) (x : UInt32) (hx9 : okF x) : Met l9 yJxf58ca_isNaN_12338 wsJxf58ca_isNaN_12338 ({ frames := 0, cells := 0, slots := 0, locals := 0 }) (RPc D k [.float x] ([])) (EI 0) 0 0 noA := by
  refine rMetF (y := yJxf58ca_isNaN_12338) (cc := cJxf58ca_isNaN_12338) (maxL := 1) (ret := (some .boolean)) [.float x] (by decide +kernel) rfl (Nat.le_of_ble_eq_true rfl) ?_
  intro p9 e9 s9 m9 bl9 me9 c9 ls hF hr hlocks hP hK hN hl
  have hl : lv_has ls 1 [(0, .float x)] := hl
  obtain ⟨hx, hb, hml, hown, hts⟩ := id hF
  refine lv_fload_n hx hb dJxf58ca_isNaN_12338_0 rfl (lv_at hl 0 rfl) ?_
  refine lv_fload_n hx hb dJxf58ca_isNaN_12338_1 rfl (lv_at hl 0 rfl) ?_
  refine lv_fcmp hx hb dJxf58ca_isNaN_12338_2 ?_
  refine lv_if_eq (tgt := 10) hx hb dJxf58ca_isNaN_12338_3 (by decide) (fun c_1 => ?_) (fun c_1 => ?_)
  · skip
    have c_1 : (FP.fcmp x x) = some .eq := (cmv_eq _ _).mp c_1
    refine lv_iconst (v := 0) hx hb dJxf58ca_isNaN_12338_10 (by decide) ?_
    exact W.zret (v := 0) hx hb hr (rfl) (fun t9 ht hW => ⟨_, rfl, (by rfl), ht⟩) (fun _ h => by cases h) dJxf58ca_isNaN_12338_11 hlocks
  · skip
    have c_1 : ¬ (FP.fcmp x x) = some .eq := fun h => c_1 ((cmv_eq _ _).mpr h)
    exact absurd (okF_self hx9) c_1

set_option maxHeartbeats 4000000 in
set_option maxRecDepth 100000 in
theorem m_Jxf58ca_floatToIntBits_5c35a (l9 : Launch) (D : va_G) (k : Nat → ClassId) (x : UInt32) (hx9 : okF x) : Met l9 yJxf58ca_floatToIntBits_5c35a wsJxf58ca_floatToIntBits_5c35a ({ frames := 1, cells := 0, slots := 0, locals := 60 }) (RPc D k [.float x] ([])) (EI x.toInt32) 0 0 noA := by
  refine rMetF (y := yJxf58ca_floatToIntBits_5c35a) (cc := cJxf58ca_floatToIntBits_5c35a) (maxL := 1) (ret := (some .int)) [.float x] (by decide +kernel) rfl (Nat.le_of_ble_eq_true rfl) ?_
  intro p9 e9 s9 m9 bl9 me9 c9 ls hF hr hlocks hP hK hN hl
  have hl : lv_has ls 1 [(0, .float x)] := hl
  obtain ⟨hx, hb, hml, hown, hts⟩ := id hF
  refine lv_fload_n hx hb dJxf58ca_floatToIntBits_5c35a_0 rfl (lv_at hl 0 rfl) ?_
  refine vp_callSi (W.runS (As := [.float x]) (rest := []) hF (m_Jxf58ca_isNaN_12338 l9 D k x hx9) (va_cwS 1 hts gJxf58ca_floatToIntBits_5c35a_Jxf58ca_isNaN_12338 rfl rfl rfl (by decide +kernel) ⟨Nat.le_of_ble_eq_true rfl, Nat.le_of_ble_eq_true rfl⟩) (rPreS hK hN hP [] rfl) rfl rfl hl.1 rfl (lv_room (Nat.le_of_ble_eq_true rfl)) dJxf58ca_floatToIntBits_5c35a_1 ⟨Nat.zero_le _, Nat.zero_le _⟩) (fun r_1 hr_1 => ?_)
  subst hr_1
  refine lv_if_ne (tgt := 12) hx hb dJxf58ca_floatToIntBits_5c35a_4 (by decide) (fun c_2 => ?_) (fun c_2 => ?_)
  · first | exact absurd c_2 (by decide) | exact absurd (by decide) c_2
  · skip
    refine lv_fload_n hx hb dJxf58ca_floatToIntBits_5c35a_7 rfl (lv_at hl 0 rfl) ?_
    refine vn_f2i hx hb (hml.trans hl.1.symm) hown (hts (.methodLink RJxf58ca 74 ⟨"java/lang/Float", "floatToRawIntBits", "(F)I"⟩) (by decide +kernel)) (hts (.native ⟨"java/lang/Float", "floatToRawIntBits", "(F)I"⟩) (by decide +kernel)) (hts (.static ⟨"java/lang/Float", "floatToRawIntBits", "(F)I"⟩) (by decide +kernel)) (hts (.initialized "java/lang/Float") (by decide +kernel)) (Nat.le_of_ble_eq_true rfl) (Nat.le_of_ble_eq_true rfl) dJxf58ca_floatToIntBits_5c35a_8 ?_
    exact W.iret (v := x.toInt32) hx hb hr (fun t9 ht hW => ⟨_, rfl, (by rfl), ht⟩) (fun _ h => by cases h) dJxf58ca_floatToIntBits_5c35a_11 hlocks

set_option maxHeartbeats 4000000 in
set_option maxRecDepth 100000 in
theorem m_Jxe99ae_isNaN_b9ae7 (l9 : Launch) (D : va_G) (k : Nat → ClassId) (x : UInt64) (hx9 : okD x) : Met l9 yJxe99ae_isNaN_b9ae7 wsJxe99ae_isNaN_b9ae7 ({ frames := 0, cells := 0, slots := 0, locals := 0 }) (RPc D k [.double x] ([])) (EI 0) 0 0 noA := by
  refine rMet (y := yJxe99ae_isNaN_b9ae7) (cc := cJxe99ae_isNaN_b9ae7) (maxL := 2) (ret := (some .boolean)) [.double x] (by decide) rfl (Nat.le_of_ble_eq_true rfl) ?_
  intro p9 e9 s9 m9 bl9 me9 c9 ls hF hr hlocks hP hK hN hl
  have hl : lv_has ls 2 [(0, .double x)] := hl
  obtain ⟨hx, hb, hml, hown, hts⟩ := id hF
  refine lv_dload_n hx hb dJxe99ae_isNaN_b9ae7_0 rfl (lv_at hl 0 rfl) ?_
  refine lv_dload_n hx hb dJxe99ae_isNaN_b9ae7_1 rfl (lv_at hl 0 rfl) ?_
  refine lv_dcmp hx hb dJxe99ae_isNaN_b9ae7_2 ?_
  refine lv_if_eq (tgt := 10) hx hb dJxe99ae_isNaN_b9ae7_3 (by decide) (fun c_1 => ?_) (fun c_1 => ?_)
  · skip
    have c_1 : (FP.dcmp x x) = some .eq := (cmv_eq _ _).mp c_1
    refine lv_iconst (v := 0) hx hb dJxe99ae_isNaN_b9ae7_10 (by decide) ?_
    exact W.zret (v := 0) hx hb hr (rfl) (fun t9 ht hW => ⟨_, rfl, (by rfl), ht⟩) (fun _ h => by cases h) dJxe99ae_isNaN_b9ae7_11 hlocks
  · skip
    have c_1 : ¬ (FP.dcmp x x) = some .eq := fun h => c_1 ((cmv_eq _ _).mpr h)
    exact absurd (okD_self hx9) c_1

set_option maxHeartbeats 4000000 in
set_option maxRecDepth 100000 in
theorem m_Jxe99ae_doubleToLongBits_ccdee (l9 : Launch) (D : va_G) (k : Nat → ClassId) (x : UInt64) (hx9 : okD x) : Met l9 yJxe99ae_doubleToLongBits_ccdee wsJxe99ae_doubleToLongBits_ccdee ({ frames := 1, cells := 0, slots := 0, locals := 60 }) (RPc D k [.double x] ([])) (EL x.toInt64) 0 0 noA := by
  refine rMet (y := yJxe99ae_doubleToLongBits_ccdee) (cc := cJxe99ae_doubleToLongBits_ccdee) (maxL := 2) (ret := (some .long)) [.double x] (by decide) rfl (Nat.le_of_ble_eq_true rfl) ?_
  intro p9 e9 s9 m9 bl9 me9 c9 ls hF hr hlocks hP hK hN hl
  have hl : lv_has ls 2 [(0, .double x)] := hl
  obtain ⟨hx, hb, hml, hown, hts⟩ := id hF
  refine lv_dload_n hx hb dJxe99ae_doubleToLongBits_ccdee_0 rfl (lv_at hl 0 rfl) ?_
  refine vp_callSi (W.runS (As := [.double x]) (rest := []) hF (m_Jxe99ae_isNaN_b9ae7 l9 D k x hx9) (va_cwS 1 hts gJxe99ae_doubleToLongBits_ccdee_Jxe99ae_isNaN_b9ae7 rfl rfl rfl (by decide +kernel) ⟨Nat.le_of_ble_eq_true rfl, Nat.le_of_ble_eq_true rfl⟩) (rPreS hK hN hP [] rfl) rfl rfl hl.1 rfl (lv_room (Nat.le_of_ble_eq_true rfl)) dJxe99ae_doubleToLongBits_ccdee_1 ⟨Nat.zero_le _, Nat.zero_le _⟩) (fun r_1 hr_1 => ?_)
  subst hr_1
  refine lv_if_ne (tgt := 12) hx hb dJxe99ae_doubleToLongBits_ccdee_4 (by decide) (fun c_2 => ?_) (fun c_2 => ?_)
  · first | exact absurd c_2 (by decide) | exact absurd (by decide) c_2
  · skip
    refine lv_dload_n hx hb dJxe99ae_doubleToLongBits_ccdee_7 rfl (lv_at hl 0 rfl) ?_
    refine vn_d2l hx hb (hml.trans hl.1.symm) hown (hts (.methodLink RJxe99ae 134 ⟨"java/lang/Double", "doubleToRawLongBits", "(D)J"⟩) (by decide +kernel)) (hts (.native ⟨"java/lang/Double", "doubleToRawLongBits", "(D)J"⟩) (by decide +kernel)) (hts (.static ⟨"java/lang/Double", "doubleToRawLongBits", "(D)J"⟩) (by decide +kernel)) (hts (.initialized "java/lang/Double") (by decide +kernel)) (Nat.le_of_ble_eq_true rfl) (Nat.le_of_ble_eq_true rfl) dJxe99ae_doubleToLongBits_ccdee_8 ?_
    exact W.lret (v := x.toInt64) hx hb hr (fun t9 ht hW => ⟨_, rfl, (by rfl), ht⟩) (fun _ h => by cases h) dJxe99ae_doubleToLongBits_ccdee_11 hlocks

set_option maxHeartbeats 4000000 in
set_option maxRecDepth 100000 in
theorem m_X13_fluxBits (l9 : Launch) (D : va_G) (k : Nat → ClassId) (sz : Nat) (q : Nat → Nat) (th ea fa : Int32) (ch tn he en ln : Nat) (sv wr dg : Bool) (v : Nat → Int32) (fl : Nat → UInt32) (n : Nat) (x : Int32) (hn : n ≤ 10) (hv0 : v 0 = nI n) (hf : ∀ c, c < n → okF (fl c)) : Met l9 yX13_fluxBits wsX13_fluxBits ({ frames := 3, cells := 0, slots := 0, locals := 80 }) (WPc D k [.ref (q 0), .int x] (bMO k q th ea fa ch tn he en ln sv wr dg ++ bI83 k (q 1) v ++ bF10 k (q 6) fl) sz) (WI D k (bMO k q (if inC n x = true then 0 else 1) ea fa ch tn he en ln sv wr dg ++ bI83 k (q 1) v ++ bF10 k (q 6) fl) (if inC n x = true then (fl x.toNatClampNeg).toInt32 else 0) (va_A (bMO k q th ea fa ch tn he en ln sv wr dg ++ bI83 k (q 1) v ++ bF10 k (q 6) fl) sz)) 0 0 (va_A (bMO k q th ea fa ch tn he en ln sv wr dg ++ bI83 k (q 1) v ++ bF10 k (q 6) fl) sz) := by
  refine wMet (y := yX13_fluxBits) (cc := cX13_fluxBits) (maxL := 2) (ret := (some .int)) (Qc := fun A => WI D k (bMO k q (if inC n x = true then 0 else 1) ea fa ch tn he en ln sv wr dg ++ bI83 k (q 1) v ++ bF10 k (q 6) fl) (if inC n x = true then (fl x.toNatClampNeg).toInt32 else 0) A) [.ref (q 0), .int x] (by decide) rfl (Nat.le_of_ble_eq_true rfl) ?_
  intro p9 e9 s9 m9 bl9 me9 c9 ls A H hF hr hlocks hP hK hN hD hA hS hl hin
  have hl : lv_has ls 2 [(0, .ref (q 0)), (1, .int x)] := hl
  obtain ⟨hx, hb, hml, hown, hts⟩ := id hF
  have k_fieldLink_32 : (Cond.fieldLink RX13 32 "OpinionReactorModel" "flux" "[F").before _ s9 = true := hts (.fieldLink RX13 32 "OpinionReactorModel" "flux" "[F") (by decide +kernel)
  have kc_RX13 : ∀ w ∈ u_ws RX13 TX13 29, w ∈ wsX13_fluxBits := by decide +kernel
  refine lv_aload_n hx hb dX13_fluxBits_0 rfl (lv_at hl 0 rfl) ?_
  refine lv_iload_n hx hb dX13_fluxBits_1 rfl (lv_at hl 1 rfl) ?_
  have hFc := va_free (wc := bMO k q th ea fa ch tn he en ln sv wr dg ++ bI83 k (q 1) v) hD hS hA [0, 1] rfl
  refine va_calli (va_runV (As := [.int x]) (rest := []) hF (m_X13_looks l9 D k H.size q th ea fa ch tn he en ln sv wr dg v n x hn hv0) (cwV 1 hts gX13_fluxBits_X13_looks rfl rfl rfl (by decide +kernel) ⟨Nat.le_of_ble_eq_true rfl, Nat.le_of_ble_eq_true rfl⟩) (wPreV hK hN hP hD [0, 1] rfl (by decide) rfl 0 11 rfl rfl) rfl rfl hl.1 rfl (lv_room (Nat.le_of_ble_eq_true rfl)) dX13_fluxBits_2 ⟨Nat.zero_le _, Nat.zero_le _⟩) hS (fun q _ h => hFc q h) hFc (fun r u9 t9 H1 locs ht hvm hw hB hz1 hk1 hS => ?_)
  obtain ⟨hP, hD⟩ := wjoin (wr := bF10 k (q 6) fl) (wf := bMO k q (if inC n x = true then 0 else 1) ea fa ch tn he en ln sv wr dg ++ bI83 k (q 1) v ++ bF10 k (q 6) fl) hP hD [0, 1] [2] [1, 2, 0] rfl rfl (by decide) (by decide) hk1 hFc hB ht rfl rfl (by decide)
  subst hw
  clear hB hk1 hz1 hvm hFc
  clear ht
  clear t9
  generalize H1 = H at hP hS ⊢
  refine lv_if_eq (tgt := 20) hx hb dX13_fluxBits_5 (by decide) (fun c_1 => ?_) (fun c_1 => ?_)
  · skip
    have c_1 : (inC n x) = false := bI_0 c_1
    refine lv_iconst (v := 0) hx hb dX13_fluxBits_20 (by decide) ?_
    exact W.iret (v := 0) hx hb hr (fun t9 ht hW => ⟨⟨_, (), rfl, (by (try simp only []); (repeat (first | rw [if_pos (by first | assumption | exact Eq.trans (b := false) (by assumption) (Eq.symm (by assumption)) | exact Eq.trans (b := true) (by assumption) (Eq.symm (by assumption)) | exact ⟨by assumption, by assumption⟩ | exact Or.inl (by assumption) | exact Or.inr (by assumption) | exact Or.inr (Or.inl (by assumption)) | exact Or.inr (Or.inr (by assumption)) | (simp only [Int32.lt_iff_toInt_lt, Int32.le_iff_toInt_le, i32_0, i32_1, i32_2, i32_3, i32_4, i32_9, i32_10, i32_99, i32_100, i32_1000, i32_9999] at *; omega))] | rw [if_neg (by first | assumption | (rintro (h9 | h9 | h9) <;> contradiction) | (rintro (h9 | h9) <;> contradiction) | (intro h9; exact Bool.noConfusion (Eq.trans (c := false) h9.symm (by assumption))) | (rintro ⟨h8, h9⟩; exact Bool.noConfusion (Eq.trans (c := false) h8.symm (by assumption))) | (rintro ⟨h8, h9⟩; exact Bool.noConfusion (Eq.trans (c := false) h9.symm (by assumption))) | (simp only [Int32.lt_iff_toInt_lt, Int32.le_iff_toInt_le, i32_0, i32_1, i32_2, i32_3, i32_4, i32_9, i32_10, i32_99, i32_100, i32_1000, i32_9999] at *; omega))])); (try rfl)), ⟨by rw [ht]; exact hP, va_K.moved hW.alike hK, hD⟩⟩, hS.F ht⟩) hS.2.2 dX13_fluxBits_21 hlocks
  · skip
    have c_1 : (inC n x) = true := bI_1 c_1
    obtain ⟨j, hj, rfl⟩ := inC_of hn c_1
    have clj : (nI j).toNatClampNeg = j := clN (by omega)
    refine lv_aload_n hx hb dX13_fluxBits_8 rfl (lv_at hl 0 rfl) ?_
    refine va_get (D := D) (ci := 11) (v := .ref (q 6)) (C := RX13) (T := TX13) (N := 29) hx hb hts kc_RX13 hown hK hP 0 rfl rfl 10 (by decide) k_fieldLink_32 (fun _ h9 => h9) rfl dX13_fluxBits_9 ?_
    refine lv_iload_n hx hb dX13_fluxBits_12 rfl (lv_at hl 1 rfl) ?_
    refine fa_ld hx hb hK hP 2 rfl j (by omega) (by decide) dX13_fluxBits_13 ?_
    refine vp_callSi (W.runS (As := [.float (fl j)]) (rest := []) hF (m_Jxf58ca_floatToIntBits_5c35a l9 D k (fl j) (hf j (by omega))) (va_cwS 1 hts gX13_fluxBits_Jxf58ca_floatToIntBits_5c35a rfl rfl rfl (by decide +kernel) ⟨Nat.le_of_ble_eq_true rfl, Nat.le_of_ble_eq_true rfl⟩) (rPreS hK hN hP [] rfl) rfl rfl hl.1 rfl (lv_room (Nat.le_of_ble_eq_true rfl)) dX13_fluxBits_14 ⟨Nat.zero_le _, Nat.zero_le _⟩) (fun r_2 hr_2 => ?_)
    subst hr_2
    refine lv_goto (tgt := 21) hx hb dX13_fluxBits_17 (by decide) ?_
    exact W.iret (v := (fl j).toInt32) hx hb hr (fun t9 ht hW => ⟨⟨_, (), rfl, (by (try simp only [clj]); (repeat (first | rw [if_pos (by first | assumption | exact Eq.trans (b := false) (by assumption) (Eq.symm (by assumption)) | exact Eq.trans (b := true) (by assumption) (Eq.symm (by assumption)) | exact ⟨by assumption, by assumption⟩ | exact Or.inl (by assumption) | exact Or.inr (by assumption) | exact Or.inr (Or.inl (by assumption)) | exact Or.inr (Or.inr (by assumption)) | (simp only [Int32.lt_iff_toInt_lt, Int32.le_iff_toInt_le, i32_0, i32_1, i32_2, i32_3, i32_4, i32_9, i32_10, i32_99, i32_100, i32_1000, i32_9999] at *; omega))] | rw [if_neg (by first | assumption | (rintro (h9 | h9 | h9) <;> contradiction) | (rintro (h9 | h9) <;> contradiction) | (intro h9; exact Bool.noConfusion (Eq.trans (c := false) h9.symm (by assumption))) | (rintro ⟨h8, h9⟩; exact Bool.noConfusion (Eq.trans (c := false) h8.symm (by assumption))) | (rintro ⟨h8, h9⟩; exact Bool.noConfusion (Eq.trans (c := false) h9.symm (by assumption))) | (simp only [Int32.lt_iff_toInt_lt, Int32.le_iff_toInt_le, i32_0, i32_1, i32_2, i32_3, i32_4, i32_9, i32_10, i32_99, i32_100, i32_1000, i32_9999] at *; omega))])); (try rfl)), ⟨by rw [ht]; exact hP, va_K.moved hW.alike hK, hD⟩⟩, hS.F ht⟩) hS.2.2 dX13_fluxBits_21 hlocks

set_option maxHeartbeats 4000000 in
set_option maxRecDepth 100000 in
theorem m_X13_powerBits (l9 : Launch) (D : va_G) (k : Nat → ClassId) (sz : Nat) (q : Nat → Nat) (th ea fa : Int32) (ch tn he en ln : Nat) (sv wr dg : Bool) (v : Nat → Int32) (fl : Nat → UInt32) (n : Nat) (hn : n ≤ 10) (hv0 : v 0 = nI n) (hf : ∀ c, c < n → okF (fl c)) : Met l9 yX13_powerBits wsX13_powerBits ({ frames := 2, cells := 0, slots := 0, locals := 80 }) (WPc D k [.ref (q 0)] (bMO k q th ea fa ch tn he en ln sv wr dg ++ bI83 k (q 1) v ++ bF10 k (q 6) fl) sz) (WI D k (bMO k q 0 ea fa ch tn he en ln sv wr dg ++ bI83 k (q 1) v ++ bF10 k (q 6) fl) ((smF fl n).toInt32) (va_A (bMO k q th ea fa ch tn he en ln sv wr dg ++ bI83 k (q 1) v ++ bF10 k (q 6) fl) sz)) 0 0 (va_A (bMO k q th ea fa ch tn he en ln sv wr dg ++ bI83 k (q 1) v ++ bF10 k (q 6) fl) sz) := by
  refine wMet (y := yX13_powerBits) (cc := cX13_powerBits) (maxL := 1) (ret := (some .int)) (Qc := fun A => WI D k (bMO k q 0 ea fa ch tn he en ln sv wr dg ++ bI83 k (q 1) v ++ bF10 k (q 6) fl) ((smF fl n).toInt32) A) [.ref (q 0)] (by decide) rfl (Nat.le_of_ble_eq_true rfl) ?_
  intro p9 e9 s9 m9 bl9 me9 c9 ls A H hF hr hlocks hP hK hN hD hA hS hl hin
  have hl : lv_has ls 1 [(0, .ref (q 0))] := hl
  obtain ⟨hx, hb, hml, hown, hts⟩ := id hF
  have k_fieldLink_77 : (Cond.fieldLink RX13 77 "OpinionReactorModel" "thrown" "I").before _ s9 = true := hts (.fieldLink RX13 77 "OpinionReactorModel" "thrown" "I") (by decide +kernel)
  have kc_RX13 : ∀ w ∈ u_ws RX13 TX13 29, w ∈ wsX13_powerBits := by decide +kernel
  refine lv_aload_n hx hb dX13_powerBits_0 rfl (lv_at hl 0 rfl) ?_
  refine lv_iconst (v := 0) hx hb dX13_powerBits_1 (by decide) ?_
  refine va_put (D := D) (ci := 11) (v := .int 0) (ty := .int) (C := RX13) (T := TX13) (N := 29) hx hb hts kc_RX13 tyX13 tyX13_ok nmX13 hown hK hP hD hS 0 rfl rfl 0 (by decide) k_fieldLink_77 (fun _ h9 => h9) rfl (by decide +kernel) rfl rfl (Nat.le_of_ble_eq_true rfl) dX13_powerBits_2 (fun H locs hP hD hS => ?_)
  have hP : va_P D vwCl (bMO k q 0 ea fa ch tn he en ln sv wr dg ++ bI83 k (q 1) v ++ bF10 k (q 6) fl) H := hP
  have hD : va_D A (bMO k q 0 ea fa ch tn he en ln sv wr dg ++ bI83 k (q 1) v ++ bF10 k (q 6) fl) := hD
  refine lv_aload_n hx hb dX13_powerBits_5 rfl (lv_at hl 0 rfl) ?_
  refine vp_callSf (W.runV (As := []) (rest := []) hF (m_X13_sum l9 D k q 0 ea fa ch tn he en ln sv wr dg v fl n hn hv0 hf) (cwV 0 hts gX13_powerBits_X13_sum rfl rfl rfl (by decide +kernel) ⟨Nat.le_of_ble_eq_true rfl, Nat.le_of_ble_eq_true rfl⟩) (rPreV hK hN hP [0, 1, 2] rfl 0 11 rfl rfl) rfl rfl hl.1 rfl (lv_room (Nat.le_of_ble_eq_true rfl)) dX13_powerBits_6 ⟨Nat.zero_le _, Nat.zero_le _⟩) (fun r_1 hr_1 => ?_)
  subst hr_1
  refine vp_callSi (W.runS (As := [.float (smF fl n)]) (rest := []) hF (m_Jxf58ca_floatToIntBits_5c35a l9 D k (smF fl n) (okF_sm hf)) (va_cwS 1 hts gX13_powerBits_Jxf58ca_floatToIntBits_5c35a rfl rfl rfl (by decide +kernel) ⟨Nat.le_of_ble_eq_true rfl, Nat.le_of_ble_eq_true rfl⟩) (rPreS hK hN hP [] rfl) rfl rfl hl.1 rfl (lv_room (Nat.le_of_ble_eq_true rfl)) dX13_powerBits_9 ⟨Nat.zero_le _, Nat.zero_le _⟩) (fun r_2 hr_2 => ?_)
  subst hr_2
  exact W.iret (v := (smF fl n).toInt32) hx hb hr (fun t9 ht hW => ⟨⟨_, (), rfl, (by rfl), ⟨by rw [ht]; exact hP, va_K.moved hW.alike hK, hD⟩⟩, hS.F ht⟩) hS.2.2 dX13_powerBits_12 hlocks

set_option maxHeartbeats 4000000 in
set_option maxRecDepth 100000 in
theorem m_X13_meanWeightBits (l9 : Launch) (D : va_G) (k : Nat → ClassId) (sz : Nat) (q : Nat → Nat) (th ea fa : Int32) (ch tn he en ln : Nat) (sv wr dg : Bool) (v : Nat → Int32) (n : Nat) (hn : n ≤ 10) (hv0 : v 0 = nI n) (hw : wtOk n (vw v)) : Met l9 yX13_meanWeightBits wsX13_meanWeightBits ({ frames := 3, cells := 0, slots := 0, locals := 81 }) (WPc D k [.ref (q 0)] (bMO k q th ea fa ch tn he en ln sv wr dg ++ bI83 k (q 1) v) sz) (WL D k (bMO k q (if n = 0 then 1 else 0) ea fa ch tn he en ln sv wr dg ++ bI83 k (q 1) v) (if n = 0 then 0 else (mnM n (vw v)).toInt64) (va_A (bMO k q th ea fa ch tn he en ln sv wr dg ++ bI83 k (q 1) v) sz)) 0 0 (va_A (bMO k q th ea fa ch tn he en ln sv wr dg ++ bI83 k (q 1) v) sz) := by
  refine wMet (y := yX13_meanWeightBits) (cc := cX13_meanWeightBits) (maxL := 3) (ret := (some .long)) (Qc := fun A => WL D k (bMO k q (if n = 0 then 1 else 0) ea fa ch tn he en ln sv wr dg ++ bI83 k (q 1) v) (if n = 0 then 0 else (mnM n (vw v)).toInt64) A) [.ref (q 0)] (by decide) rfl (Nat.le_of_ble_eq_true rfl) ?_
  intro p9 e9 s9 m9 bl9 me9 c9 ls A H hF hr hlocks hP hK hN hD hA hS hl hin
  have hl : lv_has ls 3 [(0, .ref (q 0))] := hl
  obtain ⟨hx, hb, hml, hown, hts⟩ := id hF
  have k_fieldLink_77 : (Cond.fieldLink RX13 77 "OpinionReactorModel" "thrown" "I").before _ s9 = true := hts (.fieldLink RX13 77 "OpinionReactorModel" "thrown" "I") (by decide +kernel)
  have kc_RX13 : ∀ w ∈ u_ws RX13 TX13 29, w ∈ wsX13_meanWeightBits := by decide +kernel
  refine lv_aload_n hx hb dX13_meanWeightBits_0 rfl (lv_at hl 0 rfl) ?_
  have hFc := va_free (wc := bMO k q th ea fa ch tn he en ln sv wr dg ++ bI83 k (q 1) v) hD hS hA [0, 1] rfl
  refine va_calld (va_runV (As := []) (rest := []) hF (m_X13_meanWeight l9 D k H.size q th ea fa ch tn he en ln sv wr dg v n hn hv0 (by omega)) (cwV 0 hts gX13_meanWeightBits_X13_meanWeight rfl rfl rfl (by decide +kernel) ⟨Nat.le_of_ble_eq_true rfl, Nat.le_of_ble_eq_true rfl⟩) (wPreV hK hN hP hD [0, 1] rfl (by decide) rfl 0 11 rfl rfl) rfl rfl hl.1 rfl (lv_room (Nat.le_of_ble_eq_true rfl)) dX13_meanWeightBits_1 ⟨Nat.zero_le _, Nat.zero_le _⟩) hS (fun q _ h => hFc q h) hFc (fun r u9 t9 H1 locs ht hvm hw hB hz1 hk1 hS => ?_)
  obtain ⟨hP, hD⟩ := wjoin (wr := []) (wf := bMO k q (if n = 0 then 1 else 0) ea fa ch tn he en ln sv wr dg ++ bI83 k (q 1) v) hP hD [0, 1] [] [0, 1] rfl rfl (by decide) (by decide) hk1 hFc hB ht rfl rfl (by decide)
  subst hw
  clear hB hk1 hz1 hvm hFc
  clear ht
  clear t9
  generalize H1 = H at hP hS ⊢
  refine lv_dstore_n (lv' := [(1, .double (if n = 0 then FP.dconst0 else mnM n (vw v))), (0, .ref (q 0))]) hx hb dX13_meanWeightBits_4 rfl hl (by decide) rfl (fun ls hl => ?_)
  refine lv_aload_n hx hb dX13_meanWeightBits_5 rfl (lv_at hl 1 rfl) ?_
  refine va_get (D := D) (ci := 11) (v := .int (if n = 0 then 1 else 0)) (C := RX13) (T := TX13) (N := 29) hx hb hts kc_RX13 hown hK hP 0 rfl rfl 0 (by decide) k_fieldLink_77 (fun _ h9 => h9) rfl dX13_meanWeightBits_6 ?_
  refine lv_if_ne (tgt := 19) hx hb dX13_meanWeightBits_9 (by decide) (fun c_1 => ?_) (fun c_1 => ?_)
  · skip
    have c_1 : n = 0 := th01_1 c_1
    refine lv_lconst (v := 0) hx hb dX13_meanWeightBits_19 (by decide) ?_
    exact W.lret (v := 0) hx hb hr (fun t9 ht hW => ⟨⟨_, (), rfl, (by (try simp only []); (repeat (first | rw [if_pos (by first | assumption | exact Eq.trans (b := false) (by assumption) (Eq.symm (by assumption)) | exact Eq.trans (b := true) (by assumption) (Eq.symm (by assumption)) | exact ⟨by assumption, by assumption⟩ | exact Or.inl (by assumption) | exact Or.inr (by assumption) | exact Or.inr (Or.inl (by assumption)) | exact Or.inr (Or.inr (by assumption)) | (simp only [Int32.lt_iff_toInt_lt, Int32.le_iff_toInt_le, i32_0, i32_1, i32_2, i32_3, i32_4, i32_9, i32_10, i32_99, i32_100, i32_1000, i32_9999] at *; omega))] | rw [if_neg (by first | assumption | (rintro (h9 | h9 | h9) <;> contradiction) | (rintro (h9 | h9) <;> contradiction) | (intro h9; exact Bool.noConfusion (Eq.trans (c := false) h9.symm (by assumption))) | (rintro ⟨h8, h9⟩; exact Bool.noConfusion (Eq.trans (c := false) h8.symm (by assumption))) | (rintro ⟨h8, h9⟩; exact Bool.noConfusion (Eq.trans (c := false) h9.symm (by assumption))) | (simp only [Int32.lt_iff_toInt_lt, Int32.le_iff_toInt_le, i32_0, i32_1, i32_2, i32_3, i32_4, i32_9, i32_10, i32_99, i32_100, i32_1000, i32_9999] at *; omega))])); (try rfl)), ⟨by rw [ht]; exact hP, va_K.moved hW.alike hK, hD⟩⟩, hS.F ht⟩) hS.2.2 dX13_meanWeightBits_20 hlocks
  · skip
    have c_1 : ¬ n = 0 := th01_0 c_1
    refine lv_dload_n hx hb dX13_meanWeightBits_12 rfl (lv_at hl 0 rfl) ?_
    refine vp_callSl (W.runS (As := [.double (if n = 0 then FP.dconst0 else mnM n (vw v))]) (rest := []) hF (m_Jxe99ae_doubleToLongBits_ccdee l9 D k (if n = 0 then FP.dconst0 else mnM n (vw v)) (by rw [if_neg (by omega)]; exact okD_mn hw (by omega) hn)) (va_cwS 1 hts gX13_meanWeightBits_Jxe99ae_doubleToLongBits_ccdee rfl rfl rfl (by decide +kernel) ⟨Nat.le_of_ble_eq_true rfl, Nat.le_of_ble_eq_true rfl⟩) (rPreS hK hN hP [] rfl) rfl rfl hl.1 rfl (lv_room (Nat.le_of_ble_eq_true rfl)) dX13_meanWeightBits_13 ⟨Nat.zero_le _, Nat.zero_le _⟩) (fun r_2 hr_2 => ?_)
    subst hr_2
    refine lv_goto (tgt := 20) hx hb dX13_meanWeightBits_16 (by decide) ?_
    exact W.lret (v := (if n = 0 then FP.dconst0 else mnM n (vw v)).toInt64) hx hb hr (fun t9 ht hW => ⟨⟨_, (), rfl, (by (try simp only []); (repeat (first | rw [if_pos (by first | assumption | exact Eq.trans (b := false) (by assumption) (Eq.symm (by assumption)) | exact Eq.trans (b := true) (by assumption) (Eq.symm (by assumption)) | exact ⟨by assumption, by assumption⟩ | exact Or.inl (by assumption) | exact Or.inr (by assumption) | exact Or.inr (Or.inl (by assumption)) | exact Or.inr (Or.inr (by assumption)) | (simp only [Int32.lt_iff_toInt_lt, Int32.le_iff_toInt_le, i32_0, i32_1, i32_2, i32_3, i32_4, i32_9, i32_10, i32_99, i32_100, i32_1000, i32_9999] at *; omega))] | rw [if_neg (by first | assumption | (rintro (h9 | h9 | h9) <;> contradiction) | (rintro (h9 | h9) <;> contradiction) | (intro h9; exact Bool.noConfusion (Eq.trans (c := false) h9.symm (by assumption))) | (rintro ⟨h8, h9⟩; exact Bool.noConfusion (Eq.trans (c := false) h8.symm (by assumption))) | (rintro ⟨h8, h9⟩; exact Bool.noConfusion (Eq.trans (c := false) h9.symm (by assumption))) | (simp only [Int32.lt_iff_toInt_lt, Int32.le_iff_toInt_le, i32_0, i32_1, i32_2, i32_3, i32_4, i32_9, i32_10, i32_99, i32_100, i32_1000, i32_9999] at *; omega))])); (try rfl)), ⟨by rw [ht]; exact hP, va_K.moved hW.alike hK, hD⟩⟩, hS.F ht⟩) hS.2.2 dX13_meanWeightBits_20 hlocks

/-! Constants: the texts of the forms, the forms, the switch's numbers; contracts that read them. -/
def txL : List (List Int32) := [[99, 108, 97, 105, 109, 32, 35], [97, 116, 116, 97, 99, 107, 32, 48, 62, 48], [99, 97, 108, 109, 32, 48, 62, 48], [108, 97, 121, 101, 114, 32, 48, 61, 48], [114, 97, 99, 107, 32, 48, 75], [105, 110, 115, 101, 114, 116, 32, 48, 48, 82], [100, 114, 97, 119, 32, 48, 48], [101, 120, 99, 105, 116, 101, 32, 48, 43, 35], [108, 105, 109, 105, 116, 32, 35], [112, 97, 115, 115, 32, 35], [113, 111, 97], [113, 111]]
def lnL : List Nat := [7, 10, 8, 9, 7, 10, 7, 10, 7, 6, 3, 2]
abbrev lnF (i : Nat) : Nat := lnL.getD i 0
abbrev chS (i j : Nat) : Int32 := (txL.getD i []).getD j 0
def swM (j : Nat) : Nat := if j < 9 then j + 1 else 0
theorem lnF_12 {i : Nat} (h : i < 12) : 2 ≤ lnF i ∧ lnF i ≤ 10 := by
  have : ∀ i : Nat, i < 12 → 2 ≤ lnF i ∧ lnF i ≤ 10 := by decide +kernel
  exact this i h
theorem lnG {i : Nat} (h : i < 12) : lnF i < 2 ^ 31 := by
  have := lnF_12 h
  exact Nat.lt_of_le_of_lt this.2 (by decide)
theorem nI_max {a b : Nat} (ha : a < 2 ^ 31) (hb : b < 2 ^ 31) : (if nI a < nI b then nI b else nI a) = nI (max a b) := by
  by_cases h : a < b
  · rw [if_pos ((nI_ltI ha hb).mpr h), Nat.max_eq_right (Nat.le_of_lt h)]
  · rw [if_neg (fun q => h ((nI_ltI ha hb).mp q)), Nat.max_eq_left (Nat.not_lt.mp h)]
theorem chS_c {i j : Nat} (hi : i < 12) (hj : j < lnF i) : (((chS i j) &&& 255).toUInt32 % 65536).toInt32 = chS i j := by
  have : ∀ i : Nat, i < 12 → ∀ j : Nat, j < 10 → (((chS i j) &&& 255).toUInt32 % 65536).toInt32 = chS i j := by decide +kernel
  exact this i hi j (by have := lnF_12 hi; omega)
theorem chS_n {i j : Nat} (hi : i < 12) (hj : j < lnF i) : vp_nar .char (chS i j) = chS i j := by
  have : ∀ i : Nat, i < 12 → ∀ j : Nat, j < 10 → vp_nar .char (chS i j) = chS i j := by decide +kernel
  exact this i hi j (by have := lnF_12 hi; omega)
theorem lnF_sh {i : Nat} (hi : i < 12) : nI (lnF i) >>> ((0 : Int32) &&& 31) = nI (lnF i) := by
  have : ∀ i : Nat, i < 12 → nI (lnF i) >>> ((0 : Int32) &&& 31) = nI (lnF i) := by decide +kernel
  exact this i hi
theorem b7 {q : Nat} (h : q < 128) : (nI q).toInt8.toInt32 = nI q := by
  have : ∀ q : Nat, q < 128 → (nI q).toInt8.toInt32 = nI q := by decide +kernel
  exact this q h
/-- where a letter stands in a text, -1 if nowhere -/
def ixP (i q j : Nat) : Bool := decide (chS i j = nI q)
def ixS (i q : Nat) : Int32 := if fsN (ixP i q) (lnF i) < lnF i then nI (fsN (ixP i q) (lnF i)) else -1
theorem ixS_at {i q j : Nat} (ha : ∀ c, c < j → ixP i q c = false) (hj : chS i j = nI q) (h : j < lnF i) : ixS i q = nI j := by
  have e : fsN (ixP i q) (lnF i) = j := fsN_some ha (decide_eq_true hj) h
  unfold ixS
  rw [e, if_pos h]
theorem ixS_no {i q : Nat} (ha : ∀ c, c < lnF i → ixP i q c = false) : ixS i q = -1 := by
  unfold ixS
  rw [fsN_none ha, if_neg (Nat.lt_irrefl _)]
def KC (ks kv kf : Nat → Nat) (ka kw : Nat) (A : Nat → Prop) (U : State) (H : Heap) : Prop :=
  vk_S 12 lnL txL ks kv A U H ∧ va_Ef 10 RX7 "pattern" "Ljava/lang/String;" (fun i => .ref (ks i)) kf A U H ∧ va_Ef 10 "java/lang/Enum" "ordinal" "I" (fun i => .int (nI i)) kf A U H ∧ (∀ i : Nat, i < 10 → va_O RX7 (kf i) A U H) ∧
  va_Z RX7 "ALL" "[LOpinionReactor$Form;" (.ref ka) A U H ∧ va_T (.object RX7) ka 10 (fun i => .ref (kf i)) A U H ∧ va_Z "java/lang/String" "COMPACT_STRINGS" "Z" (.int 1) A U H ∧ va_Z "OpinionReactor$1" "$SwitchMap$OpinionReactor$Form" "[I" (.ref kw) A U H ∧ va_T .int kw 10 (fun j => .int (nI (swM j))) A U H ∧
  va_Zq "jdk/internal/util/Preconditions" "SIOOBE_FORMATTER" "Ljava/util/function/BiFunction;" A U H ∧ vk_R RX6 80 "qoa" (ks 10) U ∧ vk_R RX6 86 "qo" (ks 11) U
theorem KC.kept {ks kv kf : Nat → Nat} {ka kw : Nat} {A : Nat → Prop} {U : State} {H H1 : Heap} (h : KC ks kv kf ka kw A U H) (hq : ∀ a : Nat, a < H.size → ¬ A a → H1[a]? = H[a]?) : KC ks kv kf ka kw A U H1 := by
  obtain ⟨a1, a2, a3, a4, a5, a6, a7, a8, a9, a10, a11, a12⟩ := h
  exact ⟨a1.kept hq, a2.kept hq, a3.kept hq, fun i hi => (a4 i hi).kept hq, a5.kept hq, a6.kept hq, a7.kept hq, a8.kept hq, a9.kept hq, a10.kept hq, a11, a12⟩
theorem KC.narrow {ks kv kf : Nat → Nat} {ka kw : Nat} {A B : Nat → Prop} {U : State} {H : Heap} (h : KC ks kv kf ka kw A U H) (hAB : ∀ q, B q → A q) : KC ks kv kf ka kw B U H := by
  obtain ⟨a1, a2, a3, a4, a5, a6, a7, a8, a9, a10, a11, a12⟩ := h
  exact ⟨a1.narrow hAB, a2.narrow hAB, a3.narrow hAB, fun i hi => (a4 i hi).narrow hAB, a5.narrow hAB, a6.narrow hAB, a7.narrow hAB, a8.narrow hAB, a9.narrow hAB, a10.narrow hAB, a11, a12⟩
theorem KC.warm {ks kv kf : Nat → Nat} {ka kw : Nat} {A : Nat → Prop} {u U : State} {H : Heap} (hW : u.WarmedH U.vm) (h : KC ks kv kf ka kw A u H) : KC ks kv kf ka kw A U H := by
  have hvm := hW.alike
  obtain ⟨a1, a2, a3, a4, a5, a6, a7, a8, a9, a10, a11, a12⟩ := h
  exact ⟨a1.moved hvm, a2.moved hvm, a3.moved hvm, fun i hi => (a4 i hi).moved hvm, a5.moved hvm, a6.moved hvm, a7.moved hvm, a8.moved hvm, a9.moved hvm, a10.moved hvm, a11.warm hW, a12.warm hW⟩
theorem KC.same {ks kv kf : Nat → Nat} {ka kw : Nat} {A : Nat → Prop} {u U : State} {H : Heap} (hv : U.vm = u.vm) (h : KC ks kv kf ka kw A u H) : KC ks kv kf ka kw A U H := by
  have hvm : u.vm.Alike U.vm := by rw [hv]; exact Vm.Alike.refl _
  obtain ⟨a1, a2, a3, a4, a5, a6, a7, a8, a9, a10, a11, a12⟩ := h
  exact ⟨a1.moved hvm, a2.moved hvm, a3.moved hvm, fun i hi => (a4 i hi).moved hvm, a5.moved hvm, a6.moved hvm, a7.moved hvm, a8.moved hvm, a9.moved hvm, a10.moved hvm, a11.same hv, a12.same hv⟩
def ZPc (ks kv kf : Nat → Nat) (ka kw : Nat) (D : va_G) (k : Nat → ClassId) (av : List Value) (ws : va_W) (sz : Nat) : Array Value → State → Prop := va_Pc av (fun U => U.heap.size = sz ∧ va_P D vwCl ws U.heap ∧ va_K D vwCl (tyL k) U ∧ NW U ∧ va_D (fun _ => True) ws ∧ KC ks kv kf ka kw (va_A ws sz) U U.heap)
theorem ZPc.blind {ks kv kf : Nat → Nat} {ka kw : Nat} {D : va_G} {k : Nat → ClassId} {av : List Value} {ws : va_W} {sz : Nat} : FrameBlind (ZPc ks kv kf ka kw D k av ws sz) := fun a U g mk q => ⟨q.1, q.2.1, q.2.2.1, va_K.moved (u := U) (U := U.calling g mk a) (Vm.Alike.refl U.vm) q.2.2.2.1, NW.same (u := U) (U := U.calling g mk a) rfl q.2.2.2.2.1, q.2.2.2.2.2.1, KC.same (u := U) (U := U.calling g mk a) rfl q.2.2.2.2.2.2⟩
section ZROWS
variable {p : Program} {l : Launch} {e : Env} {R : Room} {s : State} {m : MethodId} {args : Array Value} {below : List Frame} {meth : Method} {c : Code} {H H0 : Heap} {locs : List Loc} {cells slots : Nat} {Q : State → Prop}
variable {cc : ByteArray} {pc : Nat} {ls : Array Slot} {rest As : List Value} {D : va_G} {k : Nat → ClassId} {A : Nat → Prop} {ws wc : va_W} {b : Addr} {ks kv kf : Nat → Nat} {ka kw : Nat} {C : String}
theorem zPreR (hr : ∃ cell : Cell, H[b]? = some cell ∧ cell.vm.isStatics = false ∧ s.vm.findClass C = some cell.cls) (hK : va_K D vwCl (tyL k) s) (hN : NW s) (hZ : KC ks kv kf ka kw A s s.heap) (hS : va_S A s.heap H locs) (hFc : ∀ q, va_A wc H.size q → A q) (hP : va_P D vwCl ws H) (hD : va_D A ws) (is : List Nat) (hs : is.filterMap (fun i => ws[i]?) = wc) (hnd : va_nd is = true) (hs2 : is.map (fun i => ws[i]?) = wc.map some) : PreV s H C b (ZPc ks kv kf ka kw D k (.ref b :: As) wc H.size) As :=
  ⟨ZPc.blind, hr, fun U hU hW => ⟨rfl, by rw [hU], by rw [hU]; exact hP.sub is hs, va_K.moved hW.alike hK, NW.warm hW hN, (hD.sub is hnd hs2).weaken (fun _ _ _ _ => trivial), by rw [hU]; exact ((hZ.kept hS.2.1).warm hW).narrow hFc⟩⟩
theorem zPreV (hK : va_K D vwCl (tyL k) s) (hN : NW s) (hZ : KC ks kv kf ka kw A s s.heap) (hS : va_S A s.heap H locs) (hFc : ∀ q, va_A wc H.size q → A q) (hP : va_P D vwCl ws H) (hD : va_D A ws) (is : List Nat) (hs : is.filterMap (fun i => ws[i]?) = wc) (hnd : va_nd is = true) (hs2 : is.map (fun i => ws[i]?) = wc.map some) (i0 ci : Nat) {fs : List Value} (he : ws[i0]? = some (b, .inr (ci, fs))) {r : vw_C} (hc : vwCl[ci]? = some r) : PreV s H r.1 b (ZPc ks kv kf ka kw D k (.ref b :: As) wc H.size) As :=
  zPreR (va_recv hK hP hc he) hK hN hZ hS hFc hP hD is hs hnd hs2
theorem zPreS (hK : va_K D vwCl (tyL k) s) (hN : NW s) (hZ : KC ks kv kf ka kw A s s.heap) (hS : va_S A s.heap H locs) (hFc : ∀ q, va_A wc H.size q → A q) (hP : va_P D vwCl ws H) (hD : va_D A ws) (is : List Nat) (hs : is.filterMap (fun i => ws[i]?) = wc) (hnd : va_nd is = true) (hs2 : is.map (fun i => ws[i]?) = wc.map some) : PreS s H (ZPc ks kv kf ka kw D k As wc H.size) As :=
  ⟨ZPc.blind, fun U hU hW => ⟨rfl, by rw [hU], by rw [hU]; exact hP.sub is hs, va_K.moved hW.alike hK, NW.warm hW hN, (hD.sub is hnd hs2).weaken (fun _ _ _ _ => trivial), by rw [hU]; exact ((hZ.kept hS.2.1).warm hW).narrow hFc⟩⟩
theorem zRecS (hZ : KC ks kv kf ka kw A s s.heap) {i : Nat} (hi : i < 12) (hS : va_S A s.heap H locs) : ∃ cell : Cell, H[ks i]? = some cell ∧ cell.vm.isStatics = false ∧ s.vm.findClass "java/lang/String" = some cell.cls := vk_recv hZ.1 hi hS
theorem zRecF (hZ : KC ks kv kf ka kw A s s.heap) {i : Nat} (hi : i < 10) (hS : va_S A s.heap H locs) : ∃ cell : Cell, H[kf i]? = some cell ∧ cell.vm.isStatics = false ∧ s.vm.findClass RX7 = some cell.cls := by
  obtain ⟨cell, h1, h2, h3, -⟩ := (hZ.2.2.2.1 i hi).kept hS.2.1
  exact ⟨cell, h1, h2, h3⟩
theorem nI_vin {j N : Nat} (h : j < N) (hN : N < 2 ^ 31) : vp_in (nI j) N := vp_in_nI h hN
end ZROWS
/-- a contract that writes and reads constants, by the walk of its body -/
theorem zMet {l : Launch} {D : va_G} {k : Nat → ClassId} {ks kv kf : Nat → Nat} {ka kw : Nat} {ws : va_W} {ws' ws9 : List Cond} {y : MethodName} {rm : Room} {cc : ByteArray} {maxL : Nat} {ret : Option FieldType} {Qc : (Nat → Prop) → Array Value → State → Outcome → State → Prop} {mc ms sz : Nat} (av : List Value) (hy : plainName y.cls = true) (hw : ws9 = Cond.code y cc maxL ret :: ws') (hlen : (lg_sl av).length ≤ maxL)
    (body : ∀ (p : Program) (e : Env) (s : State) (m : MethodId) (below : List Frame) (meth : Method) (c : Code) (ls : Array Slot) (A : Nat → Prop) (H : Heap), CallFix p m c cc maxL s av.toArray ws9 y.cls → meth.sig.returnType = ret → meth.locks = false → va_P D vwCl ws H → va_K D vwCl (tyL k) s → NW s → KC ks kv kf ka kw A s s.heap → va_D A ws → (∀ q : Nat, s.heap.size ≤ q → A q) → va_S A s.heap H [] → lv_has ls maxL (lv_args 0 av) → W p l e rm s m av.toArray below meth c H [] 0 0 (MQ below (Qc A) av.toArray s mc ms A) (F0 m 0 ls [])) : Met l y ws9 rm (ZPc ks kv kf ka kw D k av ws sz) (Qc (va_A ws sz)) mc ms (va_A ws sz) := by
  refine Met.ofW (cc := cc) (maxL := maxL) (ret := ret) hy hw ?_
  intro p e s m args below meth c s₁ B hml hv
  obtain ⟨rfl, hsz, hP, hK, hN, hD0, hZ⟩ := hv
  have hts := atoms_spec (ws := ws9) B.pre
  have hown : s.vm.findClass y.cls = some m.cls := findClass_of_methodNamed B.named
  have hl := lv_entry av (n := maxL) hlen
  rw [lg_entry_eq]
  subst hsz
  exact body p e s m below meth c _ _ _ ⟨B.exec, B.bytes, hml, hown, hts⟩ B.returns B.notSynchronized hP hK hN hZ (hD0.self) (fun q h => Or.inr h) va_S.rf hl

set_option maxHeartbeats 4000000 in
set_option maxRecDepth 100000 in
theorem m_J0_coder_7d493 (l9 : Launch) (D : va_G) (k : Nat → ClassId) (ks kv kf : Nat → Nat) (ka kw : Nat) (sz : Nat) (i : Nat) (hi : i < 12) : Met l9 yJ0_coder_7d493 wsJ0_coder_7d493 ({ frames := 0, cells := 0, slots := 0, locals := 0 }) (ZPc ks kv kf ka kw D k [.ref (ks i)] ([]) sz) (WI D k ([]) 0 (va_A ([]) sz)) 0 0 (va_A ([]) sz) := by
  refine zMet (y := yJ0_coder_7d493) (cc := cJ0_coder_7d493) (maxL := 1) (ret := (some .byte)) (Qc := fun A => WI D k ([]) 0 A) [.ref (ks i)] (by decide) rfl (Nat.le_of_ble_eq_true rfl) ?_
  intro p9 e9 s9 m9 bl9 me9 c9 ls A H hF hr hlocks hP hK hN hKC hD hA hS hl
  have hl : lv_has ls 1 [(0, .ref (ks i))] := hl
  obtain ⟨hx, hb, hml, hown, hts⟩ := id hF
  have k_fieldLink_38 : (Cond.fieldLink RJ0 38 "java/lang/String" "COMPACT_STRINGS" "Z").before _ s9 = true := hts (.fieldLink RJ0 38 "java/lang/String" "COMPACT_STRINGS" "Z") (by decide +kernel)
  have k_fieldLink_15 : (Cond.fieldLink RJ0 15 "java/lang/String" "coder" "B").before _ s9 = true := hts (.fieldLink RJ0 15 "java/lang/String" "coder" "B") (by decide +kernel)
  refine va_gets hx hb hKC.2.2.2.2.2.2.1 hS hown k_fieldLink_38 (fun _ h9 => h9) dJ0_coder_7d493_0 ?_
  refine lv_if_eq (tgt := 13) hx hb dJ0_coder_7d493_3 (by decide) (fun c_1 => ?_) (fun c_1 => ?_)
  · first | exact absurd c_1 (by decide) | exact absurd (by decide) c_1
  · skip
    refine lv_aload_n hx hb dJ0_coder_7d493_6 rfl (lv_at hl 0 rfl) ?_
    refine vk_getf hx hb (hKC.1.1 i (by omega)).2.1 hS hown k_fieldLink_15 (fun _ h9 => h9) dJ0_coder_7d493_7 ?_
    refine lv_goto (tgt := 14) hx hb dJ0_coder_7d493_10 (by decide) ?_
    exact W.zret (v := 0) hx hb hr (rfl) (fun t9 ht hW => ⟨⟨_, (), rfl, (by rfl), ⟨by rw [ht]; exact hP, va_K.moved hW.alike hK, hD⟩⟩, hS.F ht⟩) hS.2.2 dJ0_coder_7d493_14 hlocks

set_option maxHeartbeats 4000000 in
set_option maxRecDepth 100000 in
theorem m_J0_isLatin1_aae02 (l9 : Launch) (D : va_G) (k : Nat → ClassId) (ks kv kf : Nat → Nat) (ka kw : Nat) (sz : Nat) (i : Nat) (hi : i < 12) : Met l9 yJ0_isLatin1_aae02 wsJ0_isLatin1_aae02 ({ frames := 0, cells := 0, slots := 0, locals := 0 }) (ZPc ks kv kf ka kw D k [.ref (ks i)] ([]) sz) (WI D k ([]) 1 (va_A ([]) sz)) 0 0 (va_A ([]) sz) := by
  refine zMet (y := yJ0_isLatin1_aae02) (cc := cJ0_isLatin1_aae02) (maxL := 1) (ret := (some .boolean)) (Qc := fun A => WI D k ([]) 1 A) [.ref (ks i)] (by decide) rfl (Nat.le_of_ble_eq_true rfl) ?_
  intro p9 e9 s9 m9 bl9 me9 c9 ls A H hF hr hlocks hP hK hN hKC hD hA hS hl
  have hl : lv_has ls 1 [(0, .ref (ks i))] := hl
  obtain ⟨hx, hb, hml, hown, hts⟩ := id hF
  have k_fieldLink_38 : (Cond.fieldLink RJ0 38 "java/lang/String" "COMPACT_STRINGS" "Z").before _ s9 = true := hts (.fieldLink RJ0 38 "java/lang/String" "COMPACT_STRINGS" "Z") (by decide +kernel)
  have k_fieldLink_15 : (Cond.fieldLink RJ0 15 "java/lang/String" "coder" "B").before _ s9 = true := hts (.fieldLink RJ0 15 "java/lang/String" "coder" "B") (by decide +kernel)
  refine va_gets hx hb hKC.2.2.2.2.2.2.1 hS hown k_fieldLink_38 (fun _ h9 => h9) dJ0_isLatin1_aae02_0 ?_
  refine lv_if_eq (tgt := 17) hx hb dJ0_isLatin1_aae02_3 (by decide) (fun c_1 => ?_) (fun c_1 => ?_)
  · first | exact absurd c_1 (by decide) | exact absurd (by decide) c_1
  · skip
    refine lv_aload_n hx hb dJ0_isLatin1_aae02_6 rfl (lv_at hl 0 rfl) ?_
    refine vk_getf hx hb (hKC.1.1 i (by omega)).2.1 hS hown k_fieldLink_15 (fun _ h9 => h9) dJ0_isLatin1_aae02_7 ?_
    refine lv_if_ne (tgt := 17) hx hb dJ0_isLatin1_aae02_10 (by decide) (fun c_2 => ?_) (fun c_2 => ?_)
    · first | exact absurd c_2 (by decide) | exact absurd (by decide) c_2
    · skip
      refine lv_iconst (v := 1) hx hb dJ0_isLatin1_aae02_13 (by decide) ?_
      refine lv_goto (tgt := 18) hx hb dJ0_isLatin1_aae02_14 (by decide) ?_
      exact W.zret (v := 1) hx hb hr (rfl) (fun t9 ht hW => ⟨⟨_, (), rfl, (by rfl), ⟨by rw [ht]; exact hP, va_K.moved hW.alike hK, hD⟩⟩, hS.F ht⟩) hS.2.2 dJ0_isLatin1_aae02_18 hlocks

set_option maxHeartbeats 4000000 in
set_option maxRecDepth 100000 in
theorem m_J0_length_8abf5 (l9 : Launch) (D : va_G) (k : Nat → ClassId) (ks kv kf : Nat → Nat) (ka kw : Nat) (sz : Nat) (i : Nat) (hi : i < 12) : Met l9 yJ0_length_8abf5 wsJ0_length_8abf5 ({ frames := 1, cells := 0, slots := 0, locals := 20 }) (ZPc ks kv kf ka kw D k [.ref (ks i)] ([]) sz) (WI D k ([]) (nI (lnF i)) (va_A ([]) sz)) 0 0 (va_A ([]) sz) := by
  refine zMet (y := yJ0_length_8abf5) (cc := cJ0_length_8abf5) (maxL := 1) (ret := (some .int)) (Qc := fun A => WI D k ([]) (nI (lnF i)) A) [.ref (ks i)] (by decide) rfl (Nat.le_of_ble_eq_true rfl) ?_
  intro p9 e9 s9 m9 bl9 me9 c9 ls A H hF hr hlocks hP hK hN hKC hD hA hS hl
  have hl : lv_has ls 1 [(0, .ref (ks i))] := hl
  obtain ⟨hx, hb, hml, hown, hts⟩ := id hF
  have k_fieldLink_9 : (Cond.fieldLink RJ0 9 "java/lang/String" "value" "[B").before _ s9 = true := hts (.fieldLink RJ0 9 "java/lang/String" "value" "[B") (by decide +kernel)
  refine lv_aload_n hx hb dJ0_length_8abf5_0 rfl (lv_at hl 0 rfl) ?_
  refine vk_getf hx hb (hKC.1.1 i (by omega)).2.2.1 hS hown k_fieldLink_9 (fun _ h9 => h9) dJ0_length_8abf5_1 ?_
  refine va_tlen (v := nI (lnF i)) hx hb (hKC.1.1 _ (by omega)).2.2.2 hS rfl dJ0_length_8abf5_4 ?_
  refine lv_aload_n hx hb dJ0_length_8abf5_5 rfl (lv_at hl 0 rfl) ?_
  have hq9 := mp_of (ws := []) (wc := []) (is := []) rfl
  have hFc := va_free (wc := []) hD hS hA [] hq9
  refine va_calli (va_runV (As := []) (rest := [.int (nI (lnF i))]) hF (m_J0_coder_7d493 l9 D k ks kv kf ka kw H.size i (by omega)) (cwV 0 hts gJ0_length_8abf5_J0_coder_7d493 rfl rfl rfl (by decide +kernel) ⟨Nat.le_of_ble_eq_true rfl, Nat.le_of_ble_eq_true rfl⟩) (zPreR (zRecS hKC (by omega) hS) hK hN hKC hS hFc hP hD [] (fm_of hq9) (by decide) hq9) rfl rfl hl.1 rfl (lv_room (Nat.le_of_ble_eq_true rfl)) dJ0_length_8abf5_6 ⟨Nat.zero_le _, Nat.zero_le _⟩) hS (fun q _ h => hFc q h) hFc (fun r u9 t9 H1 locs ht hvm hw hB hz1 hk1 hS => ?_)
  obtain ⟨hP, hD⟩ := wjoin9 (wr := []) (wf := []) hP hD [] [] [] hq9 rfl (by decide) (by decide) hk1 hFc hB ht rfl (by decide)
  subst hw
  clear hB hk1 hz1 hvm hFc hq9
  clear ht
  clear t9
  generalize H1 = H at hP hS ⊢
  refine lv_ishr hx hb dJ0_length_8abf5_9 ?_
  exact W.iret (v := (nI (lnF i)) >>> (0 &&& 31)) hx hb hr (fun t9 ht hW => ⟨⟨_, (), rfl, (by exact lnF_sh hi), ⟨by rw [ht]; exact hP, va_K.moved hW.alike hK, hD⟩⟩, hS.F ht⟩) hS.2.2 dJ0_length_8abf5_10 hlocks

set_option maxHeartbeats 4000000 in
set_option maxRecDepth 100000 in
theorem m_J3_checkIndex_n (l9 : Launch) (D : va_G) (k : Nat → ClassId) (sz : Nat) (j N : Nat) (hj : j < N) (hN9 : N ≤ 100) : Met l9 yJ3_checkIndex_8e157 wsJ3_checkIndex_8e157 ({ frames := 0, cells := 0, slots := 0, locals := 0 }) (WPc D k [.int (nI j), .int (nI N), .null] ([]) sz) (WI D k ([]) (nI j) (va_A ([]) sz)) 0 0 (va_A ([]) sz) := by
  refine wMet (y := yJ3_checkIndex_8e157) (cc := cJ3_checkIndex_8e157) (maxL := 3) (ret := (some .int)) (Qc := fun A => WI D k ([]) (nI j) A) [.int (nI j), .int (nI N), .null] (by decide) rfl (Nat.le_of_ble_eq_true rfl) ?_
  intro p9 e9 s9 m9 bl9 me9 c9 ls A H hF hr hlocks hP hK hN hD hA hS hl hin
  have hl : lv_has ls 3 [(0, .int (nI j)), (1, .int (nI N)), (2, .null)] := hl
  obtain ⟨hx, hb, hml, hown, hts⟩ := id hF
  refine lv_iload_n hx hb dJ3_checkIndex_8e157_0 rfl (lv_at hl 0 rfl) ?_
  refine lv_if_lt (tgt := 9) hx hb dJ3_checkIndex_8e157_1 (by decide) (fun c_1 => ?_) (fun c_1 => ?_)
  · skip
    exact absurd c_1 (nI_pos (by omega))
  · skip
    refine lv_iload_n hx hb dJ3_checkIndex_8e157_4 rfl (lv_at hl 0 rfl) ?_
    refine lv_iload_n hx hb dJ3_checkIndex_8e157_5 rfl (lv_at hl 1 rfl) ?_
    refine lv_icmp_lt (tgt := 16) hx hb dJ3_checkIndex_8e157_6 (by decide) (fun c_2 => ?_) (fun c_2 => ?_)
    · skip
      have c_2 : j < N := (nI_ltI (a := j) (b := N) (by omega) (by omega)).mp c_2
      refine lv_iload_n hx hb dJ3_checkIndex_8e157_16 rfl (lv_at hl 0 rfl) ?_
      exact W.iret (v := nI j) hx hb hr (fun t9 ht hW => ⟨⟨_, (), rfl, (by rfl), ⟨by rw [ht]; exact hP, va_K.moved hW.alike hK, hD⟩⟩, hS.F ht⟩) hS.2.2 dJ3_checkIndex_8e157_17 hlocks
    · skip
      have c_2 : ¬ j < N := fun h => c_2 ((nI_ltI (a := j) (b := N) (by omega) (by omega)).mpr h)
      exact absurd hj (by omega)

set_option maxHeartbeats 4000000 in
set_option maxRecDepth 100000 in
theorem m_J3_checkIndex_r (l9 : Launch) (D : va_G) (k : Nat → ClassId) (sz : Nat) (j N : Nat) (a9 : Nat) (hj : j < N) (hN9 : N ≤ 100) : Met l9 yJ3_checkIndex_8e157 wsJ3_checkIndex_8e157 ({ frames := 0, cells := 0, slots := 0, locals := 0 }) (WPc D k [.int (nI j), .int (nI N), .ref a9] ([]) sz) (WI D k ([]) (nI j) (va_A ([]) sz)) 0 0 (va_A ([]) sz) := by
  refine wMet (y := yJ3_checkIndex_8e157) (cc := cJ3_checkIndex_8e157) (maxL := 3) (ret := (some .int)) (Qc := fun A => WI D k ([]) (nI j) A) [.int (nI j), .int (nI N), .ref a9] (by decide) rfl (Nat.le_of_ble_eq_true rfl) ?_
  intro p9 e9 s9 m9 bl9 me9 c9 ls A H hF hr hlocks hP hK hN hD hA hS hl hin
  have hl : lv_has ls 3 [(0, .int (nI j)), (1, .int (nI N)), (2, .ref a9)] := hl
  obtain ⟨hx, hb, hml, hown, hts⟩ := id hF
  refine lv_iload_n hx hb dJ3_checkIndex_8e157_0 rfl (lv_at hl 0 rfl) ?_
  refine lv_if_lt (tgt := 9) hx hb dJ3_checkIndex_8e157_1 (by decide) (fun c_1 => ?_) (fun c_1 => ?_)
  · skip
    exact absurd c_1 (nI_pos (by omega))
  · skip
    refine lv_iload_n hx hb dJ3_checkIndex_8e157_4 rfl (lv_at hl 0 rfl) ?_
    refine lv_iload_n hx hb dJ3_checkIndex_8e157_5 rfl (lv_at hl 1 rfl) ?_
    refine lv_icmp_lt (tgt := 16) hx hb dJ3_checkIndex_8e157_6 (by decide) (fun c_2 => ?_) (fun c_2 => ?_)
    · skip
      have c_2 : j < N := (nI_ltI (a := j) (b := N) (by omega) (by omega)).mp c_2
      refine lv_iload_n hx hb dJ3_checkIndex_8e157_16 rfl (lv_at hl 0 rfl) ?_
      exact W.iret (v := nI j) hx hb hr (fun t9 ht hW => ⟨⟨_, (), rfl, (by rfl), ⟨by rw [ht]; exact hP, va_K.moved hW.alike hK, hD⟩⟩, hS.F ht⟩) hS.2.2 dJ3_checkIndex_8e157_17 hlocks
    · skip
      have c_2 : ¬ j < N := fun h => c_2 ((nI_ltI (a := j) (b := N) (by omega) (by omega)).mpr h)
      exact absurd hj (by omega)

set_option maxHeartbeats 4000000 in
set_option maxRecDepth 100000 in
theorem m_J0_checkIndex_df160 (l9 : Launch) (D : va_G) (k : Nat → ClassId) (ks kv kf : Nat → Nat) (ka kw : Nat) (sz : Nat) (j N : Nat) (hj : j < N) (hN9 : N ≤ 100) : Met l9 yJ0_checkIndex_df160 wsJ0_checkIndex_df160 ({ frames := 1, cells := 0, slots := 0, locals := 22 }) (ZPc ks kv kf ka kw D k [.int (nI j), .int (nI N)] ([]) sz) (WV D k ([]) (va_A ([]) sz)) 0 0 (va_A ([]) sz) := by
  refine zMet (y := yJ0_checkIndex_df160) (cc := cJ0_checkIndex_df160) (maxL := 2) (ret := none) (Qc := fun A => WV D k ([]) A) [.int (nI j), .int (nI N)] (by decide) rfl (Nat.le_of_ble_eq_true rfl) ?_
  intro p9 e9 s9 m9 bl9 me9 c9 ls A H hF hr hlocks hP hK hN hKC hD hA hS hl
  have hl : lv_has ls 2 [(0, .int (nI j)), (1, .int (nI N))] := hl
  obtain ⟨hx, hb, hml, hown, hts⟩ := id hF
  have k_fieldLink_1053 : (Cond.fieldLink RJ0 1053 "jdk/internal/util/Preconditions" "SIOOBE_FORMATTER" "Ljava/util/function/BiFunction;").before _ s9 = true := hts (.fieldLink RJ0 1053 "jdk/internal/util/Preconditions" "SIOOBE_FORMATTER" "Ljava/util/function/BiFunction;") (by decide +kernel)
  refine lv_iload_n hx hb dJ0_checkIndex_df160_0 rfl (lv_at hl 0 rfl) ?_
  refine lv_iload_n hx hb dJ0_checkIndex_df160_1 rfl (lv_at hl 1 rfl) ?_
  rcases hKC.2.2.2.2.2.2.2.2.2.1 with hz9 | ⟨a9, hz9⟩
  · refine va_gets hx hb hz9 hS hown k_fieldLink_1053 (fun _ h9 => h9) dJ0_checkIndex_df160_2 ?_
    have hq9 := mp_of (ws := []) (wc := []) (is := []) rfl
    have hFc := va_free (wc := []) hD hS hA [] hq9
    refine va_calli (va_runS (As := [.int (nI j), .int (nI N), .null]) (rest := []) hF (m_J3_checkIndex_n l9 D k H.size j N hj hN9) (va_cwS 3 hts gJ0_checkIndex_df160_J3_checkIndex_8e157 rfl rfl rfl (by decide +kernel) ⟨Nat.le_of_ble_eq_true rfl, Nat.le_of_ble_eq_true rfl⟩) (wPreS hK hN hP hD [] (fm_of hq9) (by decide) hq9) rfl rfl hl.1 rfl (lv_room (Nat.le_of_ble_eq_true rfl)) dJ0_checkIndex_df160_5 ⟨Nat.zero_le _, Nat.zero_le _⟩) hS (fun q _ h => hFc q h) hFc (fun r u9 t9 H1 locs ht hvm hw hB hz1 hk1 hS => ?_)
    obtain ⟨hP, hD⟩ := wjoin9 (wr := []) (wf := []) hP hD [] [] [] hq9 rfl (by decide) (by decide) hk1 hFc hB ht rfl (by decide)
    subst hw
    clear hB hk1 hz1 hvm hFc hq9
    clear ht
    clear t9
    generalize H1 = H at hP hS ⊢
    refine lv_pop hx hb dJ0_checkIndex_df160_8 rfl ?_
    exact W.vret hx hb hr (fun t9 ht hW => ⟨⟨(), rfl, trivial, ⟨by rw [ht]; exact hP, va_K.moved hW.alike hK, hD⟩⟩, hS.F ht⟩) hS.2.2 dJ0_checkIndex_df160_9 hlocks
  · refine va_gets hx hb hz9 hS hown k_fieldLink_1053 (fun _ h9 => h9) dJ0_checkIndex_df160_2 ?_
    have hq9 := mp_of (ws := []) (wc := []) (is := []) rfl
    have hFc := va_free (wc := []) hD hS hA [] hq9
    refine va_calli (va_runS (As := [.int (nI j), .int (nI N), .ref a9]) (rest := []) hF (m_J3_checkIndex_r l9 D k H.size j N a9 hj hN9) (va_cwS 3 hts gJ0_checkIndex_df160_J3_checkIndex_8e157 rfl rfl rfl (by decide +kernel) ⟨Nat.le_of_ble_eq_true rfl, Nat.le_of_ble_eq_true rfl⟩) (wPreS hK hN hP hD [] (fm_of hq9) (by decide) hq9) rfl rfl hl.1 rfl (lv_room (Nat.le_of_ble_eq_true rfl)) dJ0_checkIndex_df160_5 ⟨Nat.zero_le _, Nat.zero_le _⟩) hS (fun q _ h => hFc q h) hFc (fun r u9 t9 H1 locs ht hvm hw hB hz1 hk1 hS => ?_)
    obtain ⟨hP, hD⟩ := wjoin9 (wr := []) (wf := []) hP hD [] [] [] hq9 rfl (by decide) (by decide) hk1 hFc hB ht rfl (by decide)
    subst hw
    clear hB hk1 hz1 hvm hFc hq9
    clear ht
    clear t9
    generalize H1 = H at hP hS ⊢
    refine lv_pop hx hb dJ0_checkIndex_df160_8 rfl ?_
    exact W.vret hx hb hr (fun t9 ht hW => ⟨⟨(), rfl, trivial, ⟨by rw [ht]; exact hP, va_K.moved hW.alike hK, hD⟩⟩, hS.F ht⟩) hS.2.2 dJ0_checkIndex_df160_9 hlocks

set_option maxHeartbeats 4000000 in
set_option maxRecDepth 100000 in
theorem m_J1_charAt_3b067 (l9 : Launch) (D : va_G) (k : Nat → ClassId) (ks kv kf : Nat → Nat) (ka kw : Nat) (sz : Nat) (i j : Nat) (hi : i < 12) (hj : j < lnF i) : Met l9 yJ1_charAt_3b067 wsJ1_charAt_3b067 ({ frames := 2, cells := 0, slots := 0, locals := 43 }) (ZPc ks kv kf ka kw D k [.ref (kv i), .int (nI j)] ([]) sz) (WI D k ([]) (chS i j) (va_A ([]) sz)) 0 0 (va_A ([]) sz) := by
  refine zMet (y := yJ1_charAt_3b067) (cc := cJ1_charAt_3b067) (maxL := 2) (ret := (some .char)) (Qc := fun A => WI D k ([]) (chS i j) A) [.ref (kv i), .int (nI j)] (by decide) rfl (Nat.le_of_ble_eq_true rfl) ?_
  intro p9 e9 s9 m9 bl9 me9 c9 ls A H hF hr hlocks hP hK hN hKC hD hA hS hl
  have hl : lv_has ls 2 [(0, .ref (kv i)), (1, .int (nI j))] := hl
  obtain ⟨hx, hb, hml, hown, hts⟩ := id hF
  refine lv_iload_n hx hb dJ1_charAt_3b067_0 rfl (lv_at hl 1 rfl) ?_
  refine lv_aload_n hx hb dJ1_charAt_3b067_1 rfl (lv_at hl 0 rfl) ?_
  refine va_tlen (v := nI (lnF i)) hx hb (hKC.1.1 _ (by omega)).2.2.2 hS rfl dJ1_charAt_3b067_2 ?_
  have hq9 := mp_of (ws := []) (wc := []) (is := []) rfl
  have hFc := va_free (wc := []) hD hS hA [] hq9
  refine va_callv (va_runS (As := [.int (nI j), .int (nI (lnF i))]) (rest := []) hF (m_J0_checkIndex_df160 l9 D k ks kv kf ka kw H.size j (lnF i) hj (by have := lnF_12 hi; omega)) (va_cwS 2 hts gJ1_charAt_3b067_J0_checkIndex_df160 rfl rfl rfl (by decide +kernel) ⟨Nat.le_of_ble_eq_true rfl, Nat.le_of_ble_eq_true rfl⟩) (zPreS hK hN hKC hS hFc hP hD [] (fm_of hq9) (by decide) hq9) rfl rfl hl.1 rfl (lv_room (Nat.le_of_ble_eq_true rfl)) dJ1_charAt_3b067_3 ⟨Nat.zero_le _, Nat.zero_le _⟩) hS (fun q _ h => hFc q h) hFc (fun u9 t9 H1 locs ht hvm hw hB hz1 hk1 hS => ?_)
  obtain ⟨hP, hD⟩ := wjoin9 (wr := []) (wf := []) hP hD [] [] [] hq9 rfl (by decide) (by decide) hk1 hFc hB ht rfl (by decide)
  clear hB hk1 hz1 hvm hFc hq9
  clear ht
  clear t9
  generalize H1 = H at hP hS ⊢
  refine lv_aload_n hx hb dJ1_charAt_3b067_6 rfl (lv_at hl 0 rfl) ?_
  refine lv_iload_n hx hb dJ1_charAt_3b067_7 rfl (lv_at hl 1 rfl) ?_
  refine va_tb hx hb (hKC.1.1 _ (by omega)).2.2.2 hS (nI_vin (j := j) hj (lnG (i := i) (by omega))) (by rw [nI_clamp (Nat.lt_trans (show j < lnF i by omega) (lnG (i := i) (by omega)))]) dJ1_charAt_3b067_8 ?_
  refine lv_sipush (v := 255) hx hb dJ1_charAt_3b067_9 (by decide) ?_
  refine lv_iand hx hb dJ1_charAt_3b067_12 ?_
  refine lv_i2c hx hb dJ1_charAt_3b067_13 rfl ?_
  exact W.zret (v := (((chS i j) &&& 255).toUInt32 % 65536).toInt32) hx hb hr ((by rw [chS_c hi hj]; exact congrArg Value.int (chS_n hi hj))) (fun t9 ht hW => ⟨⟨_, (), rfl, (by exact chS_c hi hj), ⟨by rw [ht]; exact hP, va_K.moved hW.alike hK, hD⟩⟩, hS.F ht⟩) hS.2.2 dJ1_charAt_3b067_14 hlocks

set_option maxHeartbeats 4000000 in
set_option maxRecDepth 100000 in
theorem m_J0_charAt_5068e (l9 : Launch) (D : va_G) (k : Nat → ClassId) (ks kv kf : Nat → Nat) (ka kw : Nat) (sz : Nat) (i j : Nat) (hi : i < 12) (hj : j < lnF i) : Met l9 yJ0_charAt_5068e wsJ0_charAt_5068e ({ frames := 3, cells := 0, slots := 0, locals := 64 }) (ZPc ks kv kf ka kw D k [.ref (ks i), .int (nI j)] ([]) sz) (WI D k ([]) (chS i j) (va_A ([]) sz)) 0 0 (va_A ([]) sz) := by
  refine zMet (y := yJ0_charAt_5068e) (cc := cJ0_charAt_5068e) (maxL := 2) (ret := (some .char)) (Qc := fun A => WI D k ([]) (chS i j) A) [.ref (ks i), .int (nI j)] (by decide) rfl (Nat.le_of_ble_eq_true rfl) ?_
  intro p9 e9 s9 m9 bl9 me9 c9 ls A H hF hr hlocks hP hK hN hKC hD hA hS hl
  have hl : lv_has ls 2 [(0, .ref (ks i)), (1, .int (nI j))] := hl
  obtain ⟨hx, hb, hml, hown, hts⟩ := id hF
  have k_fieldLink_9 : (Cond.fieldLink RJ0 9 "java/lang/String" "value" "[B").before _ s9 = true := hts (.fieldLink RJ0 9 "java/lang/String" "value" "[B") (by decide +kernel)
  refine lv_aload_n hx hb dJ0_charAt_5068e_0 rfl (lv_at hl 0 rfl) ?_
  have hq9 := mp_of (ws := []) (wc := []) (is := []) rfl
  have hFc := va_free (wc := []) hD hS hA [] hq9
  refine va_calli (va_runV (As := []) (rest := []) hF (m_J0_isLatin1_aae02 l9 D k ks kv kf ka kw H.size i (by omega)) (cwV 0 hts gJ0_charAt_5068e_J0_isLatin1_aae02 rfl rfl rfl (by decide +kernel) ⟨Nat.le_of_ble_eq_true rfl, Nat.le_of_ble_eq_true rfl⟩) (zPreR (zRecS hKC (by omega) hS) hK hN hKC hS hFc hP hD [] (fm_of hq9) (by decide) hq9) rfl rfl hl.1 rfl (lv_room (Nat.le_of_ble_eq_true rfl)) dJ0_charAt_5068e_1 ⟨Nat.zero_le _, Nat.zero_le _⟩) hS (fun q _ h => hFc q h) hFc (fun r u9 t9 H1 locs ht hvm hw hB hz1 hk1 hS => ?_)
  obtain ⟨hP, hD⟩ := wjoin9 (wr := []) (wf := []) hP hD [] [] [] hq9 rfl (by decide) (by decide) hk1 hFc hB ht rfl (by decide)
  subst hw
  clear hB hk1 hz1 hvm hFc hq9
  clear ht
  clear t9
  generalize H1 = H at hP hS ⊢
  refine lv_if_eq (tgt := 16) hx hb dJ0_charAt_5068e_4 (by decide) (fun c_1 => ?_) (fun c_1 => ?_)
  · first | exact absurd c_1 (by decide) | exact absurd (by decide) c_1
  · skip
    refine lv_aload_n hx hb dJ0_charAt_5068e_7 rfl (lv_at hl 0 rfl) ?_
    refine vk_getf hx hb (hKC.1.1 i (by omega)).2.2.1 hS hown k_fieldLink_9 (fun _ h9 => h9) dJ0_charAt_5068e_8 ?_
    refine lv_iload_n hx hb dJ0_charAt_5068e_11 rfl (lv_at hl 1 rfl) ?_
    have hq9 := mp_of (ws := []) (wc := []) (is := []) rfl
    have hFc := va_free (wc := []) hD hS hA [] hq9
    refine va_calli (va_runS (As := [.ref (kv i), .int (nI j)]) (rest := []) hF (m_J1_charAt_3b067 l9 D k ks kv kf ka kw H.size i j (by omega) (by omega)) (va_cwS 2 hts gJ0_charAt_5068e_J1_charAt_3b067 rfl rfl rfl (by decide +kernel) ⟨Nat.le_of_ble_eq_true rfl, Nat.le_of_ble_eq_true rfl⟩) (zPreS hK hN hKC hS hFc hP hD [] (fm_of hq9) (by decide) hq9) rfl rfl hl.1 rfl (lv_room (Nat.le_of_ble_eq_true rfl)) dJ0_charAt_5068e_12 ⟨Nat.zero_le _, Nat.zero_le _⟩) hS (fun q _ h => hFc q h) hFc (fun r u9 t9 H1 locs ht hvm hw hB hz1 hk1 hS => ?_)
    obtain ⟨hP, hD⟩ := wjoin9 (wr := []) (wf := []) hP hD [] [] [] hq9 rfl (by decide) (by decide) hk1 hFc hB ht rfl (by decide)
    subst hw
    clear hB hk1 hz1 hvm hFc hq9
    clear ht
    clear t9
    generalize H1 = H at hP hS ⊢
    exact W.zret (v := chS i j) hx hb hr ((congrArg Value.int (chS_n hi hj))) (fun t9 ht hW => ⟨⟨_, (), rfl, (by rfl), ⟨by rw [ht]; exact hP, va_K.moved hW.alike hK, hD⟩⟩, hS.F ht⟩) hS.2.2 dJ0_charAt_5068e_15 hlocks

set_option maxHeartbeats 4000000 in
set_option maxRecDepth 100000 in
theorem m_J1_canEncode_9a6ad (l9 : Launch) (D : va_G) (k : Nat → ClassId) (sz : Nat) (q : Nat) (hq : q < 128) : Met l9 yJ1_canEncode_9a6ad wsJ1_canEncode_9a6ad ({ frames := 0, cells := 0, slots := 0, locals := 0 }) (WPc D k [.int (nI q)] ([]) sz) (WI D k ([]) 1 (va_A ([]) sz)) 0 0 (va_A ([]) sz) := by
  refine wMet (y := yJ1_canEncode_9a6ad) (cc := cJ1_canEncode_9a6ad) (maxL := 1) (ret := (some .boolean)) (Qc := fun A => WI D k ([]) 1 A) [.int (nI q)] (by decide) rfl (Nat.le_of_ble_eq_true rfl) ?_
  intro p9 e9 s9 m9 bl9 me9 c9 ls A H hF hr hlocks hP hK hN hD hA hS hl hin
  have hl : lv_has ls 1 [(0, .int (nI q))] := hl
  obtain ⟨hx, hb, hml, hown, hts⟩ := id hF
  refine lv_iload_n hx hb dJ1_canEncode_9a6ad_0 rfl (lv_at hl 0 rfl) ?_
  refine lv_if_lt (tgt := 15) hx hb dJ1_canEncode_9a6ad_1 (by decide) (fun c_1 => ?_) (fun c_1 => ?_)
  · skip
    exact absurd c_1 (nI_pos (by omega))
  · skip
    refine lv_iload_n hx hb dJ1_canEncode_9a6ad_4 rfl (lv_at hl 0 rfl) ?_
    refine lv_sipush (v := 255) hx hb dJ1_canEncode_9a6ad_5 (by decide) ?_
    refine lv_icmp_gt (tgt := 15) hx hb dJ1_canEncode_9a6ad_8 (by decide) (fun c_2 => ?_) (fun c_2 => ?_)
    · skip
      have c_2 : 255 < q := (nI_ltI (a := 255) (b := q) (by omega) (by omega)).mp c_2
      exact absurd hq (by omega)
    · skip
      have c_2 : ¬ 255 < q := fun h => c_2 ((nI_ltI (a := 255) (b := q) (by omega) (by omega)).mpr h)
      refine lv_iconst (v := 1) hx hb dJ1_canEncode_9a6ad_11 (by decide) ?_
      refine lv_goto (tgt := 16) hx hb dJ1_canEncode_9a6ad_12 (by decide) ?_
      exact W.zret (v := 1) hx hb hr (rfl) (fun t9 ht hW => ⟨⟨_, (), rfl, (by rfl), ⟨by rw [ht]; exact hP, va_K.moved hW.alike hK, hD⟩⟩, hS.F ht⟩) hS.2.2 dJ1_canEncode_9a6ad_16 hlocks

set_option maxHeartbeats 4000000 in
set_option maxRecDepth 100000 in
theorem m_J1_indexOfChar_4cfef (l9 : Launch) (D : va_G) (k : Nat → ClassId) (ks kv kf : Nat → Nat) (ka kw : Nat) (sz : Nat) (i q N : Nat) (hi : i < 12) (hq : q < 128) (hN9 : N = lnF i) : Met l9 yJ1_indexOfChar_4cfef wsJ1_indexOfChar_4cfef ({ frames := 0, cells := 0, slots := 0, locals := 0 }) (ZPc ks kv kf ka kw D k [.ref (kv i), .int (nI q), .int 0, .int (nI N)] ([]) sz) (WI D k ([]) (ixS i q) (va_A ([]) sz)) 0 0 (va_A ([]) sz) := by
  have hl12 := lnF_12 hi
  refine zMet (y := yJ1_indexOfChar_4cfef) (cc := cJ1_indexOfChar_4cfef) (maxL := 6) (ret := (some .int)) (Qc := fun A => WI D k ([]) (ixS i q) A) [.ref (kv i), .int (nI q), .int 0, .int (nI N)] (by decide) rfl (Nat.le_of_ble_eq_true rfl) ?_
  intro p9 e9 s9 m9 bl9 me9 c9 ls A H hF hr hlocks hP hK hN hKC hD hA hS hl
  have hl : lv_has ls 6 [(0, .ref (kv i)), (1, .int (nI q)), (2, .int 0), (3, .int (nI N))] := hl
  obtain ⟨hx, hb, hml, hown, hts⟩ := id hF
  have loop_7 : ∀ (fuel : Nat) (j : Nat), (j ≤ N) → (∀ c, c < j → ixP i q c = false) → N - j < fuel → ∀ (ls : Array Slot), ∀ (H : Heap) (locs : List Loc), va_P D vwCl ([]) H → va_D A ([]) → va_S A s9.heap H locs → lv_has ls 6 [(0, .ref (kv i)), (1, .int (nI q)), (2, .int 0), (3, .int (nI N)), (4, .int (nI q)), (5, .int (nI j))] → W p9 l9 e9 ({ frames := 0, cells := 0, slots := 0, locals := 0 }) s9 m9 ([.ref (kv i), .int (nI q), .int 0, .int (nI N)] : List Value).toArray bl9 me9 c9 H locs 0 0 (MQ bl9 (WI D k ([]) (ixS i q) A) ([.ref (kv i), .int (nI q), .int 0, .int (nI N)] : List Value).toArray s9 0 0 A) (F0 m9 7 ls []) := by
    intro fuel
    induction fuel with
    | zero => intro j hj ha hfuel_7; exact absurd hfuel_7 (Nat.not_lt_zero _)
    | succ fuel ih_7 =>
      intro j hj ha hfuel_7 ls H locs hP hD hS hl
      refine lv_iload hx hb dJ1_indexOfChar_4cfef_7 (lv_at hl 5 rfl) ?_
      refine lv_iload_n hx hb dJ1_indexOfChar_4cfef_9 rfl (lv_at hl 3 rfl) ?_
      refine lv_icmp_ge (tgt := 31) hx hb dJ1_indexOfChar_4cfef_10 (by decide) (fun c_1 => ?_) (fun c_1 => ?_)
      · skip
        have c_1 : N ≤ j := (nI_leI (a := N) (b := j) (by omega) (by omega)).mp c_1
        refine lv_iconst (v := (-1)) hx hb dJ1_indexOfChar_4cfef_31 (by decide) ?_
        exact W.iret (v := (-1)) hx hb hr (fun t9 ht hW => ⟨⟨_, (), rfl, (by exact (ixS_no (fun c hc => ha c (by omega))).symm), ⟨by rw [ht]; exact hP, va_K.moved hW.alike hK, hD⟩⟩, hS.F ht⟩) hS.2.2 dJ1_indexOfChar_4cfef_32 hlocks
      · skip
        have c_1 : ¬ N ≤ j := fun h => c_1 ((nI_leI (a := N) (b := j) (by omega) (by omega)).mpr h)
        refine lv_aload_n hx hb dJ1_indexOfChar_4cfef_13 rfl (lv_at hl 0 rfl) ?_
        refine lv_iload hx hb dJ1_indexOfChar_4cfef_14 (lv_at hl 5 rfl) ?_
        refine va_tb hx hb (hKC.1.1 _ (by omega)).2.2.2 hS (nI_vin (j := j) (show j < lnF i by omega) (lnG (i := i) (by omega))) (by rw [nI_clamp (Nat.lt_trans (show j < lnF i by omega) (lnG (i := i) (by omega)))]) dJ1_indexOfChar_4cfef_16 ?_
        refine lv_iload hx hb dJ1_indexOfChar_4cfef_17 (lv_at hl 4 rfl) ?_
        refine lv_icmp_ne (tgt := 25) hx hb dJ1_indexOfChar_4cfef_19 (by decide) (fun c_2 => ?_) (fun c_2 => ?_)
        · skip
          refine lv_iinc (v := nI (j + 1)) (lv' := [(5, .int (nI (j + 1))), (0, .ref (kv i)), (1, .int (nI q)), (2, .int 0), (3, .int (nI N)), (4, .int (nI q))]) hx hb dJ1_indexOfChar_4cfef_25 hl (k := 5) rfl (nI_inc j) (by decide) rfl (fun ls hl => ?_)
          refine lv_goto (tgt := 7) hx hb dJ1_indexOfChar_4cfef_28 (by decide) ?_
          exact ih_7 (j + 1) (by omega) (fun c hc => (Nat.lt_succ_iff_lt_or_eq.mp hc).elim (ha c) (fun e => by rw [e]; exact decide_eq_false (by assumption))) (by omega) ls _ _ hP hD hS (lv_one hl 1 rfl rfl (lv_one hl 2 rfl rfl (lv_one hl 3 rfl rfl (lv_one hl 4 rfl rfl (lv_one hl 5 rfl rfl (lv_one hl 0 rfl rfl (lv_nil hl)))))))
        · skip
          refine lv_iload hx hb dJ1_indexOfChar_4cfef_22 (lv_at hl 5 rfl) ?_
          exact W.iret (v := nI j) hx hb hr (fun t9 ht hW => ⟨⟨_, (), rfl, (by exact (ixS_at ha (by assumption) (by omega)).symm), ⟨by rw [ht]; exact hP, va_K.moved hW.alike hK, hD⟩⟩, hS.F ht⟩) hS.2.2 dJ1_indexOfChar_4cfef_24 hlocks
  refine lv_iload_n hx hb dJ1_indexOfChar_4cfef_0 rfl (lv_at hl 1 rfl) ?_
  refine lv_i2b (v := nI q) hx hb dJ1_indexOfChar_4cfef_1 (b7 hq) ?_
  refine lv_istore (lv' := [(4, .int (nI q)), (0, .ref (kv i)), (1, .int (nI q)), (2, .int 0), (3, .int (nI N))]) hx hb dJ1_indexOfChar_4cfef_2 hl (by decide) rfl (fun ls hl => ?_)
  refine lv_iload_n hx hb dJ1_indexOfChar_4cfef_4 rfl (lv_at hl 3 rfl) ?_
  refine lv_istore (lv' := [(5, .int 0), (4, .int (nI q)), (0, .ref (kv i)), (1, .int (nI q)), (2, .int 0), (3, .int (nI N))]) hx hb dJ1_indexOfChar_4cfef_5 hl (by decide) rfl (fun ls hl => ?_)
  exact loop_7 ((N - 0) + 1) 0 (by omega) (fun c hc => absurd hc (Nat.not_lt_zero c)) (Nat.lt_succ_self _) ls _ _ hP hD hS (lv_one hl 2 rfl rfl (lv_one hl 3 rfl rfl (lv_one hl 4 rfl rfl (lv_one hl 5 rfl rfl (lv_one hl 1 rfl rfl (lv_one hl 0 rfl rfl (lv_nil hl)))))))

set_option maxHeartbeats 4000000 in
set_option maxRecDepth 100000 in
theorem m_J1_indexOf_4cfef (l9 : Launch) (D : va_G) (k : Nat → ClassId) (ks kv kf : Nat → Nat) (ka kw : Nat) (sz : Nat) (i q N : Nat) (hi : i < 12) (hq : q < 128) (hN9 : N = lnF i) : Met l9 yJ1_indexOf_4cfef wsJ1_indexOf_4cfef ({ frames := 1, cells := 0, slots := 0, locals := 25 }) (ZPc ks kv kf ka kw D k [.ref (kv i), .int (nI q), .int 0, .int (nI N)] ([]) sz) (WI D k ([]) (ixS i q) (va_A ([]) sz)) 0 0 (va_A ([]) sz) := by
  have hl12 := lnF_12 hi
  refine zMet (y := yJ1_indexOf_4cfef) (cc := cJ1_indexOf_4cfef) (maxL := 4) (ret := (some .int)) (Qc := fun A => WI D k ([]) (ixS i q) A) [.ref (kv i), .int (nI q), .int 0, .int (nI N)] (by decide) rfl (Nat.le_of_ble_eq_true rfl) ?_
  intro p9 e9 s9 m9 bl9 me9 c9 ls A H hF hr hlocks hP hK hN hKC hD hA hS hl
  have hl : lv_has ls 4 [(0, .ref (kv i)), (1, .int (nI q)), (2, .int 0), (3, .int (nI N))] := hl
  obtain ⟨hx, hb, hml, hown, hts⟩ := id hF
  refine lv_iload_n hx hb dJ1_indexOf_4cfef_0 rfl (lv_at hl 1 rfl) ?_
  have hq9 := mp_of (ws := []) (wc := []) (is := []) rfl
  have hFc := va_free (wc := []) hD hS hA [] hq9
  refine va_calli (va_runS (As := [.int (nI q)]) (rest := []) hF (m_J1_canEncode_9a6ad l9 D k H.size q hq) (va_cwS 1 hts gJ1_indexOf_4cfef_J1_canEncode_9a6ad rfl rfl rfl (by decide +kernel) ⟨Nat.le_of_ble_eq_true rfl, Nat.le_of_ble_eq_true rfl⟩) (wPreS hK hN hP hD [] (fm_of hq9) (by decide) hq9) rfl rfl hl.1 rfl (lv_room (Nat.le_of_ble_eq_true rfl)) dJ1_indexOf_4cfef_1 ⟨Nat.zero_le _, Nat.zero_le _⟩) hS (fun q _ h => hFc q h) hFc (fun r u9 t9 H1 locs ht hvm hw hB hz1 hk1 hS => ?_)
  obtain ⟨hP, hD⟩ := wjoin9 (wr := []) (wf := []) hP hD [] [] [] hq9 rfl (by decide) (by decide) hk1 hFc hB ht rfl (by decide)
  subst hw
  clear hB hk1 hz1 hvm hFc hq9
  clear ht
  clear t9
  generalize H1 = H at hP hS ⊢
  refine lv_if_ne (tgt := 9) hx hb dJ1_indexOf_4cfef_4 (by decide) (fun c_1 => ?_) (fun c_1 => ?_)
  · skip
    refine lv_iload_n hx hb dJ1_indexOf_4cfef_9 rfl (lv_at hl 2 rfl) ?_
    refine lv_iconst (v := 0) hx hb dJ1_indexOf_4cfef_10 (by decide) ?_
    refine va_mmax hx hb (hml.trans hl.1.symm) hown (hts (.methodLink RJ1 92 Lib.Math.max.name) (by decide +kernel)) (hts (.static Lib.Math.max.name) (by decide +kernel)) (hts (.initialized "java/lang/Math") (by decide +kernel)) (hts (.code Lib.Math.max.name Lib.Math.max.code 2 (some .int)) (by decide +kernel)) (Nat.le_of_ble_eq_true rfl) (Nat.le_of_ble_eq_true rfl) (Nat.zero_le _) (Nat.zero_le _) dJ1_indexOf_4cfef_11 ?_
    rw [show (if (0 : Int32) < 0 then 0 else 0 : Int32) = nI (max 0 0) from nI_max (a := 0) (b := 0) (by omega) (by omega)]
    refine lv_tope (show Value.int (nI (max 0 0)) = Value.int 0 from congrArg Value.int (by rfl)) ?_
    refine lv_istore_n (lv' := [(2, .int 0), (0, .ref (kv i)), (1, .int (nI q)), (3, .int (nI N))]) hx hb dJ1_indexOf_4cfef_14 rfl hl (by decide) rfl (fun ls hl => ?_)
    refine lv_iload_n hx hb dJ1_indexOf_4cfef_15 rfl (lv_at hl 3 rfl) ?_
    refine lv_aload_n hx hb dJ1_indexOf_4cfef_16 rfl (lv_at hl 1 rfl) ?_
    refine va_tlen (v := nI (lnF i)) hx hb (hKC.1.1 _ (by omega)).2.2.2 hS rfl dJ1_indexOf_4cfef_17 ?_
    refine va_mmin hx hb (hml.trans hl.1.symm) hown (hts (.methodLink RJ1 38 Lib.Math.min.name) (by decide +kernel)) (hts (.static Lib.Math.min.name) (by decide +kernel)) (hts (.initialized "java/lang/Math") (by decide +kernel)) (hts (.code Lib.Math.min.name Lib.Math.min.code 2 (some .int)) (by decide +kernel)) (Nat.le_of_ble_eq_true rfl) (Nat.le_of_ble_eq_true rfl) (Nat.zero_le _) (Nat.zero_le _) dJ1_indexOf_4cfef_18 ?_
    rw [show (if (nI (lnF i)) < (nI N) then (nI (lnF i)) else (nI N) : Int32) = nI (min N (lnF i)) from nI_min (a := N) (b := lnF i) (by omega) (by omega)]
    refine lv_tope (show Value.int (nI (min N (lnF i))) = Value.int (nI N) from congrArg Value.int (by rw [hN9, Nat.min_self])) ?_
    refine lv_istore_n (lv' := [(3, .int (nI N)), (2, .int 0), (0, .ref (kv i)), (1, .int (nI q))]) hx hb dJ1_indexOf_4cfef_21 rfl hl (by decide) rfl (fun ls hl => ?_)
    refine lv_iload_n hx hb dJ1_indexOf_4cfef_22 rfl (lv_at hl 1 rfl) ?_
    refine lv_iload_n hx hb dJ1_indexOf_4cfef_23 rfl (lv_at hl 0 rfl) ?_
    refine lv_icmp_lt (tgt := 29) hx hb dJ1_indexOf_4cfef_24 (by decide) (fun c_2 => ?_) (fun c_2 => ?_)
    · skip
      have c_2 : 0 < N := (nI_ltI (a := 0) (b := N) (by omega) (by omega)).mp c_2
      refine lv_aload_n hx hb dJ1_indexOf_4cfef_29 rfl (lv_at hl 2 rfl) ?_
      refine lv_iload_n hx hb dJ1_indexOf_4cfef_30 rfl (lv_at hl 3 rfl) ?_
      refine lv_iload_n hx hb dJ1_indexOf_4cfef_31 rfl (lv_at hl 1 rfl) ?_
      refine lv_iload_n hx hb dJ1_indexOf_4cfef_32 rfl (lv_at hl 0 rfl) ?_
      have hq9 := mp_of (ws := []) (wc := []) (is := []) rfl
      have hFc := va_free (wc := []) hD hS hA [] hq9
      refine va_calli (va_runS (As := [.ref (kv i), .int (nI q), .int 0, .int (nI N)]) (rest := []) hF (m_J1_indexOfChar_4cfef l9 D k ks kv kf ka kw H.size i q N hi hq hN9) (va_cwS 4 hts gJ1_indexOf_4cfef_J1_indexOfChar_4cfef rfl rfl rfl (by decide +kernel) ⟨Nat.le_of_ble_eq_true rfl, Nat.le_of_ble_eq_true rfl⟩) (zPreS hK hN hKC hS hFc hP hD [] (fm_of hq9) (by decide) hq9) rfl rfl hl.1 rfl (lv_room (Nat.le_of_ble_eq_true rfl)) dJ1_indexOf_4cfef_33 ⟨Nat.zero_le _, Nat.zero_le _⟩) hS (fun q _ h => hFc q h) hFc (fun r u9 t9 H1 locs ht hvm hw hB hz1 hk1 hS => ?_)
      obtain ⟨hP, hD⟩ := wjoin9 (wr := []) (wf := []) hP hD [] [] [] hq9 rfl (by decide) (by decide) hk1 hFc hB ht rfl (by decide)
      subst hw
      clear hB hk1 hz1 hvm hFc hq9
      clear ht
      clear t9
      generalize H1 = H at hP hS ⊢
      exact W.iret (v := ixS i q) hx hb hr (fun t9 ht hW => ⟨⟨_, (), rfl, (by rfl), ⟨by rw [ht]; exact hP, va_K.moved hW.alike hK, hD⟩⟩, hS.F ht⟩) hS.2.2 dJ1_indexOf_4cfef_36 hlocks
    · skip
      have c_2 : ¬ 0 < N := fun h => c_2 ((nI_ltI (a := 0) (b := N) (by omega) (by omega)).mpr h)
      omega
  · first | exact absurd c_1 (by decide) | exact absurd (by decide) c_1

set_option maxHeartbeats 4000000 in
set_option maxRecDepth 100000 in
theorem m_J0_indexOf_7cf53 (l9 : Launch) (D : va_G) (k : Nat → ClassId) (ks kv kf : Nat → Nat) (ka kw : Nat) (sz : Nat) (i q : Nat) (hi : i < 12) (hq : q < 128) : Met l9 yJ0_indexOf_7cf53 wsJ0_indexOf_7cf53 ({ frames := 2, cells := 0, slots := 0, locals := 48 }) (ZPc ks kv kf ka kw D k [.ref (ks i), .int (nI q), .int 0] ([]) sz) (WI D k ([]) (ixS i q) (va_A ([]) sz)) 0 0 (va_A ([]) sz) := by
  refine zMet (y := yJ0_indexOf_7cf53) (cc := cJ0_indexOf_7cf53) (maxL := 3) (ret := (some .int)) (Qc := fun A => WI D k ([]) (ixS i q) A) [.ref (ks i), .int (nI q), .int 0] (by decide) rfl (Nat.le_of_ble_eq_true rfl) ?_
  intro p9 e9 s9 m9 bl9 me9 c9 ls A H hF hr hlocks hP hK hN hKC hD hA hS hl
  have hl : lv_has ls 3 [(0, .ref (ks i)), (1, .int (nI q)), (2, .int 0)] := hl
  obtain ⟨hx, hb, hml, hown, hts⟩ := id hF
  have k_fieldLink_9 : (Cond.fieldLink RJ0 9 "java/lang/String" "value" "[B").before _ s9 = true := hts (.fieldLink RJ0 9 "java/lang/String" "value" "[B") (by decide +kernel)
  refine lv_aload_n hx hb dJ0_indexOf_7cf53_0 rfl (lv_at hl 0 rfl) ?_
  have hq9 := mp_of (ws := []) (wc := []) (is := []) rfl
  have hFc := va_free (wc := []) hD hS hA [] hq9
  refine va_calli (va_runV (As := []) (rest := []) hF (m_J0_isLatin1_aae02 l9 D k ks kv kf ka kw H.size i (by omega)) (cwV 0 hts gJ0_indexOf_7cf53_J0_isLatin1_aae02 rfl rfl rfl (by decide +kernel) ⟨Nat.le_of_ble_eq_true rfl, Nat.le_of_ble_eq_true rfl⟩) (zPreR (zRecS hKC (by omega) hS) hK hN hKC hS hFc hP hD [] (fm_of hq9) (by decide) hq9) rfl rfl hl.1 rfl (lv_room (Nat.le_of_ble_eq_true rfl)) dJ0_indexOf_7cf53_1 ⟨Nat.zero_le _, Nat.zero_le _⟩) hS (fun q _ h => hFc q h) hFc (fun r u9 t9 H1 locs ht hvm hw hB hz1 hk1 hS => ?_)
  obtain ⟨hP, hD⟩ := wjoin9 (wr := []) (wf := []) hP hD [] [] [] hq9 rfl (by decide) (by decide) hk1 hFc hB ht rfl (by decide)
  subst hw
  clear hB hk1 hz1 hvm hFc hq9
  clear ht
  clear t9
  generalize H1 = H at hP hS ⊢
  refine lv_if_eq (tgt := 23) hx hb dJ0_indexOf_7cf53_4 (by decide) (fun c_1 => ?_) (fun c_1 => ?_)
  · first | exact absurd c_1 (by decide) | exact absurd (by decide) c_1
  · skip
    refine lv_aload_n hx hb dJ0_indexOf_7cf53_7 rfl (lv_at hl 0 rfl) ?_
    refine vk_getf hx hb (hKC.1.1 i (by omega)).2.2.1 hS hown k_fieldLink_9 (fun _ h9 => h9) dJ0_indexOf_7cf53_8 ?_
    refine lv_iload_n hx hb dJ0_indexOf_7cf53_11 rfl (lv_at hl 1 rfl) ?_
    refine lv_iload_n hx hb dJ0_indexOf_7cf53_12 rfl (lv_at hl 2 rfl) ?_
    refine lv_aload_n hx hb dJ0_indexOf_7cf53_13 rfl (lv_at hl 0 rfl) ?_
    have hq9 := mp_of (ws := []) (wc := []) (is := []) rfl
    have hFc := va_free (wc := []) hD hS hA [] hq9
    refine va_calli (va_runV (As := []) (rest := [.int 0, .int (nI q), .ref (kv i)]) hF (m_J0_length_8abf5 l9 D k ks kv kf ka kw H.size i (by omega)) (cwV 0 hts gJ0_indexOf_7cf53_J0_length_8abf5 rfl rfl rfl (by decide +kernel) ⟨Nat.le_of_ble_eq_true rfl, Nat.le_of_ble_eq_true rfl⟩) (zPreR (zRecS hKC (by omega) hS) hK hN hKC hS hFc hP hD [] (fm_of hq9) (by decide) hq9) rfl rfl hl.1 rfl (lv_room (Nat.le_of_ble_eq_true rfl)) dJ0_indexOf_7cf53_14 ⟨Nat.zero_le _, Nat.zero_le _⟩) hS (fun q _ h => hFc q h) hFc (fun r u9 t9 H1 locs ht hvm hw hB hz1 hk1 hS => ?_)
    obtain ⟨hP, hD⟩ := wjoin9 (wr := []) (wf := []) hP hD [] [] [] hq9 rfl (by decide) (by decide) hk1 hFc hB ht rfl (by decide)
    subst hw
    clear hB hk1 hz1 hvm hFc hq9
    clear ht
    clear t9
    generalize H1 = H at hP hS ⊢
    have hq9 := mp_of (ws := []) (wc := []) (is := []) rfl
    have hFc := va_free (wc := []) hD hS hA [] hq9
    refine va_calli (va_runS (As := [.ref (kv i), .int (nI q), .int 0, .int (nI (lnF i))]) (rest := []) hF (m_J1_indexOf_4cfef l9 D k ks kv kf ka kw H.size i q (lnF i) hi hq rfl) (va_cwS 4 hts gJ0_indexOf_7cf53_J1_indexOf_4cfef rfl rfl rfl (by decide +kernel) ⟨Nat.le_of_ble_eq_true rfl, Nat.le_of_ble_eq_true rfl⟩) (zPreS hK hN hKC hS hFc hP hD [] (fm_of hq9) (by decide) hq9) rfl rfl hl.1 rfl (lv_room (Nat.le_of_ble_eq_true rfl)) dJ0_indexOf_7cf53_17 ⟨Nat.zero_le _, Nat.zero_le _⟩) hS (fun q _ h => hFc q h) hFc (fun r u9 t9 H1 locs ht hvm hw hB hz1 hk1 hS => ?_)
    obtain ⟨hP, hD⟩ := wjoin9 (wr := []) (wf := []) hP hD [] [] [] hq9 rfl (by decide) (by decide) hk1 hFc hB ht rfl (by decide)
    subst hw
    clear hB hk1 hz1 hvm hFc hq9
    clear ht
    clear t9
    generalize H1 = H at hP hS ⊢
    refine lv_goto (tgt := 36) hx hb dJ0_indexOf_7cf53_20 (by decide) ?_
    exact W.iret (v := ixS i q) hx hb hr (fun t9 ht hW => ⟨⟨_, (), rfl, (by rfl), ⟨by rw [ht]; exact hP, va_K.moved hW.alike hK, hD⟩⟩, hS.F ht⟩) hS.2.2 dJ0_indexOf_7cf53_36 hlocks

set_option maxHeartbeats 4000000 in
set_option maxRecDepth 100000 in
theorem m_J0_indexOf_0f7a4 (l9 : Launch) (D : va_G) (k : Nat → ClassId) (ks kv kf : Nat → Nat) (ka kw : Nat) (sz : Nat) (i q : Nat) (hi : i < 12) (hq : q < 128) : Met l9 yJ0_indexOf_0f7a4 wsJ0_indexOf_0f7a4 ({ frames := 3, cells := 0, slots := 0, locals := 70 }) (ZPc ks kv kf ka kw D k [.ref (ks i), .int (nI q)] ([]) sz) (WI D k ([]) (ixS i q) (va_A ([]) sz)) 0 0 (va_A ([]) sz) := by
  refine zMet (y := yJ0_indexOf_0f7a4) (cc := cJ0_indexOf_0f7a4) (maxL := 2) (ret := (some .int)) (Qc := fun A => WI D k ([]) (ixS i q) A) [.ref (ks i), .int (nI q)] (by decide) rfl (Nat.le_of_ble_eq_true rfl) ?_
  intro p9 e9 s9 m9 bl9 me9 c9 ls A H hF hr hlocks hP hK hN hKC hD hA hS hl
  have hl : lv_has ls 2 [(0, .ref (ks i)), (1, .int (nI q))] := hl
  obtain ⟨hx, hb, hml, hown, hts⟩ := id hF
  refine lv_aload_n hx hb dJ0_indexOf_0f7a4_0 rfl (lv_at hl 0 rfl) ?_
  refine lv_iload_n hx hb dJ0_indexOf_0f7a4_1 rfl (lv_at hl 1 rfl) ?_
  refine lv_iconst (v := 0) hx hb dJ0_indexOf_0f7a4_2 (by decide) ?_
  have hq9 := mp_of (ws := []) (wc := []) (is := []) rfl
  have hFc := va_free (wc := []) hD hS hA [] hq9
  refine va_calli (va_runV (As := [.int (nI q), .int 0]) (rest := []) hF (m_J0_indexOf_7cf53 l9 D k ks kv kf ka kw H.size i q (by omega) (by omega)) (cwV 2 hts gJ0_indexOf_0f7a4_J0_indexOf_7cf53 rfl rfl rfl (by decide +kernel) ⟨Nat.le_of_ble_eq_true rfl, Nat.le_of_ble_eq_true rfl⟩) (zPreR (zRecS hKC (by omega) hS) hK hN hKC hS hFc hP hD [] (fm_of hq9) (by decide) hq9) rfl rfl hl.1 rfl (lv_room (Nat.le_of_ble_eq_true rfl)) dJ0_indexOf_0f7a4_3 ⟨Nat.zero_le _, Nat.zero_le _⟩) hS (fun q _ h => hFc q h) hFc (fun r u9 t9 H1 locs ht hvm hw hB hz1 hk1 hS => ?_)
  obtain ⟨hP, hD⟩ := wjoin9 (wr := []) (wf := []) hP hD [] [] [] hq9 rfl (by decide) (by decide) hk1 hFc hB ht rfl (by decide)
  subst hw
  clear hB hk1 hz1 hvm hFc hq9
  clear ht
  clear t9
  generalize H1 = H at hP hS ⊢
  exact W.iret (v := ixS i q) hx hb hr (fun t9 ht hW => ⟨⟨_, (), rfl, (by rfl), ⟨by rw [ht]; exact hP, va_K.moved hW.alike hK, hD⟩⟩, hS.F ht⟩) hS.2.2 dJ0_indexOf_0f7a4_6 hlocks

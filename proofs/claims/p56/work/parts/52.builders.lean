/-! Builders and texts: the JDK's own methods. -/
set_option maxHeartbeats 4000000 in
set_option maxRecDepth 100000 in
theorem t_J5_isLatin1_aae02 (l9 : Launch) (hl9 : l9.stackTraces = false) (E : EK) (D : va_G) (k : Nat → ClassId) (sz : Nat) (a b n : Nat) : Met l9 yJ5_isLatin1_aae02 wsJ5_isLatin1_aae02 ({ frames := 0, cells := 0, slots := 0, locals := 0 }) (TPc E D k [.ref a] (bSO k a b n) sz) (va_Qi (fun (r : Int32) (u9 : Unit) => r = 1) (TB D k (va_A (bSO k a b n) sz) (fun u9 : Unit => bSO k a b n)) (va_A (bSO k a b n) sz)) (0) (0) (va_A (bSO k a b n) sz) := by
  refine tMet (y := yJ5_isLatin1_aae02) (cc := cJ5_isLatin1_aae02) (maxL := 1) (ret := (some .boolean)) (Qc := fun A => va_Qi (fun (r : Int32) (u9 : Unit) => r = 1) (TB D k (A) (fun u9 : Unit => bSO k a b n)) (A)) [.ref a] (by decide) rfl (Nat.le_of_ble_eq_true rfl) ?_
  intro p9 e9 s9 m9 bl9 me9 c9 ls A H hF hr hlocks hP hK hE hD hA hS hl hin
  have hl : lv_has ls 1 [(0, .ref a)] := hl
  obtain ⟨hx, hb, hml, hown, hts⟩ := id hF
  have k_fieldLink_18 : (Cond.fieldLink RJ5 18 "java/lang/String" "COMPACT_STRINGS" "Z").before _ s9 = true := hts (.fieldLink RJ5 18 "java/lang/String" "COMPACT_STRINGS" "Z") (by decide +kernel)
  have k_fieldLink_22 : (Cond.fieldLink RJ5 22 "java/lang/AbstractStringBuilder" "coder" "B").before _ s9 = true := hts (.fieldLink RJ5 22 "java/lang/AbstractStringBuilder" "coder" "B") (by decide +kernel)
  have kc_RJ4 : ∀ w ∈ u_ws RJ4 TJ4 4, w ∈ wsJ5_isLatin1_aae02 := by decide +kernel
  refine va_gets hx hb hE.2.2.2.2.2.1.2.2.2.2.2.2.1 hS hown k_fieldLink_18 (fun _ h9 => h9) dJ5_isLatin1_aae02_0 ?_
  refine lv_if_eq (tgt := 17) hx hb dJ5_isLatin1_aae02_3 (by decide) (fun c_1 => ?_) (fun c_1 => ?_)
  · first | exact absurd c_1 (by decide) | exact absurd (by decide) c_1
  · skip
    refine lv_aload_n hx hb dJ5_isLatin1_aae02_6 rfl (lv_at hl 0 rfl) ?_
    refine va_get (D := D) (ci := 1) (v := .int 0) (C := RJ4) (T := TJ4) (N := 4) hx hb hts kc_RJ4 hown hK hP 0 rfl rfl 1 (by decide) k_fieldLink_22 (fun _ h9 => h9) rfl dJ5_isLatin1_aae02_7 ?_
    refine lv_if_ne (tgt := 17) hx hb dJ5_isLatin1_aae02_10 (by decide) (fun c_2 => ?_) (fun c_2 => ?_)
    · first | exact absurd c_2 (by decide) | exact absurd (by decide) c_2
    · skip
      refine lv_iconst (v := 1) hx hb dJ5_isLatin1_aae02_13 (by decide) ?_
      refine lv_goto (tgt := 18) hx hb dJ5_isLatin1_aae02_14 (by decide) ?_
      exact W.zret (v := 1) hx hb hr (rfl) (fun t9 ht hW => ⟨⟨_, (), rfl, (by rfl), ⟨by rw [ht]; exact hP, va_K.moved hW.alike hK, hD⟩⟩, hS.F ht⟩) hS.2.2 dJ5_isLatin1_aae02_18 hlocks

set_option maxHeartbeats 4000000 in
set_option maxRecDepth 100000 in
theorem t_J5_getValue_6d5f1 (l9 : Launch) (hl9 : l9.stackTraces = false) (E : EK) (D : va_G) (k : Nat → ClassId) (sz : Nat) (a b n : Nat) : Met l9 yJ5_getValue_6d5f1 wsJ5_getValue_6d5f1 ({ frames := 0, cells := 0, slots := 0, locals := 0 }) (TPc E D k [.ref a] (bSO k a b n) sz) (va_Qq (fun (r : Option Nat) (u9 : Unit) => r = some b) (TB D k (va_A (bSO k a b n) sz) (fun u9 : Unit => bSO k a b n)) (va_A (bSO k a b n) sz)) (0) (0) (va_A (bSO k a b n) sz) := by
  refine tMet (y := yJ5_getValue_6d5f1) (cc := cJ5_getValue_6d5f1) (maxL := 1) (ret := (some (.array .byte))) (Qc := fun A => va_Qq (fun (r : Option Nat) (u9 : Unit) => r = some b) (TB D k (A) (fun u9 : Unit => bSO k a b n)) (A)) [.ref a] (by decide) rfl (Nat.le_of_ble_eq_true rfl) ?_
  intro p9 e9 s9 m9 bl9 me9 c9 ls A H hF hr hlocks hP hK hE hD hA hS hl hin
  have hl : lv_has ls 1 [(0, .ref a)] := hl
  obtain ⟨hx, hb, hml, hown, hts⟩ := id hF
  have k_fieldLink_15 : (Cond.fieldLink RJ5 15 "java/lang/AbstractStringBuilder" "value" "[B").before _ s9 = true := hts (.fieldLink RJ5 15 "java/lang/AbstractStringBuilder" "value" "[B") (by decide +kernel)
  have kc_RJ4 : ∀ w ∈ u_ws RJ4 TJ4 4, w ∈ wsJ5_getValue_6d5f1 := by decide +kernel
  refine lv_aload_n hx hb dJ5_getValue_6d5f1_0 rfl (lv_at hl 0 rfl) ?_
  refine va_get (D := D) (ci := 1) (v := .ref b) (C := RJ4) (T := TJ4) (N := 4) hx hb hts kc_RJ4 hown hK hP 0 rfl rfl 0 (by decide) k_fieldLink_15 (fun _ h9 => h9) rfl dJ5_getValue_6d5f1_1 ?_
  exact W.aret (v := .ref b) hx hb hr (Or.inl ⟨_, rfl⟩) (Or.inr ⟨_, rfl⟩) (fun t9 ht hW => ⟨⟨some b, (), rfl, (by rfl), ⟨by rw [ht]; exact hP, va_K.moved hW.alike hK, hD⟩⟩, hS.F ht⟩) hS.2.2 dJ5_getValue_6d5f1_4 hlocks

set_option maxHeartbeats 4000000 in
set_option maxRecDepth 100000 in
theorem t_J5_length_8abf5 (l9 : Launch) (hl9 : l9.stackTraces = false) (E : EK) (D : va_G) (k : Nat → ClassId) (sz : Nat) (a b n : Nat) : Met l9 yJ5_length_8abf5 wsJ5_length_8abf5 ({ frames := 0, cells := 0, slots := 0, locals := 0 }) (TPc E D k [.ref a] (bSO k a b n) sz) (va_Qi (fun (r : Int32) (u9 : Unit) => r = nI n) (TB D k (va_A (bSO k a b n) sz) (fun u9 : Unit => bSO k a b n)) (va_A (bSO k a b n) sz)) (0) (0) (va_A (bSO k a b n) sz) := by
  refine tMet (y := yJ5_length_8abf5) (cc := cJ5_length_8abf5) (maxL := 1) (ret := (some .int)) (Qc := fun A => va_Qi (fun (r : Int32) (u9 : Unit) => r = nI n) (TB D k (A) (fun u9 : Unit => bSO k a b n)) (A)) [.ref a] (by decide) rfl (Nat.le_of_ble_eq_true rfl) ?_
  intro p9 e9 s9 m9 bl9 me9 c9 ls A H hF hr hlocks hP hK hE hD hA hS hl hin
  have hl : lv_has ls 1 [(0, .ref a)] := hl
  obtain ⟨hx, hb, hml, hown, hts⟩ := id hF
  have k_fieldLink_79 : (Cond.fieldLink RJ5 79 "java/lang/AbstractStringBuilder" "count" "I").before _ s9 = true := hts (.fieldLink RJ5 79 "java/lang/AbstractStringBuilder" "count" "I") (by decide +kernel)
  have kc_RJ4 : ∀ w ∈ u_ws RJ4 TJ4 4, w ∈ wsJ5_length_8abf5 := by decide +kernel
  refine lv_aload_n hx hb dJ5_length_8abf5_0 rfl (lv_at hl 0 rfl) ?_
  refine va_get (D := D) (ci := 1) (v := .int (nI n)) (C := RJ4) (T := TJ4) (N := 4) hx hb hts kc_RJ4 hown hK hP 0 rfl rfl 3 (by decide) k_fieldLink_79 (fun _ h9 => h9) rfl dJ5_length_8abf5_1 ?_
  exact W.iret (v := nI n) hx hb hr (fun t9 ht hW => ⟨⟨_, (), rfl, (by rfl), ⟨by rw [ht]; exact hP, va_K.moved hW.alike hK, hD⟩⟩, hS.F ht⟩) hS.2.2 dJ5_length_8abf5_4 hlocks

set_option maxHeartbeats 4000000 in
set_option maxRecDepth 100000 in
theorem t_J4_length_8abf5 (l9 : Launch) (hl9 : l9.stackTraces = false) (E : EK) (D : va_G) (k : Nat → ClassId) (sz : Nat) (a b n : Nat) : Met l9 yJ4_length_8abf5 wsJ4_length_8abf5 ({ frames := 1, cells := 0, slots := 0, locals := 20 }) (TPc E D k [.ref a] (bSO k a b n) sz) (va_Qi (fun (r : Int32) (u9 : Unit) => r = nI n) (TB D k (va_A (bSO k a b n) sz) (fun u9 : Unit => bSO k a b n)) (va_A (bSO k a b n) sz)) (0) (0) (va_A (bSO k a b n) sz) := by
  refine tMet (y := yJ4_length_8abf5) (cc := cJ4_length_8abf5) (maxL := 1) (ret := (some .int)) (Qc := fun A => va_Qi (fun (r : Int32) (u9 : Unit) => r = nI n) (TB D k (A) (fun u9 : Unit => bSO k a b n)) (A)) [.ref a] (by decide) rfl (Nat.le_of_ble_eq_true rfl) ?_
  intro p9 e9 s9 m9 bl9 me9 c9 ls A H hF hr hlocks hP hK hE hD hA hS hl hin
  have hl : lv_has ls 1 [(0, .ref a)] := hl
  obtain ⟨hx, hb, hml, hown, hts⟩ := id hF
  refine lv_aload_n hx hb dJ4_length_8abf5_0 rfl (lv_at hl 0 rfl) ?_
  have hFc := tFree hD hS hA
  refine va_calli (va_runSU (As := []) (rest := []) (hK.1 1 _ rfl).2 hF (t_J5_length_8abf5 l9 hl9 E D k H.size a b n ) (va_cwSU 0 hts gJ4_length_8abf5_J5_length_8abf5_s343 rfl rfl rfl (by decide +kernel) ⟨Nat.le_of_ble_eq_true rfl, Nat.le_of_ble_eq_true rfl⟩) (tPreV (rcv hK hP 0 1 rfl rfl) hK hE hS hA hP hD) rfl rfl hl.1 rfl (lv_room (Nat.le_of_ble_eq_true rfl)) dJ4_length_8abf5_1 ⟨(Nat.le_of_ble_eq_true rfl), (Nat.le_of_ble_eq_true rfl)⟩) hS (fun q _ h => hFc q h) hFc (fun r_2 u_3 t9 H1 locs ht hvm hw_4 hB hz1 hk1 hS => ?_)
  obtain ⟨hP, -, hD⟩ := hB
  rw [ht] at hP
  replace hP : va_P D vwCl (bSO k a b n) H1 := hP
  replace hD : va_D A (bSO k a b n) := hD.weaken (fun _ q _ h => hFc q.1 h)
  replace hw_4 : r_2 = nI n := hw_4
  clear hz1 hvm hFc hk1 ht
  clear t9
  generalize H1 = H at hP hS ⊢
  refine lv_tope (v2 := .int (nI n)) (by rw [hw_4]) ?_
  exact W.iret (v := nI n) hx hb hr (fun t9 ht hW => ⟨⟨_, (), rfl, (by rfl), ⟨by rw [ht]; exact hP, va_K.moved hW.alike hK, hD⟩⟩, hS.F ht⟩) hS.2.2 dJ4_length_8abf5_4 hlocks

set_option maxHeartbeats 4000000 in
set_option maxRecDepth 100000 in
theorem t_J1_canEncode_fc78d (l9 : Launch) (hl9 : l9.stackTraces = false) (E : EK) (D : va_G) (k : Nat → ClassId) (sz : Nat) (q : Nat) (hq : q < 256) : Met l9 yJ1_canEncode_fc78d wsJ1_canEncode_fc78d ({ frames := 0, cells := 0, slots := 0, locals := 0 }) (TPc E D k [.int (nI q)] ([]) sz) (va_Qi (fun (r : Int32) (u9 : Unit) => r = 1) (TB D k (va_A ([]) sz) (fun u9 : Unit => [])) (va_A ([]) sz)) (0) (0) (va_A ([]) sz) := by
  refine tMet (y := yJ1_canEncode_fc78d) (cc := cJ1_canEncode_fc78d) (maxL := 1) (ret := (some .boolean)) (Qc := fun A => va_Qi (fun (r : Int32) (u9 : Unit) => r = 1) (TB D k (A) (fun u9 : Unit => [])) (A)) [.int (nI q)] (by decide) rfl (Nat.le_of_ble_eq_true rfl) ?_
  intro p9 e9 s9 m9 bl9 me9 c9 ls A H hF hr hlocks hP hK hE hD hA hS hl hin
  have hl : lv_has ls 1 [(0, .int (nI q))] := hl
  obtain ⟨hx, hb, hml, hown, hts⟩ := id hF
  refine lv_iload_n hx hb dJ1_canEncode_fc78d_0 rfl (lv_at hl 0 rfl) ?_
  refine lv_sipush (v := 255) hx hb dJ1_canEncode_fc78d_1 (by decide) ?_
  refine lv_icmp_gt (tgt := 11) hx hb dJ1_canEncode_fc78d_4 (by decide) (fun c_1 => ?_) (fun c_1 => ?_)
  · skip
    have c_1 : 255 < q := (nI_ltI (a := 255) (b := q) (by omega) (by omega)).mp c_1
    omega
  · skip
    have c_1 : ¬ 255 < q := fun h => c_1 ((nI_ltI (a := 255) (b := q) (by omega) (by omega)).mpr h)
    refine lv_iconst (v := 1) hx hb dJ1_canEncode_fc78d_7 (by decide) ?_
    refine lv_goto (tgt := 12) hx hb dJ1_canEncode_fc78d_8 (by decide) ?_
    exact W.zret (v := 1) hx hb hr (rfl) (fun t9 ht hW => ⟨⟨_, (), rfl, (by rfl), ⟨by rw [ht]; exact hP, va_K.moved hW.alike hK, hD⟩⟩, hS.F ht⟩) hS.2.2 dJ1_canEncode_fc78d_12 hlocks

set_option maxHeartbeats 4000000 in
set_option maxRecDepth 100000 in
theorem t_J8_newLength_cabcc (l9 : Launch) (hl9 : l9.stackTraces = false) (E : EK) (D : va_G) (k : Nat → ClassId) (sz : Nat) (x y z : Nat) (h1 : 0 < x + max y z) (h2 : x < 2 ^ 29) (h3 : y < 2 ^ 29) (h4 : z < 2 ^ 29) : Met l9 yJ8_newLength_cabcc wsJ8_newLength_cabcc ({ frames := 1, cells := 0, slots := 0, locals := 21 }) (TPc E D k [.int (nI x), .int (nI y), .int (nI z)] ([]) sz) (va_Qi (fun (r : Int32) (u9 : Unit) => r = nI (x + max y z)) (TB D k (va_A ([]) sz) (fun u9 : Unit => [])) (va_A ([]) sz)) (0) (0) (va_A ([]) sz) := by
  refine tMet (y := yJ8_newLength_cabcc) (cc := cJ8_newLength_cabcc) (maxL := 4) (ret := (some .int)) (Qc := fun A => va_Qi (fun (r : Int32) (u9 : Unit) => r = nI (x + max y z)) (TB D k (A) (fun u9 : Unit => [])) (A)) [.int (nI x), .int (nI y), .int (nI z)] (by decide) rfl (Nat.le_of_ble_eq_true rfl) ?_
  intro p9 e9 s9 m9 bl9 me9 c9 ls A H hF hr hlocks hP hK hE hD hA hS hl hin
  have hl : lv_has ls 4 [(0, .int (nI x)), (1, .int (nI y)), (2, .int (nI z))] := hl
  obtain ⟨hx, hb, hml, hown, hts⟩ := id hF
  have k_constant_200 : (Cond.constant RJ8 200 (2147483639)).before _ s9 = true := hts (.constant RJ8 200 (2147483639)) (by decide +kernel)
  refine lv_iload_n hx hb dJ8_newLength_cabcc_0 rfl (lv_at hl 0 rfl) ?_
  refine lv_iload_n hx hb dJ8_newLength_cabcc_1 rfl (lv_at hl 1 rfl) ?_
  refine lv_iload_n hx hb dJ8_newLength_cabcc_2 rfl (lv_at hl 2 rfl) ?_
  refine va_mmax hx hb (hml.trans hl.1.symm) hown (hts (.methodLink RJ8 194 Lib.Math.max.name) (by decide +kernel)) (hts (.static Lib.Math.max.name) (by decide +kernel)) (hts (.initialized "java/lang/Math") (by decide +kernel)) (hts (.code Lib.Math.max.name Lib.Math.max.code 2 (some .int)) (by decide +kernel)) (Nat.le_of_ble_eq_true rfl) (Nat.le_of_ble_eq_true rfl) (Nat.zero_le _) (Nat.zero_le _) dJ8_newLength_cabcc_3 ?_
  rw [show (if (nI y) < (nI z) then (nI z) else (nI y) : Int32) = nI (max y z) from nI_max (a := y) (b := z) (by omega) (by omega)]
  refine ni_add hx hb x (max y z) dJ8_newLength_cabcc_6 ?_
  refine lv_istore_n (lv' := [(3, .int (nI (x + (max y z)))), (0, .int (nI x)), (1, .int (nI y)), (2, .int (nI z))]) hx hb dJ8_newLength_cabcc_7 rfl hl (by decide) rfl (fun ls hl => ?_)
  refine lv_iconst (v := 0) hx hb dJ8_newLength_cabcc_8 (by decide) ?_
  refine lv_iload_n hx hb dJ8_newLength_cabcc_9 rfl (lv_at hl 0 rfl) ?_
  refine lv_icmp_ge (tgt := 21) hx hb dJ8_newLength_cabcc_10 (by decide) (fun c_1 => ?_) (fun c_1 => ?_)
  · skip
    have c_1 : (x + (max y z)) ≤ 0 := (nI_leI (a := x + (max y z)) (b := 0) (by omega) (by omega)).mp c_1
    omega
  · skip
    have c_1 : ¬ (x + (max y z)) ≤ 0 := fun h => c_1 ((nI_leI (a := x + (max y z)) (b := 0) (by omega) (by omega)).mpr h)
    refine lv_iload_n hx hb dJ8_newLength_cabcc_13 rfl (lv_at hl 0 rfl) ?_
    refine lv_ldc hx hb hown k_constant_200 dJ8_newLength_cabcc_14 ?_
    refine lv_icmp_gt (tgt := 21) hx hb dJ8_newLength_cabcc_16 (by decide) (fun c_2 => ?_) (fun c_2 => ?_)
    · skip
      have c_2 : 2147483639 < (x + (max y z)) := (nI_ltI (a := 2147483639) (b := x + (max y z)) (by omega) (by omega)).mp c_2
      omega
    · skip
      have c_2 : ¬ 2147483639 < (x + (max y z)) := fun h => c_2 ((nI_ltI (a := 2147483639) (b := x + (max y z)) (by omega) (by omega)).mpr h)
      refine lv_iload_n hx hb dJ8_newLength_cabcc_19 rfl (lv_at hl 0 rfl) ?_
      exact W.iret (v := nI (x + (max y z))) hx hb hr (fun t9 ht hW => ⟨⟨_, (), rfl, (by rfl), ⟨by rw [ht]; exact hP, va_K.moved hW.alike hK, hD⟩⟩, hS.F ht⟩) hS.2.2 dJ8_newLength_cabcc_20 hlocks

set_option maxHeartbeats 4000000 in
set_option maxRecDepth 100000 in
theorem t_J5_newCapacity_0f7a4 (l9 : Launch) (hl9 : l9.stackTraces = false) (E : EK) (D : va_G) (k : Nat → ClassId) (sz : Nat) (a b n cap : Nat) (f : Nat → Int32) (m : Nat) (hm : cap < m) (hm2 : m < 2 ^ 28) : Met l9 yJ5_newCapacity_0f7a4 wsJ5_newCapacity_0f7a4 ({ frames := 2, cells := 0, slots := 0, locals := 44 }) (TPc E D k [.ref a, .int (nI m)] (bSO k a b n ++ bAB k b cap f) sz) (va_Qi (fun (r : Int32) (u9 : Unit) => r = nI (gcap cap m)) (TB D k (va_A (bSO k a b n ++ bAB k b cap f) sz) (fun u9 : Unit => bSO k a b n ++ bAB k b cap f)) (va_A (bSO k a b n ++ bAB k b cap f) sz)) (0) (0) (va_A (bSO k a b n ++ bAB k b cap f) sz) := by
  refine tMet (y := yJ5_newCapacity_0f7a4) (cc := cJ5_newCapacity_0f7a4) (maxL := 6) (ret := (some .int)) (Qc := fun A => va_Qi (fun (r : Int32) (u9 : Unit) => r = nI (gcap cap m)) (TB D k (A) (fun u9 : Unit => bSO k a b n ++ bAB k b cap f)) (A)) [.ref a, .int (nI m)] (by decide) rfl (Nat.le_of_ble_eq_true rfl) ?_
  intro p9 e9 s9 m9 bl9 me9 c9 ls A H hF hr hlocks hP hK hE hD hA hS hl hin
  have hl : lv_has ls 6 [(0, .ref a), (1, .int (nI m))] := hl
  obtain ⟨hx, hb, hml, hown, hts⟩ := id hF
  have k_fieldLink_15 : (Cond.fieldLink RJ5 15 "java/lang/AbstractStringBuilder" "value" "[B").before _ s9 = true := hts (.fieldLink RJ5 15 "java/lang/AbstractStringBuilder" "value" "[B") (by decide +kernel)
  have kc_RJ4 : ∀ w ∈ u_ws RJ4 TJ4 4, w ∈ wsJ5_newCapacity_0f7a4 := by decide +kernel
  have k_fieldLink_22 : (Cond.fieldLink RJ5 22 "java/lang/AbstractStringBuilder" "coder" "B").before _ s9 = true := hts (.fieldLink RJ5 22 "java/lang/AbstractStringBuilder" "coder" "B") (by decide +kernel)
  have k_constant_39 : (Cond.constant RJ5 39 (2147483647)).before _ s9 = true := hts (.constant RJ5 39 (2147483647)) (by decide +kernel)
  refine lv_aload_n hx hb dJ5_newCapacity_0f7a4_0 rfl (lv_at hl 0 rfl) ?_
  refine va_get (D := D) (ci := 1) (v := .ref b) (C := RJ4) (T := TJ4) (N := 4) hx hb hts kc_RJ4 hown hK hP 0 rfl rfl 0 (by decide) k_fieldLink_15 (fun _ h9 => h9) rfl dJ5_newCapacity_0f7a4_1 ?_
  refine va_alen (v := nI cap) hx hb hK hP 1 8 rfl rfl rfl dJ5_newCapacity_0f7a4_4 ?_
  refine lv_istore_n (lv' := [(2, .int (nI cap)), (0, .ref a), (1, .int (nI m))]) hx hb dJ5_newCapacity_0f7a4_5 rfl hl (by decide) rfl (fun ls hl => ?_)
  refine lv_iload_n hx hb dJ5_newCapacity_0f7a4_6 rfl (lv_at hl 2 rfl) ?_
  refine lv_aload_n hx hb dJ5_newCapacity_0f7a4_7 rfl (lv_at hl 1 rfl) ?_
  refine va_get (D := D) (ci := 1) (v := .int 0) (C := RJ4) (T := TJ4) (N := 4) hx hb hts kc_RJ4 hown hK hP 0 rfl rfl 1 (by decide) k_fieldLink_22 (fun _ h9 => h9) rfl dJ5_newCapacity_0f7a4_8 ?_
  refine lv_ishl hx hb dJ5_newCapacity_0f7a4_11 ?_
  refine lv_tope (v2 := .int (nI m)) (congrArg Value.int (shl0 _)) ?_
  refine lv_istore_n (lv' := [(3, .int (nI m)), (2, .int (nI cap)), (0, .ref a), (1, .int (nI m))]) hx hb dJ5_newCapacity_0f7a4_12 rfl hl (by decide) rfl (fun ls hl => ?_)
  refine lv_iload_n hx hb dJ5_newCapacity_0f7a4_13 rfl (lv_at hl 0 rfl) ?_
  refine lv_iload_n hx hb dJ5_newCapacity_0f7a4_14 rfl (lv_at hl 1 rfl) ?_
  refine ni_sub hx hb m cap (by omega) dJ5_newCapacity_0f7a4_15 ?_
  refine lv_istore (lv' := [(4, .int (nI (m - cap))), (3, .int (nI m)), (2, .int (nI cap)), (0, .ref a), (1, .int (nI m))]) hx hb dJ5_newCapacity_0f7a4_16 hl (by decide) rfl (fun ls hl => ?_)
  refine lv_iload_n hx hb dJ5_newCapacity_0f7a4_18 rfl (lv_at hl 2 rfl) ?_
  refine lv_iload hx hb dJ5_newCapacity_0f7a4_19 (lv_at hl 0 rfl) ?_
  refine lv_iload_n hx hb dJ5_newCapacity_0f7a4_21 rfl (lv_at hl 2 rfl) ?_
  refine lv_iconst (v := 2) hx hb dJ5_newCapacity_0f7a4_22 (by decide) ?_
  refine lv_aload_n hx hb dJ5_newCapacity_0f7a4_23 rfl (lv_at hl 3 rfl) ?_
  refine va_get (D := D) (ci := 1) (v := .int 0) (C := RJ4) (T := TJ4) (N := 4) hx hb hts kc_RJ4 hown hK hP 0 rfl rfl 1 (by decide) k_fieldLink_22 (fun _ h9 => h9) rfl dJ5_newCapacity_0f7a4_24 ?_
  refine lv_ishl hx hb dJ5_newCapacity_0f7a4_27 ?_
  refine lv_tope (v2 := .int 2) (congrArg Value.int (shl0 _)) ?_
  refine ni_add hx hb cap 2 dJ5_newCapacity_0f7a4_28 ?_
  have hP : va_P D vwCl ([] ++ (bSO k a b n ++ bAB k b cap f)) H := hP
  have hD : va_D A ([] ++ (bSO k a b n ++ bAB k b cap f)) := hD
  have hFc := tFree hD hS hA
  refine va_calli (va_runS (As := [.int (nI cap), .int (nI (m - cap)), .int (nI (cap + 2))]) (rest := []) hF (fr_i (bSO k a b n ++ bAB k b cap f) (t_J8_newLength_cabcc l9 hl9 E D k H.size cap (m - cap) (cap + 2) (by omega) (by omega) (by omega) (by omega))) (va_cwS 3 hts gJ5_newCapacity_0f7a4_J8_newLength_cabcc rfl rfl rfl (by decide +kernel) ⟨Nat.le_of_ble_eq_true rfl, Nat.le_of_ble_eq_true rfl⟩) (tPreS hK hE hS hA hP hD) rfl rfl hl.1 rfl (lv_room (Nat.le_of_ble_eq_true rfl)) dJ5_newCapacity_0f7a4_29 ⟨(Nat.le_of_ble_eq_true rfl), (Nat.le_of_ble_eq_true rfl)⟩) hS (fun q _ h => hFc q h) hFc (fun r_2 u_3 t9 H1 locs ht hvm hw_4 hB hz1 hk1 hS => ?_)
  obtain ⟨hP, -, hD⟩ := hB
  rw [ht] at hP
  replace hP : va_P D vwCl (([]) ++ (bSO k a b n ++ bAB k b cap f)) H1 := hP
  replace hD : va_D A (([]) ++ (bSO k a b n ++ bAB k b cap f)) := hD.weaken (fun _ q _ h => hFc q.1 h)
  replace hP : va_P D vwCl (bSO k a b n ++ bAB k b cap f) H1 := hP
  replace hD : va_D A (bSO k a b n ++ bAB k b cap f) := hD
  replace hw_4 : r_2 = nI (cap + max (m - cap) (cap + 2)) := hw_4
  clear hz1 hvm hFc hk1 ht
  clear t9
  generalize H1 = H at hP hS ⊢
  refine lv_tope (v2 := .int (nI (cap + max (m - cap) (cap + 2)))) (by rw [hw_4]) ?_
  refine lv_istore (lv' := [(5, .int (nI (cap + max (m - cap) (cap + 2)))), (4, .int (nI (m - cap))), (3, .int (nI m)), (2, .int (nI cap)), (0, .ref a), (1, .int (nI m))]) hx hb dJ5_newCapacity_0f7a4_32 hl (by decide) rfl (fun ls hl => ?_)
  refine lv_iload hx hb dJ5_newCapacity_0f7a4_34 (lv_at hl 0 rfl) ?_
  refine lv_ldc hx hb hown k_constant_39 dJ5_newCapacity_0f7a4_36 ?_
  refine lv_icmp_ne (tgt := 51) hx hb dJ5_newCapacity_0f7a4_38 (by decide) (fun c_5 => ?_) (fun c_5 => ?_)
  · skip
    have c_5 : ¬ (cap + max (m - cap) (cap + 2)) = 2147483647 := fun h => c_5 ((nI_eq (a := cap + max (m - cap) (cap + 2)) (b := 2147483647) (by omega) (by omega)).mpr h)
    refine lv_iload hx hb dJ5_newCapacity_0f7a4_51 (lv_at hl 0 rfl) ?_
    refine lv_aload_n hx hb dJ5_newCapacity_0f7a4_53 rfl (lv_at hl 4 rfl) ?_
    refine va_get (D := D) (ci := 1) (v := .int 0) (C := RJ4) (T := TJ4) (N := 4) hx hb hts kc_RJ4 hown hK hP 0 rfl rfl 1 (by decide) k_fieldLink_22 (fun _ h9 => h9) rfl dJ5_newCapacity_0f7a4_54 ?_
    refine lv_ishr hx hb dJ5_newCapacity_0f7a4_57 ?_
    refine lv_tope (v2 := .int (nI (cap + max (m - cap) (cap + 2)))) (congrArg Value.int (shr0 _)) ?_
    exact W.iret (v := nI (cap + max (m - cap) (cap + 2))) hx hb hr (fun t9 ht hW => ⟨⟨_, (), rfl, (by unfold gcap; rw [if_neg (by omega)]), ⟨by rw [ht]; exact hP, va_K.moved hW.alike hK, hD⟩⟩, hS.F ht⟩) hS.2.2 dJ5_newCapacity_0f7a4_58 hlocks
  · skip
    have c_5 : (cap + max (m - cap) (cap + 2)) = 2147483647 := (nI_eq (a := cap + max (m - cap) (cap + 2)) (b := 2147483647) (by omega) (by omega)).mp c_5
    omega

set_option maxHeartbeats 4000000 in
set_option maxRecDepth 100000 in
theorem t_J7_copyOf_9075b (l9 : Launch) (hl9 : l9.stackTraces = false) (E : EK) (D : va_G) (k : Nat → ClassId) (sz : Nat) (b cap : Nat) (f : Nat → Int32) (m : Nat) (hm : cap < m) (hm2 : m < 2 ^ 29) (hf : Bf f cap) : Met l9 yJ7_copyOf_9075b wsJ7_copyOf_9075b ({ frames := 1, cells := 1, slots := m, locals := 60 }) (TPc E D k [.ref b, .int (nI m)] (bAB k b cap f) sz) (va_Qq (fun (r : Option Nat) (u9 : Nat) => r = some u9) (TB D k (va_A (bAB k b cap f) sz) (fun u9 : Nat => bAB k b cap f ++ bAB k u9 m (cpy (fun _ => 0) 0 f 0 cap))) (va_A (bAB k b cap f) sz)) (1) (m) (va_A (bAB k b cap f) sz) := by
  refine tMet (y := yJ7_copyOf_9075b) (cc := cJ7_copyOf_9075b) (maxL := 3) (ret := (some (.array .byte))) (Qc := fun A => va_Qq (fun (r : Option Nat) (u9 : Nat) => r = some u9) (TB D k (A) (fun u9 : Nat => bAB k b cap f ++ bAB k u9 m (cpy (fun _ => 0) 0 f 0 cap))) (A)) [.ref b, .int (nI m)] (by decide) rfl (Nat.le_of_ble_eq_true rfl) ?_
  intro p9 e9 s9 m9 bl9 me9 c9 ls A H hF hr hlocks hP hK hE hD hA hS hl hin
  have hl : lv_has ls 3 [(0, .ref b), (1, .int (nI m))] := hl
  obtain ⟨hx, hb, hml, hown, hts⟩ := id hF
  refine lv_iload_n hx hb dJ7_copyOf_9075b_0 rfl (lv_at hl 1 rfl) ?_
  refine lv_aload_n hx hb dJ7_copyOf_9075b_1 rfl (lv_at hl 0 rfl) ?_
  refine va_alen (v := nI cap) hx hb hK hP 0 8 rfl rfl rfl dJ7_copyOf_9075b_2 ?_
  refine lv_icmp_ne (tgt := 14) hx hb dJ7_copyOf_9075b_3 (by decide) (fun c_1 => ?_) (fun c_1 => ?_)
  · skip
    have c_1 : ¬ m = cap := fun h => c_1 ((nI_eq (a := m) (b := cap) (by omega) (by omega)).mpr h)
    refine lv_iload_n hx hb dJ7_copyOf_9075b_14 rfl (lv_at hl 1 rfl) ?_
    refine nw_arr (atype := .byte) hx hb (hts (.arrayClass .byte) (by decide +kernel)) rfl hK hP hD hS hA (a0 := (m, .inl (fun _ => 0))) (N' := m) (fun _ => rfl) (nI_nn (by omega)) (nI_clamp (by omega)) (by show m * 1 ≤ 536870912; omega) (Nat.le_of_ble_eq_true rfl) (by show m ≤ m; omega) 8 rfl dJ7_copyOf_9075b_15 (fun q_2 H hP hD hS => ?_)
    have hP : va_P D vwCl (bAB k q_2 m (fun _ => 0) ++ bAB k b cap f) H := vP_perm hP (pmN _ _)
    have hD : va_D A (bAB k q_2 m (fun _ => 0) ++ bAB k b cap f) := vD_perm hD (pmN _ _)
    refine lv_astore_n (lv' := [(2, .ref q_2), (0, .ref b), (1, .int (nI m))]) hx hb dJ7_copyOf_9075b_17 rfl hl (by decide) rfl (fun ls hl => ?_)
    refine lv_aload_n hx hb dJ7_copyOf_9075b_18 rfl (lv_at hl 1 rfl) ?_
    refine lv_iconst (v := 0) hx hb dJ7_copyOf_9075b_19 (by decide) ?_
    refine lv_aload_n hx hb dJ7_copyOf_9075b_20 rfl (lv_at hl 0 rfl) ?_
    refine lv_iconst (v := 0) hx hb dJ7_copyOf_9075b_21 (by decide) ?_
    refine lv_aload_n hx hb dJ7_copyOf_9075b_22 rfl (lv_at hl 1 rfl) ?_
    refine va_alen (v := nI cap) hx hb hK hP 1 8 rfl rfl rfl dJ7_copyOf_9075b_23 ?_
    refine lv_iload_n hx hb dJ7_copyOf_9075b_24 rfl (lv_at hl 2 rfl) ?_
    refine va_mmin hx hb (hml.trans hl.1.symm) hown (hts (.methodLink RJ7 304 Lib.Math.min.name) (by decide +kernel)) (hts (.static Lib.Math.min.name) (by decide +kernel)) (hts (.initialized "java/lang/Math") (by decide +kernel)) (hts (.code Lib.Math.min.name Lib.Math.min.code 2 (some .int)) (by decide +kernel)) (Nat.le_of_ble_eq_true rfl) (Nat.le_of_ble_eq_true rfl) (Nat.zero_le _) (Nat.zero_le _) dJ7_copyOf_9075b_25 ?_
    rw [show (if (nI m) < (nI cap) then (nI m) else (nI cap) : Int32) = nI (min cap m) from nI_min (a := cap) (b := m) (by omega) (by omega)]
    refine by_cp hx hb (hml.trans hl.1.symm) hown (hts (.methodLink RJ7 150 arraycopyName) (by decide +kernel)) (hts (.native arraycopyName) (by decide +kernel)) (hts (.static arraycopyName) (by decide +kernel)) (hts (.initialized "java/lang/System") (by decide +kernel)) hK hP hD hS 1 0 rfl rfl (sp := 0) (dp := 0) (n := (min cap m)) rfl rfl rfl (by omega) (by omega) (by omega) (by omega) (fun i hi => by rw [Nat.zero_add]; exact hf i (by omega)) (Nat.le_of_ble_eq_true rfl) (Nat.le_of_ble_eq_true rfl) (bAB k q_2 m (cpy (fun _ => 0) 0 f 0 (min cap m)) ++ bAB k b cap f) rfl dJ7_copyOf_9075b_28 (fun H locs hP hD hS => ?_)
    refine lv_aload_n hx hb dJ7_copyOf_9075b_31 rfl (lv_at hl 0 rfl) ?_
    have hP : va_P D vwCl (bAB k b cap f ++ bAB k q_2 m (cpy (fun _ => 0) 0 f 0 (min cap m))) H := vP_perm hP (pmX (pmS (bAB k q_2 m (cpy (fun _ => 0) 0 f 0 (min cap m))) (pmE (bAB k b cap f))))
    have hD : va_D A (bAB k b cap f ++ bAB k q_2 m (cpy (fun _ => 0) 0 f 0 (min cap m))) := vD_perm hD (pmX (pmS (bAB k q_2 m (cpy (fun _ => 0) 0 f 0 (min cap m))) (pmE (bAB k b cap f))))
    have e_3 : (cpy (fun _ => 0) 0 f 0 (min cap m) : Nat → Int32) = cpy (fun _ => 0) 0 f 0 cap := by first | (with_reducible rfl) | (congr 1; omega)
    have hP := Eq.mp (congrArg (fun z9 => va_P D vwCl (bAB k b cap f ++ bAB k q_2 m z9) H) e_3) hP
    have hD := Eq.mp (congrArg (fun z9 => va_D A (bAB k b cap f ++ bAB k q_2 m z9)) e_3) hD
    exact W.aret (v := .ref q_2) hx hb hr (Or.inl ⟨_, rfl⟩) (Or.inr ⟨_, rfl⟩) (fun t9 ht hW => ⟨⟨some q_2, q_2, rfl, (by rfl), ⟨by rw [ht]; exact hP, va_K.moved hW.alike hK, hD⟩⟩, hS.F ht⟩) hS.2.2 dJ7_copyOf_9075b_32 hlocks
  · skip
    have c_1 : m = cap := (nI_eq (a := m) (b := cap) (by omega) (by omega)).mp c_1
    omega

set_option maxHeartbeats 4000000 in
set_option maxRecDepth 100000 in
theorem t_J5_ensureCapacityInternal_d00df (l9 : Launch) (hl9 : l9.stackTraces = false) (E : EK) (D : va_G) (k : Nat → ClassId) (sz : Nat) (a b n cap : Nat) (f : Nat → Int32) (m : Nat) (hcap : cap < 2 ^ 28) (hm : m < 2 ^ 28) (hf : Bf f cap) : Met l9 yJ5_ensureCapacityInternal_d00df wsJ5_ensureCapacityInternal_d00df ({ frames := 3, cells := 1, slots := gms cap m, locals := 82 }) (TPc E D k [.ref a, .int (nI m)] (bSO k a b n ++ bAB k b cap f) sz) (va_Qv (fun (u9 : Nat × (Nat → Int32)) => Bf u9.2 (gcap cap m) ∧ ∀ j, j < cap → u9.2 j = f j) (TB D k (va_A (bSO k a b n ++ bAB k b cap f) sz) (fun u9 : Nat × (Nat → Int32) => bSO k a u9.1 n ++ bAB k u9.1 (gcap cap m) u9.2)) (va_A (bSO k a b n ++ bAB k b cap f) sz)) (1) (gms cap m) (va_A (bSO k a b n ++ bAB k b cap f) sz) := by
  refine tMet (y := yJ5_ensureCapacityInternal_d00df) (cc := cJ5_ensureCapacityInternal_d00df) (maxL := 3) (ret := none) (Qc := fun A => va_Qv (fun (u9 : Nat × (Nat → Int32)) => Bf u9.2 (gcap cap m) ∧ ∀ j, j < cap → u9.2 j = f j) (TB D k (A) (fun u9 : Nat × (Nat → Int32) => bSO k a u9.1 n ++ bAB k u9.1 (gcap cap m) u9.2)) (A)) [.ref a, .int (nI m)] (by decide) rfl (Nat.le_of_ble_eq_true rfl) ?_
  intro p9 e9 s9 m9 bl9 me9 c9 ls A H hF hr hlocks hP hK hE hD hA hS hl hin
  have hl : lv_has ls 3 [(0, .ref a), (1, .int (nI m))] := hl
  obtain ⟨hx, hb, hml, hown, hts⟩ := id hF
  have k_fieldLink_15 : (Cond.fieldLink RJ5 15 "java/lang/AbstractStringBuilder" "value" "[B").before _ s9 = true := hts (.fieldLink RJ5 15 "java/lang/AbstractStringBuilder" "value" "[B") (by decide +kernel)
  have kc_RJ4 : ∀ w ∈ u_ws RJ4 TJ4 4, w ∈ wsJ5_ensureCapacityInternal_d00df := by decide +kernel
  have k_fieldLink_22 : (Cond.fieldLink RJ5 22 "java/lang/AbstractStringBuilder" "coder" "B").before _ s9 = true := hts (.fieldLink RJ5 22 "java/lang/AbstractStringBuilder" "coder" "B") (by decide +kernel)
  refine lv_aload_n hx hb dJ5_ensureCapacityInternal_d00df_0 rfl (lv_at hl 0 rfl) ?_
  refine va_get (D := D) (ci := 1) (v := .ref b) (C := RJ4) (T := TJ4) (N := 4) hx hb hts kc_RJ4 hown hK hP 0 rfl rfl 0 (by decide) k_fieldLink_15 (fun _ h9 => h9) rfl dJ5_ensureCapacityInternal_d00df_1 ?_
  refine va_alen (v := nI cap) hx hb hK hP 1 8 rfl rfl rfl dJ5_ensureCapacityInternal_d00df_4 ?_
  refine lv_aload_n hx hb dJ5_ensureCapacityInternal_d00df_5 rfl (lv_at hl 0 rfl) ?_
  refine va_get (D := D) (ci := 1) (v := .int 0) (C := RJ4) (T := TJ4) (N := 4) hx hb hts kc_RJ4 hown hK hP 0 rfl rfl 1 (by decide) k_fieldLink_22 (fun _ h9 => h9) rfl dJ5_ensureCapacityInternal_d00df_6 ?_
  refine lv_ishr hx hb dJ5_ensureCapacityInternal_d00df_9 ?_
  refine lv_tope (v2 := .int (nI cap)) (congrArg Value.int (shr0 _)) ?_
  refine lv_istore_n (lv' := [(2, .int (nI cap)), (0, .ref a), (1, .int (nI m))]) hx hb dJ5_ensureCapacityInternal_d00df_10 rfl hl (by decide) rfl (fun ls hl => ?_)
  refine lv_iload_n hx hb dJ5_ensureCapacityInternal_d00df_11 rfl (lv_at hl 2 rfl) ?_
  refine lv_iload_n hx hb dJ5_ensureCapacityInternal_d00df_12 rfl (lv_at hl 0 rfl) ?_
  refine lv_isub hx hb dJ5_ensureCapacityInternal_d00df_13 ?_
  refine lv_if_le (tgt := 38) hx hb dJ5_ensureCapacityInternal_d00df_14 (by decide) (fun c_1 => ?_) (fun c_1 => ?_)
  · skip
    have c_1 : m ≤ cap := (le_sub (by omega) (by omega)).mp c_1
    have e_2 : (cap : Nat) = gcap cap m := by first | (with_reducible rfl) | (unfold gcap; rw [if_pos (by assumption)])
    have hP := Eq.mp (congrArg (fun z9 => va_P D vwCl (bSO k a b n ++ bAB k b z9 f) H) e_2) hP
    have hD := Eq.mp (congrArg (fun z9 => va_D A (bSO k a b n ++ bAB k b z9 f)) e_2) hD
    refine W.widen (k := 1) (n := gms cap m) (Nat.le_of_ble_eq_true rfl) (by show 0 ≤ gms cap m; first | omega | (unfold gms gcap; omega) | (unfold gms; rw [if_neg (by omega)]; omega)) ?_
    exact W.vret hx hb hr (fun t9 ht hW => ⟨⟨(b, f), rfl, (by exact ⟨by rw [show gcap cap m = cap from if_pos (by assumption)]; exact hf, fun j hj => rfl⟩), ⟨by rw [ht]; exact hP, va_K.moved hW.alike hK, hD⟩⟩, hS.F ht⟩) hS.2.2 dJ5_ensureCapacityInternal_d00df_38 hlocks
  · skip
    have c_1 : ¬ m ≤ cap := fun h9 => c_1 ((le_sub (by omega) (by omega)).mpr h9)
    refine lv_aload_n hx hb dJ5_ensureCapacityInternal_d00df_17 rfl (lv_at hl 1 rfl) ?_
    refine lv_aload_n hx hb dJ5_ensureCapacityInternal_d00df_18 rfl (lv_at hl 1 rfl) ?_
    refine va_get (D := D) (ci := 1) (v := .ref b) (C := RJ4) (T := TJ4) (N := 4) hx hb hts kc_RJ4 hown hK hP 0 rfl rfl 0 (by decide) k_fieldLink_15 (fun _ h9 => h9) rfl dJ5_ensureCapacityInternal_d00df_19 ?_
    refine lv_aload_n hx hb dJ5_ensureCapacityInternal_d00df_22 rfl (lv_at hl 1 rfl) ?_
    refine lv_iload_n hx hb dJ5_ensureCapacityInternal_d00df_23 rfl (lv_at hl 2 rfl) ?_
    have hFc := tFree hD hS hA
    refine va_calli (va_runU (As := [.int (nI m)]) (rest := [.ref b, .ref a]) hF (t_J5_newCapacity_0f7a4 l9 hl9 E D k H.size a b n cap f m (by omega) (by omega)) (va_cwU 1 hts gJ5_ensureCapacityInternal_d00df_J5_newCapacity_0f7a4_u104J4 rfl rfl rfl rfl (by decide +kernel) ⟨Nat.le_of_ble_eq_true rfl, Nat.le_of_ble_eq_true rfl⟩) (tPreV (rcv hK hP 0 1 rfl rfl) hK hE hS hA hP hD) rfl rfl hl.1 rfl (lv_room (Nat.le_of_ble_eq_true rfl)) dJ5_ensureCapacityInternal_d00df_24 ⟨(Nat.le_of_ble_eq_true rfl), (by show 0 ≤ gms cap m; first | omega | (unfold gms gcap; omega) | (unfold gms; rw [if_neg (by omega)]; omega))⟩) hS (fun q _ h => hFc q h) hFc (fun r_4 u_5 t9 H1 locs ht hvm hw_6 hB hz1 hk1 hS => ?_)
    obtain ⟨hP, -, hD⟩ := hB
    rw [ht] at hP
    replace hP : va_P D vwCl (bSO k a b n ++ bAB k b cap f) H1 := hP
    replace hD : va_D A (bSO k a b n ++ bAB k b cap f) := hD.weaken (fun _ q _ h => hFc q.1 h)
    replace hw_6 : r_4 = nI (gcap cap m) := hw_6
    clear hz1 hvm hFc hk1 ht
    clear t9
    generalize H1 = H at hP hS ⊢
    refine lv_tope (v2 := .int (nI (gcap cap m))) (by rw [hw_6]) ?_
    refine lv_aload_n hx hb dJ5_ensureCapacityInternal_d00df_27 rfl (lv_at hl 1 rfl) ?_
    refine va_get (D := D) (ci := 1) (v := .int 0) (C := RJ4) (T := TJ4) (N := 4) hx hb hts kc_RJ4 hown hK hP 0 rfl rfl 1 (by decide) k_fieldLink_22 (fun _ h9 => h9) rfl dJ5_ensureCapacityInternal_d00df_28 ?_
    refine lv_ishl hx hb dJ5_ensureCapacityInternal_d00df_31 ?_
    refine lv_tope (v2 := .int (nI (gcap cap m))) (congrArg Value.int (shl0 _)) ?_
    have hP : va_P D vwCl (bAB k b cap f ++ bSO k a b n) H := vP_perm hP (pmX (pmS (bSO k a b n) (pmE (bAB k b cap f))))
    have hD : va_D A (bAB k b cap f ++ bSO k a b n) := vD_perm hD (pmX (pmS (bSO k a b n) (pmE (bAB k b cap f))))
    have hFc := tFree hD hS hA
    refine va_callq (va_runS (As := [.ref b, .int (nI (gcap cap m))]) (rest := [.ref a]) hF (fr_q (bSO k a b n) (t_J7_copyOf_9075b l9 hl9 E D k H.size b cap f (gcap cap m) (by unfold gcap; rw [if_neg (by omega)]; omega) (by have := gcap_lt (cap := cap) (n := m) (b := 2 ^ 28) (by omega) (by omega); omega) hf)) (va_cwS 2 hts gJ5_ensureCapacityInternal_d00df_J7_copyOf_9075b rfl rfl rfl (by decide +kernel) ⟨Nat.le_of_ble_eq_true rfl, Nat.le_of_ble_eq_true rfl⟩) (tPreS hK hE hS hA hP hD) rfl rfl hl.1 rfl (lv_room (Nat.le_of_ble_eq_true rfl)) dJ5_ensureCapacityInternal_d00df_32 ⟨(Nat.le_of_ble_eq_true rfl), (by show (gcap cap m) ≤ gms cap m; first | omega | (unfold gms gcap; omega) | (unfold gms; rw [if_neg (by omega)]; omega))⟩) hS (fun q _ h => hFc q h) hFc (fun r_8 u_9 t9 H1 locs ht hvm hw_10 hB hz1 hk1 hS => ?_)
    obtain ⟨hP, -, hD⟩ := hB
    rw [ht] at hP
    replace hP : va_P D vwCl ((bAB k b cap f ++ bAB k u_9 (gcap cap m) (cpy (fun _ => 0) 0 f 0 cap)) ++ bSO k a b n) H1 := hP
    replace hD : va_D A ((bAB k b cap f ++ bAB k u_9 (gcap cap m) (cpy (fun _ => 0) 0 f 0 cap)) ++ bSO k a b n) := hD.weaken (fun _ q _ h => hFc q.1 h)
    replace hP : va_P D vwCl (bAB k b cap f ++ (bAB k u_9 (gcap cap m) (cpy (fun _ => 0) 0 f 0 cap) ++ bSO k a b n)) H1 := vP_perm hP (pb2 _ _ _)
    replace hD : va_D A (bAB k b cap f ++ (bAB k u_9 (gcap cap m) (cpy (fun _ => 0) 0 f 0 cap) ++ bSO k a b n)) := vD_perm hD (pb2 _ _ _)
    replace hw_10 : r_8 = some u_9 := hw_10
    clear hz1 hvm hFc hk1 ht
    clear t9
    generalize H1 = H at hP hS ⊢
    refine lv_tope (v2 := .ref u_9) (by rw [hw_10]; rfl) ?_
    refine va_put (D := D) (ci := 1) (v := .ref u_9) (ty := (.array .byte)) (C := RJ4) (T := TJ4) (N := 4) hx hb hts kc_RJ4 tyJ4 tyJ4_ok nmJ4 hown hK hP hD hS 2 rfl rfl 0 (by decide) k_fieldLink_15 (fun _ h9 => h9) rfl (by decide +kernel) rfl rfl (Nat.le_of_ble_eq_true rfl) dJ5_ensureCapacityInternal_d00df_35 (fun H locs hP hD hS => ?_)
    have hP : va_P D vwCl (bAB k b cap f ++ (bAB k u_9 (gcap cap m) (cpy (fun _ => 0) 0 f 0 cap) ++ bSO k a u_9 n)) H := hP
    have hD : va_D A (bAB k b cap f ++ (bAB k u_9 (gcap cap m) (cpy (fun _ => 0) 0 f 0 cap) ++ bSO k a u_9 n)) := hD
    have hP : va_P D vwCl (bAB k u_9 (gcap cap m) (cpy (fun _ => 0) 0 f 0 cap) ++ (bAB k b cap f ++ bSO k a u_9 n)) H := vP_perm hP (pmS (bAB k b cap f) (pm0 (bAB k u_9 (gcap cap m) (cpy (fun _ => 0) 0 f 0 cap)) (bSO k a u_9 n)))
    have hD : va_D A (bAB k u_9 (gcap cap m) (cpy (fun _ => 0) 0 f 0 cap) ++ (bAB k b cap f ++ bSO k a u_9 n)) := vD_perm hD (pmS (bAB k b cap f) (pm0 (bAB k u_9 (gcap cap m) (cpy (fun _ => 0) 0 f 0 cap)) (bSO k a u_9 n)))
    have hP : va_P D vwCl (bSO k a u_9 n ++ (bAB k u_9 (gcap cap m) (cpy (fun _ => 0) 0 f 0 cap) ++ bAB k b cap f)) H := vP_perm hP (pmX (pmS (bAB k u_9 (gcap cap m) (cpy (fun _ => 0) 0 f 0 cap)) (pmS (bAB k b cap f) (pmE (bSO k a u_9 n)))))
    have hD : va_D A (bSO k a u_9 n ++ (bAB k u_9 (gcap cap m) (cpy (fun _ => 0) 0 f 0 cap) ++ bAB k b cap f)) := vD_perm hD (pmX (pmS (bAB k u_9 (gcap cap m) (cpy (fun _ => 0) 0 f 0 cap)) (pmS (bAB k b cap f) (pmE (bSO k a u_9 n)))))
    have hP : va_P D vwCl ((bSO k a u_9 n ++ bAB k u_9 (gcap cap m) (cpy (fun _ => 0) 0 f 0 cap)) ++ bAB k b cap f) H := vP_perm hP (pa2 _ _ _)
    have hD : va_D A ((bSO k a u_9 n ++ bAB k u_9 (gcap cap m) (cpy (fun _ => 0) 0 f 0 cap)) ++ bAB k b cap f) := vD_perm hD (pa2 _ _ _)
    have hP : va_P D vwCl (bSO k a u_9 n ++ bAB k u_9 (gcap cap m) (cpy (fun _ => 0) 0 f 0 cap)) H := vP_left hP
    have hD : va_D A (bSO k a u_9 n ++ bAB k u_9 (gcap cap m) (cpy (fun _ => 0) 0 f 0 cap)) := vD_left hD
    refine W.widen (k := 1) (n := gms cap m) (Nat.le_of_ble_eq_true rfl) (by show (gcap cap m) ≤ gms cap m; first | omega | (unfold gms gcap; omega) | (unfold gms; rw [if_neg (by omega)]; omega)) ?_
    exact W.vret hx hb hr (fun t9 ht hW => ⟨⟨(u_9, cpy (fun _ => 0) 0 f 0 cap), rfl, (by exact ⟨Bf_cpy (Bf_0 _) hf (by omega), fun j hj => by rw [cpy_at, if_pos (by omega)]; congr 1; omega⟩), ⟨by rw [ht]; exact hP, va_K.moved hW.alike hK, hD⟩⟩, hS.F ht⟩) hS.2.2 dJ5_ensureCapacityInternal_d00df_38 hlocks

set_option maxHeartbeats 4000000 in
set_option maxRecDepth 100000 in
theorem t_J5_append_3fe6f (l9 : Launch) (hl9 : l9.stackTraces = false) (E : EK) (D : va_G) (k : Nat → ClassId) (sz : Nat) (a b n cap : Nat) (f : Nat → Int32) (q : Nat) (hq : q < 128) (hn2 : n + 1 < 2 ^ 28) (hcap : cap < 2 ^ 28) (hn : n ≤ cap) (hf : Bf f cap) : Met l9 yJ5_append_3fe6f wsJ5_append_3fe6f ({ frames := 4, cells := 1, slots := gms cap (n + 1), locals := 104 }) (TPc E D k [.ref a, .int (nI q)] (bSO k a b n ++ bAB k b cap f) sz) (va_Qq (fun (r : Option Nat) (u9 : Nat × (Nat → Int32)) => r = some a ∧ Bf u9.2 (gcap cap (n + 1)) ∧ u9.2 n = nI q ∧ ∀ j, j < n → u9.2 j = f j) (TB D k (va_A (bSO k a b n ++ bAB k b cap f) sz) (fun u9 : Nat × (Nat → Int32) => bSO k a u9.1 (n + 1) ++ bAB k u9.1 (gcap cap (n + 1)) u9.2)) (va_A (bSO k a b n ++ bAB k b cap f) sz)) (1) (gms cap (n + 1)) (va_A (bSO k a b n ++ bAB k b cap f) sz) := by
  refine tMet (y := yJ5_append_3fe6f) (cc := cJ5_append_3fe6f) (maxL := 2) (ret := (some (.object "java/lang/AbstractStringBuilder"))) (Qc := fun A => va_Qq (fun (r : Option Nat) (u9 : Nat × (Nat → Int32)) => r = some a ∧ Bf u9.2 (gcap cap (n + 1)) ∧ u9.2 n = nI q ∧ ∀ j, j < n → u9.2 j = f j) (TB D k (A) (fun u9 : Nat × (Nat → Int32) => bSO k a u9.1 (n + 1) ++ bAB k u9.1 (gcap cap (n + 1)) u9.2)) (A)) [.ref a, .int (nI q)] (by decide) rfl (Nat.le_of_ble_eq_true rfl) ?_
  intro p9 e9 s9 m9 bl9 me9 c9 ls A H hF hr hlocks hP hK hE hD hA hS hl hin
  have hl : lv_has ls 2 [(0, .ref a), (1, .int (nI q))] := hl
  obtain ⟨hx, hb, hml, hown, hts⟩ := id hF
  have k_fieldLink_79 : (Cond.fieldLink RJ5 79 "java/lang/AbstractStringBuilder" "count" "I").before _ s9 = true := hts (.fieldLink RJ5 79 "java/lang/AbstractStringBuilder" "count" "I") (by decide +kernel)
  have kc_RJ4 : ∀ w ∈ u_ws RJ4 TJ4 4, w ∈ wsJ5_append_3fe6f := by decide +kernel
  have k_fieldLink_15 : (Cond.fieldLink RJ5 15 "java/lang/AbstractStringBuilder" "value" "[B").before _ s9 = true := hts (.fieldLink RJ5 15 "java/lang/AbstractStringBuilder" "value" "[B") (by decide +kernel)
  refine lv_aload_n hx hb dJ5_append_3fe6f_0 rfl (lv_at hl 0 rfl) ?_
  refine lv_aload_n hx hb dJ5_append_3fe6f_1 rfl (lv_at hl 0 rfl) ?_
  refine va_get (D := D) (ci := 1) (v := .int (nI n)) (C := RJ4) (T := TJ4) (N := 4) hx hb hts kc_RJ4 hown hK hP 0 rfl rfl 3 (by decide) k_fieldLink_79 (fun _ h9 => h9) rfl dJ5_append_3fe6f_2 ?_
  refine lv_iconst (v := 1) hx hb dJ5_append_3fe6f_5 (by decide) ?_
  refine ni_add hx hb n 1 dJ5_append_3fe6f_6 ?_
  have hFc := tFree hD hS hA
  refine va_callv (va_runU (As := [.int (nI (n + 1))]) (rest := []) hF (t_J5_ensureCapacityInternal_d00df l9 hl9 E D k H.size a b n cap f (n + 1) (by omega) (by omega) hf) (va_cwU 1 hts gJ5_append_3fe6f_J5_ensureCapacityInternal_d00df_u100J4 rfl rfl rfl rfl (by decide +kernel) ⟨Nat.le_of_ble_eq_true rfl, Nat.le_of_ble_eq_true rfl⟩) (tPreV (rcv hK hP 0 1 rfl rfl) hK hE hS hA hP hD) rfl rfl hl.1 rfl (lv_room (Nat.le_of_ble_eq_true rfl)) dJ5_append_3fe6f_7 ⟨(Nat.le_of_ble_eq_true rfl), (by show gms cap (n + 1) ≤ gms cap (n + 1); omega)⟩) hS (fun q _ h => hFc q h) hFc (fun u_3 t9 H1 locs ht hvm h7 hB hz1 hk1 hS => ?_)
  obtain ⟨hP, -, hD⟩ := hB
  rw [ht] at hP
  replace hP : va_P D vwCl (bSO k a u_3.1 n ++ bAB k u_3.1 (gcap cap (n + 1)) u_3.2) H1 := hP
  replace hD : va_D A (bSO k a u_3.1 n ++ bAB k u_3.1 (gcap cap (n + 1)) u_3.2) := hD.weaken (fun _ q _ h => hFc q.1 h)
  replace h7 : Bf u_3.2 (gcap cap (n + 1)) ∧ ∀ j, j < cap → u_3.2 j = f j := h7
  clear hz1 hvm hFc hk1 ht
  clear t9
  generalize H1 = H at hP hS ⊢
  refine lv_aload_n hx hb dJ5_append_3fe6f_10 rfl (lv_at hl 0 rfl) ?_
  have hFc := tFree hD hS hA
  refine va_calli (va_runU (As := []) (rest := []) hF (fr_i (bAB k u_3.1 (gcap cap (n + 1)) u_3.2) (t_J5_isLatin1_aae02 l9 hl9 E D k H.size a u_3.1 n )) (va_cwU 0 hts gJ5_append_3fe6f_J5_isLatin1_aae02_u83J4 rfl rfl rfl rfl (by decide +kernel) ⟨Nat.le_of_ble_eq_true rfl, Nat.le_of_ble_eq_true rfl⟩) (tPreV (rcv hK hP 0 1 rfl rfl) hK hE hS hA hP hD) rfl rfl hl.1 rfl (lv_room (Nat.le_of_ble_eq_true rfl)) dJ5_append_3fe6f_11 ⟨(Nat.le_of_ble_eq_true rfl), (by show gms cap (n + 1) ≤ gms cap (n + 1); omega)⟩) hS (fun q _ h => hFc q h) hFc (fun r_5 u_6 t9 H1 locs ht hvm hw_7 hB hz1 hk1 hS => ?_)
  obtain ⟨hP, -, hD⟩ := hB
  rw [ht] at hP
  replace hP : va_P D vwCl ((bSO k a u_3.1 n) ++ bAB k u_3.1 (gcap cap (n + 1)) u_3.2) H1 := hP
  replace hD : va_D A ((bSO k a u_3.1 n) ++ bAB k u_3.1 (gcap cap (n + 1)) u_3.2) := hD.weaken (fun _ q _ h => hFc q.1 h)
  replace hw_7 : r_5 = 1 := hw_7
  clear hz1 hvm hFc hk1 ht
  clear t9
  generalize H1 = H at hP hS ⊢
  refine lv_tope (v2 := .int 1) (by rw [hw_7]) ?_
  refine lv_if_eq (tgt := 45) hx hb dJ5_append_3fe6f_14 (by decide) (fun c_8 => ?_) (fun c_8 => ?_)
  · first | exact absurd c_8 (by decide) | exact absurd (by decide) c_8
  · skip
    refine lv_iload_n hx hb dJ5_append_3fe6f_17 rfl (lv_at hl 1 rfl) ?_
    have hP : va_P D vwCl ([] ++ (bSO k a u_3.1 n ++ bAB k u_3.1 (gcap cap (n + 1)) u_3.2)) H := hP
    have hD : va_D A ([] ++ (bSO k a u_3.1 n ++ bAB k u_3.1 (gcap cap (n + 1)) u_3.2)) := hD
    have hFc := tFree hD hS hA
    refine va_calli (va_runS (As := [.int (nI q)]) (rest := []) hF (fr_i (bSO k a u_3.1 n ++ bAB k u_3.1 (gcap cap (n + 1)) u_3.2) (t_J1_canEncode_fc78d l9 hl9 E D k H.size q (by omega))) (va_cwS 1 hts gJ5_append_3fe6f_J1_canEncode_fc78d rfl rfl rfl (by decide +kernel) ⟨Nat.le_of_ble_eq_true rfl, Nat.le_of_ble_eq_true rfl⟩) (tPreS hK hE hS hA hP hD) rfl rfl hl.1 rfl (lv_room (Nat.le_of_ble_eq_true rfl)) dJ5_append_3fe6f_18 ⟨(Nat.le_of_ble_eq_true rfl), (by show gms cap (n + 1) ≤ gms cap (n + 1); omega)⟩) hS (fun q _ h => hFc q h) hFc (fun r_10 u_11 t9 H1 locs ht hvm hw_12 hB hz1 hk1 hS => ?_)
    obtain ⟨hP, -, hD⟩ := hB
    rw [ht] at hP
    replace hP : va_P D vwCl (([]) ++ (bSO k a u_3.1 n ++ bAB k u_3.1 (gcap cap (n + 1)) u_3.2)) H1 := hP
    replace hD : va_D A (([]) ++ (bSO k a u_3.1 n ++ bAB k u_3.1 (gcap cap (n + 1)) u_3.2)) := hD.weaken (fun _ q _ h => hFc q.1 h)
    replace hP : va_P D vwCl (bSO k a u_3.1 n ++ bAB k u_3.1 (gcap cap (n + 1)) u_3.2) H1 := hP
    replace hD : va_D A (bSO k a u_3.1 n ++ bAB k u_3.1 (gcap cap (n + 1)) u_3.2) := hD
    replace hw_12 : r_10 = 1 := hw_12
    clear hz1 hvm hFc hk1 ht
    clear t9
    generalize H1 = H at hP hS ⊢
    refine lv_tope (v2 := .int 1) (by rw [hw_12]) ?_
    refine lv_if_eq (tgt := 45) hx hb dJ5_append_3fe6f_21 (by decide) (fun c_13 => ?_) (fun c_13 => ?_)
    · first | exact absurd c_13 (by decide) | exact absurd (by decide) c_13
    · skip
      refine lv_aload_n hx hb dJ5_append_3fe6f_24 rfl (lv_at hl 0 rfl) ?_
      refine va_get (D := D) (ci := 1) (v := .ref u_3.1) (C := RJ4) (T := TJ4) (N := 4) hx hb hts kc_RJ4 hown hK hP 0 rfl rfl 0 (by decide) k_fieldLink_15 (fun _ h9 => h9) rfl dJ5_append_3fe6f_25 ?_
      refine lv_aload_n hx hb dJ5_append_3fe6f_28 rfl (lv_at hl 0 rfl) ?_
      refine lv_dup hx hb dJ5_append_3fe6f_29 rfl ?_
      refine va_get (D := D) (ci := 1) (v := .int (nI n)) (C := RJ4) (T := TJ4) (N := 4) hx hb hts kc_RJ4 hown hK hP 0 rfl rfl 3 (by decide) k_fieldLink_79 (fun _ h9 => h9) rfl dJ5_append_3fe6f_30 ?_
      refine lv_dup_x1 hx hb dJ5_append_3fe6f_33 rfl rfl ?_
      refine lv_iconst (v := 1) hx hb dJ5_append_3fe6f_34 (by decide) ?_
      refine ni_add hx hb n 1 dJ5_append_3fe6f_35 ?_
      refine va_put (D := D) (ci := 1) (v := .int (nI (n + 1))) (ty := .int) (C := RJ4) (T := TJ4) (N := 4) hx hb hts kc_RJ4 tyJ4 tyJ4_ok nmJ4 hown hK hP hD hS 0 rfl rfl 3 (by decide) k_fieldLink_79 (fun _ h9 => h9) rfl (by decide +kernel) rfl rfl (Nat.le_of_ble_eq_true rfl) dJ5_append_3fe6f_36 (fun H locs hP hD hS => ?_)
      have hP : va_P D vwCl (bSO k a u_3.1 (n + 1) ++ bAB k u_3.1 (gcap cap (n + 1)) u_3.2) H := hP
      have hD : va_D A (bSO k a u_3.1 (n + 1) ++ bAB k u_3.1 (gcap cap (n + 1)) u_3.2) := hD
      refine lv_iload_n hx hb dJ5_append_3fe6f_39 rfl (lv_at hl 1 rfl) ?_
      refine lv_i2b (v := nI q) hx hb dJ5_append_3fe6f_40 (b7 hq) ?_
      refine by_st hx hb hK hP hD hS 1 rfl n (by have := gcap_ge cap (n + 1); omega) (by have := gcap_lt (cap := cap) (n := n + 1) (b := 2 ^ 28) (by omega) (by omega); omega) (nar7 ⟨q, hq, rfl⟩) (bSO k a u_3.1 (n + 1) ++ bAB k u_3.1 (gcap cap (n + 1)) (upd u_3.2 n (nI q))) rfl dJ5_append_3fe6f_41 (fun H locs hP hD hS => ?_)
      refine lv_goto (tgt := 75) hx hb dJ5_append_3fe6f_42 (by decide) ?_
      refine lv_aload_n hx hb dJ5_append_3fe6f_75 rfl (lv_at hl 0 rfl) ?_
      exact W.aret (v := .ref a) hx hb hr (Or.inl ⟨_, rfl⟩) (Or.inr ⟨_, rfl⟩) (fun t9 ht hW => ⟨⟨some a, (u_3.1, upd u_3.2 n (nI q)), rfl, (by exact ⟨rfl, Bf_upd h7.1 (fit7 ⟨q, hq, rfl⟩), (by rw [upd_at, if_pos rfl]), fun j hj => (by rw [upd_at, if_neg (by omega)]; exact h7.2 j (by omega))⟩), ⟨by rw [ht]; exact hP, va_K.moved hW.alike hK, hD⟩⟩, hS.F ht⟩) hS.2.2 dJ5_append_3fe6f_76 hlocks

set_option maxHeartbeats 4000000 in
set_option maxRecDepth 100000 in
theorem t_J4_append_cf468 (l9 : Launch) (hl9 : l9.stackTraces = false) (E : EK) (D : va_G) (k : Nat → ClassId) (sz : Nat) (a b n cap : Nat) (f : Nat → Int32) (q : Nat) (hq : q < 128) (hn2 : n + 1 < 2 ^ 28) (hcap : cap < 2 ^ 28) (hn : n ≤ cap) (hf : Bf f cap) : Met l9 yJ4_append_cf468 wsJ4_append_cf468 ({ frames := 5, cells := 1, slots := gms cap (n + 1), locals := 125 }) (TPc E D k [.ref a, .int (nI q)] (bSO k a b n ++ bAB k b cap f) sz) (va_Qq (fun (r : Option Nat) (u9 : Nat × (Nat → Int32)) => r = some a ∧ Bf u9.2 (gcap cap (n + 1)) ∧ u9.2 n = nI q ∧ ∀ j, j < n → u9.2 j = f j) (TB D k (va_A (bSO k a b n ++ bAB k b cap f) sz) (fun u9 : Nat × (Nat → Int32) => bSO k a u9.1 (n + 1) ++ bAB k u9.1 (gcap cap (n + 1)) u9.2)) (va_A (bSO k a b n ++ bAB k b cap f) sz)) (1) (gms cap (n + 1)) (va_A (bSO k a b n ++ bAB k b cap f) sz) := by
  refine tMet (y := yJ4_append_cf468) (cc := cJ4_append_cf468) (maxL := 2) (ret := (some (.object "java/lang/StringBuilder"))) (Qc := fun A => va_Qq (fun (r : Option Nat) (u9 : Nat × (Nat → Int32)) => r = some a ∧ Bf u9.2 (gcap cap (n + 1)) ∧ u9.2 n = nI q ∧ ∀ j, j < n → u9.2 j = f j) (TB D k (A) (fun u9 : Nat × (Nat → Int32) => bSO k a u9.1 (n + 1) ++ bAB k u9.1 (gcap cap (n + 1)) u9.2)) (A)) [.ref a, .int (nI q)] (by decide) rfl (Nat.le_of_ble_eq_true rfl) ?_
  intro p9 e9 s9 m9 bl9 me9 c9 ls A H hF hr hlocks hP hK hE hD hA hS hl hin
  have hl : lv_has ls 2 [(0, .ref a), (1, .int (nI q))] := hl
  obtain ⟨hx, hb, hml, hown, hts⟩ := id hF
  refine lv_aload_n hx hb dJ4_append_cf468_0 rfl (lv_at hl 0 rfl) ?_
  refine lv_iload_n hx hb dJ4_append_cf468_1 rfl (lv_at hl 1 rfl) ?_
  have hFc := tFree hD hS hA
  refine va_callq (va_runSU (As := [.int (nI q)]) (rest := []) (hK.1 1 _ rfl).2 hF (t_J5_append_3fe6f l9 hl9 E D k H.size a b n cap f q hq hn2 hcap hn hf) (va_cwSU 1 hts gJ4_append_cf468_J5_append_3fe6f_s50 rfl rfl rfl (by decide +kernel) ⟨Nat.le_of_ble_eq_true rfl, Nat.le_of_ble_eq_true rfl⟩) (tPreV (rcv hK hP 0 1 rfl rfl) hK hE hS hA hP hD) rfl rfl hl.1 rfl (lv_room (Nat.le_of_ble_eq_true rfl)) dJ4_append_cf468_2 ⟨(Nat.le_of_ble_eq_true rfl), (by show gms cap (n + 1) ≤ gms cap (n + 1); omega)⟩) hS (fun q _ h => hFc q h) hFc (fun r_2 u_3 t9 H1 locs ht hvm h2 hB hz1 hk1 hS => ?_)
  obtain ⟨hP, -, hD⟩ := hB
  rw [ht] at hP
  replace hP : va_P D vwCl (bSO k a u_3.1 (n + 1) ++ bAB k u_3.1 (gcap cap (n + 1)) u_3.2) H1 := hP
  replace hD : va_D A (bSO k a u_3.1 (n + 1) ++ bAB k u_3.1 (gcap cap (n + 1)) u_3.2) := hD.weaken (fun _ q _ h => hFc q.1 h)
  replace h2 : r_2 = some a ∧ Bf u_3.2 (gcap cap (n + 1)) ∧ u_3.2 n = nI q ∧ ∀ j, j < n → u_3.2 j = f j := h2
  clear hz1 hvm hFc hk1 ht
  clear t9
  generalize H1 = H at hP hS ⊢
  refine lv_tope (v2 := .ref a) (by rw [h2.1]; rfl) ?_
  refine lv_pop hx hb dJ4_append_cf468_5 rfl ?_
  refine lv_aload_n hx hb dJ4_append_cf468_6 rfl (lv_at hl 0 rfl) ?_
  exact W.aret (v := .ref a) hx hb hr (Or.inl ⟨_, rfl⟩) (Or.inr ⟨_, rfl⟩) (fun t9 ht hW => ⟨⟨some a, u_3, rfl, (by exact ⟨rfl, h2.2⟩), ⟨by rw [ht]; exact hP, va_K.moved hW.alike hK, hD⟩⟩, hS.F ht⟩) hS.2.2 dJ4_append_cf468_7 hlocks

set_option maxHeartbeats 4000000 in
set_option maxRecDepth 100000 in
theorem t_J0_coder_7d493 (l9 : Launch) (hl9 : l9.stackTraces = false) (E : EK) (D : va_G) (k : Nat → ClassId) (sz : Nat) (s t : Nat) : Met l9 yJ0_coder_7d493 wsJ0_coder_7d493 ({ frames := 0, cells := 0, slots := 0, locals := 0 }) (TPc E D k [.ref s] (bTO k s t) sz) (va_Qi (fun (r : Int32) (u9 : Unit) => r = 0) (TB D k (va_A (bTO k s t) sz) (fun u9 : Unit => bTO k s t)) (va_A (bTO k s t) sz)) (0) (0) (va_A (bTO k s t) sz) := by
  refine tMet (y := yJ0_coder_7d493) (cc := cJ0_coder_7d493) (maxL := 1) (ret := (some .byte)) (Qc := fun A => va_Qi (fun (r : Int32) (u9 : Unit) => r = 0) (TB D k (A) (fun u9 : Unit => bTO k s t)) (A)) [.ref s] (by decide) rfl (Nat.le_of_ble_eq_true rfl) ?_
  intro p9 e9 s9 m9 bl9 me9 c9 ls A H hF hr hlocks hP hK hE hD hA hS hl hin
  have hl : lv_has ls 1 [(0, .ref s)] := hl
  obtain ⟨hx, hb, hml, hown, hts⟩ := id hF
  have k_fieldLink_38 : (Cond.fieldLink RJ0 38 "java/lang/String" "COMPACT_STRINGS" "Z").before _ s9 = true := hts (.fieldLink RJ0 38 "java/lang/String" "COMPACT_STRINGS" "Z") (by decide +kernel)
  have k_fieldLink_15 : (Cond.fieldLink RJ0 15 "java/lang/String" "coder" "B").before _ s9 = true := hts (.fieldLink RJ0 15 "java/lang/String" "coder" "B") (by decide +kernel)
  have kc_RJ0 : ∀ w ∈ u_ws RJ0 TJ0 4, w ∈ wsJ0_coder_7d493 := by decide +kernel
  refine va_gets hx hb hE.2.2.2.2.2.1.2.2.2.2.2.2.1 hS hown k_fieldLink_38 (fun _ h9 => h9) dJ0_coder_7d493_0 ?_
  refine lv_if_eq (tgt := 13) hx hb dJ0_coder_7d493_3 (by decide) (fun c_1 => ?_) (fun c_1 => ?_)
  · first | exact absurd c_1 (by decide) | exact absurd (by decide) c_1
  · skip
    refine lv_aload_n hx hb dJ0_coder_7d493_6 rfl (lv_at hl 0 rfl) ?_
    refine va_get (D := D) (ci := 0) (v := .int 0) (C := RJ0) (T := TJ0) (N := 4) hx hb hts kc_RJ0 hown hK hP 0 rfl rfl 1 (by decide) k_fieldLink_15 (fun _ h9 => h9) rfl dJ0_coder_7d493_7 ?_
    refine lv_goto (tgt := 14) hx hb dJ0_coder_7d493_10 (by decide) ?_
    exact W.zret (v := 0) hx hb hr (rfl) (fun t9 ht hW => ⟨⟨_, (), rfl, (by rfl), ⟨by rw [ht]; exact hP, va_K.moved hW.alike hK, hD⟩⟩, hS.F ht⟩) hS.2.2 dJ0_coder_7d493_14 hlocks

set_option maxHeartbeats 4000000 in
set_option maxRecDepth 100000 in
theorem tk_J0_coder (l9 : Launch) (hl9 : l9.stackTraces = false) (E : EK) (D : va_G) (k : Nat → ClassId) (sz : Nat) (i : Nat) (hi : i < 7) : Met l9 yJ0_coder_7d493 wsJ0_coder_7d493 ({ frames := 0, cells := 0, slots := 0, locals := 0 }) (TPc E D k [.ref (kjs E i)] ([]) sz) (va_Qi (fun (r : Int32) (u9 : Unit) => r = 0) (TB D k (va_A ([]) sz) (fun u9 : Unit => [])) (va_A ([]) sz)) (0) (0) (va_A ([]) sz) := by
  refine tMet (y := yJ0_coder_7d493) (cc := cJ0_coder_7d493) (maxL := 1) (ret := (some .byte)) (Qc := fun A => va_Qi (fun (r : Int32) (u9 : Unit) => r = 0) (TB D k (A) (fun u9 : Unit => [])) (A)) [.ref (kjs E i)] (by decide) rfl (Nat.le_of_ble_eq_true rfl) ?_
  intro p9 e9 s9 m9 bl9 me9 c9 ls A H hF hr hlocks hP hK hE hD hA hS hl hin
  have hl : lv_has ls 1 [(0, .ref (kjs E i))] := hl
  obtain ⟨hx, hb, hml, hown, hts⟩ := id hF
  have k_fieldLink_38 : (Cond.fieldLink RJ0 38 "java/lang/String" "COMPACT_STRINGS" "Z").before _ s9 = true := hts (.fieldLink RJ0 38 "java/lang/String" "COMPACT_STRINGS" "Z") (by decide +kernel)
  have k_fieldLink_15 : (Cond.fieldLink RJ0 15 "java/lang/String" "coder" "B").before _ s9 = true := hts (.fieldLink RJ0 15 "java/lang/String" "coder" "B") (by decide +kernel)
  refine va_gets hx hb hE.2.2.2.2.2.1.2.2.2.2.2.2.1 hS hown k_fieldLink_38 (fun _ h9 => h9) dJ0_coder_7d493_0 ?_
  refine lv_if_eq (tgt := 13) hx hb dJ0_coder_7d493_3 (by decide) (fun c_1 => ?_) (fun c_1 => ?_)
  · first | exact absurd c_1 (by decide) | exact absurd (by decide) c_1
  · skip
    refine lv_aload_n hx hb dJ0_coder_7d493_6 rfl (lv_at hl 0 rfl) ?_
    refine vk_getf hx hb (hE.2.2.2.2.2.2.1.1 i (by omega)).2.1 hS hown k_fieldLink_15 (fun _ h9 => h9) dJ0_coder_7d493_7 ?_
    refine lv_goto (tgt := 14) hx hb dJ0_coder_7d493_10 (by decide) ?_
    exact W.zret (v := 0) hx hb hr (rfl) (fun t9 ht hW => ⟨⟨_, (), rfl, (by rfl), ⟨by rw [ht]; exact hP, va_K.moved hW.alike hK, hD⟩⟩, hS.F ht⟩) hS.2.2 dJ0_coder_7d493_14 hlocks

set_option maxHeartbeats 4000000 in
set_option maxRecDepth 100000 in
theorem t_J0_length_8abf5 (l9 : Launch) (hl9 : l9.stackTraces = false) (E : EK) (D : va_G) (k : Nat → ClassId) (sz : Nat) (s t m : Nat) (g : Nat → Int32) : Met l9 yJ0_length_8abf5 wsJ0_length_8abf5 ({ frames := 1, cells := 0, slots := 0, locals := 20 }) (TPc E D k [.ref s] (bTO k s t ++ bAB k t m g) sz) (va_Qi (fun (r : Int32) (u9 : Unit) => r = nI m) (TB D k (va_A (bTO k s t ++ bAB k t m g) sz) (fun u9 : Unit => bTO k s t ++ bAB k t m g)) (va_A (bTO k s t ++ bAB k t m g) sz)) (0) (0) (va_A (bTO k s t ++ bAB k t m g) sz) := by
  refine tMet (y := yJ0_length_8abf5) (cc := cJ0_length_8abf5) (maxL := 1) (ret := (some .int)) (Qc := fun A => va_Qi (fun (r : Int32) (u9 : Unit) => r = nI m) (TB D k (A) (fun u9 : Unit => bTO k s t ++ bAB k t m g)) (A)) [.ref s] (by decide) rfl (Nat.le_of_ble_eq_true rfl) ?_
  intro p9 e9 s9 m9 bl9 me9 c9 ls A H hF hr hlocks hP hK hE hD hA hS hl hin
  have hl : lv_has ls 1 [(0, .ref s)] := hl
  obtain ⟨hx, hb, hml, hown, hts⟩ := id hF
  have k_fieldLink_9 : (Cond.fieldLink RJ0 9 "java/lang/String" "value" "[B").before _ s9 = true := hts (.fieldLink RJ0 9 "java/lang/String" "value" "[B") (by decide +kernel)
  have kc_RJ0 : ∀ w ∈ u_ws RJ0 TJ0 4, w ∈ wsJ0_length_8abf5 := by decide +kernel
  refine lv_aload_n hx hb dJ0_length_8abf5_0 rfl (lv_at hl 0 rfl) ?_
  refine va_get (D := D) (ci := 0) (v := .ref t) (C := RJ0) (T := TJ0) (N := 4) hx hb hts kc_RJ0 hown hK hP 0 rfl rfl 0 (by decide) k_fieldLink_9 (fun _ h9 => h9) rfl dJ0_length_8abf5_1 ?_
  refine va_alen (v := nI m) hx hb hK hP 1 8 rfl rfl rfl dJ0_length_8abf5_4 ?_
  refine lv_aload_n hx hb dJ0_length_8abf5_5 rfl (lv_at hl 0 rfl) ?_
  have hFc := tFree hD hS hA
  refine va_calli (va_runV (As := []) (rest := [.int (nI m)]) hF (fr_i (bAB k t m g) (t_J0_coder_7d493 l9 hl9 E D k H.size s t )) (cwV 0 hts gJ0_length_8abf5_J0_coder_7d493 rfl rfl rfl (by decide +kernel) ⟨Nat.le_of_ble_eq_true rfl, Nat.le_of_ble_eq_true rfl⟩) (tPreV (rcv hK hP 0 0 rfl rfl) hK hE hS hA hP hD) rfl rfl hl.1 rfl (lv_room (Nat.le_of_ble_eq_true rfl)) dJ0_length_8abf5_6 ⟨(Nat.le_of_ble_eq_true rfl), (Nat.le_of_ble_eq_true rfl)⟩) hS (fun q _ h => hFc q h) hFc (fun r_2 u_3 t9 H1 locs ht hvm hw_4 hB hz1 hk1 hS => ?_)
  obtain ⟨hP, -, hD⟩ := hB
  rw [ht] at hP
  replace hP : va_P D vwCl ((bTO k s t) ++ bAB k t m g) H1 := hP
  replace hD : va_D A ((bTO k s t) ++ bAB k t m g) := hD.weaken (fun _ q _ h => hFc q.1 h)
  replace hw_4 : r_2 = 0 := hw_4
  clear hz1 hvm hFc hk1 ht
  clear t9
  generalize H1 = H at hP hS ⊢
  refine lv_tope (v2 := .int 0) (by rw [hw_4]) ?_
  refine lv_ishr hx hb dJ0_length_8abf5_9 ?_
  refine lv_tope (v2 := .int (nI m)) (congrArg Value.int (shr0 _)) ?_
  exact W.iret (v := nI m) hx hb hr (fun t9 ht hW => ⟨⟨_, (), rfl, (by rfl), ⟨by rw [ht]; exact hP, va_K.moved hW.alike hK, hD⟩⟩, hS.F ht⟩) hS.2.2 dJ0_length_8abf5_10 hlocks

set_option maxHeartbeats 4000000 in
set_option maxRecDepth 100000 in
theorem tk_J0_length (l9 : Launch) (hl9 : l9.stackTraces = false) (E : EK) (D : va_G) (k : Nat → ClassId) (sz : Nat) (i : Nat) (hi : i < 7) : Met l9 yJ0_length_8abf5 wsJ0_length_8abf5 ({ frames := 1, cells := 0, slots := 0, locals := 20 }) (TPc E D k [.ref (kjs E i)] ([]) sz) (va_Qi (fun (r : Int32) (u9 : Unit) => r = nI (ln2 i)) (TB D k (va_A ([]) sz) (fun u9 : Unit => [])) (va_A ([]) sz)) (0) (0) (va_A ([]) sz) := by
  refine tMet (y := yJ0_length_8abf5) (cc := cJ0_length_8abf5) (maxL := 1) (ret := (some .int)) (Qc := fun A => va_Qi (fun (r : Int32) (u9 : Unit) => r = nI (ln2 i)) (TB D k (A) (fun u9 : Unit => [])) (A)) [.ref (kjs E i)] (by decide) rfl (Nat.le_of_ble_eq_true rfl) ?_
  intro p9 e9 s9 m9 bl9 me9 c9 ls A H hF hr hlocks hP hK hE hD hA hS hl hin
  have hl : lv_has ls 1 [(0, .ref (kjs E i))] := hl
  obtain ⟨hx, hb, hml, hown, hts⟩ := id hF
  have k_fieldLink_9 : (Cond.fieldLink RJ0 9 "java/lang/String" "value" "[B").before _ s9 = true := hts (.fieldLink RJ0 9 "java/lang/String" "value" "[B") (by decide +kernel)
  refine lv_aload_n hx hb dJ0_length_8abf5_0 rfl (lv_at hl 0 rfl) ?_
  refine vk_getf hx hb (hE.2.2.2.2.2.2.1.1 i (by omega)).2.2.1 hS hown k_fieldLink_9 (fun _ h9 => h9) dJ0_length_8abf5_1 ?_
  refine va_tlen (v := nI (ln2 i)) hx hb (hE.2.2.2.2.2.2.1.1 i (by omega)).2.2.2 hS rfl dJ0_length_8abf5_4 ?_
  refine lv_aload_n hx hb dJ0_length_8abf5_5 rfl (lv_at hl 0 rfl) ?_
  have hP : va_P D vwCl ([] ++ ([])) H := hP
  have hD : va_D A ([] ++ ([])) := hD
  have hFc := tFree hD hS hA
  refine va_calli (va_runV (As := []) (rest := [.int (nI (ln2 i))]) hF (tk_J0_coder l9 hl9 E D k H.size i hi) (cwV 0 hts gJ0_length_8abf5_J0_coder_7d493 rfl rfl rfl (by decide +kernel) ⟨Nat.le_of_ble_eq_true rfl, Nat.le_of_ble_eq_true rfl⟩) (tPreV (vk_recv hE.2.2.2.2.2.2.1 (by omega) hS) hK hE hS hA hP hD) rfl rfl hl.1 rfl (lv_room (Nat.le_of_ble_eq_true rfl)) dJ0_length_8abf5_6 ⟨(Nat.le_of_ble_eq_true rfl), (Nat.le_of_ble_eq_true rfl)⟩) hS (fun q _ h => hFc q h) hFc (fun r_2 u_3 t9 H1 locs ht hvm hw_4 hB hz1 hk1 hS => ?_)
  obtain ⟨hP, -, hD⟩ := hB
  rw [ht] at hP
  replace hP : va_P D vwCl ([]) H1 := hP
  replace hD : va_D A ([]) := hD.weaken (fun _ q _ h => hFc q.1 h)
  replace hw_4 : r_2 = 0 := hw_4
  clear hz1 hvm hFc hk1 ht
  clear t9
  generalize H1 = H at hP hS ⊢
  refine lv_tope (v2 := .int 0) (by rw [hw_4]) ?_
  refine lv_ishr hx hb dJ0_length_8abf5_9 ?_
  refine lv_tope (v2 := .int (nI (ln2 i))) (congrArg Value.int (shr0 _)) ?_
  exact W.iret (v := nI (ln2 i)) hx hb hr (fun t9 ht hW => ⟨⟨_, (), rfl, (by rfl), ⟨by rw [ht]; exact hP, va_K.moved hW.alike hK, hD⟩⟩, hS.F ht⟩) hS.2.2 dJ0_length_8abf5_10 hlocks

set_option maxHeartbeats 4000000 in
set_option maxRecDepth 100000 in
theorem t_J0_isLatin1_aae02 (l9 : Launch) (hl9 : l9.stackTraces = false) (E : EK) (D : va_G) (k : Nat → ClassId) (sz : Nat) (s t : Nat) : Met l9 yJ0_isLatin1_aae02 wsJ0_isLatin1_aae02 ({ frames := 0, cells := 0, slots := 0, locals := 0 }) (TPc E D k [.ref s] (bTO k s t) sz) (va_Qi (fun (r : Int32) (u9 : Unit) => r = 1) (TB D k (va_A (bTO k s t) sz) (fun u9 : Unit => bTO k s t)) (va_A (bTO k s t) sz)) (0) (0) (va_A (bTO k s t) sz) := by
  refine tMet (y := yJ0_isLatin1_aae02) (cc := cJ0_isLatin1_aae02) (maxL := 1) (ret := (some .boolean)) (Qc := fun A => va_Qi (fun (r : Int32) (u9 : Unit) => r = 1) (TB D k (A) (fun u9 : Unit => bTO k s t)) (A)) [.ref s] (by decide) rfl (Nat.le_of_ble_eq_true rfl) ?_
  intro p9 e9 s9 m9 bl9 me9 c9 ls A H hF hr hlocks hP hK hE hD hA hS hl hin
  have hl : lv_has ls 1 [(0, .ref s)] := hl
  obtain ⟨hx, hb, hml, hown, hts⟩ := id hF
  have k_fieldLink_38 : (Cond.fieldLink RJ0 38 "java/lang/String" "COMPACT_STRINGS" "Z").before _ s9 = true := hts (.fieldLink RJ0 38 "java/lang/String" "COMPACT_STRINGS" "Z") (by decide +kernel)
  have k_fieldLink_15 : (Cond.fieldLink RJ0 15 "java/lang/String" "coder" "B").before _ s9 = true := hts (.fieldLink RJ0 15 "java/lang/String" "coder" "B") (by decide +kernel)
  have kc_RJ0 : ∀ w ∈ u_ws RJ0 TJ0 4, w ∈ wsJ0_isLatin1_aae02 := by decide +kernel
  refine va_gets hx hb hE.2.2.2.2.2.1.2.2.2.2.2.2.1 hS hown k_fieldLink_38 (fun _ h9 => h9) dJ0_isLatin1_aae02_0 ?_
  refine lv_if_eq (tgt := 17) hx hb dJ0_isLatin1_aae02_3 (by decide) (fun c_1 => ?_) (fun c_1 => ?_)
  · first | exact absurd c_1 (by decide) | exact absurd (by decide) c_1
  · skip
    refine lv_aload_n hx hb dJ0_isLatin1_aae02_6 rfl (lv_at hl 0 rfl) ?_
    refine va_get (D := D) (ci := 0) (v := .int 0) (C := RJ0) (T := TJ0) (N := 4) hx hb hts kc_RJ0 hown hK hP 0 rfl rfl 1 (by decide) k_fieldLink_15 (fun _ h9 => h9) rfl dJ0_isLatin1_aae02_7 ?_
    refine lv_if_ne (tgt := 17) hx hb dJ0_isLatin1_aae02_10 (by decide) (fun c_2 => ?_) (fun c_2 => ?_)
    · first | exact absurd c_2 (by decide) | exact absurd (by decide) c_2
    · skip
      refine lv_iconst (v := 1) hx hb dJ0_isLatin1_aae02_13 (by decide) ?_
      refine lv_goto (tgt := 18) hx hb dJ0_isLatin1_aae02_14 (by decide) ?_
      exact W.zret (v := 1) hx hb hr (rfl) (fun t9 ht hW => ⟨⟨_, (), rfl, (by rfl), ⟨by rw [ht]; exact hP, va_K.moved hW.alike hK, hD⟩⟩, hS.F ht⟩) hS.2.2 dJ0_isLatin1_aae02_18 hlocks

set_option maxHeartbeats 4000000 in
set_option maxRecDepth 100000 in
theorem tk_J0_isLatin1 (l9 : Launch) (hl9 : l9.stackTraces = false) (E : EK) (D : va_G) (k : Nat → ClassId) (sz : Nat) (i : Nat) (hi : i < 7) : Met l9 yJ0_isLatin1_aae02 wsJ0_isLatin1_aae02 ({ frames := 0, cells := 0, slots := 0, locals := 0 }) (TPc E D k [.ref (kjs E i)] ([]) sz) (va_Qi (fun (r : Int32) (u9 : Unit) => r = 1) (TB D k (va_A ([]) sz) (fun u9 : Unit => [])) (va_A ([]) sz)) (0) (0) (va_A ([]) sz) := by
  refine tMet (y := yJ0_isLatin1_aae02) (cc := cJ0_isLatin1_aae02) (maxL := 1) (ret := (some .boolean)) (Qc := fun A => va_Qi (fun (r : Int32) (u9 : Unit) => r = 1) (TB D k (A) (fun u9 : Unit => [])) (A)) [.ref (kjs E i)] (by decide) rfl (Nat.le_of_ble_eq_true rfl) ?_
  intro p9 e9 s9 m9 bl9 me9 c9 ls A H hF hr hlocks hP hK hE hD hA hS hl hin
  have hl : lv_has ls 1 [(0, .ref (kjs E i))] := hl
  obtain ⟨hx, hb, hml, hown, hts⟩ := id hF
  have k_fieldLink_38 : (Cond.fieldLink RJ0 38 "java/lang/String" "COMPACT_STRINGS" "Z").before _ s9 = true := hts (.fieldLink RJ0 38 "java/lang/String" "COMPACT_STRINGS" "Z") (by decide +kernel)
  have k_fieldLink_15 : (Cond.fieldLink RJ0 15 "java/lang/String" "coder" "B").before _ s9 = true := hts (.fieldLink RJ0 15 "java/lang/String" "coder" "B") (by decide +kernel)
  refine va_gets hx hb hE.2.2.2.2.2.1.2.2.2.2.2.2.1 hS hown k_fieldLink_38 (fun _ h9 => h9) dJ0_isLatin1_aae02_0 ?_
  refine lv_if_eq (tgt := 17) hx hb dJ0_isLatin1_aae02_3 (by decide) (fun c_1 => ?_) (fun c_1 => ?_)
  · first | exact absurd c_1 (by decide) | exact absurd (by decide) c_1
  · skip
    refine lv_aload_n hx hb dJ0_isLatin1_aae02_6 rfl (lv_at hl 0 rfl) ?_
    refine vk_getf hx hb (hE.2.2.2.2.2.2.1.1 i (by omega)).2.1 hS hown k_fieldLink_15 (fun _ h9 => h9) dJ0_isLatin1_aae02_7 ?_
    refine lv_if_ne (tgt := 17) hx hb dJ0_isLatin1_aae02_10 (by decide) (fun c_2 => ?_) (fun c_2 => ?_)
    · first | exact absurd c_2 (by decide) | exact absurd (by decide) c_2
    · skip
      refine lv_iconst (v := 1) hx hb dJ0_isLatin1_aae02_13 (by decide) ?_
      refine lv_goto (tgt := 18) hx hb dJ0_isLatin1_aae02_14 (by decide) ?_
      exact W.zret (v := 1) hx hb hr (rfl) (fun t9 ht hW => ⟨⟨_, (), rfl, (by rfl), ⟨by rw [ht]; exact hP, va_K.moved hW.alike hK, hD⟩⟩, hS.F ht⟩) hS.2.2 dJ0_isLatin1_aae02_18 hlocks

set_option maxHeartbeats 4000000 in
set_option maxRecDepth 100000 in
theorem t_J5_inflateIfNeededFor_a7421 (l9 : Launch) (hl9 : l9.stackTraces = false) (E : EK) (D : va_G) (k : Nat → ClassId) (sz : Nat) (a b n s t : Nat) : Met l9 yJ5_inflateIfNeededFor_a7421 wsJ5_inflateIfNeededFor_a7421 ({ frames := 1, cells := 0, slots := 0, locals := 20 }) (TPc E D k [.ref a, .ref s] (bSO k a b n ++ bTO k s t) sz) (va_Qv (fun (u9 : Unit) => True) (TB D k (va_A (bSO k a b n ++ bTO k s t) sz) (fun u9 : Unit => bSO k a b n ++ bTO k s t)) (va_A (bSO k a b n ++ bTO k s t) sz)) (0) (0) (va_A (bSO k a b n ++ bTO k s t) sz) := by
  refine tMet (y := yJ5_inflateIfNeededFor_a7421) (cc := cJ5_inflateIfNeededFor_a7421) (maxL := 2) (ret := none) (Qc := fun A => va_Qv (fun (u9 : Unit) => True) (TB D k (A) (fun u9 : Unit => bSO k a b n ++ bTO k s t)) (A)) [.ref a, .ref s] (by decide) rfl (Nat.le_of_ble_eq_true rfl) ?_
  intro p9 e9 s9 m9 bl9 me9 c9 ls A H hF hr hlocks hP hK hE hD hA hS hl hin
  have hl : lv_has ls 2 [(0, .ref a), (1, .ref s)] := hl
  obtain ⟨hx, hb, hml, hown, hts⟩ := id hF
  have k_fieldLink_18 : (Cond.fieldLink RJ5 18 "java/lang/String" "COMPACT_STRINGS" "Z").before _ s9 = true := hts (.fieldLink RJ5 18 "java/lang/String" "COMPACT_STRINGS" "Z") (by decide +kernel)
  have k_fieldLink_22 : (Cond.fieldLink RJ5 22 "java/lang/AbstractStringBuilder" "coder" "B").before _ s9 = true := hts (.fieldLink RJ5 22 "java/lang/AbstractStringBuilder" "coder" "B") (by decide +kernel)
  have kc_RJ4 : ∀ w ∈ u_ws RJ4 TJ4 4, w ∈ wsJ5_inflateIfNeededFor_a7421 := by decide +kernel
  refine va_gets hx hb hE.2.2.2.2.2.1.2.2.2.2.2.2.1 hS hown k_fieldLink_18 (fun _ h9 => h9) dJ5_inflateIfNeededFor_a7421_0 ?_
  refine lv_if_eq (tgt := 21) hx hb dJ5_inflateIfNeededFor_a7421_3 (by decide) (fun c_1 => ?_) (fun c_1 => ?_)
  · first | exact absurd c_1 (by decide) | exact absurd (by decide) c_1
  · skip
    refine lv_aload_n hx hb dJ5_inflateIfNeededFor_a7421_6 rfl (lv_at hl 0 rfl) ?_
    refine va_get (D := D) (ci := 1) (v := .int 0) (C := RJ4) (T := TJ4) (N := 4) hx hb hts kc_RJ4 hown hK hP 0 rfl rfl 1 (by decide) k_fieldLink_22 (fun _ h9 => h9) rfl dJ5_inflateIfNeededFor_a7421_7 ?_
    refine lv_aload_n hx hb dJ5_inflateIfNeededFor_a7421_10 rfl (lv_at hl 1 rfl) ?_
    have hP : va_P D vwCl (bTO k s t ++ bSO k a b n) H := vP_perm hP (pmX (pmS (bSO k a b n) (pmE (bTO k s t))))
    have hD : va_D A (bTO k s t ++ bSO k a b n) := vD_perm hD (pmX (pmS (bSO k a b n) (pmE (bTO k s t))))
    have hFc := tFree hD hS hA
    refine va_calli (va_runV (As := []) (rest := [.int 0]) hF (fr_i (bSO k a b n) (t_J0_coder_7d493 l9 hl9 E D k H.size s t )) (cwV 0 hts gJ5_inflateIfNeededFor_a7421_J0_coder_7d493 rfl rfl rfl (by decide +kernel) ⟨Nat.le_of_ble_eq_true rfl, Nat.le_of_ble_eq_true rfl⟩) (tPreV (rcv hK hP 0 0 rfl rfl) hK hE hS hA hP hD) rfl rfl hl.1 rfl (lv_room (Nat.le_of_ble_eq_true rfl)) dJ5_inflateIfNeededFor_a7421_11 ⟨(Nat.le_of_ble_eq_true rfl), (Nat.le_of_ble_eq_true rfl)⟩) hS (fun q _ h => hFc q h) hFc (fun r_3 u_4 t9 H1 locs ht hvm hw_5 hB hz1 hk1 hS => ?_)
    obtain ⟨hP, -, hD⟩ := hB
    rw [ht] at hP
    replace hP : va_P D vwCl ((bTO k s t) ++ bSO k a b n) H1 := hP
    replace hD : va_D A ((bTO k s t) ++ bSO k a b n) := hD.weaken (fun _ q _ h => hFc q.1 h)
    replace hw_5 : r_3 = 0 := hw_5
    clear hz1 hvm hFc hk1 ht
    clear t9
    generalize H1 = H at hP hS ⊢
    refine lv_tope (v2 := .int 0) (by rw [hw_5]) ?_
    refine lv_icmp_eq (tgt := 21) hx hb dJ5_inflateIfNeededFor_a7421_14 (by decide) (fun c_6 => ?_) (fun c_6 => ?_)
    · skip
      have hP : va_P D vwCl (bSO k a b n ++ bTO k s t) H := vP_perm hP (pmX (pmS (bTO k s t) (pmE (bSO k a b n))))
      have hD : va_D A (bSO k a b n ++ bTO k s t) := vD_perm hD (pmX (pmS (bTO k s t) (pmE (bSO k a b n))))
      exact W.vret hx hb hr (fun t9 ht hW => ⟨⟨(), rfl, (by trivial), ⟨by rw [ht]; exact hP, va_K.moved hW.alike hK, hD⟩⟩, hS.F ht⟩) hS.2.2 dJ5_inflateIfNeededFor_a7421_21 hlocks
    · first | exact absurd c_6 (by decide) | exact absurd (by decide) c_6

set_option maxHeartbeats 4000000 in
set_option maxRecDepth 100000 in
theorem tk_J5_inflateIfNeededFor (l9 : Launch) (hl9 : l9.stackTraces = false) (E : EK) (D : va_G) (k : Nat → ClassId) (sz : Nat) (a b n i : Nat) (hi : i < 7) : Met l9 yJ5_inflateIfNeededFor_a7421 wsJ5_inflateIfNeededFor_a7421 ({ frames := 1, cells := 0, slots := 0, locals := 20 }) (TPc E D k [.ref a, .ref (kjs E i)] (bSO k a b n) sz) (va_Qv (fun (u9 : Unit) => True) (TB D k (va_A (bSO k a b n) sz) (fun u9 : Unit => bSO k a b n)) (va_A (bSO k a b n) sz)) (0) (0) (va_A (bSO k a b n) sz) := by
  refine tMet (y := yJ5_inflateIfNeededFor_a7421) (cc := cJ5_inflateIfNeededFor_a7421) (maxL := 2) (ret := none) (Qc := fun A => va_Qv (fun (u9 : Unit) => True) (TB D k (A) (fun u9 : Unit => bSO k a b n)) (A)) [.ref a, .ref (kjs E i)] (by decide) rfl (Nat.le_of_ble_eq_true rfl) ?_
  intro p9 e9 s9 m9 bl9 me9 c9 ls A H hF hr hlocks hP hK hE hD hA hS hl hin
  have hl : lv_has ls 2 [(0, .ref a), (1, .ref (kjs E i))] := hl
  obtain ⟨hx, hb, hml, hown, hts⟩ := id hF
  have k_fieldLink_18 : (Cond.fieldLink RJ5 18 "java/lang/String" "COMPACT_STRINGS" "Z").before _ s9 = true := hts (.fieldLink RJ5 18 "java/lang/String" "COMPACT_STRINGS" "Z") (by decide +kernel)
  have k_fieldLink_22 : (Cond.fieldLink RJ5 22 "java/lang/AbstractStringBuilder" "coder" "B").before _ s9 = true := hts (.fieldLink RJ5 22 "java/lang/AbstractStringBuilder" "coder" "B") (by decide +kernel)
  have kc_RJ4 : ∀ w ∈ u_ws RJ4 TJ4 4, w ∈ wsJ5_inflateIfNeededFor_a7421 := by decide +kernel
  refine va_gets hx hb hE.2.2.2.2.2.1.2.2.2.2.2.2.1 hS hown k_fieldLink_18 (fun _ h9 => h9) dJ5_inflateIfNeededFor_a7421_0 ?_
  refine lv_if_eq (tgt := 21) hx hb dJ5_inflateIfNeededFor_a7421_3 (by decide) (fun c_1 => ?_) (fun c_1 => ?_)
  · first | exact absurd c_1 (by decide) | exact absurd (by decide) c_1
  · skip
    refine lv_aload_n hx hb dJ5_inflateIfNeededFor_a7421_6 rfl (lv_at hl 0 rfl) ?_
    refine va_get (D := D) (ci := 1) (v := .int 0) (C := RJ4) (T := TJ4) (N := 4) hx hb hts kc_RJ4 hown hK hP 0 rfl rfl 1 (by decide) k_fieldLink_22 (fun _ h9 => h9) rfl dJ5_inflateIfNeededFor_a7421_7 ?_
    refine lv_aload_n hx hb dJ5_inflateIfNeededFor_a7421_10 rfl (lv_at hl 1 rfl) ?_
    have hP : va_P D vwCl ([] ++ (bSO k a b n)) H := hP
    have hD : va_D A ([] ++ (bSO k a b n)) := hD
    have hFc := tFree hD hS hA
    refine va_calli (va_runV (As := []) (rest := [.int 0]) hF (fr_i (bSO k a b n) (tk_J0_coder l9 hl9 E D k H.size i hi)) (cwV 0 hts gJ5_inflateIfNeededFor_a7421_J0_coder_7d493 rfl rfl rfl (by decide +kernel) ⟨Nat.le_of_ble_eq_true rfl, Nat.le_of_ble_eq_true rfl⟩) (tPreV (vk_recv hE.2.2.2.2.2.2.1 (by omega) hS) hK hE hS hA hP hD) rfl rfl hl.1 rfl (lv_room (Nat.le_of_ble_eq_true rfl)) dJ5_inflateIfNeededFor_a7421_11 ⟨(Nat.le_of_ble_eq_true rfl), (Nat.le_of_ble_eq_true rfl)⟩) hS (fun q _ h => hFc q h) hFc (fun r_3 u_4 t9 H1 locs ht hvm hw_5 hB hz1 hk1 hS => ?_)
    obtain ⟨hP, -, hD⟩ := hB
    rw [ht] at hP
    replace hP : va_P D vwCl (([]) ++ bSO k a b n) H1 := hP
    replace hD : va_D A (([]) ++ bSO k a b n) := hD.weaken (fun _ q _ h => hFc q.1 h)
    replace hP : va_P D vwCl (bSO k a b n) H1 := hP
    replace hD : va_D A (bSO k a b n) := hD
    replace hw_5 : r_3 = 0 := hw_5
    clear hz1 hvm hFc hk1 ht
    clear t9
    generalize H1 = H at hP hS ⊢
    refine lv_tope (v2 := .int 0) (by rw [hw_5]) ?_
    refine lv_icmp_eq (tgt := 21) hx hb dJ5_inflateIfNeededFor_a7421_14 (by decide) (fun c_6 => ?_) (fun c_6 => ?_)
    · skip
      exact W.vret hx hb hr (fun t9 ht hW => ⟨⟨(), rfl, (by trivial), ⟨by rw [ht]; exact hP, va_K.moved hW.alike hK, hD⟩⟩, hS.F ht⟩) hS.2.2 dJ5_inflateIfNeededFor_a7421_21 hlocks
    · first | exact absurd c_6 (by decide) | exact absurd (by decide) c_6

set_option maxHeartbeats 4000000 in
set_option maxRecDepth 100000 in
theorem t_J0_getBytes_840e7 (l9 : Launch) (hl9 : l9.stackTraces = false) (E : EK) (D : va_G) (k : Nat → ClassId) (sz : Nat) (s t m : Nat) (g : Nat → Int32) (b cap dq : Nat) (f : Nat → Int32) (hd : dq + m ≤ cap) (hcap : cap < 2 ^ 28) (hm : m < 2 ^ 28) (hg : Bf g m) : Met l9 yJ0_getBytes_840e7 wsJ0_getBytes_840e7 ({ frames := 1, cells := 0, slots := 0, locals := 60 }) (TPc E D k [.ref s, .ref b, .int (nI dq), .int 0] (bTO k s t ++ (bAB k t m g ++ bAB k b cap f)) sz) (va_Qv (fun (u9 : Unit) => True) (TB D k (va_A (bTO k s t ++ (bAB k t m g ++ bAB k b cap f)) sz) (fun u9 : Unit => bTO k s t ++ (bAB k t m g ++ bAB k b cap (cpy f dq g 0 m)))) (va_A (bTO k s t ++ (bAB k t m g ++ bAB k b cap f)) sz)) (0) (0) (va_A (bTO k s t ++ (bAB k t m g ++ bAB k b cap f)) sz) := by
  refine tMet (y := yJ0_getBytes_840e7) (cc := cJ0_getBytes_840e7) (maxL := 4) (ret := none) (Qc := fun A => va_Qv (fun (u9 : Unit) => True) (TB D k (A) (fun u9 : Unit => bTO k s t ++ (bAB k t m g ++ bAB k b cap (cpy f dq g 0 m)))) (A)) [.ref s, .ref b, .int (nI dq), .int 0] (by decide) rfl (Nat.le_of_ble_eq_true rfl) ?_
  intro p9 e9 s9 m9 bl9 me9 c9 ls A H hF hr hlocks hP hK hE hD hA hS hl hin
  have hl : lv_has ls 4 [(0, .ref s), (1, .ref b), (2, .int (nI dq)), (3, .int 0)] := hl
  obtain ⟨hx, hb, hml, hown, hts⟩ := id hF
  have k_fieldLink_9 : (Cond.fieldLink RJ0 9 "java/lang/String" "value" "[B").before _ s9 = true := hts (.fieldLink RJ0 9 "java/lang/String" "value" "[B") (by decide +kernel)
  have kc_RJ0 : ∀ w ∈ u_ws RJ0 TJ0 4, w ∈ wsJ0_getBytes_840e7 := by decide +kernel
  refine lv_aload_n hx hb dJ0_getBytes_840e7_0 rfl (lv_at hl 0 rfl) ?_
  have hFc := tFree hD hS hA
  refine va_calli (va_runV (As := []) (rest := []) hF (fr_i (bAB k t m g ++ bAB k b cap f) (t_J0_coder_7d493 l9 hl9 E D k H.size s t )) (cwV 0 hts gJ0_getBytes_840e7_J0_coder_7d493 rfl rfl rfl (by decide +kernel) ⟨Nat.le_of_ble_eq_true rfl, Nat.le_of_ble_eq_true rfl⟩) (tPreV (rcv hK hP 0 0 rfl rfl) hK hE hS hA hP hD) rfl rfl hl.1 rfl (lv_room (Nat.le_of_ble_eq_true rfl)) dJ0_getBytes_840e7_1 ⟨(Nat.le_of_ble_eq_true rfl), (Nat.le_of_ble_eq_true rfl)⟩) hS (fun q _ h => hFc q h) hFc (fun r_2 u_3 t9 H1 locs ht hvm hw_4 hB hz1 hk1 hS => ?_)
  obtain ⟨hP, -, hD⟩ := hB
  rw [ht] at hP
  replace hP : va_P D vwCl ((bTO k s t) ++ (bAB k t m g ++ bAB k b cap f)) H1 := hP
  replace hD : va_D A ((bTO k s t) ++ (bAB k t m g ++ bAB k b cap f)) := hD.weaken (fun _ q _ h => hFc q.1 h)
  replace hw_4 : r_2 = 0 := hw_4
  clear hz1 hvm hFc hk1 ht
  clear t9
  generalize H1 = H at hP hS ⊢
  refine lv_tope (v2 := .int 0) (by rw [hw_4]) ?_
  refine lv_iload_n hx hb dJ0_getBytes_840e7_4 rfl (lv_at hl 3 rfl) ?_
  refine lv_icmp_ne (tgt := 28) hx hb dJ0_getBytes_840e7_5 (by decide) (fun c_5 => ?_) (fun c_5 => ?_)
  · first | exact absurd c_5 (by decide) | exact absurd (by decide) c_5
  · skip
    refine lv_aload_n hx hb dJ0_getBytes_840e7_8 rfl (lv_at hl 0 rfl) ?_
    refine va_get (D := D) (ci := 0) (v := .ref t) (C := RJ0) (T := TJ0) (N := 4) hx hb hts kc_RJ0 hown hK hP 0 rfl rfl 0 (by decide) k_fieldLink_9 (fun _ h9 => h9) rfl dJ0_getBytes_840e7_9 ?_
    refine lv_iconst (v := 0) hx hb dJ0_getBytes_840e7_12 (by decide) ?_
    refine lv_aload_n hx hb dJ0_getBytes_840e7_13 rfl (lv_at hl 1 rfl) ?_
    refine lv_iload_n hx hb dJ0_getBytes_840e7_14 rfl (lv_at hl 2 rfl) ?_
    refine lv_iload_n hx hb dJ0_getBytes_840e7_15 rfl (lv_at hl 3 rfl) ?_
    refine lv_ishl hx hb dJ0_getBytes_840e7_16 ?_
    refine lv_tope (v2 := .int (nI dq)) (congrArg Value.int (shl0 _)) ?_
    refine lv_aload_n hx hb dJ0_getBytes_840e7_17 rfl (lv_at hl 0 rfl) ?_
    refine va_get (D := D) (ci := 0) (v := .ref t) (C := RJ0) (T := TJ0) (N := 4) hx hb hts kc_RJ0 hown hK hP 0 rfl rfl 0 (by decide) k_fieldLink_9 (fun _ h9 => h9) rfl dJ0_getBytes_840e7_18 ?_
    refine va_alen (v := nI m) hx hb hK hP 1 8 rfl rfl rfl dJ0_getBytes_840e7_21 ?_
    refine by_cp hx hb (hml.trans hl.1.symm) hown (hts (.methodLink RJ0 212 arraycopyName) (by decide +kernel)) (hts (.native arraycopyName) (by decide +kernel)) (hts (.static arraycopyName) (by decide +kernel)) (hts (.initialized "java/lang/System") (by decide +kernel)) hK hP hD hS 1 2 rfl rfl (sp := 0) (dp := dq) (n := m) rfl rfl rfl (by omega) (by omega) (by omega) (by omega) (fun i hi => by rw [Nat.zero_add]; exact hg i hi) (Nat.le_of_ble_eq_true rfl) (Nat.le_of_ble_eq_true rfl) (bTO k s t ++ (bAB k t m g ++ bAB k b cap (cpy f dq g 0 m))) rfl dJ0_getBytes_840e7_22 (fun H locs hP hD hS => ?_)
    refine lv_goto (tgt := 43) hx hb dJ0_getBytes_840e7_25 (by decide) ?_
    exact W.vret hx hb hr (fun t9 ht hW => ⟨⟨(), rfl, (by trivial), ⟨by rw [ht]; exact hP, va_K.moved hW.alike hK, hD⟩⟩, hS.F ht⟩) hS.2.2 dJ0_getBytes_840e7_43 hlocks

set_option maxHeartbeats 4000000 in
set_option maxRecDepth 100000 in
theorem tk_J0_getBytes (l9 : Launch) (hl9 : l9.stackTraces = false) (E : EK) (D : va_G) (k : Nat → ClassId) (sz : Nat) (i b cap dq : Nat) (f : Nat → Int32) (hi : i < 7) (hd : dq + ln2 i ≤ cap) (hcap : cap < 2 ^ 28) : Met l9 yJ0_getBytes_840e7 wsJ0_getBytes_840e7 ({ frames := 1, cells := 0, slots := 0, locals := 60 }) (TPc E D k [.ref (kjs E i), .ref b, .int (nI dq), .int 0] (bAB k b cap f) sz) (va_Qv (fun (u9 : Unit) => True) (TB D k (va_A (bAB k b cap f) sz) (fun u9 : Unit => bAB k b cap (cpy f dq (ch2 i) 0 (ln2 i)))) (va_A (bAB k b cap f) sz)) (0) (0) (va_A (bAB k b cap f) sz) := by
  refine tMet (y := yJ0_getBytes_840e7) (cc := cJ0_getBytes_840e7) (maxL := 4) (ret := none) (Qc := fun A => va_Qv (fun (u9 : Unit) => True) (TB D k (A) (fun u9 : Unit => bAB k b cap (cpy f dq (ch2 i) 0 (ln2 i)))) (A)) [.ref (kjs E i), .ref b, .int (nI dq), .int 0] (by decide) rfl (Nat.le_of_ble_eq_true rfl) ?_
  intro p9 e9 s9 m9 bl9 me9 c9 ls A H hF hr hlocks hP hK hE hD hA hS hl hin
  have hl : lv_has ls 4 [(0, .ref (kjs E i)), (1, .ref b), (2, .int (nI dq)), (3, .int 0)] := hl
  obtain ⟨hx, hb, hml, hown, hts⟩ := id hF
  have k_fieldLink_9 : (Cond.fieldLink RJ0 9 "java/lang/String" "value" "[B").before _ s9 = true := hts (.fieldLink RJ0 9 "java/lang/String" "value" "[B") (by decide +kernel)
  refine lv_aload_n hx hb dJ0_getBytes_840e7_0 rfl (lv_at hl 0 rfl) ?_
  have hP : va_P D vwCl ([] ++ (bAB k b cap f)) H := hP
  have hD : va_D A ([] ++ (bAB k b cap f)) := hD
  have hFc := tFree hD hS hA
  refine va_calli (va_runV (As := []) (rest := []) hF (fr_i (bAB k b cap f) (tk_J0_coder l9 hl9 E D k H.size i hi)) (cwV 0 hts gJ0_getBytes_840e7_J0_coder_7d493 rfl rfl rfl (by decide +kernel) ⟨Nat.le_of_ble_eq_true rfl, Nat.le_of_ble_eq_true rfl⟩) (tPreV (vk_recv hE.2.2.2.2.2.2.1 (by omega) hS) hK hE hS hA hP hD) rfl rfl hl.1 rfl (lv_room (Nat.le_of_ble_eq_true rfl)) dJ0_getBytes_840e7_1 ⟨(Nat.le_of_ble_eq_true rfl), (Nat.le_of_ble_eq_true rfl)⟩) hS (fun q _ h => hFc q h) hFc (fun r_2 u_3 t9 H1 locs ht hvm hw_4 hB hz1 hk1 hS => ?_)
  obtain ⟨hP, -, hD⟩ := hB
  rw [ht] at hP
  replace hP : va_P D vwCl (([]) ++ bAB k b cap f) H1 := hP
  replace hD : va_D A (([]) ++ bAB k b cap f) := hD.weaken (fun _ q _ h => hFc q.1 h)
  replace hP : va_P D vwCl (bAB k b cap f) H1 := hP
  replace hD : va_D A (bAB k b cap f) := hD
  replace hw_4 : r_2 = 0 := hw_4
  clear hz1 hvm hFc hk1 ht
  clear t9
  generalize H1 = H at hP hS ⊢
  refine lv_tope (v2 := .int 0) (by rw [hw_4]) ?_
  refine lv_iload_n hx hb dJ0_getBytes_840e7_4 rfl (lv_at hl 3 rfl) ?_
  refine lv_icmp_ne (tgt := 28) hx hb dJ0_getBytes_840e7_5 (by decide) (fun c_5 => ?_) (fun c_5 => ?_)
  · first | exact absurd c_5 (by decide) | exact absurd (by decide) c_5
  · skip
    refine lv_aload_n hx hb dJ0_getBytes_840e7_8 rfl (lv_at hl 0 rfl) ?_
    refine vk_getf hx hb (hE.2.2.2.2.2.2.1.1 i (by omega)).2.2.1 hS hown k_fieldLink_9 (fun _ h9 => h9) dJ0_getBytes_840e7_9 ?_
    refine lv_iconst (v := 0) hx hb dJ0_getBytes_840e7_12 (by decide) ?_
    refine lv_aload_n hx hb dJ0_getBytes_840e7_13 rfl (lv_at hl 1 rfl) ?_
    refine lv_iload_n hx hb dJ0_getBytes_840e7_14 rfl (lv_at hl 2 rfl) ?_
    refine lv_iload_n hx hb dJ0_getBytes_840e7_15 rfl (lv_at hl 3 rfl) ?_
    refine lv_ishl hx hb dJ0_getBytes_840e7_16 ?_
    refine lv_tope (v2 := .int (nI dq)) (congrArg Value.int (shl0 _)) ?_
    refine lv_aload_n hx hb dJ0_getBytes_840e7_17 rfl (lv_at hl 0 rfl) ?_
    refine vk_getf hx hb (hE.2.2.2.2.2.2.1.1 i (by omega)).2.2.1 hS hown k_fieldLink_9 (fun _ h9 => h9) dJ0_getBytes_840e7_18 ?_
    refine va_tlen (v := nI (ln2 i)) hx hb (hE.2.2.2.2.2.2.1.1 i (by omega)).2.2.2 hS rfl dJ0_getBytes_840e7_21 ?_
    refine by_cpT hx hb (hml.trans hl.1.symm) hown (hts (.methodLink RJ0 212 arraycopyName) (by decide +kernel)) (hts (.native arraycopyName) (by decide +kernel)) (hts (.static arraycopyName) (by decide +kernel)) (hts (.initialized "java/lang/System") (by decide +kernel)) hK hP hD hS (hE.2.2.2.2.2.2.1.1 i (by omega)).2.2.2 0 rfl (sp := 0) (dp := dq) (n := (ln2 i)) rfl rfl rfl (by omega) (by omega) (by omega) (by omega) (fun j hj => by rw [Nat.zero_add]; exact Bf_k hi j hj) (Nat.le_of_ble_eq_true rfl) (Nat.le_of_ble_eq_true rfl) (bAB k b cap (cpy f dq (ch2 i) 0 (ln2 i))) rfl dJ0_getBytes_840e7_22 (fun H locs hP hD hS => ?_)
    refine lv_goto (tgt := 43) hx hb dJ0_getBytes_840e7_25 (by decide) ?_
    exact W.vret hx hb hr (fun t9 ht hW => ⟨⟨(), rfl, (by trivial), ⟨by rw [ht]; exact hP, va_K.moved hW.alike hK, hD⟩⟩, hS.F ht⟩) hS.2.2 dJ0_getBytes_840e7_43 hlocks

set_option maxHeartbeats 4000000 in
set_option maxRecDepth 100000 in
theorem t_J5_putStringAt_47b60 (l9 : Launch) (hl9 : l9.stackTraces = false) (E : EK) (D : va_G) (k : Nat → ClassId) (sz : Nat) (a b n cap : Nat) (f : Nat → Int32) (dq : Nat) (s t m : Nat) (g : Nat → Int32) (hd : dq + m ≤ cap) (hcap : cap < 2 ^ 28) (hm : m < 2 ^ 28) (hg : Bf g m) : Met l9 yJ5_putStringAt_47b60 wsJ5_putStringAt_47b60 ({ frames := 2, cells := 0, slots := 0, locals := 83 }) (TPc E D k [.ref a, .int (nI dq), .ref s] (bSO k a b n ++ (bAB k b cap f ++ (bTO k s t ++ bAB k t m g))) sz) (va_Qv (fun (u9 : Unit) => True) (TB D k (va_A (bSO k a b n ++ (bAB k b cap f ++ (bTO k s t ++ bAB k t m g))) sz) (fun u9 : Unit => bSO k a b n ++ (bAB k b cap (cpy f dq g 0 m) ++ (bTO k s t ++ bAB k t m g)))) (va_A (bSO k a b n ++ (bAB k b cap f ++ (bTO k s t ++ bAB k t m g))) sz)) (0) (0) (va_A (bSO k a b n ++ (bAB k b cap f ++ (bTO k s t ++ bAB k t m g))) sz) := by
  refine tMet (y := yJ5_putStringAt_47b60) (cc := cJ5_putStringAt_47b60) (maxL := 3) (ret := none) (Qc := fun A => va_Qv (fun (u9 : Unit) => True) (TB D k (A) (fun u9 : Unit => bSO k a b n ++ (bAB k b cap (cpy f dq g 0 m) ++ (bTO k s t ++ bAB k t m g)))) (A)) [.ref a, .int (nI dq), .ref s] (by decide) rfl (Nat.le_of_ble_eq_true rfl) ?_
  intro p9 e9 s9 m9 bl9 me9 c9 ls A H hF hr hlocks hP hK hE hD hA hS hl hin
  have hl : lv_has ls 3 [(0, .ref a), (1, .int (nI dq)), (2, .ref s)] := hl
  obtain ⟨hx, hb, hml, hown, hts⟩ := id hF
  have k_fieldLink_15 : (Cond.fieldLink RJ5 15 "java/lang/AbstractStringBuilder" "value" "[B").before _ s9 = true := hts (.fieldLink RJ5 15 "java/lang/AbstractStringBuilder" "value" "[B") (by decide +kernel)
  have kc_RJ4 : ∀ w ∈ u_ws RJ4 TJ4 4, w ∈ wsJ5_putStringAt_47b60 := by decide +kernel
  have k_fieldLink_22 : (Cond.fieldLink RJ5 22 "java/lang/AbstractStringBuilder" "coder" "B").before _ s9 = true := hts (.fieldLink RJ5 22 "java/lang/AbstractStringBuilder" "coder" "B") (by decide +kernel)
  refine lv_aload_n hx hb dJ5_putStringAt_47b60_0 rfl (lv_at hl 0 rfl) ?_
  refine lv_aload_n hx hb dJ5_putStringAt_47b60_1 rfl (lv_at hl 2 rfl) ?_
  have hP : va_P D vwCl (bAB k t m g ++ (bSO k a b n ++ (bAB k b cap f ++ bTO k s t))) H := vP_perm hP (pmX (pmS (bSO k a b n) (pmS (bAB k b cap f) (pmS (bTO k s t) (pmE (bAB k t m g))))))
  have hD : va_D A (bAB k t m g ++ (bSO k a b n ++ (bAB k b cap f ++ bTO k s t))) := vD_perm hD (pmX (pmS (bSO k a b n) (pmS (bAB k b cap f) (pmS (bTO k s t) (pmE (bAB k t m g))))))
  have hP : va_P D vwCl (bAB k b cap f ++ (bAB k t m g ++ (bSO k a b n ++ bTO k s t))) H := vP_perm hP (pmS (bAB k t m g) (pmS (bSO k a b n) (pm0 (bAB k b cap f) (bTO k s t))))
  have hD : va_D A (bAB k b cap f ++ (bAB k t m g ++ (bSO k a b n ++ bTO k s t))) := vD_perm hD (pmS (bAB k t m g) (pmS (bSO k a b n) (pm0 (bAB k b cap f) (bTO k s t))))
  have hP : va_P D vwCl (bTO k s t ++ (bAB k b cap f ++ (bAB k t m g ++ bSO k a b n))) H := vP_perm hP (pmX (pmS (bAB k b cap f) (pmS (bAB k t m g) (pmS (bSO k a b n) (pmE (bTO k s t))))))
  have hD : va_D A (bTO k s t ++ (bAB k b cap f ++ (bAB k t m g ++ bSO k a b n))) := vD_perm hD (pmX (pmS (bAB k b cap f) (pmS (bAB k t m g) (pmS (bSO k a b n) (pmE (bTO k s t))))))
  have hP : va_P D vwCl (bSO k a b n ++ (bTO k s t ++ (bAB k b cap f ++ bAB k t m g))) H := vP_perm hP (pmX (pmS (bTO k s t) (pmS (bAB k b cap f) (pmS (bAB k t m g) (pmE (bSO k a b n))))))
  have hD : va_D A (bSO k a b n ++ (bTO k s t ++ (bAB k b cap f ++ bAB k t m g))) := vD_perm hD (pmX (pmS (bTO k s t) (pmS (bAB k b cap f) (pmS (bAB k t m g) (pmE (bSO k a b n))))))
  have hP : va_P D vwCl ((bSO k a b n ++ bTO k s t) ++ (bAB k b cap f ++ bAB k t m g)) H := vP_perm hP (pa2 _ _ _)
  have hD : va_D A ((bSO k a b n ++ bTO k s t) ++ (bAB k b cap f ++ bAB k t m g)) := vD_perm hD (pa2 _ _ _)
  have hFc := tFree hD hS hA
  refine va_callv (va_runU (As := [.ref s]) (rest := []) hF (fr_v (bAB k b cap f ++ bAB k t m g) (t_J5_inflateIfNeededFor_a7421 l9 hl9 E D k H.size a b n s t )) (va_cwU 1 hts gJ5_putStringAt_47b60_J5_inflateIfNeededFor_a7421_u397J4 rfl rfl rfl rfl (by decide +kernel) ⟨Nat.le_of_ble_eq_true rfl, Nat.le_of_ble_eq_true rfl⟩) (tPreV (rcv hK hP 0 1 rfl rfl) hK hE hS hA hP hD) rfl rfl hl.1 rfl (lv_room (Nat.le_of_ble_eq_true rfl)) dJ5_putStringAt_47b60_2 ⟨(Nat.le_of_ble_eq_true rfl), (Nat.le_of_ble_eq_true rfl)⟩) hS (fun q _ h => hFc q h) hFc (fun u_3 t9 H1 locs ht hvm hw_4 hB hz1 hk1 hS => ?_)
  obtain ⟨hP, -, hD⟩ := hB
  rw [ht] at hP
  replace hP : va_P D vwCl ((bSO k a b n ++ bTO k s t) ++ (bAB k b cap f ++ bAB k t m g)) H1 := hP
  replace hD : va_D A ((bSO k a b n ++ bTO k s t) ++ (bAB k b cap f ++ bAB k t m g)) := hD.weaken (fun _ q _ h => hFc q.1 h)
  replace hP : va_P D vwCl (bSO k a b n ++ (bTO k s t ++ (bAB k b cap f ++ bAB k t m g))) H1 := vP_perm hP (pb2 _ _ _)
  replace hD : va_D A (bSO k a b n ++ (bTO k s t ++ (bAB k b cap f ++ bAB k t m g))) := vD_perm hD (pb2 _ _ _)
  replace hw_4 : True := hw_4
  clear hz1 hvm hFc hk1 ht
  clear t9
  generalize H1 = H at hP hS ⊢
  refine lv_aload_n hx hb dJ5_putStringAt_47b60_5 rfl (lv_at hl 2 rfl) ?_
  refine lv_aload_n hx hb dJ5_putStringAt_47b60_6 rfl (lv_at hl 0 rfl) ?_
  refine va_get (D := D) (ci := 1) (v := .ref b) (C := RJ4) (T := TJ4) (N := 4) hx hb hts kc_RJ4 hown hK hP 0 rfl rfl 0 (by decide) k_fieldLink_15 (fun _ h9 => h9) rfl dJ5_putStringAt_47b60_7 ?_
  refine lv_iload_n hx hb dJ5_putStringAt_47b60_10 rfl (lv_at hl 1 rfl) ?_
  refine lv_aload_n hx hb dJ5_putStringAt_47b60_11 rfl (lv_at hl 0 rfl) ?_
  refine va_get (D := D) (ci := 1) (v := .int 0) (C := RJ4) (T := TJ4) (N := 4) hx hb hts kc_RJ4 hown hK hP 0 rfl rfl 1 (by decide) k_fieldLink_22 (fun _ h9 => h9) rfl dJ5_putStringAt_47b60_12 ?_
  have hP : va_P D vwCl (bAB k b cap f ++ (bSO k a b n ++ (bTO k s t ++ bAB k t m g))) H := vP_perm hP (pmS (bSO k a b n) (pmS (bTO k s t) (pm0 (bAB k b cap f) (bAB k t m g))))
  have hD : va_D A (bAB k b cap f ++ (bSO k a b n ++ (bTO k s t ++ bAB k t m g))) := vD_perm hD (pmS (bSO k a b n) (pmS (bTO k s t) (pm0 (bAB k b cap f) (bAB k t m g))))
  have hP : va_P D vwCl (bAB k t m g ++ (bAB k b cap f ++ (bSO k a b n ++ bTO k s t))) H := vP_perm hP (pmX (pmS (bAB k b cap f) (pmS (bSO k a b n) (pmS (bTO k s t) (pmE (bAB k t m g))))))
  have hD : va_D A (bAB k t m g ++ (bAB k b cap f ++ (bSO k a b n ++ bTO k s t))) := vD_perm hD (pmX (pmS (bAB k b cap f) (pmS (bSO k a b n) (pmS (bTO k s t) (pmE (bAB k t m g))))))
  have hP : va_P D vwCl (bTO k s t ++ (bAB k t m g ++ (bAB k b cap f ++ bSO k a b n))) H := vP_perm hP (pmX (pmS (bAB k t m g) (pmS (bAB k b cap f) (pmS (bSO k a b n) (pmE (bTO k s t))))))
  have hD : va_D A (bTO k s t ++ (bAB k t m g ++ (bAB k b cap f ++ bSO k a b n))) := vD_perm hD (pmX (pmS (bAB k t m g) (pmS (bAB k b cap f) (pmS (bSO k a b n) (pmE (bTO k s t))))))
  have hP : va_P D vwCl ((bTO k s t ++ (bAB k t m g ++ bAB k b cap f)) ++ bSO k a b n) H := vP_perm hP (pa3 _ _ _ _)
  have hD : va_D A ((bTO k s t ++ (bAB k t m g ++ bAB k b cap f)) ++ bSO k a b n) := vD_perm hD (pa3 _ _ _ _)
  have hFc := tFree hD hS hA
  refine va_callv (va_runV (As := [.ref b, .int (nI dq), .int 0]) (rest := []) hF (fr_v (bSO k a b n) (t_J0_getBytes_840e7 l9 hl9 E D k H.size s t m g b cap dq f hd hcap hm hg)) (cwV 3 hts gJ5_putStringAt_47b60_J0_getBytes_840e7 rfl rfl rfl (by decide +kernel) ⟨Nat.le_of_ble_eq_true rfl, Nat.le_of_ble_eq_true rfl⟩) (tPreV (rcv hK hP 0 0 rfl rfl) hK hE hS hA hP hD) rfl rfl hl.1 rfl (lv_room (Nat.le_of_ble_eq_true rfl)) dJ5_putStringAt_47b60_15 ⟨(Nat.le_of_ble_eq_true rfl), (Nat.le_of_ble_eq_true rfl)⟩) hS (fun q _ h => hFc q h) hFc (fun u_7 t9 H1 locs ht hvm hw_8 hB hz1 hk1 hS => ?_)
  obtain ⟨hP, -, hD⟩ := hB
  rw [ht] at hP
  replace hP : va_P D vwCl ((bTO k s t ++ (bAB k t m g ++ bAB k b cap (cpy f dq g 0 m))) ++ bSO k a b n) H1 := hP
  replace hD : va_D A ((bTO k s t ++ (bAB k t m g ++ bAB k b cap (cpy f dq g 0 m))) ++ bSO k a b n) := hD.weaken (fun _ q _ h => hFc q.1 h)
  replace hP : va_P D vwCl (bTO k s t ++ (bAB k t m g ++ (bAB k b cap (cpy f dq g 0 m) ++ bSO k a b n))) H1 := vP_perm hP (pb3 _ _ _ _)
  replace hD : va_D A (bTO k s t ++ (bAB k t m g ++ (bAB k b cap (cpy f dq g 0 m) ++ bSO k a b n))) := vD_perm hD (pb3 _ _ _ _)
  replace hw_8 : True := hw_8
  clear hz1 hvm hFc hk1 ht
  clear t9
  generalize H1 = H at hP hS ⊢
  have hP : va_P D vwCl (bAB k t m g ++ (bTO k s t ++ (bAB k b cap (cpy f dq g 0 m) ++ bSO k a b n))) H := vP_perm hP (pmS (bTO k s t) (pm0 (bAB k t m g) (bAB k b cap (cpy f dq g 0 m) ++ bSO k a b n)))
  have hD : va_D A (bAB k t m g ++ (bTO k s t ++ (bAB k b cap (cpy f dq g 0 m) ++ bSO k a b n))) := vD_perm hD (pmS (bTO k s t) (pm0 (bAB k t m g) (bAB k b cap (cpy f dq g 0 m) ++ bSO k a b n)))
  have hP : va_P D vwCl (bTO k s t ++ (bAB k t m g ++ (bAB k b cap (cpy f dq g 0 m) ++ bSO k a b n))) H := vP_perm hP (pmS (bAB k t m g) (pm0 (bTO k s t) (bAB k b cap (cpy f dq g 0 m) ++ bSO k a b n)))
  have hD : va_D A (bTO k s t ++ (bAB k t m g ++ (bAB k b cap (cpy f dq g 0 m) ++ bSO k a b n))) := vD_perm hD (pmS (bAB k t m g) (pm0 (bTO k s t) (bAB k b cap (cpy f dq g 0 m) ++ bSO k a b n)))
  have hP : va_P D vwCl (bAB k b cap (cpy f dq g 0 m) ++ (bTO k s t ++ (bAB k t m g ++ bSO k a b n))) H := vP_perm hP (pmS (bTO k s t) (pmS (bAB k t m g) (pm0 (bAB k b cap (cpy f dq g 0 m)) (bSO k a b n))))
  have hD : va_D A (bAB k b cap (cpy f dq g 0 m) ++ (bTO k s t ++ (bAB k t m g ++ bSO k a b n))) := vD_perm hD (pmS (bTO k s t) (pmS (bAB k t m g) (pm0 (bAB k b cap (cpy f dq g 0 m)) (bSO k a b n))))
  have hP : va_P D vwCl (bSO k a b n ++ (bAB k b cap (cpy f dq g 0 m) ++ (bTO k s t ++ bAB k t m g))) H := vP_perm hP (pmX (pmS (bAB k b cap (cpy f dq g 0 m)) (pmS (bTO k s t) (pmS (bAB k t m g) (pmE (bSO k a b n))))))
  have hD : va_D A (bSO k a b n ++ (bAB k b cap (cpy f dq g 0 m) ++ (bTO k s t ++ bAB k t m g))) := vD_perm hD (pmX (pmS (bAB k b cap (cpy f dq g 0 m)) (pmS (bTO k s t) (pmS (bAB k t m g) (pmE (bSO k a b n))))))
  exact W.vret hx hb hr (fun t9 ht hW => ⟨⟨(), rfl, (by trivial), ⟨by rw [ht]; exact hP, va_K.moved hW.alike hK, hD⟩⟩, hS.F ht⟩) hS.2.2 dJ5_putStringAt_47b60_18 hlocks

set_option maxHeartbeats 4000000 in
set_option maxRecDepth 100000 in
theorem tk_J5_putStringAt (l9 : Launch) (hl9 : l9.stackTraces = false) (E : EK) (D : va_G) (k : Nat → ClassId) (sz : Nat) (a b n cap : Nat) (f : Nat → Int32) (dq i : Nat) (hi : i < 7) (hd : dq + ln2 i ≤ cap) (hcap : cap < 2 ^ 28) : Met l9 yJ5_putStringAt_47b60 wsJ5_putStringAt_47b60 ({ frames := 2, cells := 0, slots := 0, locals := 83 }) (TPc E D k [.ref a, .int (nI dq), .ref (kjs E i)] (bSO k a b n ++ bAB k b cap f) sz) (va_Qv (fun (u9 : Unit) => True) (TB D k (va_A (bSO k a b n ++ bAB k b cap f) sz) (fun u9 : Unit => bSO k a b n ++ bAB k b cap (cpy f dq (ch2 i) 0 (ln2 i)))) (va_A (bSO k a b n ++ bAB k b cap f) sz)) (0) (0) (va_A (bSO k a b n ++ bAB k b cap f) sz) := by
  refine tMet (y := yJ5_putStringAt_47b60) (cc := cJ5_putStringAt_47b60) (maxL := 3) (ret := none) (Qc := fun A => va_Qv (fun (u9 : Unit) => True) (TB D k (A) (fun u9 : Unit => bSO k a b n ++ bAB k b cap (cpy f dq (ch2 i) 0 (ln2 i)))) (A)) [.ref a, .int (nI dq), .ref (kjs E i)] (by decide) rfl (Nat.le_of_ble_eq_true rfl) ?_
  intro p9 e9 s9 m9 bl9 me9 c9 ls A H hF hr hlocks hP hK hE hD hA hS hl hin
  have hl : lv_has ls 3 [(0, .ref a), (1, .int (nI dq)), (2, .ref (kjs E i))] := hl
  obtain ⟨hx, hb, hml, hown, hts⟩ := id hF
  have k_fieldLink_15 : (Cond.fieldLink RJ5 15 "java/lang/AbstractStringBuilder" "value" "[B").before _ s9 = true := hts (.fieldLink RJ5 15 "java/lang/AbstractStringBuilder" "value" "[B") (by decide +kernel)
  have kc_RJ4 : ∀ w ∈ u_ws RJ4 TJ4 4, w ∈ wsJ5_putStringAt_47b60 := by decide +kernel
  have k_fieldLink_22 : (Cond.fieldLink RJ5 22 "java/lang/AbstractStringBuilder" "coder" "B").before _ s9 = true := hts (.fieldLink RJ5 22 "java/lang/AbstractStringBuilder" "coder" "B") (by decide +kernel)
  refine lv_aload_n hx hb dJ5_putStringAt_47b60_0 rfl (lv_at hl 0 rfl) ?_
  refine lv_aload_n hx hb dJ5_putStringAt_47b60_1 rfl (lv_at hl 2 rfl) ?_
  have hFc := tFree hD hS hA
  refine va_callv (va_runU (As := [.ref (kjs E i)]) (rest := []) hF (fr_v (bAB k b cap f) (tk_J5_inflateIfNeededFor l9 hl9 E D k H.size a b n i hi)) (va_cwU 1 hts gJ5_putStringAt_47b60_J5_inflateIfNeededFor_a7421_u397J4 rfl rfl rfl rfl (by decide +kernel) ⟨Nat.le_of_ble_eq_true rfl, Nat.le_of_ble_eq_true rfl⟩) (tPreV (rcv hK hP 0 1 rfl rfl) hK hE hS hA hP hD) rfl rfl hl.1 rfl (lv_room (Nat.le_of_ble_eq_true rfl)) dJ5_putStringAt_47b60_2 ⟨(Nat.le_of_ble_eq_true rfl), (Nat.le_of_ble_eq_true rfl)⟩) hS (fun q _ h => hFc q h) hFc (fun u_3 t9 H1 locs ht hvm hw_4 hB hz1 hk1 hS => ?_)
  obtain ⟨hP, -, hD⟩ := hB
  rw [ht] at hP
  replace hP : va_P D vwCl ((bSO k a b n) ++ bAB k b cap f) H1 := hP
  replace hD : va_D A ((bSO k a b n) ++ bAB k b cap f) := hD.weaken (fun _ q _ h => hFc q.1 h)
  replace hw_4 : True := hw_4
  clear hz1 hvm hFc hk1 ht
  clear t9
  generalize H1 = H at hP hS ⊢
  refine lv_aload_n hx hb dJ5_putStringAt_47b60_5 rfl (lv_at hl 2 rfl) ?_
  refine lv_aload_n hx hb dJ5_putStringAt_47b60_6 rfl (lv_at hl 0 rfl) ?_
  refine va_get (D := D) (ci := 1) (v := .ref b) (C := RJ4) (T := TJ4) (N := 4) hx hb hts kc_RJ4 hown hK hP 0 rfl rfl 0 (by decide) k_fieldLink_15 (fun _ h9 => h9) rfl dJ5_putStringAt_47b60_7 ?_
  refine lv_iload_n hx hb dJ5_putStringAt_47b60_10 rfl (lv_at hl 1 rfl) ?_
  refine lv_aload_n hx hb dJ5_putStringAt_47b60_11 rfl (lv_at hl 0 rfl) ?_
  refine va_get (D := D) (ci := 1) (v := .int 0) (C := RJ4) (T := TJ4) (N := 4) hx hb hts kc_RJ4 hown hK hP 0 rfl rfl 1 (by decide) k_fieldLink_22 (fun _ h9 => h9) rfl dJ5_putStringAt_47b60_12 ?_
  have hP : va_P D vwCl (bAB k b cap f ++ bSO k a b n) H := vP_perm hP (pmX (pmS (bSO k a b n) (pmE (bAB k b cap f))))
  have hD : va_D A (bAB k b cap f ++ bSO k a b n) := vD_perm hD (pmX (pmS (bSO k a b n) (pmE (bAB k b cap f))))
  have hFc := tFree hD hS hA
  refine va_callv (va_runV (As := [.ref b, .int (nI dq), .int 0]) (rest := []) hF (fr_v (bSO k a b n) (tk_J0_getBytes l9 hl9 E D k H.size i b cap dq f hi hd hcap)) (cwV 3 hts gJ5_putStringAt_47b60_J0_getBytes_840e7 rfl rfl rfl (by decide +kernel) ⟨Nat.le_of_ble_eq_true rfl, Nat.le_of_ble_eq_true rfl⟩) (tPreV (vk_recv hE.2.2.2.2.2.2.1 (by omega) hS) hK hE hS hA hP hD) rfl rfl hl.1 rfl (lv_room (Nat.le_of_ble_eq_true rfl)) dJ5_putStringAt_47b60_15 ⟨(Nat.le_of_ble_eq_true rfl), (Nat.le_of_ble_eq_true rfl)⟩) hS (fun q _ h => hFc q h) hFc (fun u_7 t9 H1 locs ht hvm hw_8 hB hz1 hk1 hS => ?_)
  obtain ⟨hP, -, hD⟩ := hB
  rw [ht] at hP
  replace hP : va_P D vwCl ((bAB k b cap (cpy f dq (ch2 i) 0 (ln2 i))) ++ bSO k a b n) H1 := hP
  replace hD : va_D A ((bAB k b cap (cpy f dq (ch2 i) 0 (ln2 i))) ++ bSO k a b n) := hD.weaken (fun _ q _ h => hFc q.1 h)
  replace hw_8 : True := hw_8
  clear hz1 hvm hFc hk1 ht
  clear t9
  generalize H1 = H at hP hS ⊢
  have hP : va_P D vwCl (bSO k a b n ++ bAB k b cap (cpy f dq (ch2 i) 0 (ln2 i))) H := vP_perm hP (pmX (pmS (bAB k b cap (cpy f dq (ch2 i) 0 (ln2 i))) (pmE (bSO k a b n))))
  have hD : va_D A (bSO k a b n ++ bAB k b cap (cpy f dq (ch2 i) 0 (ln2 i))) := vD_perm hD (pmX (pmS (bAB k b cap (cpy f dq (ch2 i) 0 (ln2 i))) (pmE (bSO k a b n))))
  exact W.vret hx hb hr (fun t9 ht hW => ⟨⟨(), rfl, (by trivial), ⟨by rw [ht]; exact hP, va_K.moved hW.alike hK, hD⟩⟩, hS.F ht⟩) hS.2.2 dJ5_putStringAt_47b60_18 hlocks

set_option maxHeartbeats 4000000 in
set_option maxRecDepth 100000 in
theorem t_J5_append_cf1ce (l9 : Launch) (hl9 : l9.stackTraces = false) (E : EK) (D : va_G) (k : Nat → ClassId) (sz : Nat) (a b n cap : Nat) (f : Nat → Int32) (s t m : Nat) (g : Nat → Int32) (hm2 : n + m < 2 ^ 28) (hg : Bf g m) (hcap : cap < 2 ^ 28) (hn : n ≤ cap) (hf : Bf f cap) : Met l9 yJ5_append_cf1ce wsJ5_append_cf1ce ({ frames := 4, cells := 1, slots := gms cap (n + m), locals := 105 }) (TPc E D k [.ref a, .ref s] (bSO k a b n ++ (bAB k b cap f ++ (bTO k s t ++ bAB k t m g))) sz) (va_Qq (fun (r : Option Nat) (u9 : Nat × (Nat → Int32)) => r = some a ∧ Bf u9.2 (gcap cap (n + m)) ∧ (∀ j, j < n → u9.2 j = f j) ∧ ∀ j, j < m → u9.2 (n + j) = g j) (TB D k (va_A (bSO k a b n ++ (bAB k b cap f ++ (bTO k s t ++ bAB k t m g))) sz) (fun u9 : Nat × (Nat → Int32) => bSO k a u9.1 (n + m) ++ (bAB k u9.1 (gcap cap (n + m)) u9.2 ++ (bTO k s t ++ bAB k t m g)))) (va_A (bSO k a b n ++ (bAB k b cap f ++ (bTO k s t ++ bAB k t m g))) sz)) (1) (gms cap (n + m)) (va_A (bSO k a b n ++ (bAB k b cap f ++ (bTO k s t ++ bAB k t m g))) sz) := by
  refine tMet (y := yJ5_append_cf1ce) (cc := cJ5_append_cf1ce) (maxL := 3) (ret := (some (.object "java/lang/AbstractStringBuilder"))) (Qc := fun A => va_Qq (fun (r : Option Nat) (u9 : Nat × (Nat → Int32)) => r = some a ∧ Bf u9.2 (gcap cap (n + m)) ∧ (∀ j, j < n → u9.2 j = f j) ∧ ∀ j, j < m → u9.2 (n + j) = g j) (TB D k (A) (fun u9 : Nat × (Nat → Int32) => bSO k a u9.1 (n + m) ++ (bAB k u9.1 (gcap cap (n + m)) u9.2 ++ (bTO k s t ++ bAB k t m g)))) (A)) [.ref a, .ref s] (by decide) rfl (Nat.le_of_ble_eq_true rfl) ?_
  intro p9 e9 s9 m9 bl9 me9 c9 ls A H hF hr hlocks hP hK hE hD hA hS hl hin
  have hl : lv_has ls 3 [(0, .ref a), (1, .ref s)] := hl
  obtain ⟨hx, hb, hml, hown, hts⟩ := id hF
  have k_fieldLink_79 : (Cond.fieldLink RJ5 79 "java/lang/AbstractStringBuilder" "count" "I").before _ s9 = true := hts (.fieldLink RJ5 79 "java/lang/AbstractStringBuilder" "count" "I") (by decide +kernel)
  have kc_RJ4 : ∀ w ∈ u_ws RJ4 TJ4 4, w ∈ wsJ5_append_cf1ce := by decide +kernel
  refine lv_aload_n hx hb dJ5_append_cf1ce_0 rfl (lv_at hl 1 rfl) ?_
  refine lv_ifnonnull (tgt := 9) hx hb dJ5_append_cf1ce_1 (by decide) ?_
  refine lv_aload_n hx hb dJ5_append_cf1ce_9 rfl (lv_at hl 1 rfl) ?_
  have hP : va_P D vwCl (bAB k b cap f ++ (bSO k a b n ++ (bTO k s t ++ bAB k t m g))) H := vP_perm hP (pmS (bSO k a b n) (pm0 (bAB k b cap f) (bTO k s t ++ bAB k t m g)))
  have hD : va_D A (bAB k b cap f ++ (bSO k a b n ++ (bTO k s t ++ bAB k t m g))) := vD_perm hD (pmS (bSO k a b n) (pm0 (bAB k b cap f) (bTO k s t ++ bAB k t m g)))
  have hP : va_P D vwCl (bSO k a b n ++ (bAB k b cap f ++ (bTO k s t ++ bAB k t m g))) H := vP_perm hP (pmS (bAB k b cap f) (pm0 (bSO k a b n) (bTO k s t ++ bAB k t m g)))
  have hD : va_D A (bSO k a b n ++ (bAB k b cap f ++ (bTO k s t ++ bAB k t m g))) := vD_perm hD (pmS (bAB k b cap f) (pm0 (bSO k a b n) (bTO k s t ++ bAB k t m g)))
  have hP : va_P D vwCl (bAB k t m g ++ (bSO k a b n ++ (bAB k b cap f ++ bTO k s t))) H := vP_perm hP (pmX (pmS (bSO k a b n) (pmS (bAB k b cap f) (pmS (bTO k s t) (pmE (bAB k t m g))))))
  have hD : va_D A (bAB k t m g ++ (bSO k a b n ++ (bAB k b cap f ++ bTO k s t))) := vD_perm hD (pmX (pmS (bSO k a b n) (pmS (bAB k b cap f) (pmS (bTO k s t) (pmE (bAB k t m g))))))
  have hP : va_P D vwCl (bTO k s t ++ (bAB k t m g ++ (bSO k a b n ++ bAB k b cap f))) H := vP_perm hP (pmX (pmS (bAB k t m g) (pmS (bSO k a b n) (pmS (bAB k b cap f) (pmE (bTO k s t))))))
  have hD : va_D A (bTO k s t ++ (bAB k t m g ++ (bSO k a b n ++ bAB k b cap f))) := vD_perm hD (pmX (pmS (bAB k t m g) (pmS (bSO k a b n) (pmS (bAB k b cap f) (pmE (bTO k s t))))))
  have hP : va_P D vwCl ((bTO k s t ++ bAB k t m g) ++ (bSO k a b n ++ bAB k b cap f)) H := vP_perm hP (pa2 _ _ _)
  have hD : va_D A ((bTO k s t ++ bAB k t m g) ++ (bSO k a b n ++ bAB k b cap f)) := vD_perm hD (pa2 _ _ _)
  have hFc := tFree hD hS hA
  refine va_calli (va_runV (As := []) (rest := []) hF (fr_i (bSO k a b n ++ bAB k b cap f) (t_J0_length_8abf5 l9 hl9 E D k H.size s t m g )) (cwV 0 hts gJ5_append_cf1ce_J0_length_8abf5 rfl rfl rfl (by decide +kernel) ⟨Nat.le_of_ble_eq_true rfl, Nat.le_of_ble_eq_true rfl⟩) (tPreV (rcv hK hP 0 0 rfl rfl) hK hE hS hA hP hD) rfl rfl hl.1 rfl (lv_room (Nat.le_of_ble_eq_true rfl)) dJ5_append_cf1ce_10 ⟨(Nat.le_of_ble_eq_true rfl), (by show 0 ≤ gms cap (n + m); omega)⟩) hS (fun q _ h => hFc q h) hFc (fun r_2 u_3 t9 H1 locs ht hvm hw_4 hB hz1 hk1 hS => ?_)
  obtain ⟨hP, -, hD⟩ := hB
  rw [ht] at hP
  replace hP : va_P D vwCl ((bTO k s t ++ bAB k t m g) ++ (bSO k a b n ++ bAB k b cap f)) H1 := hP
  replace hD : va_D A ((bTO k s t ++ bAB k t m g) ++ (bSO k a b n ++ bAB k b cap f)) := hD.weaken (fun _ q _ h => hFc q.1 h)
  replace hP : va_P D vwCl (bTO k s t ++ (bAB k t m g ++ (bSO k a b n ++ bAB k b cap f))) H1 := vP_perm hP (pb2 _ _ _)
  replace hD : va_D A (bTO k s t ++ (bAB k t m g ++ (bSO k a b n ++ bAB k b cap f))) := vD_perm hD (pb2 _ _ _)
  replace hw_4 : r_2 = nI m := hw_4
  clear hz1 hvm hFc hk1 ht
  clear t9
  generalize H1 = H at hP hS ⊢
  refine lv_tope (v2 := .int (nI m)) (by rw [hw_4]) ?_
  refine lv_istore_n (lv' := [(2, .int (nI m)), (0, .ref a), (1, .ref s)]) hx hb dJ5_append_cf1ce_13 rfl hl (by decide) rfl (fun ls hl => ?_)
  refine lv_aload_n hx hb dJ5_append_cf1ce_14 rfl (lv_at hl 1 rfl) ?_
  refine lv_aload_n hx hb dJ5_append_cf1ce_15 rfl (lv_at hl 1 rfl) ?_
  refine va_get (D := D) (ci := 1) (v := .int (nI n)) (C := RJ4) (T := TJ4) (N := 4) hx hb hts kc_RJ4 hown hK hP 2 rfl rfl 3 (by decide) k_fieldLink_79 (fun _ h9 => h9) rfl dJ5_append_cf1ce_16 ?_
  refine lv_iload_n hx hb dJ5_append_cf1ce_19 rfl (lv_at hl 0 rfl) ?_
  refine ni_add hx hb n m dJ5_append_cf1ce_20 ?_
  have hP : va_P D vwCl (bAB k t m g ++ (bTO k s t ++ (bSO k a b n ++ bAB k b cap f))) H := vP_perm hP (pmS (bTO k s t) (pm0 (bAB k t m g) (bSO k a b n ++ bAB k b cap f)))
  have hD : va_D A (bAB k t m g ++ (bTO k s t ++ (bSO k a b n ++ bAB k b cap f))) := vD_perm hD (pmS (bTO k s t) (pm0 (bAB k t m g) (bSO k a b n ++ bAB k b cap f)))
  have hP : va_P D vwCl (bTO k s t ++ (bAB k t m g ++ (bSO k a b n ++ bAB k b cap f))) H := vP_perm hP (pmS (bAB k t m g) (pm0 (bTO k s t) (bSO k a b n ++ bAB k b cap f)))
  have hD : va_D A (bTO k s t ++ (bAB k t m g ++ (bSO k a b n ++ bAB k b cap f))) := vD_perm hD (pmS (bAB k t m g) (pm0 (bTO k s t) (bSO k a b n ++ bAB k b cap f)))
  have hP : va_P D vwCl (bAB k b cap f ++ (bTO k s t ++ (bAB k t m g ++ bSO k a b n))) H := vP_perm hP (pmX (pmS (bTO k s t) (pmS (bAB k t m g) (pmS (bSO k a b n) (pmE (bAB k b cap f))))))
  have hD : va_D A (bAB k b cap f ++ (bTO k s t ++ (bAB k t m g ++ bSO k a b n))) := vD_perm hD (pmX (pmS (bTO k s t) (pmS (bAB k t m g) (pmS (bSO k a b n) (pmE (bAB k b cap f))))))
  have hP : va_P D vwCl (bSO k a b n ++ (bAB k b cap f ++ (bTO k s t ++ bAB k t m g))) H := vP_perm hP (pmX (pmS (bAB k b cap f) (pmS (bTO k s t) (pmS (bAB k t m g) (pmE (bSO k a b n))))))
  have hD : va_D A (bSO k a b n ++ (bAB k b cap f ++ (bTO k s t ++ bAB k t m g))) := vD_perm hD (pmX (pmS (bAB k b cap f) (pmS (bTO k s t) (pmS (bAB k t m g) (pmE (bSO k a b n))))))
  have hP : va_P D vwCl ((bSO k a b n ++ bAB k b cap f) ++ (bTO k s t ++ bAB k t m g)) H := vP_perm hP (pa2 _ _ _)
  have hD : va_D A ((bSO k a b n ++ bAB k b cap f) ++ (bTO k s t ++ bAB k t m g)) := vD_perm hD (pa2 _ _ _)
  have hFc := tFree hD hS hA
  refine va_callv (va_runU (As := [.int (nI (n + m))]) (rest := []) hF (fr_v (bTO k s t ++ bAB k t m g) (t_J5_ensureCapacityInternal_d00df l9 hl9 E D k H.size a b n cap f (n + m) (by omega) (by omega) hf)) (va_cwU 1 hts gJ5_append_cf1ce_J5_ensureCapacityInternal_d00df_u100J4 rfl rfl rfl rfl (by decide +kernel) ⟨Nat.le_of_ble_eq_true rfl, Nat.le_of_ble_eq_true rfl⟩) (tPreV (rcv hK hP 0 1 rfl rfl) hK hE hS hA hP hD) rfl rfl hl.1 rfl (lv_room (Nat.le_of_ble_eq_true rfl)) dJ5_append_cf1ce_21 ⟨(Nat.le_of_ble_eq_true rfl), (by show gms cap (n + m) ≤ gms cap (n + m); omega)⟩) hS (fun q _ h => hFc q h) hFc (fun u_7 t9 H1 locs ht hvm h7 hB hz1 hk1 hS => ?_)
  obtain ⟨hP, -, hD⟩ := hB
  rw [ht] at hP
  replace hP : va_P D vwCl ((bSO k a u_7.1 n ++ bAB k u_7.1 (gcap cap (n + m)) u_7.2) ++ (bTO k s t ++ bAB k t m g)) H1 := hP
  replace hD : va_D A ((bSO k a u_7.1 n ++ bAB k u_7.1 (gcap cap (n + m)) u_7.2) ++ (bTO k s t ++ bAB k t m g)) := hD.weaken (fun _ q _ h => hFc q.1 h)
  replace hP : va_P D vwCl (bSO k a u_7.1 n ++ (bAB k u_7.1 (gcap cap (n + m)) u_7.2 ++ (bTO k s t ++ bAB k t m g))) H1 := vP_perm hP (pb2 _ _ _)
  replace hD : va_D A (bSO k a u_7.1 n ++ (bAB k u_7.1 (gcap cap (n + m)) u_7.2 ++ (bTO k s t ++ bAB k t m g))) := vD_perm hD (pb2 _ _ _)
  replace h7 : Bf u_7.2 (gcap cap (n + m)) ∧ ∀ j, j < cap → u_7.2 j = f j := h7
  clear hz1 hvm hFc hk1 ht
  clear t9
  generalize H1 = H at hP hS ⊢
  refine lv_aload_n hx hb dJ5_append_cf1ce_24 rfl (lv_at hl 1 rfl) ?_
  refine lv_aload_n hx hb dJ5_append_cf1ce_25 rfl (lv_at hl 1 rfl) ?_
  refine va_get (D := D) (ci := 1) (v := .int (nI n)) (C := RJ4) (T := TJ4) (N := 4) hx hb hts kc_RJ4 hown hK hP 0 rfl rfl 3 (by decide) k_fieldLink_79 (fun _ h9 => h9) rfl dJ5_append_cf1ce_26 ?_
  refine lv_aload_n hx hb dJ5_append_cf1ce_29 rfl (lv_at hl 2 rfl) ?_
  have hFc := tFree hD hS hA
  refine va_callv (va_runU (As := [.int (nI n), .ref s]) (rest := []) hF (t_J5_putStringAt_47b60 l9 hl9 E D k H.size a u_7.1 n (gcap cap (n + m)) u_7.2 n s t m g (by have := gcap_ge cap (n + m); omega) (by have := gcap_lt (cap := cap) (n := n + m) (b := 2 ^ 28) (by omega) (by omega); omega) (by omega) hg) (va_cwU 2 hts gJ5_append_cf1ce_J5_putStringAt_47b60_u208J4 rfl rfl rfl rfl (by decide +kernel) ⟨Nat.le_of_ble_eq_true rfl, Nat.le_of_ble_eq_true rfl⟩) (tPreV (rcv hK hP 0 1 rfl rfl) hK hE hS hA hP hD) rfl rfl hl.1 rfl (lv_room (Nat.le_of_ble_eq_true rfl)) dJ5_append_cf1ce_30 ⟨(Nat.le_of_ble_eq_true rfl), (by show gms cap (n + m) ≤ gms cap (n + m); omega)⟩) hS (fun q _ h => hFc q h) hFc (fun u_10 t9 H1 locs ht hvm hw_11 hB hz1 hk1 hS => ?_)
  obtain ⟨hP, -, hD⟩ := hB
  rw [ht] at hP
  replace hP : va_P D vwCl (bSO k a u_7.1 n ++ (bAB k u_7.1 (gcap cap (n + m)) (cpy u_7.2 n g 0 m) ++ (bTO k s t ++ bAB k t m g))) H1 := hP
  replace hD : va_D A (bSO k a u_7.1 n ++ (bAB k u_7.1 (gcap cap (n + m)) (cpy u_7.2 n g 0 m) ++ (bTO k s t ++ bAB k t m g))) := hD.weaken (fun _ q _ h => hFc q.1 h)
  replace hw_11 : True := hw_11
  clear hz1 hvm hFc hk1 ht
  clear t9
  generalize H1 = H at hP hS ⊢
  refine lv_aload_n hx hb dJ5_append_cf1ce_33 rfl (lv_at hl 1 rfl) ?_
  refine lv_dup hx hb dJ5_append_cf1ce_34 rfl ?_
  refine va_get (D := D) (ci := 1) (v := .int (nI n)) (C := RJ4) (T := TJ4) (N := 4) hx hb hts kc_RJ4 hown hK hP 0 rfl rfl 3 (by decide) k_fieldLink_79 (fun _ h9 => h9) rfl dJ5_append_cf1ce_35 ?_
  refine lv_iload_n hx hb dJ5_append_cf1ce_38 rfl (lv_at hl 0 rfl) ?_
  refine ni_add hx hb n m dJ5_append_cf1ce_39 ?_
  refine va_put (D := D) (ci := 1) (v := .int (nI (n + m))) (ty := .int) (C := RJ4) (T := TJ4) (N := 4) hx hb hts kc_RJ4 tyJ4 tyJ4_ok nmJ4 hown hK hP hD hS 0 rfl rfl 3 (by decide) k_fieldLink_79 (fun _ h9 => h9) rfl (by decide +kernel) rfl rfl (Nat.le_of_ble_eq_true rfl) dJ5_append_cf1ce_40 (fun H locs hP hD hS => ?_)
  have hP : va_P D vwCl (bSO k a u_7.1 (n + m) ++ (bAB k u_7.1 (gcap cap (n + m)) (cpy u_7.2 n g 0 m) ++ (bTO k s t ++ bAB k t m g))) H := hP
  have hD : va_D A (bSO k a u_7.1 (n + m) ++ (bAB k u_7.1 (gcap cap (n + m)) (cpy u_7.2 n g 0 m) ++ (bTO k s t ++ bAB k t m g))) := hD
  refine lv_aload_n hx hb dJ5_append_cf1ce_43 rfl (lv_at hl 1 rfl) ?_
  exact W.aret (v := .ref a) hx hb hr (Or.inl ⟨_, rfl⟩) (Or.inr ⟨_, rfl⟩) (fun t9 ht hW => ⟨⟨some a, (u_7.1, cpy u_7.2 n g 0 m), rfl, (by exact ⟨rfl, Bf_cpy h7.1 hg (by omega), fun j hj => (by rw [cpy_at, if_neg (by omega)]; exact h7.2 j (by omega)), fun j hj => (by rw [cpy_at, if_pos (by omega)]; congr 1; omega)⟩), ⟨by rw [ht]; exact hP, va_K.moved hW.alike hK, hD⟩⟩, hS.F ht⟩) hS.2.2 dJ5_append_cf1ce_44 hlocks

set_option maxHeartbeats 4000000 in
set_option maxRecDepth 100000 in
theorem t_J4_append_15ec4 (l9 : Launch) (hl9 : l9.stackTraces = false) (E : EK) (D : va_G) (k : Nat → ClassId) (sz : Nat) (a b n cap : Nat) (f : Nat → Int32) (s t m : Nat) (g : Nat → Int32) (hm2 : n + m < 2 ^ 28) (hg : Bf g m) (hcap : cap < 2 ^ 28) (hn : n ≤ cap) (hf : Bf f cap) : Met l9 yJ4_append_15ec4 wsJ4_append_15ec4 ({ frames := 5, cells := 1, slots := gms cap (n + m), locals := 127 }) (TPc E D k [.ref a, .ref s] (bSO k a b n ++ (bAB k b cap f ++ (bTO k s t ++ bAB k t m g))) sz) (va_Qq (fun (r : Option Nat) (u9 : Nat × (Nat → Int32)) => r = some a ∧ Bf u9.2 (gcap cap (n + m)) ∧ (∀ j, j < n → u9.2 j = f j) ∧ ∀ j, j < m → u9.2 (n + j) = g j) (TB D k (va_A (bSO k a b n ++ (bAB k b cap f ++ (bTO k s t ++ bAB k t m g))) sz) (fun u9 : Nat × (Nat → Int32) => bSO k a u9.1 (n + m) ++ (bAB k u9.1 (gcap cap (n + m)) u9.2 ++ (bTO k s t ++ bAB k t m g)))) (va_A (bSO k a b n ++ (bAB k b cap f ++ (bTO k s t ++ bAB k t m g))) sz)) (1) (gms cap (n + m)) (va_A (bSO k a b n ++ (bAB k b cap f ++ (bTO k s t ++ bAB k t m g))) sz) := by
  refine tMet (y := yJ4_append_15ec4) (cc := cJ4_append_15ec4) (maxL := 2) (ret := (some (.object "java/lang/StringBuilder"))) (Qc := fun A => va_Qq (fun (r : Option Nat) (u9 : Nat × (Nat → Int32)) => r = some a ∧ Bf u9.2 (gcap cap (n + m)) ∧ (∀ j, j < n → u9.2 j = f j) ∧ ∀ j, j < m → u9.2 (n + j) = g j) (TB D k (A) (fun u9 : Nat × (Nat → Int32) => bSO k a u9.1 (n + m) ++ (bAB k u9.1 (gcap cap (n + m)) u9.2 ++ (bTO k s t ++ bAB k t m g)))) (A)) [.ref a, .ref s] (by decide) rfl (Nat.le_of_ble_eq_true rfl) ?_
  intro p9 e9 s9 m9 bl9 me9 c9 ls A H hF hr hlocks hP hK hE hD hA hS hl hin
  have hl : lv_has ls 2 [(0, .ref a), (1, .ref s)] := hl
  obtain ⟨hx, hb, hml, hown, hts⟩ := id hF
  refine lv_aload_n hx hb dJ4_append_15ec4_0 rfl (lv_at hl 0 rfl) ?_
  refine lv_aload_n hx hb dJ4_append_15ec4_1 rfl (lv_at hl 1 rfl) ?_
  have hFc := tFree hD hS hA
  refine va_callq (va_runSU (As := [.ref s]) (rest := []) (hK.1 1 _ rfl).2 hF (t_J5_append_cf1ce l9 hl9 E D k H.size a b n cap f s t m g hm2 hg hcap hn hf) (va_cwSU 1 hts gJ4_append_15ec4_J5_append_cf1ce_s29 rfl rfl rfl (by decide +kernel) ⟨Nat.le_of_ble_eq_true rfl, Nat.le_of_ble_eq_true rfl⟩) (tPreV (rcv hK hP 0 1 rfl rfl) hK hE hS hA hP hD) rfl rfl hl.1 rfl (lv_room (Nat.le_of_ble_eq_true rfl)) dJ4_append_15ec4_2 ⟨(Nat.le_of_ble_eq_true rfl), (by show gms cap (n + m) ≤ gms cap (n + m); omega)⟩) hS (fun q _ h => hFc q h) hFc (fun r_2 u_3 t9 H1 locs ht hvm h2 hB hz1 hk1 hS => ?_)
  obtain ⟨hP, -, hD⟩ := hB
  rw [ht] at hP
  replace hP : va_P D vwCl (bSO k a u_3.1 (n + m) ++ (bAB k u_3.1 (gcap cap (n + m)) u_3.2 ++ (bTO k s t ++ bAB k t m g))) H1 := hP
  replace hD : va_D A (bSO k a u_3.1 (n + m) ++ (bAB k u_3.1 (gcap cap (n + m)) u_3.2 ++ (bTO k s t ++ bAB k t m g))) := hD.weaken (fun _ q _ h => hFc q.1 h)
  replace h2 : r_2 = some a ∧ Bf u_3.2 (gcap cap (n + m)) ∧ (∀ j, j < n → u_3.2 j = f j) ∧ ∀ j, j < m → u_3.2 (n + j) = g j := h2
  clear hz1 hvm hFc hk1 ht
  clear t9
  generalize H1 = H at hP hS ⊢
  refine lv_tope (v2 := .ref a) (by rw [h2.1]; rfl) ?_
  refine lv_pop hx hb dJ4_append_15ec4_5 rfl ?_
  refine lv_aload_n hx hb dJ4_append_15ec4_6 rfl (lv_at hl 0 rfl) ?_
  exact W.aret (v := .ref a) hx hb hr (Or.inl ⟨_, rfl⟩) (Or.inr ⟨_, rfl⟩) (fun t9 ht hW => ⟨⟨some a, u_3, rfl, (by exact ⟨rfl, h2.2⟩), ⟨by rw [ht]; exact hP, va_K.moved hW.alike hK, hD⟩⟩, hS.F ht⟩) hS.2.2 dJ4_append_15ec4_7 hlocks

set_option maxHeartbeats 4000000 in
set_option maxRecDepth 100000 in
theorem t_J4_append_cf1ce (l9 : Launch) (hl9 : l9.stackTraces = false) (E : EK) (D : va_G) (k : Nat → ClassId) (sz : Nat) (a b n cap : Nat) (f : Nat → Int32) (s t m : Nat) (g : Nat → Int32) (hm2 : n + m < 2 ^ 28) (hg : Bf g m) (hcap : cap < 2 ^ 28) (hn : n ≤ cap) (hf : Bf f cap) : Met l9 yJ4_append_cf1ce wsJ4_append_cf1ce ({ frames := 6, cells := 1, slots := gms cap (n + m), locals := 148 }) (TPc E D k [.ref a, .ref s] (bSO k a b n ++ (bAB k b cap f ++ (bTO k s t ++ bAB k t m g))) sz) (va_Qq (fun (r : Option Nat) (u9 : Nat × (Nat → Int32)) => r = some a ∧ Bf u9.2 (gcap cap (n + m)) ∧ (∀ j, j < n → u9.2 j = f j) ∧ ∀ j, j < m → u9.2 (n + j) = g j) (TB D k (va_A (bSO k a b n ++ (bAB k b cap f ++ (bTO k s t ++ bAB k t m g))) sz) (fun u9 : Nat × (Nat → Int32) => bSO k a u9.1 (n + m) ++ (bAB k u9.1 (gcap cap (n + m)) u9.2 ++ (bTO k s t ++ bAB k t m g)))) (va_A (bSO k a b n ++ (bAB k b cap f ++ (bTO k s t ++ bAB k t m g))) sz)) (1) (gms cap (n + m)) (va_A (bSO k a b n ++ (bAB k b cap f ++ (bTO k s t ++ bAB k t m g))) sz) := by
  refine tMet (y := yJ4_append_cf1ce) (cc := cJ4_append_cf1ce) (maxL := 2) (ret := (some (.object "java/lang/AbstractStringBuilder"))) (Qc := fun A => va_Qq (fun (r : Option Nat) (u9 : Nat × (Nat → Int32)) => r = some a ∧ Bf u9.2 (gcap cap (n + m)) ∧ (∀ j, j < n → u9.2 j = f j) ∧ ∀ j, j < m → u9.2 (n + j) = g j) (TB D k (A) (fun u9 : Nat × (Nat → Int32) => bSO k a u9.1 (n + m) ++ (bAB k u9.1 (gcap cap (n + m)) u9.2 ++ (bTO k s t ++ bAB k t m g)))) (A)) [.ref a, .ref s] (by decide) rfl (Nat.le_of_ble_eq_true rfl) ?_
  intro p9 e9 s9 m9 bl9 me9 c9 ls A H hF hr hlocks hP hK hE hD hA hS hl hin
  have hl : lv_has ls 2 [(0, .ref a), (1, .ref s)] := hl
  obtain ⟨hx, hb, hml, hown, hts⟩ := id hF
  refine lv_aload_n hx hb dJ4_append_cf1ce_0 rfl (lv_at hl 0 rfl) ?_
  refine lv_aload_n hx hb dJ4_append_cf1ce_1 rfl (lv_at hl 1 rfl) ?_
  have hFc := tFree hD hS hA
  refine va_callq (va_runV (As := [.ref s]) (rest := []) hF (t_J4_append_15ec4 l9 hl9 E D k H.size a b n cap f s t m g hm2 hg hcap hn hf) (cwV 1 hts gJ4_append_cf1ce_J4_append_15ec4 rfl rfl rfl (by decide +kernel) ⟨Nat.le_of_ble_eq_true rfl, Nat.le_of_ble_eq_true rfl⟩) (tPreV (rcv hK hP 0 1 rfl rfl) hK hE hS hA hP hD) rfl rfl hl.1 rfl (lv_room (Nat.le_of_ble_eq_true rfl)) dJ4_append_cf1ce_2 ⟨(Nat.le_of_ble_eq_true rfl), (by show gms cap (n + m) ≤ gms cap (n + m); omega)⟩) hS (fun q _ h => hFc q h) hFc (fun r_2 u_3 t9 H1 locs ht hvm h2 hB hz1 hk1 hS => ?_)
  obtain ⟨hP, -, hD⟩ := hB
  rw [ht] at hP
  replace hP : va_P D vwCl (bSO k a u_3.1 (n + m) ++ (bAB k u_3.1 (gcap cap (n + m)) u_3.2 ++ (bTO k s t ++ bAB k t m g))) H1 := hP
  replace hD : va_D A (bSO k a u_3.1 (n + m) ++ (bAB k u_3.1 (gcap cap (n + m)) u_3.2 ++ (bTO k s t ++ bAB k t m g))) := hD.weaken (fun _ q _ h => hFc q.1 h)
  replace h2 : r_2 = some a ∧ Bf u_3.2 (gcap cap (n + m)) ∧ (∀ j, j < n → u_3.2 j = f j) ∧ ∀ j, j < m → u_3.2 (n + j) = g j := h2
  clear hz1 hvm hFc hk1 ht
  clear t9
  generalize H1 = H at hP hS ⊢
  refine lv_tope (v2 := .ref a) (by rw [h2.1]; rfl) ?_
  exact W.aret (v := .ref a) hx hb hr (Or.inl ⟨_, rfl⟩) (Or.inr ⟨_, rfl⟩) (fun t9 ht hW => ⟨⟨some a, u_3, rfl, (by exact ⟨rfl, h2.2⟩), ⟨by rw [ht]; exact hP, va_K.moved hW.alike hK, hD⟩⟩, hS.F ht⟩) hS.2.2 dJ4_append_cf1ce_5 hlocks

set_option maxHeartbeats 4000000 in
set_option maxRecDepth 100000 in
theorem tk_J5_append (l9 : Launch) (hl9 : l9.stackTraces = false) (E : EK) (D : va_G) (k : Nat → ClassId) (sz : Nat) (a b n cap : Nat) (f : Nat → Int32) (i : Nat) (hi : i < 7) (hm2 : n + ln2 i < 2 ^ 28) (hcap : cap < 2 ^ 28) (hn : n ≤ cap) (hf : Bf f cap) : Met l9 yJ5_append_cf1ce wsJ5_append_cf1ce ({ frames := 4, cells := 1, slots := gms cap (n + ln2 i), locals := 105 }) (TPc E D k [.ref a, .ref (kjs E i)] (bSO k a b n ++ bAB k b cap f) sz) (va_Qq (fun (r : Option Nat) (u9 : Nat × (Nat → Int32)) => r = some a ∧ Bf u9.2 (gcap cap (n + ln2 i)) ∧ (∀ j, j < n → u9.2 j = f j) ∧ ∀ j, j < ln2 i → u9.2 (n + j) = ch2 i j) (TB D k (va_A (bSO k a b n ++ bAB k b cap f) sz) (fun u9 : Nat × (Nat → Int32) => bSO k a u9.1 (n + ln2 i) ++ bAB k u9.1 (gcap cap (n + ln2 i)) u9.2)) (va_A (bSO k a b n ++ bAB k b cap f) sz)) (1) (gms cap (n + ln2 i)) (va_A (bSO k a b n ++ bAB k b cap f) sz) := by
  refine tMet (y := yJ5_append_cf1ce) (cc := cJ5_append_cf1ce) (maxL := 3) (ret := (some (.object "java/lang/AbstractStringBuilder"))) (Qc := fun A => va_Qq (fun (r : Option Nat) (u9 : Nat × (Nat → Int32)) => r = some a ∧ Bf u9.2 (gcap cap (n + ln2 i)) ∧ (∀ j, j < n → u9.2 j = f j) ∧ ∀ j, j < ln2 i → u9.2 (n + j) = ch2 i j) (TB D k (A) (fun u9 : Nat × (Nat → Int32) => bSO k a u9.1 (n + ln2 i) ++ bAB k u9.1 (gcap cap (n + ln2 i)) u9.2)) (A)) [.ref a, .ref (kjs E i)] (by decide) rfl (Nat.le_of_ble_eq_true rfl) ?_
  intro p9 e9 s9 m9 bl9 me9 c9 ls A H hF hr hlocks hP hK hE hD hA hS hl hin
  have hl : lv_has ls 3 [(0, .ref a), (1, .ref (kjs E i))] := hl
  obtain ⟨hx, hb, hml, hown, hts⟩ := id hF
  have k_fieldLink_79 : (Cond.fieldLink RJ5 79 "java/lang/AbstractStringBuilder" "count" "I").before _ s9 = true := hts (.fieldLink RJ5 79 "java/lang/AbstractStringBuilder" "count" "I") (by decide +kernel)
  have kc_RJ4 : ∀ w ∈ u_ws RJ4 TJ4 4, w ∈ wsJ5_append_cf1ce := by decide +kernel
  refine lv_aload_n hx hb dJ5_append_cf1ce_0 rfl (lv_at hl 1 rfl) ?_
  refine lv_ifnonnull (tgt := 9) hx hb dJ5_append_cf1ce_1 (by decide) ?_
  refine lv_aload_n hx hb dJ5_append_cf1ce_9 rfl (lv_at hl 1 rfl) ?_
  have hP : va_P D vwCl ([] ++ (bSO k a b n ++ bAB k b cap f)) H := hP
  have hD : va_D A ([] ++ (bSO k a b n ++ bAB k b cap f)) := hD
  have hFc := tFree hD hS hA
  refine va_calli (va_runV (As := []) (rest := []) hF (fr_i (bSO k a b n ++ bAB k b cap f) (tk_J0_length l9 hl9 E D k H.size i hi)) (cwV 0 hts gJ5_append_cf1ce_J0_length_8abf5 rfl rfl rfl (by decide +kernel) ⟨Nat.le_of_ble_eq_true rfl, Nat.le_of_ble_eq_true rfl⟩) (tPreV (vk_recv hE.2.2.2.2.2.2.1 (by omega) hS) hK hE hS hA hP hD) rfl rfl hl.1 rfl (lv_room (Nat.le_of_ble_eq_true rfl)) dJ5_append_cf1ce_10 ⟨(Nat.le_of_ble_eq_true rfl), (by show 0 ≤ gms cap (n + ln2 i); omega)⟩) hS (fun q _ h => hFc q h) hFc (fun r_2 u_3 t9 H1 locs ht hvm hw_4 hB hz1 hk1 hS => ?_)
  obtain ⟨hP, -, hD⟩ := hB
  rw [ht] at hP
  replace hP : va_P D vwCl (([]) ++ (bSO k a b n ++ bAB k b cap f)) H1 := hP
  replace hD : va_D A (([]) ++ (bSO k a b n ++ bAB k b cap f)) := hD.weaken (fun _ q _ h => hFc q.1 h)
  replace hP : va_P D vwCl (bSO k a b n ++ bAB k b cap f) H1 := hP
  replace hD : va_D A (bSO k a b n ++ bAB k b cap f) := hD
  replace hw_4 : r_2 = nI (ln2 i) := hw_4
  clear hz1 hvm hFc hk1 ht
  clear t9
  generalize H1 = H at hP hS ⊢
  refine lv_tope (v2 := .int (nI (ln2 i))) (by rw [hw_4]) ?_
  refine lv_istore_n (lv' := [(2, .int (nI (ln2 i))), (0, .ref a), (1, .ref (kjs E i))]) hx hb dJ5_append_cf1ce_13 rfl hl (by decide) rfl (fun ls hl => ?_)
  refine lv_aload_n hx hb dJ5_append_cf1ce_14 rfl (lv_at hl 1 rfl) ?_
  refine lv_aload_n hx hb dJ5_append_cf1ce_15 rfl (lv_at hl 1 rfl) ?_
  refine va_get (D := D) (ci := 1) (v := .int (nI n)) (C := RJ4) (T := TJ4) (N := 4) hx hb hts kc_RJ4 hown hK hP 0 rfl rfl 3 (by decide) k_fieldLink_79 (fun _ h9 => h9) rfl dJ5_append_cf1ce_16 ?_
  refine lv_iload_n hx hb dJ5_append_cf1ce_19 rfl (lv_at hl 0 rfl) ?_
  refine ni_add hx hb n (ln2 i) dJ5_append_cf1ce_20 ?_
  have hFc := tFree hD hS hA
  refine va_callv (va_runU (As := [.int (nI (n + (ln2 i)))]) (rest := []) hF (t_J5_ensureCapacityInternal_d00df l9 hl9 E D k H.size a b n cap f (n + (ln2 i)) (by omega) (by omega) hf) (va_cwU 1 hts gJ5_append_cf1ce_J5_ensureCapacityInternal_d00df_u100J4 rfl rfl rfl rfl (by decide +kernel) ⟨Nat.le_of_ble_eq_true rfl, Nat.le_of_ble_eq_true rfl⟩) (tPreV (rcv hK hP 0 1 rfl rfl) hK hE hS hA hP hD) rfl rfl hl.1 rfl (lv_room (Nat.le_of_ble_eq_true rfl)) dJ5_append_cf1ce_21 ⟨(Nat.le_of_ble_eq_true rfl), (by show gms cap (n + (ln2 i)) ≤ gms cap (n + ln2 i); omega)⟩) hS (fun q _ h => hFc q h) hFc (fun u_7 t9 H1 locs ht hvm h7 hB hz1 hk1 hS => ?_)
  obtain ⟨hP, -, hD⟩ := hB
  rw [ht] at hP
  replace hP : va_P D vwCl (bSO k a u_7.1 n ++ bAB k u_7.1 (gcap cap (n + (ln2 i))) u_7.2) H1 := hP
  replace hD : va_D A (bSO k a u_7.1 n ++ bAB k u_7.1 (gcap cap (n + (ln2 i))) u_7.2) := hD.weaken (fun _ q _ h => hFc q.1 h)
  replace h7 : Bf u_7.2 (gcap cap (n + (ln2 i))) ∧ ∀ j, j < cap → u_7.2 j = f j := h7
  clear hz1 hvm hFc hk1 ht
  clear t9
  generalize H1 = H at hP hS ⊢
  refine lv_aload_n hx hb dJ5_append_cf1ce_24 rfl (lv_at hl 1 rfl) ?_
  refine lv_aload_n hx hb dJ5_append_cf1ce_25 rfl (lv_at hl 1 rfl) ?_
  refine va_get (D := D) (ci := 1) (v := .int (nI n)) (C := RJ4) (T := TJ4) (N := 4) hx hb hts kc_RJ4 hown hK hP 0 rfl rfl 3 (by decide) k_fieldLink_79 (fun _ h9 => h9) rfl dJ5_append_cf1ce_26 ?_
  refine lv_aload_n hx hb dJ5_append_cf1ce_29 rfl (lv_at hl 2 rfl) ?_
  have hFc := tFree hD hS hA
  refine va_callv (va_runU (As := [.int (nI n), .ref (kjs E i)]) (rest := []) hF (tk_J5_putStringAt l9 hl9 E D k H.size a u_7.1 n (gcap cap (n + (ln2 i))) u_7.2 n i hi (by have := gcap_ge cap (n + (ln2 i)); omega) (by have := gcap_lt (cap := cap) (n := n + (ln2 i)) (b := 2 ^ 28) (by omega) (by omega); omega)) (va_cwU 2 hts gJ5_append_cf1ce_J5_putStringAt_47b60_u208J4 rfl rfl rfl rfl (by decide +kernel) ⟨Nat.le_of_ble_eq_true rfl, Nat.le_of_ble_eq_true rfl⟩) (tPreV (rcv hK hP 0 1 rfl rfl) hK hE hS hA hP hD) rfl rfl hl.1 rfl (lv_room (Nat.le_of_ble_eq_true rfl)) dJ5_append_cf1ce_30 ⟨(Nat.le_of_ble_eq_true rfl), (by show gms cap (n + (ln2 i)) ≤ gms cap (n + ln2 i); omega)⟩) hS (fun q _ h => hFc q h) hFc (fun u_10 t9 H1 locs ht hvm hw_11 hB hz1 hk1 hS => ?_)
  obtain ⟨hP, -, hD⟩ := hB
  rw [ht] at hP
  replace hP : va_P D vwCl (bSO k a u_7.1 n ++ bAB k u_7.1 (gcap cap (n + (ln2 i))) (cpy u_7.2 n (ch2 i) 0 (ln2 i))) H1 := hP
  replace hD : va_D A (bSO k a u_7.1 n ++ bAB k u_7.1 (gcap cap (n + (ln2 i))) (cpy u_7.2 n (ch2 i) 0 (ln2 i))) := hD.weaken (fun _ q _ h => hFc q.1 h)
  replace hw_11 : True := hw_11
  clear hz1 hvm hFc hk1 ht
  clear t9
  generalize H1 = H at hP hS ⊢
  refine lv_aload_n hx hb dJ5_append_cf1ce_33 rfl (lv_at hl 1 rfl) ?_
  refine lv_dup hx hb dJ5_append_cf1ce_34 rfl ?_
  refine va_get (D := D) (ci := 1) (v := .int (nI n)) (C := RJ4) (T := TJ4) (N := 4) hx hb hts kc_RJ4 hown hK hP 0 rfl rfl 3 (by decide) k_fieldLink_79 (fun _ h9 => h9) rfl dJ5_append_cf1ce_35 ?_
  refine lv_iload_n hx hb dJ5_append_cf1ce_38 rfl (lv_at hl 0 rfl) ?_
  refine ni_add hx hb n (ln2 i) dJ5_append_cf1ce_39 ?_
  refine va_put (D := D) (ci := 1) (v := .int (nI (n + (ln2 i)))) (ty := .int) (C := RJ4) (T := TJ4) (N := 4) hx hb hts kc_RJ4 tyJ4 tyJ4_ok nmJ4 hown hK hP hD hS 0 rfl rfl 3 (by decide) k_fieldLink_79 (fun _ h9 => h9) rfl (by decide +kernel) rfl rfl (Nat.le_of_ble_eq_true rfl) dJ5_append_cf1ce_40 (fun H locs hP hD hS => ?_)
  have hP : va_P D vwCl (bSO k a u_7.1 (n + (ln2 i)) ++ bAB k u_7.1 (gcap cap (n + (ln2 i))) (cpy u_7.2 n (ch2 i) 0 (ln2 i))) H := hP
  have hD : va_D A (bSO k a u_7.1 (n + (ln2 i)) ++ bAB k u_7.1 (gcap cap (n + (ln2 i))) (cpy u_7.2 n (ch2 i) 0 (ln2 i))) := hD
  refine lv_aload_n hx hb dJ5_append_cf1ce_43 rfl (lv_at hl 1 rfl) ?_
  have e_12 : (n + (ln2 i) : Nat) = n + ln2 i := by first | (with_reducible rfl) | (rfl)
  have hP := Eq.mp (congrArg (fun z9 => va_P D vwCl (bSO k a u_7.1 z9 ++ bAB k u_7.1 (gcap cap (n + (ln2 i))) (cpy u_7.2 n (ch2 i) 0 (ln2 i))) H) e_12) hP
  have hD := Eq.mp (congrArg (fun z9 => va_D A (bSO k a u_7.1 z9 ++ bAB k u_7.1 (gcap cap (n + (ln2 i))) (cpy u_7.2 n (ch2 i) 0 (ln2 i)))) e_12) hD
  have e_13 : ((gcap cap (n + (ln2 i))) : Nat) = gcap cap (n + ln2 i) := by first | (with_reducible rfl) | (rfl)
  have hP := Eq.mp (congrArg (fun z9 => va_P D vwCl (bSO k a u_7.1 (n + ln2 i) ++ bAB k u_7.1 z9 (cpy u_7.2 n (ch2 i) 0 (ln2 i))) H) e_13) hP
  have hD := Eq.mp (congrArg (fun z9 => va_D A (bSO k a u_7.1 (n + ln2 i) ++ bAB k u_7.1 z9 (cpy u_7.2 n (ch2 i) 0 (ln2 i)))) e_13) hD
  refine W.widen (k := 1) (n := gms cap (n + ln2 i)) (Nat.le_of_ble_eq_true rfl) (by show gms cap (n + (ln2 i)) ≤ gms cap (n + ln2 i); omega) ?_
  exact W.aret (v := .ref a) hx hb hr (Or.inl ⟨_, rfl⟩) (Or.inr ⟨_, rfl⟩) (fun t9 ht hW => ⟨⟨some a, (u_7.1, cpy u_7.2 n (ch2 i) 0 (ln2 i)), rfl, (by exact ⟨rfl, Bf_cpy h7.1 (Bf_k hi) (by omega), fun j hj => (by rw [cpy_at, if_neg (by omega)]; exact h7.2 j (by omega)), fun j hj => (by rw [cpy_at, if_pos (by omega)]; congr 1; omega)⟩), ⟨by rw [ht]; exact hP, va_K.moved hW.alike hK, hD⟩⟩, hS.F ht⟩) hS.2.2 dJ5_append_cf1ce_44 hlocks

set_option maxHeartbeats 4000000 in
set_option maxRecDepth 100000 in
theorem tk_J4_append (l9 : Launch) (hl9 : l9.stackTraces = false) (E : EK) (D : va_G) (k : Nat → ClassId) (sz : Nat) (a b n cap : Nat) (f : Nat → Int32) (i : Nat) (hi : i < 7) (hm2 : n + ln2 i < 2 ^ 28) (hcap : cap < 2 ^ 28) (hn : n ≤ cap) (hf : Bf f cap) : Met l9 yJ4_append_15ec4 wsJ4_append_15ec4 ({ frames := 5, cells := 1, slots := gms cap (n + ln2 i), locals := 127 }) (TPc E D k [.ref a, .ref (kjs E i)] (bSO k a b n ++ bAB k b cap f) sz) (va_Qq (fun (r : Option Nat) (u9 : Nat × (Nat → Int32)) => r = some a ∧ Bf u9.2 (gcap cap (n + ln2 i)) ∧ (∀ j, j < n → u9.2 j = f j) ∧ ∀ j, j < ln2 i → u9.2 (n + j) = ch2 i j) (TB D k (va_A (bSO k a b n ++ bAB k b cap f) sz) (fun u9 : Nat × (Nat → Int32) => bSO k a u9.1 (n + ln2 i) ++ bAB k u9.1 (gcap cap (n + ln2 i)) u9.2)) (va_A (bSO k a b n ++ bAB k b cap f) sz)) (1) (gms cap (n + ln2 i)) (va_A (bSO k a b n ++ bAB k b cap f) sz) := by
  refine tMet (y := yJ4_append_15ec4) (cc := cJ4_append_15ec4) (maxL := 2) (ret := (some (.object "java/lang/StringBuilder"))) (Qc := fun A => va_Qq (fun (r : Option Nat) (u9 : Nat × (Nat → Int32)) => r = some a ∧ Bf u9.2 (gcap cap (n + ln2 i)) ∧ (∀ j, j < n → u9.2 j = f j) ∧ ∀ j, j < ln2 i → u9.2 (n + j) = ch2 i j) (TB D k (A) (fun u9 : Nat × (Nat → Int32) => bSO k a u9.1 (n + ln2 i) ++ bAB k u9.1 (gcap cap (n + ln2 i)) u9.2)) (A)) [.ref a, .ref (kjs E i)] (by decide) rfl (Nat.le_of_ble_eq_true rfl) ?_
  intro p9 e9 s9 m9 bl9 me9 c9 ls A H hF hr hlocks hP hK hE hD hA hS hl hin
  have hl : lv_has ls 2 [(0, .ref a), (1, .ref (kjs E i))] := hl
  obtain ⟨hx, hb, hml, hown, hts⟩ := id hF
  refine lv_aload_n hx hb dJ4_append_15ec4_0 rfl (lv_at hl 0 rfl) ?_
  refine lv_aload_n hx hb dJ4_append_15ec4_1 rfl (lv_at hl 1 rfl) ?_
  have hFc := tFree hD hS hA
  refine va_callq (va_runSU (As := [.ref (kjs E i)]) (rest := []) (hK.1 1 _ rfl).2 hF (tk_J5_append l9 hl9 E D k H.size a b n cap f i hi hm2 hcap hn hf) (va_cwSU 1 hts gJ4_append_15ec4_J5_append_cf1ce_s29 rfl rfl rfl (by decide +kernel) ⟨Nat.le_of_ble_eq_true rfl, Nat.le_of_ble_eq_true rfl⟩) (tPreV (rcv hK hP 0 1 rfl rfl) hK hE hS hA hP hD) rfl rfl hl.1 rfl (lv_room (Nat.le_of_ble_eq_true rfl)) dJ4_append_15ec4_2 ⟨(Nat.le_of_ble_eq_true rfl), (by show gms cap (n + ln2 i) ≤ gms cap (n + ln2 i); omega)⟩) hS (fun q _ h => hFc q h) hFc (fun r_2 u_3 t9 H1 locs ht hvm h2 hB hz1 hk1 hS => ?_)
  obtain ⟨hP, -, hD⟩ := hB
  rw [ht] at hP
  replace hP : va_P D vwCl (bSO k a u_3.1 (n + ln2 i) ++ bAB k u_3.1 (gcap cap (n + ln2 i)) u_3.2) H1 := hP
  replace hD : va_D A (bSO k a u_3.1 (n + ln2 i) ++ bAB k u_3.1 (gcap cap (n + ln2 i)) u_3.2) := hD.weaken (fun _ q _ h => hFc q.1 h)
  replace h2 : r_2 = some a ∧ Bf u_3.2 (gcap cap (n + ln2 i)) ∧ (∀ j, j < n → u_3.2 j = f j) ∧ ∀ j, j < ln2 i → u_3.2 (n + j) = ch2 i j := h2
  clear hz1 hvm hFc hk1 ht
  clear t9
  generalize H1 = H at hP hS ⊢
  refine lv_tope (v2 := .ref a) (by rw [h2.1]; rfl) ?_
  refine lv_pop hx hb dJ4_append_15ec4_5 rfl ?_
  refine lv_aload_n hx hb dJ4_append_15ec4_6 rfl (lv_at hl 0 rfl) ?_
  exact W.aret (v := .ref a) hx hb hr (Or.inl ⟨_, rfl⟩) (Or.inr ⟨_, rfl⟩) (fun t9 ht hW => ⟨⟨some a, u_3, rfl, (by exact ⟨rfl, h2.2⟩), ⟨by rw [ht]; exact hP, va_K.moved hW.alike hK, hD⟩⟩, hS.F ht⟩) hS.2.2 dJ4_append_15ec4_7 hlocks

set_option maxHeartbeats 4000000 in
set_option maxRecDepth 100000 in
theorem tk_J4_append_b (l9 : Launch) (hl9 : l9.stackTraces = false) (E : EK) (D : va_G) (k : Nat → ClassId) (sz : Nat) (a b n cap : Nat) (f : Nat → Int32) (i : Nat) (hi : i < 7) (hm2 : n + ln2 i < 2 ^ 28) (hcap : cap < 2 ^ 28) (hn : n ≤ cap) (hf : Bf f cap) : Met l9 yJ4_append_cf1ce wsJ4_append_cf1ce ({ frames := 6, cells := 1, slots := gms cap (n + ln2 i), locals := 148 }) (TPc E D k [.ref a, .ref (kjs E i)] (bSO k a b n ++ bAB k b cap f) sz) (va_Qq (fun (r : Option Nat) (u9 : Nat × (Nat → Int32)) => r = some a ∧ Bf u9.2 (gcap cap (n + ln2 i)) ∧ (∀ j, j < n → u9.2 j = f j) ∧ ∀ j, j < ln2 i → u9.2 (n + j) = ch2 i j) (TB D k (va_A (bSO k a b n ++ bAB k b cap f) sz) (fun u9 : Nat × (Nat → Int32) => bSO k a u9.1 (n + ln2 i) ++ bAB k u9.1 (gcap cap (n + ln2 i)) u9.2)) (va_A (bSO k a b n ++ bAB k b cap f) sz)) (1) (gms cap (n + ln2 i)) (va_A (bSO k a b n ++ bAB k b cap f) sz) := by
  refine tMet (y := yJ4_append_cf1ce) (cc := cJ4_append_cf1ce) (maxL := 2) (ret := (some (.object "java/lang/AbstractStringBuilder"))) (Qc := fun A => va_Qq (fun (r : Option Nat) (u9 : Nat × (Nat → Int32)) => r = some a ∧ Bf u9.2 (gcap cap (n + ln2 i)) ∧ (∀ j, j < n → u9.2 j = f j) ∧ ∀ j, j < ln2 i → u9.2 (n + j) = ch2 i j) (TB D k (A) (fun u9 : Nat × (Nat → Int32) => bSO k a u9.1 (n + ln2 i) ++ bAB k u9.1 (gcap cap (n + ln2 i)) u9.2)) (A)) [.ref a, .ref (kjs E i)] (by decide) rfl (Nat.le_of_ble_eq_true rfl) ?_
  intro p9 e9 s9 m9 bl9 me9 c9 ls A H hF hr hlocks hP hK hE hD hA hS hl hin
  have hl : lv_has ls 2 [(0, .ref a), (1, .ref (kjs E i))] := hl
  obtain ⟨hx, hb, hml, hown, hts⟩ := id hF
  refine lv_aload_n hx hb dJ4_append_cf1ce_0 rfl (lv_at hl 0 rfl) ?_
  refine lv_aload_n hx hb dJ4_append_cf1ce_1 rfl (lv_at hl 1 rfl) ?_
  have hFc := tFree hD hS hA
  refine va_callq (va_runV (As := [.ref (kjs E i)]) (rest := []) hF (tk_J4_append l9 hl9 E D k H.size a b n cap f i hi hm2 hcap hn hf) (cwV 1 hts gJ4_append_cf1ce_J4_append_15ec4 rfl rfl rfl (by decide +kernel) ⟨Nat.le_of_ble_eq_true rfl, Nat.le_of_ble_eq_true rfl⟩) (tPreV (rcv hK hP 0 1 rfl rfl) hK hE hS hA hP hD) rfl rfl hl.1 rfl (lv_room (Nat.le_of_ble_eq_true rfl)) dJ4_append_cf1ce_2 ⟨(Nat.le_of_ble_eq_true rfl), (by show gms cap (n + ln2 i) ≤ gms cap (n + ln2 i); omega)⟩) hS (fun q _ h => hFc q h) hFc (fun r_2 u_3 t9 H1 locs ht hvm h2 hB hz1 hk1 hS => ?_)
  obtain ⟨hP, -, hD⟩ := hB
  rw [ht] at hP
  replace hP : va_P D vwCl (bSO k a u_3.1 (n + ln2 i) ++ bAB k u_3.1 (gcap cap (n + ln2 i)) u_3.2) H1 := hP
  replace hD : va_D A (bSO k a u_3.1 (n + ln2 i) ++ bAB k u_3.1 (gcap cap (n + ln2 i)) u_3.2) := hD.weaken (fun _ q _ h => hFc q.1 h)
  replace h2 : r_2 = some a ∧ Bf u_3.2 (gcap cap (n + ln2 i)) ∧ (∀ j, j < n → u_3.2 j = f j) ∧ ∀ j, j < ln2 i → u_3.2 (n + j) = ch2 i j := h2
  clear hz1 hvm hFc hk1 ht
  clear t9
  generalize H1 = H at hP hS ⊢
  refine lv_tope (v2 := .ref a) (by rw [h2.1]; rfl) ?_
  exact W.aret (v := .ref a) hx hb hr (Or.inl ⟨_, rfl⟩) (Or.inr ⟨_, rfl⟩) (fun t9 ht hW => ⟨⟨some a, u_3, rfl, (by exact ⟨rfl, h2.2⟩), ⟨by rw [ht]; exact hP, va_K.moved hW.alike hK, hD⟩⟩, hS.F ht⟩) hS.2.2 dJ4_append_cf1ce_5 hlocks


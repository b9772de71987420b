/-! The constructor of the model. -/
set_option maxHeartbeats 40000000 in
set_option maxRecDepth 100000 in
theorem m_X13_init (l9 : Launch) (D : va_G) (k : Nat → ClassId) (sz : Nat) (h : Nat) : Met l9 yX13_init wsX13_init ({ frames := 1, cells := 18, slots := 1237, locals := 21 }) (APc D k [.ref h] (bO11 k h (.int 0) (.int 0) (.int 0) (.int 0) (.int 0) .null .null .null .null .null .null .null .null .null .null .null .null .null .null .null .null .null .null (.int 0) (.int 0) (.int 0) (.int 0) (.int 0) (.int 0)) sz) (WU D k (fun u9 : Nat → Nat => u9 0 = h) (fun u9 : Nat → Nat => bMO k u9 0 (-1) (-1) 0 0 0 0 0 false false false ++ bI83 k (u9 1) v0M ++ bI83 k (u9 2) (fun _ => 0) ++ bI83 k (u9 3) (fun _ => 0) ++ bI664 k (u9 4) (fun _ => 0) ++ bI10 k (u9 5) (fun _ => 0) ++ bF10 k (u9 6) (fun _ => FP.fconst0) ++ bF10 k (u9 7) (fun _ => FP.fconst0) ++ bF10 k (u9 8) (fun _ => FP.fconst0) ++ bF80 k (u9 9) (fun _ => FP.fconst0) ++ bF10 k (u9 10) (fun _ => FP.fconst0) ++ bF10 k (u9 11) (fun _ => FP.fconst0) ++ bL10 k (u9 12) (fun _ => 0) ++ bL10 k (u9 13) (fun _ => 0) ++ bI60 k (u9 14) (fun _ => 0) ++ bI24 k (u9 15) (fun _ => 0) ++ bI10 k (u9 16) (fun _ => 0) ++ bI59 k (u9 17) wdK ++ bI11 k (u9 18) waI) (va_A (bO11 k h (.int 0) (.int 0) (.int 0) (.int 0) (.int 0) .null .null .null .null .null .null .null .null .null .null .null .null .null .null .null .null .null .null (.int 0) (.int 0) (.int 0) (.int 0) (.int 0) (.int 0)) sz)) 18 1237 (va_A (bO11 k h (.int 0) (.int 0) (.int 0) (.int 0) (.int 0) .null .null .null .null .null .null .null .null .null .null .null .null .null .null .null .null .null .null (.int 0) (.int 0) (.int 0) (.int 0) (.int 0) (.int 0)) sz) := by
  refine aMet (y := yX13_init) (cc := cX13_init) (maxL := 2) (ret := none) (Qc := fun A => WU D k (fun u9 : Nat → Nat => u9 0 = h) (fun u9 : Nat → Nat => bMO k u9 0 (-1) (-1) 0 0 0 0 0 false false false ++ bI83 k (u9 1) v0M ++ bI83 k (u9 2) (fun _ => 0) ++ bI83 k (u9 3) (fun _ => 0) ++ bI664 k (u9 4) (fun _ => 0) ++ bI10 k (u9 5) (fun _ => 0) ++ bF10 k (u9 6) (fun _ => FP.fconst0) ++ bF10 k (u9 7) (fun _ => FP.fconst0) ++ bF10 k (u9 8) (fun _ => FP.fconst0) ++ bF80 k (u9 9) (fun _ => FP.fconst0) ++ bF10 k (u9 10) (fun _ => FP.fconst0) ++ bF10 k (u9 11) (fun _ => FP.fconst0) ++ bL10 k (u9 12) (fun _ => 0) ++ bL10 k (u9 13) (fun _ => 0) ++ bI60 k (u9 14) (fun _ => 0) ++ bI24 k (u9 15) (fun _ => 0) ++ bI10 k (u9 16) (fun _ => 0) ++ bI59 k (u9 17) wdK ++ bI11 k (u9 18) waI) A) [.ref h] (by decide) rfl (Nat.le_of_ble_eq_true rfl) ?_
  intro p9 e9 s9 m9 bl9 me9 c9 ls A H hF hr hlocks hP hK hN hAO hD hA hS hl hin
  have hl : lv_has ls 2 [(0, .ref h)] := hl
  obtain ⟨hx, hb, hml, hown, hts⟩ := id hF
  have k_fieldLink_7 : (Cond.fieldLink RX13 7 "OpinionReactorModel" "errorAt" "I").before _ s9 = true := hts (.fieldLink RX13 7 "OpinionReactorModel" "errorAt" "I") (by decide +kernel)
  have kc_RX13 : ∀ w ∈ u_ws RX13 TX13 29, w ∈ wsX13_init := by decide +kernel
  have k_fieldLink_13 : (Cond.fieldLink RX13 13 "OpinionReactorModel" "failedAt" "I").before _ s9 = true := hts (.fieldLink RX13 13 "OpinionReactorModel" "failedAt" "I") (by decide +kernel)
  have k_fieldLink_16 : (Cond.fieldLink RX13 16 "OpinionReactorModel" "v" "[I").before _ s9 = true := hts (.fieldLink RX13 16 "OpinionReactorModel" "v" "[I") (by decide +kernel)
  have k_fieldLink_20 : (Cond.fieldLink RX13 20 "OpinionReactorModel" "before" "[I").before _ s9 = true := hts (.fieldLink RX13 20 "OpinionReactorModel" "before" "[I") (by decide +kernel)
  have k_fieldLink_23 : (Cond.fieldLink RX13 23 "OpinionReactorModel" "saved" "[I").before _ s9 = true := hts (.fieldLink RX13 23 "OpinionReactorModel" "saved" "[I") (by decide +kernel)
  have k_fieldLink_26 : (Cond.fieldLink RX13 26 "OpinionReactorModel" "past" "[I").before _ s9 = true := hts (.fieldLink RX13 26 "OpinionReactorModel" "past" "[I") (by decide +kernel)
  have k_fieldLink_29 : (Cond.fieldLink RX13 29 "OpinionReactorModel" "reached" "[I").before _ s9 = true := hts (.fieldLink RX13 29 "OpinionReactorModel" "reached" "[I") (by decide +kernel)
  have k_fieldLink_32 : (Cond.fieldLink RX13 32 "OpinionReactorModel" "flux" "[F").before _ s9 = true := hts (.fieldLink RX13 32 "OpinionReactorModel" "flux" "[F") (by decide +kernel)
  have k_fieldLink_36 : (Cond.fieldLink RX13 36 "OpinionReactorModel" "fluxBefore" "[F").before _ s9 = true := hts (.fieldLink RX13 36 "OpinionReactorModel" "fluxBefore" "[F") (by decide +kernel)
  have k_fieldLink_39 : (Cond.fieldLink RX13 39 "OpinionReactorModel" "fluxSaved" "[F").before _ s9 = true := hts (.fieldLink RX13 39 "OpinionReactorModel" "fluxSaved" "[F") (by decide +kernel)
  have k_fieldLink_42 : (Cond.fieldLink RX13 42 "OpinionReactorModel" "fluxPast" "[F").before _ s9 = true := hts (.fieldLink RX13 42 "OpinionReactorModel" "fluxPast" "[F") (by decide +kernel)
  have k_fieldLink_45 : (Cond.fieldLink RX13 45 "OpinionReactorModel" "next" "[F").before _ s9 = true := hts (.fieldLink RX13 45 "OpinionReactorModel" "next" "[F") (by decide +kernel)
  have k_fieldLink_48 : (Cond.fieldLink RX13 48 "OpinionReactorModel" "aside" "[F").before _ s9 = true := hts (.fieldLink RX13 48 "OpinionReactorModel" "aside" "[F") (by decide +kernel)
  have k_fieldLink_51 : (Cond.fieldLink RX13 51 "OpinionReactorModel" "ways" "[J").before _ s9 = true := hts (.fieldLink RX13 51 "OpinionReactorModel" "ways" "[J") (by decide +kernel)
  have k_fieldLink_55 : (Cond.fieldLink RX13 55 "OpinionReactorModel" "more" "[J").before _ s9 = true := hts (.fieldLink RX13 55 "OpinionReactorModel" "more" "[J") (by decide +kernel)
  have k_fieldLink_58 : (Cond.fieldLink RX13 58 "OpinionReactorModel" "text" "[I").before _ s9 = true := hts (.fieldLink RX13 58 "OpinionReactorModel" "text" "[I") (by decide +kernel)
  have k_fieldLink_61 : (Cond.fieldLink RX13 61 "OpinionReactorModel" "line" "[I").before _ s9 = true := hts (.fieldLink RX13 61 "OpinionReactorModel" "line" "[I") (by decide +kernel)
  have k_fieldLink_64 : (Cond.fieldLink RX13 64 "OpinionReactorModel" "isLeft" "[I").before _ s9 = true := hts (.fieldLink RX13 64 "OpinionReactorModel" "isLeft" "[I") (by decide +kernel)
  have k_fieldLink_67 : (Cond.fieldLink RX13 67 "OpinionReactorModel" "words" "[I").before _ s9 = true := hts (.fieldLink RX13 67 "OpinionReactorModel" "words" "[I") (by decide +kernel)
  have k_fieldLink_70 : (Cond.fieldLink RX13 70 "OpinionReactorModel" "wordAt" "[I").before _ s9 = true := hts (.fieldLink RX13 70 "OpinionReactorModel" "wordAt" "[I") (by decide +kernel)
  have hP : va_P D vwCl (bO11 k h (.int 0) (.int 0) (.int 0) (.int 0) (.int 0) .null .null .null .null .null .null .null .null .null .null .null .null .null .null .null .null .null .null (.int 0) (.int 0) (.int 0) (.int 0) (.int 0) (.int 0) ++ (([] : va_W))) H := hP
  replace hD : va_D A (bO11 k h (.int 0) (.int 0) (.int 0) (.int 0) (.int 0) .null .null .null .null .null .null .null .null .null .null .null .null .null .null .null .null .null .null (.int 0) (.int 0) (.int 0) (.int 0) (.int 0) (.int 0) ++ (([] : va_W))) := hD
  refine lv_aload_n hx hb dX13_init_0 rfl (lv_at hl 0 rfl) ?_
  refine W.objInit hx hb hown (hts (.methodLink RX13 1 objectInit) (by decide +kernel)) (hts (.instanceMethod objectInit) (by decide +kernel)) (hts (.code objectInit ⟨#[0xb1]⟩ 1 none) (by decide +kernel)) rfl (by rw [hml]; exact hl.1) rfl dX13_init_1 (Nat.le_of_ble_eq_true rfl) (Nat.le_of_ble_eq_true rfl) ?_
  refine W.eq (g2 := F0 m9 4 ls []) rfl ?_
  refine lv_aload_n hx hb dX13_init_4 rfl (lv_at hl 0 rfl) ?_
  refine lv_iconst (v := (-1)) hx hb dX13_init_5 (by decide) ?_
  refine va_put (D := D) (ci := 11) (v := .int (-1)) (ty := .int) (C := RX13) (T := TX13) (N := 29) hx hb hts kc_RX13 tyX13 tyX13_ok nmX13 hown hK hP hD hS 0 rfl rfl 2 (by decide) k_fieldLink_7 (fun _ h9 => h9) rfl (by decide +kernel) rfl rfl (Nat.le_of_ble_eq_true rfl) dX13_init_6 (fun H locs hP9 hD9 hS9 => ?_)
  clear hP hD hS
  have hP := hP9
  have hD := hD9
  have hS := hS9
  clear hP9 hD9 hS9
  replace hP : va_P D vwCl (bO11 k h (.int 0) (.int 0) (.int (-1)) (.int 0) (.int 0) .null .null .null .null .null .null .null .null .null .null .null .null .null .null .null .null .null .null (.int 0) (.int 0) (.int 0) (.int 0) (.int 0) (.int 0) ++ (([] : va_W))) H := hP
  replace hD : va_D A (bO11 k h (.int 0) (.int 0) (.int (-1)) (.int 0) (.int 0) .null .null .null .null .null .null .null .null .null .null .null .null .null .null .null .null .null .null (.int 0) (.int 0) (.int 0) (.int 0) (.int 0) (.int 0) ++ (([] : va_W))) := hD
  refine lv_aload_n hx hb dX13_init_9 rfl (lv_at hl 0 rfl) ?_
  refine lv_iconst (v := (-1)) hx hb dX13_init_10 (by decide) ?_
  refine va_put (D := D) (ci := 11) (v := .int (-1)) (ty := .int) (C := RX13) (T := TX13) (N := 29) hx hb hts kc_RX13 tyX13 tyX13_ok nmX13 hown hK hP hD hS 0 rfl rfl 3 (by decide) k_fieldLink_13 (fun _ h9 => h9) rfl (by decide +kernel) rfl rfl (Nat.le_of_ble_eq_true rfl) dX13_init_11 (fun H locs hP9 hD9 hS9 => ?_)
  clear hP hD hS
  have hP := hP9
  have hD := hD9
  have hS := hS9
  clear hP9 hD9 hS9
  replace hP : va_P D vwCl (bO11 k h (.int 0) (.int 0) (.int (-1)) (.int (-1)) (.int 0) .null .null .null .null .null .null .null .null .null .null .null .null .null .null .null .null .null .null (.int 0) (.int 0) (.int 0) (.int 0) (.int 0) (.int 0) ++ (([] : va_W))) H := hP
  replace hD : va_D A (bO11 k h (.int 0) (.int 0) (.int (-1)) (.int (-1)) (.int 0) .null .null .null .null .null .null .null .null .null .null .null .null .null .null .null .null .null .null (.int 0) (.int 0) (.int 0) (.int 0) (.int 0) (.int 0) ++ (([] : va_W))) := hD
  refine lv_aload_n hx hb dX13_init_14 rfl (lv_at hl 0 rfl) ?_
  refine lv_bipush (v := 83) hx hb dX13_init_15 (by decide) ?_
  refine nw_arr (atype := .int) hx hb (hts (.arrayClass .int) (by decide +kernel)) rfl hK hP hD hS hA (a0 := (83, .inl (fun _ => 0))) (N' := 83) (fun _ => rfl) (by decide) (by decide) (Nat.le_of_ble_eq_true rfl) (Nat.le_of_ble_eq_true rfl) (Nat.le_of_ble_eq_true rfl) 0 rfl dX13_init_17 (fun q_1 H hP9 hD9 hS9 => ?_)
  clear hP hD hS
  have hP := hP9
  have hD := hD9
  have hS := hS9
  clear hP9 hD9 hS9
  replace hP := vP_perm hP (List.perm_append_comm (l₂ := ([(q_1, .inl (k 0, 83, .inl (fun _ => 0)))] : va_W)))
  replace hD := vD_perm hD (List.perm_append_comm (l₂ := ([(q_1, .inl (k 0, 83, .inl (fun _ => 0)))] : va_W)))
  replace hP : va_P D vwCl (bI83 k q_1 (fun _ => 0) ++ (bO11 k h (.int 0) (.int 0) (.int (-1)) (.int (-1)) (.int 0) .null .null .null .null .null .null .null .null .null .null .null .null .null .null .null .null .null .null (.int 0) (.int 0) (.int 0) (.int 0) (.int 0) (.int 0) ++ (([] : va_W)))) H := hP
  replace hD : va_D A (bI83 k q_1 (fun _ => 0) ++ (bO11 k h (.int 0) (.int 0) (.int (-1)) (.int (-1)) (.int 0) .null .null .null .null .null .null .null .null .null .null .null .null .null .null .null .null .null .null (.int 0) (.int 0) (.int 0) (.int 0) (.int 0) (.int 0) ++ (([] : va_W)))) := hD
  refine va_putF (D := D) (ci := 11) (v := .ref q_1) (ty := (.array .int)) (C := RX13) (T := TX13) (N := 29) hx hb hts kc_RX13 tyX13 tyX13_ok nmX13 hown hK hP hD hS 1 rfl rfl 5 (by decide) k_fieldLink_16 (fun _ h9 => h9) rfl (hin rfl) rfl (by decide +kernel) rfl rfl (Nat.le_of_ble_eq_true rfl) dX13_init_19 (fun H locs hP9 hD9 hS9 => ?_)
  clear hP hD hS
  have hP := hP9
  have hD := hD9
  have hS := hS9
  clear hP9 hD9 hS9
  replace hP : va_P D vwCl (bI83 k q_1 (fun _ => 0) ++ (bO11 k h (.int 0) (.int 0) (.int (-1)) (.int (-1)) (.int 0) (.ref q_1) .null .null .null .null .null .null .null .null .null .null .null .null .null .null .null .null .null (.int 0) (.int 0) (.int 0) (.int 0) (.int 0) (.int 0) ++ (([] : va_W)))) H := hP
  replace hD : va_D A (bI83 k q_1 (fun _ => 0) ++ (bO11 k h (.int 0) (.int 0) (.int (-1)) (.int (-1)) (.int 0) (.ref q_1) .null .null .null .null .null .null .null .null .null .null .null .null .null .null .null .null .null (.int 0) (.int 0) (.int 0) (.int 0) (.int 0) (.int 0) ++ (([] : va_W)))) := hD
  replace hP := l_swP hP
  replace hD := l_swD hD
  replace hP : va_P D vwCl (bO11 k h (.int 0) (.int 0) (.int (-1)) (.int (-1)) (.int 0) (.ref q_1) .null .null .null .null .null .null .null .null .null .null .null .null .null .null .null .null .null (.int 0) (.int 0) (.int 0) (.int 0) (.int 0) (.int 0) ++ (bI83 k q_1 (fun _ => 0) ++ (([] : va_W)))) H := hP
  replace hD : va_D A (bO11 k h (.int 0) (.int 0) (.int (-1)) (.int (-1)) (.int 0) (.ref q_1) .null .null .null .null .null .null .null .null .null .null .null .null .null .null .null .null .null (.int 0) (.int 0) (.int 0) (.int 0) (.int 0) (.int 0) ++ (bI83 k q_1 (fun _ => 0) ++ (([] : va_W)))) := hD
  refine lv_aload_n hx hb dX13_init_22 rfl (lv_at hl 0 rfl) ?_
  refine lv_bipush (v := 83) hx hb dX13_init_23 (by decide) ?_
  refine nw_arr (atype := .int) hx hb (hts (.arrayClass .int) (by decide +kernel)) rfl hK hP hD hS hA (a0 := (83, .inl (fun _ => 0))) (N' := 83) (fun _ => rfl) (by decide) (by decide) (Nat.le_of_ble_eq_true rfl) (Nat.le_of_ble_eq_true rfl) (Nat.le_of_ble_eq_true rfl) 0 rfl dX13_init_25 (fun q_2 H hP9 hD9 hS9 => ?_)
  clear hP hD hS
  have hP := hP9
  have hD := hD9
  have hS := hS9
  clear hP9 hD9 hS9
  replace hP := vP_perm hP (List.perm_append_comm (l₂ := ([(q_2, .inl (k 0, 83, .inl (fun _ => 0)))] : va_W)))
  replace hD := vD_perm hD (List.perm_append_comm (l₂ := ([(q_2, .inl (k 0, 83, .inl (fun _ => 0)))] : va_W)))
  replace hP : va_P D vwCl (bI83 k q_2 (fun _ => 0) ++ (bO11 k h (.int 0) (.int 0) (.int (-1)) (.int (-1)) (.int 0) (.ref q_1) .null .null .null .null .null .null .null .null .null .null .null .null .null .null .null .null .null (.int 0) (.int 0) (.int 0) (.int 0) (.int 0) (.int 0) ++ (bI83 k q_1 (fun _ => 0) ++ (([] : va_W))))) H := hP
  replace hD : va_D A (bI83 k q_2 (fun _ => 0) ++ (bO11 k h (.int 0) (.int 0) (.int (-1)) (.int (-1)) (.int 0) (.ref q_1) .null .null .null .null .null .null .null .null .null .null .null .null .null .null .null .null .null (.int 0) (.int 0) (.int 0) (.int 0) (.int 0) (.int 0) ++ (bI83 k q_1 (fun _ => 0) ++ (([] : va_W))))) := hD
  refine va_putF (D := D) (ci := 11) (v := .ref q_2) (ty := (.array .int)) (C := RX13) (T := TX13) (N := 29) hx hb hts kc_RX13 tyX13 tyX13_ok nmX13 hown hK hP hD hS 1 rfl rfl 6 (by decide) k_fieldLink_20 (fun _ h9 => h9) rfl (hin rfl) rfl (by decide +kernel) rfl rfl (Nat.le_of_ble_eq_true rfl) dX13_init_27 (fun H locs hP9 hD9 hS9 => ?_)
  clear hP hD hS
  have hP := hP9
  have hD := hD9
  have hS := hS9
  clear hP9 hD9 hS9
  replace hP : va_P D vwCl (bI83 k q_2 (fun _ => 0) ++ (bO11 k h (.int 0) (.int 0) (.int (-1)) (.int (-1)) (.int 0) (.ref q_1) (.ref q_2) .null .null .null .null .null .null .null .null .null .null .null .null .null .null .null .null (.int 0) (.int 0) (.int 0) (.int 0) (.int 0) (.int 0) ++ (bI83 k q_1 (fun _ => 0) ++ (([] : va_W))))) H := hP
  replace hD : va_D A (bI83 k q_2 (fun _ => 0) ++ (bO11 k h (.int 0) (.int 0) (.int (-1)) (.int (-1)) (.int 0) (.ref q_1) (.ref q_2) .null .null .null .null .null .null .null .null .null .null .null .null .null .null .null .null (.int 0) (.int 0) (.int 0) (.int 0) (.int 0) (.int 0) ++ (bI83 k q_1 (fun _ => 0) ++ (([] : va_W))))) := hD
  replace hP : va_P D vwCl ((bI83 k q_2 (fun _ => 0)) ++ (bO11 k h (.int 0) (.int 0) (.int (-1)) (.int (-1)) (.int 0) (.ref q_1) (.ref q_2) .null .null .null .null .null .null .null .null .null .null .null .null .null .null .null .null (.int 0) (.int 0) (.int 0) (.int 0) (.int 0) (.int 0) ++ (bI83 k q_1 (fun _ => 0) ++ (([] : va_W))))) H := hP
  replace hD : va_D A ((bI83 k q_2 (fun _ => 0)) ++ (bO11 k h (.int 0) (.int 0) (.int (-1)) (.int (-1)) (.int 0) (.ref q_1) (.ref q_2) .null .null .null .null .null .null .null .null .null .null .null .null .null .null .null .null (.int 0) (.int 0) (.int 0) (.int 0) (.int 0) (.int 0) ++ (bI83 k q_1 (fun _ => 0) ++ (([] : va_W))))) := hD
  replace hP := l_swP hP
  replace hD := l_swD hD
  replace hP : va_P D vwCl (bO11 k h (.int 0) (.int 0) (.int (-1)) (.int (-1)) (.int 0) (.ref q_1) (.ref q_2) .null .null .null .null .null .null .null .null .null .null .null .null .null .null .null .null (.int 0) (.int 0) (.int 0) (.int 0) (.int 0) (.int 0) ++ (bI83 k q_1 (fun _ => 0) ++ ((bI83 k q_2 (fun _ => 0)) ++ ([] : va_W)))) H := vP_perm hP (List.Perm.append_left _ l_sw)
  replace hD : va_D A (bO11 k h (.int 0) (.int 0) (.int (-1)) (.int (-1)) (.int 0) (.ref q_1) (.ref q_2) .null .null .null .null .null .null .null .null .null .null .null .null .null .null .null .null (.int 0) (.int 0) (.int 0) (.int 0) (.int 0) (.int 0) ++ (bI83 k q_1 (fun _ => 0) ++ ((bI83 k q_2 (fun _ => 0)) ++ ([] : va_W)))) := vD_perm hD (List.Perm.append_left _ l_sw)
  obtain ⟨w_3, hw_3⟩ : ∃ z : va_W, (bI83 k q_2 (fun _ => 0)) ++ ([] : va_W) = z := ⟨_, rfl⟩
  rw [hw_3] at hP hD
  replace hP : va_P D vwCl (bO11 k h (.int 0) (.int 0) (.int (-1)) (.int (-1)) (.int 0) (.ref q_1) (.ref q_2) .null .null .null .null .null .null .null .null .null .null .null .null .null .null .null .null (.int 0) (.int 0) (.int 0) (.int 0) (.int 0) (.int 0) ++ (bI83 k q_1 (fun _ => 0) ++ (w_3))) H := hP
  replace hD : va_D A (bO11 k h (.int 0) (.int 0) (.int (-1)) (.int (-1)) (.int 0) (.ref q_1) (.ref q_2) .null .null .null .null .null .null .null .null .null .null .null .null .null .null .null .null (.int 0) (.int 0) (.int 0) (.int 0) (.int 0) (.int 0) ++ (bI83 k q_1 (fun _ => 0) ++ (w_3))) := hD
  refine lv_aload_n hx hb dX13_init_30 rfl (lv_at hl 0 rfl) ?_
  refine lv_bipush (v := 83) hx hb dX13_init_31 (by decide) ?_
  refine nw_arr (atype := .int) hx hb (hts (.arrayClass .int) (by decide +kernel)) rfl hK hP hD hS hA (a0 := (83, .inl (fun _ => 0))) (N' := 83) (fun _ => rfl) (by decide) (by decide) (Nat.le_of_ble_eq_true rfl) (Nat.le_of_ble_eq_true rfl) (Nat.le_of_ble_eq_true rfl) 0 rfl dX13_init_33 (fun q_4 H hP9 hD9 hS9 => ?_)
  clear hP hD hS
  have hP := hP9
  have hD := hD9
  have hS := hS9
  clear hP9 hD9 hS9
  replace hP := vP_perm hP (List.perm_append_comm (l₂ := ([(q_4, .inl (k 0, 83, .inl (fun _ => 0)))] : va_W)))
  replace hD := vD_perm hD (List.perm_append_comm (l₂ := ([(q_4, .inl (k 0, 83, .inl (fun _ => 0)))] : va_W)))
  replace hP : va_P D vwCl (bI83 k q_4 (fun _ => 0) ++ (bO11 k h (.int 0) (.int 0) (.int (-1)) (.int (-1)) (.int 0) (.ref q_1) (.ref q_2) .null .null .null .null .null .null .null .null .null .null .null .null .null .null .null .null (.int 0) (.int 0) (.int 0) (.int 0) (.int 0) (.int 0) ++ (bI83 k q_1 (fun _ => 0) ++ (w_3)))) H := hP
  replace hD : va_D A (bI83 k q_4 (fun _ => 0) ++ (bO11 k h (.int 0) (.int 0) (.int (-1)) (.int (-1)) (.int 0) (.ref q_1) (.ref q_2) .null .null .null .null .null .null .null .null .null .null .null .null .null .null .null .null (.int 0) (.int 0) (.int 0) (.int 0) (.int 0) (.int 0) ++ (bI83 k q_1 (fun _ => 0) ++ (w_3)))) := hD
  refine va_putF (D := D) (ci := 11) (v := .ref q_4) (ty := (.array .int)) (C := RX13) (T := TX13) (N := 29) hx hb hts kc_RX13 tyX13 tyX13_ok nmX13 hown hK hP hD hS 1 rfl rfl 7 (by decide) k_fieldLink_23 (fun _ h9 => h9) rfl (hin rfl) rfl (by decide +kernel) rfl rfl (Nat.le_of_ble_eq_true rfl) dX13_init_35 (fun H locs hP9 hD9 hS9 => ?_)
  clear hP hD hS
  have hP := hP9
  have hD := hD9
  have hS := hS9
  clear hP9 hD9 hS9
  replace hP : va_P D vwCl (bI83 k q_4 (fun _ => 0) ++ (bO11 k h (.int 0) (.int 0) (.int (-1)) (.int (-1)) (.int 0) (.ref q_1) (.ref q_2) (.ref q_4) .null .null .null .null .null .null .null .null .null .null .null .null .null .null .null (.int 0) (.int 0) (.int 0) (.int 0) (.int 0) (.int 0) ++ (bI83 k q_1 (fun _ => 0) ++ (w_3)))) H := hP
  replace hD : va_D A (bI83 k q_4 (fun _ => 0) ++ (bO11 k h (.int 0) (.int 0) (.int (-1)) (.int (-1)) (.int 0) (.ref q_1) (.ref q_2) (.ref q_4) .null .null .null .null .null .null .null .null .null .null .null .null .null .null .null (.int 0) (.int 0) (.int 0) (.int 0) (.int 0) (.int 0) ++ (bI83 k q_1 (fun _ => 0) ++ (w_3)))) := hD
  replace hP : va_P D vwCl ((bI83 k q_4 (fun _ => 0)) ++ (bO11 k h (.int 0) (.int 0) (.int (-1)) (.int (-1)) (.int 0) (.ref q_1) (.ref q_2) (.ref q_4) .null .null .null .null .null .null .null .null .null .null .null .null .null .null .null (.int 0) (.int 0) (.int 0) (.int 0) (.int 0) (.int 0) ++ (bI83 k q_1 (fun _ => 0) ++ (w_3)))) H := hP
  replace hD : va_D A ((bI83 k q_4 (fun _ => 0)) ++ (bO11 k h (.int 0) (.int 0) (.int (-1)) (.int (-1)) (.int 0) (.ref q_1) (.ref q_2) (.ref q_4) .null .null .null .null .null .null .null .null .null .null .null .null .null .null .null (.int 0) (.int 0) (.int 0) (.int 0) (.int 0) (.int 0) ++ (bI83 k q_1 (fun _ => 0) ++ (w_3)))) := hD
  replace hP := l_swP hP
  replace hD := l_swD hD
  replace hP : va_P D vwCl (bO11 k h (.int 0) (.int 0) (.int (-1)) (.int (-1)) (.int 0) (.ref q_1) (.ref q_2) (.ref q_4) .null .null .null .null .null .null .null .null .null .null .null .null .null .null .null (.int 0) (.int 0) (.int 0) (.int 0) (.int 0) (.int 0) ++ (bI83 k q_1 (fun _ => 0) ++ ((bI83 k q_4 (fun _ => 0)) ++ w_3))) H := vP_perm hP (List.Perm.append_left _ l_sw)
  replace hD : va_D A (bO11 k h (.int 0) (.int 0) (.int (-1)) (.int (-1)) (.int 0) (.ref q_1) (.ref q_2) (.ref q_4) .null .null .null .null .null .null .null .null .null .null .null .null .null .null .null (.int 0) (.int 0) (.int 0) (.int 0) (.int 0) (.int 0) ++ (bI83 k q_1 (fun _ => 0) ++ ((bI83 k q_4 (fun _ => 0)) ++ w_3))) := vD_perm hD (List.Perm.append_left _ l_sw)
  obtain ⟨w_5, hw_5⟩ : ∃ z : va_W, (bI83 k q_4 (fun _ => 0)) ++ w_3 = z := ⟨_, rfl⟩
  rw [hw_5] at hP hD
  replace hP : va_P D vwCl (bO11 k h (.int 0) (.int 0) (.int (-1)) (.int (-1)) (.int 0) (.ref q_1) (.ref q_2) (.ref q_4) .null .null .null .null .null .null .null .null .null .null .null .null .null .null .null (.int 0) (.int 0) (.int 0) (.int 0) (.int 0) (.int 0) ++ (bI83 k q_1 (fun _ => 0) ++ (w_5))) H := hP
  replace hD : va_D A (bO11 k h (.int 0) (.int 0) (.int (-1)) (.int (-1)) (.int 0) (.ref q_1) (.ref q_2) (.ref q_4) .null .null .null .null .null .null .null .null .null .null .null .null .null .null .null (.int 0) (.int 0) (.int 0) (.int 0) (.int 0) (.int 0) ++ (bI83 k q_1 (fun _ => 0) ++ (w_5))) := hD
  refine lv_aload_n hx hb dX13_init_38 rfl (lv_at hl 0 rfl) ?_
  refine lv_sipush (v := 664) hx hb dX13_init_39 (by decide) ?_
  refine nw_arr (atype := .int) hx hb (hts (.arrayClass .int) (by decide +kernel)) rfl hK hP hD hS hA (a0 := (664, .inl (fun _ => 0))) (N' := 664) (fun _ => rfl) (by decide) (by decide) (Nat.le_of_ble_eq_true rfl) (Nat.le_of_ble_eq_true rfl) (Nat.le_of_ble_eq_true rfl) 0 rfl dX13_init_42 (fun q_6 H hP9 hD9 hS9 => ?_)
  clear hP hD hS
  have hP := hP9
  have hD := hD9
  have hS := hS9
  clear hP9 hD9 hS9
  replace hP := vP_perm hP (List.perm_append_comm (l₂ := ([(q_6, .inl (k 0, 664, .inl (fun _ => 0)))] : va_W)))
  replace hD := vD_perm hD (List.perm_append_comm (l₂ := ([(q_6, .inl (k 0, 664, .inl (fun _ => 0)))] : va_W)))
  replace hP : va_P D vwCl (bI664 k q_6 (fun _ => 0) ++ (bO11 k h (.int 0) (.int 0) (.int (-1)) (.int (-1)) (.int 0) (.ref q_1) (.ref q_2) (.ref q_4) .null .null .null .null .null .null .null .null .null .null .null .null .null .null .null (.int 0) (.int 0) (.int 0) (.int 0) (.int 0) (.int 0) ++ (bI83 k q_1 (fun _ => 0) ++ (w_5)))) H := hP
  replace hD : va_D A (bI664 k q_6 (fun _ => 0) ++ (bO11 k h (.int 0) (.int 0) (.int (-1)) (.int (-1)) (.int 0) (.ref q_1) (.ref q_2) (.ref q_4) .null .null .null .null .null .null .null .null .null .null .null .null .null .null .null (.int 0) (.int 0) (.int 0) (.int 0) (.int 0) (.int 0) ++ (bI83 k q_1 (fun _ => 0) ++ (w_5)))) := hD
  refine va_putF (D := D) (ci := 11) (v := .ref q_6) (ty := (.array .int)) (C := RX13) (T := TX13) (N := 29) hx hb hts kc_RX13 tyX13 tyX13_ok nmX13 hown hK hP hD hS 1 rfl rfl 8 (by decide) k_fieldLink_26 (fun _ h9 => h9) rfl (hin rfl) rfl (by decide +kernel) rfl rfl (Nat.le_of_ble_eq_true rfl) dX13_init_44 (fun H locs hP9 hD9 hS9 => ?_)
  clear hP hD hS
  have hP := hP9
  have hD := hD9
  have hS := hS9
  clear hP9 hD9 hS9
  replace hP : va_P D vwCl (bI664 k q_6 (fun _ => 0) ++ (bO11 k h (.int 0) (.int 0) (.int (-1)) (.int (-1)) (.int 0) (.ref q_1) (.ref q_2) (.ref q_4) (.ref q_6) .null .null .null .null .null .null .null .null .null .null .null .null .null .null (.int 0) (.int 0) (.int 0) (.int 0) (.int 0) (.int 0) ++ (bI83 k q_1 (fun _ => 0) ++ (w_5)))) H := hP
  replace hD : va_D A (bI664 k q_6 (fun _ => 0) ++ (bO11 k h (.int 0) (.int 0) (.int (-1)) (.int (-1)) (.int 0) (.ref q_1) (.ref q_2) (.ref q_4) (.ref q_6) .null .null .null .null .null .null .null .null .null .null .null .null .null .null (.int 0) (.int 0) (.int 0) (.int 0) (.int 0) (.int 0) ++ (bI83 k q_1 (fun _ => 0) ++ (w_5)))) := hD
  replace hP : va_P D vwCl ((bI664 k q_6 (fun _ => 0)) ++ (bO11 k h (.int 0) (.int 0) (.int (-1)) (.int (-1)) (.int 0) (.ref q_1) (.ref q_2) (.ref q_4) (.ref q_6) .null .null .null .null .null .null .null .null .null .null .null .null .null .null (.int 0) (.int 0) (.int 0) (.int 0) (.int 0) (.int 0) ++ (bI83 k q_1 (fun _ => 0) ++ (w_5)))) H := hP
  replace hD : va_D A ((bI664 k q_6 (fun _ => 0)) ++ (bO11 k h (.int 0) (.int 0) (.int (-1)) (.int (-1)) (.int 0) (.ref q_1) (.ref q_2) (.ref q_4) (.ref q_6) .null .null .null .null .null .null .null .null .null .null .null .null .null .null (.int 0) (.int 0) (.int 0) (.int 0) (.int 0) (.int 0) ++ (bI83 k q_1 (fun _ => 0) ++ (w_5)))) := hD
  replace hP := l_swP hP
  replace hD := l_swD hD
  replace hP : va_P D vwCl (bO11 k h (.int 0) (.int 0) (.int (-1)) (.int (-1)) (.int 0) (.ref q_1) (.ref q_2) (.ref q_4) (.ref q_6) .null .null .null .null .null .null .null .null .null .null .null .null .null .null (.int 0) (.int 0) (.int 0) (.int 0) (.int 0) (.int 0) ++ (bI83 k q_1 (fun _ => 0) ++ ((bI664 k q_6 (fun _ => 0)) ++ w_5))) H := vP_perm hP (List.Perm.append_left _ l_sw)
  replace hD : va_D A (bO11 k h (.int 0) (.int 0) (.int (-1)) (.int (-1)) (.int 0) (.ref q_1) (.ref q_2) (.ref q_4) (.ref q_6) .null .null .null .null .null .null .null .null .null .null .null .null .null .null (.int 0) (.int 0) (.int 0) (.int 0) (.int 0) (.int 0) ++ (bI83 k q_1 (fun _ => 0) ++ ((bI664 k q_6 (fun _ => 0)) ++ w_5))) := vD_perm hD (List.Perm.append_left _ l_sw)
  obtain ⟨w_7, hw_7⟩ : ∃ z : va_W, (bI664 k q_6 (fun _ => 0)) ++ w_5 = z := ⟨_, rfl⟩
  rw [hw_7] at hP hD
  replace hP : va_P D vwCl (bO11 k h (.int 0) (.int 0) (.int (-1)) (.int (-1)) (.int 0) (.ref q_1) (.ref q_2) (.ref q_4) (.ref q_6) .null .null .null .null .null .null .null .null .null .null .null .null .null .null (.int 0) (.int 0) (.int 0) (.int 0) (.int 0) (.int 0) ++ (bI83 k q_1 (fun _ => 0) ++ (w_7))) H := hP
  replace hD : va_D A (bO11 k h (.int 0) (.int 0) (.int (-1)) (.int (-1)) (.int 0) (.ref q_1) (.ref q_2) (.ref q_4) (.ref q_6) .null .null .null .null .null .null .null .null .null .null .null .null .null .null (.int 0) (.int 0) (.int 0) (.int 0) (.int 0) (.int 0) ++ (bI83 k q_1 (fun _ => 0) ++ (w_7))) := hD
  refine lv_aload_n hx hb dX13_init_47 rfl (lv_at hl 0 rfl) ?_
  refine lv_bipush (v := 10) hx hb dX13_init_48 (by decide) ?_
  refine nw_arr (atype := .int) hx hb (hts (.arrayClass .int) (by decide +kernel)) rfl hK hP hD hS hA (a0 := (10, .inl (fun _ => 0))) (N' := 10) (fun _ => rfl) (by decide) (by decide) (Nat.le_of_ble_eq_true rfl) (Nat.le_of_ble_eq_true rfl) (Nat.le_of_ble_eq_true rfl) 0 rfl dX13_init_50 (fun q_8 H hP9 hD9 hS9 => ?_)
  clear hP hD hS
  have hP := hP9
  have hD := hD9
  have hS := hS9
  clear hP9 hD9 hS9
  replace hP := vP_perm hP (List.perm_append_comm (l₂ := ([(q_8, .inl (k 0, 10, .inl (fun _ => 0)))] : va_W)))
  replace hD := vD_perm hD (List.perm_append_comm (l₂ := ([(q_8, .inl (k 0, 10, .inl (fun _ => 0)))] : va_W)))
  replace hP : va_P D vwCl (bI10 k q_8 (fun _ => 0) ++ (bO11 k h (.int 0) (.int 0) (.int (-1)) (.int (-1)) (.int 0) (.ref q_1) (.ref q_2) (.ref q_4) (.ref q_6) .null .null .null .null .null .null .null .null .null .null .null .null .null .null (.int 0) (.int 0) (.int 0) (.int 0) (.int 0) (.int 0) ++ (bI83 k q_1 (fun _ => 0) ++ (w_7)))) H := hP
  replace hD : va_D A (bI10 k q_8 (fun _ => 0) ++ (bO11 k h (.int 0) (.int 0) (.int (-1)) (.int (-1)) (.int 0) (.ref q_1) (.ref q_2) (.ref q_4) (.ref q_6) .null .null .null .null .null .null .null .null .null .null .null .null .null .null (.int 0) (.int 0) (.int 0) (.int 0) (.int 0) (.int 0) ++ (bI83 k q_1 (fun _ => 0) ++ (w_7)))) := hD
  refine va_putF (D := D) (ci := 11) (v := .ref q_8) (ty := (.array .int)) (C := RX13) (T := TX13) (N := 29) hx hb hts kc_RX13 tyX13 tyX13_ok nmX13 hown hK hP hD hS 1 rfl rfl 9 (by decide) k_fieldLink_29 (fun _ h9 => h9) rfl (hin rfl) rfl (by decide +kernel) rfl rfl (Nat.le_of_ble_eq_true rfl) dX13_init_52 (fun H locs hP9 hD9 hS9 => ?_)
  clear hP hD hS
  have hP := hP9
  have hD := hD9
  have hS := hS9
  clear hP9 hD9 hS9
  replace hP : va_P D vwCl (bI10 k q_8 (fun _ => 0) ++ (bO11 k h (.int 0) (.int 0) (.int (-1)) (.int (-1)) (.int 0) (.ref q_1) (.ref q_2) (.ref q_4) (.ref q_6) (.ref q_8) .null .null .null .null .null .null .null .null .null .null .null .null .null (.int 0) (.int 0) (.int 0) (.int 0) (.int 0) (.int 0) ++ (bI83 k q_1 (fun _ => 0) ++ (w_7)))) H := hP
  replace hD : va_D A (bI10 k q_8 (fun _ => 0) ++ (bO11 k h (.int 0) (.int 0) (.int (-1)) (.int (-1)) (.int 0) (.ref q_1) (.ref q_2) (.ref q_4) (.ref q_6) (.ref q_8) .null .null .null .null .null .null .null .null .null .null .null .null .null (.int 0) (.int 0) (.int 0) (.int 0) (.int 0) (.int 0) ++ (bI83 k q_1 (fun _ => 0) ++ (w_7)))) := hD
  replace hP : va_P D vwCl ((bI10 k q_8 (fun _ => 0)) ++ (bO11 k h (.int 0) (.int 0) (.int (-1)) (.int (-1)) (.int 0) (.ref q_1) (.ref q_2) (.ref q_4) (.ref q_6) (.ref q_8) .null .null .null .null .null .null .null .null .null .null .null .null .null (.int 0) (.int 0) (.int 0) (.int 0) (.int 0) (.int 0) ++ (bI83 k q_1 (fun _ => 0) ++ (w_7)))) H := hP
  replace hD : va_D A ((bI10 k q_8 (fun _ => 0)) ++ (bO11 k h (.int 0) (.int 0) (.int (-1)) (.int (-1)) (.int 0) (.ref q_1) (.ref q_2) (.ref q_4) (.ref q_6) (.ref q_8) .null .null .null .null .null .null .null .null .null .null .null .null .null (.int 0) (.int 0) (.int 0) (.int 0) (.int 0) (.int 0) ++ (bI83 k q_1 (fun _ => 0) ++ (w_7)))) := hD
  replace hP := l_swP hP
  replace hD := l_swD hD
  replace hP : va_P D vwCl (bO11 k h (.int 0) (.int 0) (.int (-1)) (.int (-1)) (.int 0) (.ref q_1) (.ref q_2) (.ref q_4) (.ref q_6) (.ref q_8) .null .null .null .null .null .null .null .null .null .null .null .null .null (.int 0) (.int 0) (.int 0) (.int 0) (.int 0) (.int 0) ++ (bI83 k q_1 (fun _ => 0) ++ ((bI10 k q_8 (fun _ => 0)) ++ w_7))) H := vP_perm hP (List.Perm.append_left _ l_sw)
  replace hD : va_D A (bO11 k h (.int 0) (.int 0) (.int (-1)) (.int (-1)) (.int 0) (.ref q_1) (.ref q_2) (.ref q_4) (.ref q_6) (.ref q_8) .null .null .null .null .null .null .null .null .null .null .null .null .null (.int 0) (.int 0) (.int 0) (.int 0) (.int 0) (.int 0) ++ (bI83 k q_1 (fun _ => 0) ++ ((bI10 k q_8 (fun _ => 0)) ++ w_7))) := vD_perm hD (List.Perm.append_left _ l_sw)
  obtain ⟨w_9, hw_9⟩ : ∃ z : va_W, (bI10 k q_8 (fun _ => 0)) ++ w_7 = z := ⟨_, rfl⟩
  rw [hw_9] at hP hD
  replace hP : va_P D vwCl (bO11 k h (.int 0) (.int 0) (.int (-1)) (.int (-1)) (.int 0) (.ref q_1) (.ref q_2) (.ref q_4) (.ref q_6) (.ref q_8) .null .null .null .null .null .null .null .null .null .null .null .null .null (.int 0) (.int 0) (.int 0) (.int 0) (.int 0) (.int 0) ++ (bI83 k q_1 (fun _ => 0) ++ (w_9))) H := hP
  replace hD : va_D A (bO11 k h (.int 0) (.int 0) (.int (-1)) (.int (-1)) (.int 0) (.ref q_1) (.ref q_2) (.ref q_4) (.ref q_6) (.ref q_8) .null .null .null .null .null .null .null .null .null .null .null .null .null (.int 0) (.int 0) (.int 0) (.int 0) (.int 0) (.int 0) ++ (bI83 k q_1 (fun _ => 0) ++ (w_9))) := hD
  refine lv_aload_n hx hb dX13_init_55 rfl (lv_at hl 0 rfl) ?_
  refine lv_bipush (v := 10) hx hb dX13_init_56 (by decide) ?_
  refine nw_arr (atype := .float) hx hb (hts (.arrayClass .float) (by decide +kernel)) rfl hK hP hD hS hA (a0 := (10, .inr (.inr (.inl (fun _ => FP.fconst0))))) (N' := 10) (fun _ => rfl) (by decide) (by decide) (Nat.le_of_ble_eq_true rfl) (Nat.le_of_ble_eq_true rfl) (Nat.le_of_ble_eq_true rfl) 2 rfl dX13_init_58 (fun q_10 H hP9 hD9 hS9 => ?_)
  clear hP hD hS
  have hP := hP9
  have hD := hD9
  have hS := hS9
  clear hP9 hD9 hS9
  replace hP := vP_perm hP (List.perm_append_comm (l₂ := ([(q_10, .inl (k 2, 10, .inr (.inr (.inl (fun _ => FP.fconst0)))))] : va_W)))
  replace hD := vD_perm hD (List.perm_append_comm (l₂ := ([(q_10, .inl (k 2, 10, .inr (.inr (.inl (fun _ => FP.fconst0)))))] : va_W)))
  replace hP : va_P D vwCl (bF10 k q_10 (fun _ => FP.fconst0) ++ (bO11 k h (.int 0) (.int 0) (.int (-1)) (.int (-1)) (.int 0) (.ref q_1) (.ref q_2) (.ref q_4) (.ref q_6) (.ref q_8) .null .null .null .null .null .null .null .null .null .null .null .null .null (.int 0) (.int 0) (.int 0) (.int 0) (.int 0) (.int 0) ++ (bI83 k q_1 (fun _ => 0) ++ (w_9)))) H := hP
  replace hD : va_D A (bF10 k q_10 (fun _ => FP.fconst0) ++ (bO11 k h (.int 0) (.int 0) (.int (-1)) (.int (-1)) (.int 0) (.ref q_1) (.ref q_2) (.ref q_4) (.ref q_6) (.ref q_8) .null .null .null .null .null .null .null .null .null .null .null .null .null (.int 0) (.int 0) (.int 0) (.int 0) (.int 0) (.int 0) ++ (bI83 k q_1 (fun _ => 0) ++ (w_9)))) := hD
  refine va_putF (D := D) (ci := 11) (v := .ref q_10) (ty := (.array .float)) (C := RX13) (T := TX13) (N := 29) hx hb hts kc_RX13 tyX13 tyX13_ok nmX13 hown hK hP hD hS 1 rfl rfl 10 (by decide) k_fieldLink_32 (fun _ h9 => h9) rfl (hin rfl) rfl (by decide +kernel) rfl rfl (Nat.le_of_ble_eq_true rfl) dX13_init_60 (fun H locs hP9 hD9 hS9 => ?_)
  clear hP hD hS
  have hP := hP9
  have hD := hD9
  have hS := hS9
  clear hP9 hD9 hS9
  replace hP : va_P D vwCl (bF10 k q_10 (fun _ => FP.fconst0) ++ (bO11 k h (.int 0) (.int 0) (.int (-1)) (.int (-1)) (.int 0) (.ref q_1) (.ref q_2) (.ref q_4) (.ref q_6) (.ref q_8) (.ref q_10) .null .null .null .null .null .null .null .null .null .null .null .null (.int 0) (.int 0) (.int 0) (.int 0) (.int 0) (.int 0) ++ (bI83 k q_1 (fun _ => 0) ++ (w_9)))) H := hP
  replace hD : va_D A (bF10 k q_10 (fun _ => FP.fconst0) ++ (bO11 k h (.int 0) (.int 0) (.int (-1)) (.int (-1)) (.int 0) (.ref q_1) (.ref q_2) (.ref q_4) (.ref q_6) (.ref q_8) (.ref q_10) .null .null .null .null .null .null .null .null .null .null .null .null (.int 0) (.int 0) (.int 0) (.int 0) (.int 0) (.int 0) ++ (bI83 k q_1 (fun _ => 0) ++ (w_9)))) := hD
  replace hP : va_P D vwCl ((bF10 k q_10 (fun _ => FP.fconst0)) ++ (bO11 k h (.int 0) (.int 0) (.int (-1)) (.int (-1)) (.int 0) (.ref q_1) (.ref q_2) (.ref q_4) (.ref q_6) (.ref q_8) (.ref q_10) .null .null .null .null .null .null .null .null .null .null .null .null (.int 0) (.int 0) (.int 0) (.int 0) (.int 0) (.int 0) ++ (bI83 k q_1 (fun _ => 0) ++ (w_9)))) H := hP
  replace hD : va_D A ((bF10 k q_10 (fun _ => FP.fconst0)) ++ (bO11 k h (.int 0) (.int 0) (.int (-1)) (.int (-1)) (.int 0) (.ref q_1) (.ref q_2) (.ref q_4) (.ref q_6) (.ref q_8) (.ref q_10) .null .null .null .null .null .null .null .null .null .null .null .null (.int 0) (.int 0) (.int 0) (.int 0) (.int 0) (.int 0) ++ (bI83 k q_1 (fun _ => 0) ++ (w_9)))) := hD
  replace hP := l_swP hP
  replace hD := l_swD hD
  replace hP : va_P D vwCl (bO11 k h (.int 0) (.int 0) (.int (-1)) (.int (-1)) (.int 0) (.ref q_1) (.ref q_2) (.ref q_4) (.ref q_6) (.ref q_8) (.ref q_10) .null .null .null .null .null .null .null .null .null .null .null .null (.int 0) (.int 0) (.int 0) (.int 0) (.int 0) (.int 0) ++ (bI83 k q_1 (fun _ => 0) ++ ((bF10 k q_10 (fun _ => FP.fconst0)) ++ w_9))) H := vP_perm hP (List.Perm.append_left _ l_sw)
  replace hD : va_D A (bO11 k h (.int 0) (.int 0) (.int (-1)) (.int (-1)) (.int 0) (.ref q_1) (.ref q_2) (.ref q_4) (.ref q_6) (.ref q_8) (.ref q_10) .null .null .null .null .null .null .null .null .null .null .null .null (.int 0) (.int 0) (.int 0) (.int 0) (.int 0) (.int 0) ++ (bI83 k q_1 (fun _ => 0) ++ ((bF10 k q_10 (fun _ => FP.fconst0)) ++ w_9))) := vD_perm hD (List.Perm.append_left _ l_sw)
  obtain ⟨w_11, hw_11⟩ : ∃ z : va_W, (bF10 k q_10 (fun _ => FP.fconst0)) ++ w_9 = z := ⟨_, rfl⟩
  rw [hw_11] at hP hD
  replace hP : va_P D vwCl (bO11 k h (.int 0) (.int 0) (.int (-1)) (.int (-1)) (.int 0) (.ref q_1) (.ref q_2) (.ref q_4) (.ref q_6) (.ref q_8) (.ref q_10) .null .null .null .null .null .null .null .null .null .null .null .null (.int 0) (.int 0) (.int 0) (.int 0) (.int 0) (.int 0) ++ (bI83 k q_1 (fun _ => 0) ++ (w_11))) H := hP
  replace hD : va_D A (bO11 k h (.int 0) (.int 0) (.int (-1)) (.int (-1)) (.int 0) (.ref q_1) (.ref q_2) (.ref q_4) (.ref q_6) (.ref q_8) (.ref q_10) .null .null .null .null .null .null .null .null .null .null .null .null (.int 0) (.int 0) (.int 0) (.int 0) (.int 0) (.int 0) ++ (bI83 k q_1 (fun _ => 0) ++ (w_11))) := hD
  refine lv_aload_n hx hb dX13_init_63 rfl (lv_at hl 0 rfl) ?_
  refine lv_bipush (v := 10) hx hb dX13_init_64 (by decide) ?_
  refine nw_arr (atype := .float) hx hb (hts (.arrayClass .float) (by decide +kernel)) rfl hK hP hD hS hA (a0 := (10, .inr (.inr (.inl (fun _ => FP.fconst0))))) (N' := 10) (fun _ => rfl) (by decide) (by decide) (Nat.le_of_ble_eq_true rfl) (Nat.le_of_ble_eq_true rfl) (Nat.le_of_ble_eq_true rfl) 2 rfl dX13_init_66 (fun q_12 H hP9 hD9 hS9 => ?_)
  clear hP hD hS
  have hP := hP9
  have hD := hD9
  have hS := hS9
  clear hP9 hD9 hS9
  replace hP := vP_perm hP (List.perm_append_comm (l₂ := ([(q_12, .inl (k 2, 10, .inr (.inr (.inl (fun _ => FP.fconst0)))))] : va_W)))
  replace hD := vD_perm hD (List.perm_append_comm (l₂ := ([(q_12, .inl (k 2, 10, .inr (.inr (.inl (fun _ => FP.fconst0)))))] : va_W)))
  replace hP : va_P D vwCl (bF10 k q_12 (fun _ => FP.fconst0) ++ (bO11 k h (.int 0) (.int 0) (.int (-1)) (.int (-1)) (.int 0) (.ref q_1) (.ref q_2) (.ref q_4) (.ref q_6) (.ref q_8) (.ref q_10) .null .null .null .null .null .null .null .null .null .null .null .null (.int 0) (.int 0) (.int 0) (.int 0) (.int 0) (.int 0) ++ (bI83 k q_1 (fun _ => 0) ++ (w_11)))) H := hP
  replace hD : va_D A (bF10 k q_12 (fun _ => FP.fconst0) ++ (bO11 k h (.int 0) (.int 0) (.int (-1)) (.int (-1)) (.int 0) (.ref q_1) (.ref q_2) (.ref q_4) (.ref q_6) (.ref q_8) (.ref q_10) .null .null .null .null .null .null .null .null .null .null .null .null (.int 0) (.int 0) (.int 0) (.int 0) (.int 0) (.int 0) ++ (bI83 k q_1 (fun _ => 0) ++ (w_11)))) := hD
  refine va_putF (D := D) (ci := 11) (v := .ref q_12) (ty := (.array .float)) (C := RX13) (T := TX13) (N := 29) hx hb hts kc_RX13 tyX13 tyX13_ok nmX13 hown hK hP hD hS 1 rfl rfl 11 (by decide) k_fieldLink_36 (fun _ h9 => h9) rfl (hin rfl) rfl (by decide +kernel) rfl rfl (Nat.le_of_ble_eq_true rfl) dX13_init_68 (fun H locs hP9 hD9 hS9 => ?_)
  clear hP hD hS
  have hP := hP9
  have hD := hD9
  have hS := hS9
  clear hP9 hD9 hS9
  replace hP : va_P D vwCl (bF10 k q_12 (fun _ => FP.fconst0) ++ (bO11 k h (.int 0) (.int 0) (.int (-1)) (.int (-1)) (.int 0) (.ref q_1) (.ref q_2) (.ref q_4) (.ref q_6) (.ref q_8) (.ref q_10) (.ref q_12) .null .null .null .null .null .null .null .null .null .null .null (.int 0) (.int 0) (.int 0) (.int 0) (.int 0) (.int 0) ++ (bI83 k q_1 (fun _ => 0) ++ (w_11)))) H := hP
  replace hD : va_D A (bF10 k q_12 (fun _ => FP.fconst0) ++ (bO11 k h (.int 0) (.int 0) (.int (-1)) (.int (-1)) (.int 0) (.ref q_1) (.ref q_2) (.ref q_4) (.ref q_6) (.ref q_8) (.ref q_10) (.ref q_12) .null .null .null .null .null .null .null .null .null .null .null (.int 0) (.int 0) (.int 0) (.int 0) (.int 0) (.int 0) ++ (bI83 k q_1 (fun _ => 0) ++ (w_11)))) := hD
  replace hP : va_P D vwCl ((bF10 k q_12 (fun _ => FP.fconst0)) ++ (bO11 k h (.int 0) (.int 0) (.int (-1)) (.int (-1)) (.int 0) (.ref q_1) (.ref q_2) (.ref q_4) (.ref q_6) (.ref q_8) (.ref q_10) (.ref q_12) .null .null .null .null .null .null .null .null .null .null .null (.int 0) (.int 0) (.int 0) (.int 0) (.int 0) (.int 0) ++ (bI83 k q_1 (fun _ => 0) ++ (w_11)))) H := hP
  replace hD : va_D A ((bF10 k q_12 (fun _ => FP.fconst0)) ++ (bO11 k h (.int 0) (.int 0) (.int (-1)) (.int (-1)) (.int 0) (.ref q_1) (.ref q_2) (.ref q_4) (.ref q_6) (.ref q_8) (.ref q_10) (.ref q_12) .null .null .null .null .null .null .null .null .null .null .null (.int 0) (.int 0) (.int 0) (.int 0) (.int 0) (.int 0) ++ (bI83 k q_1 (fun _ => 0) ++ (w_11)))) := hD
  replace hP := l_swP hP
  replace hD := l_swD hD
  replace hP : va_P D vwCl (bO11 k h (.int 0) (.int 0) (.int (-1)) (.int (-1)) (.int 0) (.ref q_1) (.ref q_2) (.ref q_4) (.ref q_6) (.ref q_8) (.ref q_10) (.ref q_12) .null .null .null .null .null .null .null .null .null .null .null (.int 0) (.int 0) (.int 0) (.int 0) (.int 0) (.int 0) ++ (bI83 k q_1 (fun _ => 0) ++ ((bF10 k q_12 (fun _ => FP.fconst0)) ++ w_11))) H := vP_perm hP (List.Perm.append_left _ l_sw)
  replace hD : va_D A (bO11 k h (.int 0) (.int 0) (.int (-1)) (.int (-1)) (.int 0) (.ref q_1) (.ref q_2) (.ref q_4) (.ref q_6) (.ref q_8) (.ref q_10) (.ref q_12) .null .null .null .null .null .null .null .null .null .null .null (.int 0) (.int 0) (.int 0) (.int 0) (.int 0) (.int 0) ++ (bI83 k q_1 (fun _ => 0) ++ ((bF10 k q_12 (fun _ => FP.fconst0)) ++ w_11))) := vD_perm hD (List.Perm.append_left _ l_sw)
  obtain ⟨w_13, hw_13⟩ : ∃ z : va_W, (bF10 k q_12 (fun _ => FP.fconst0)) ++ w_11 = z := ⟨_, rfl⟩
  rw [hw_13] at hP hD
  replace hP : va_P D vwCl (bO11 k h (.int 0) (.int 0) (.int (-1)) (.int (-1)) (.int 0) (.ref q_1) (.ref q_2) (.ref q_4) (.ref q_6) (.ref q_8) (.ref q_10) (.ref q_12) .null .null .null .null .null .null .null .null .null .null .null (.int 0) (.int 0) (.int 0) (.int 0) (.int 0) (.int 0) ++ (bI83 k q_1 (fun _ => 0) ++ (w_13))) H := hP
  replace hD : va_D A (bO11 k h (.int 0) (.int 0) (.int (-1)) (.int (-1)) (.int 0) (.ref q_1) (.ref q_2) (.ref q_4) (.ref q_6) (.ref q_8) (.ref q_10) (.ref q_12) .null .null .null .null .null .null .null .null .null .null .null (.int 0) (.int 0) (.int 0) (.int 0) (.int 0) (.int 0) ++ (bI83 k q_1 (fun _ => 0) ++ (w_13))) := hD
  refine lv_aload_n hx hb dX13_init_71 rfl (lv_at hl 0 rfl) ?_
  refine lv_bipush (v := 10) hx hb dX13_init_72 (by decide) ?_
  refine nw_arr (atype := .float) hx hb (hts (.arrayClass .float) (by decide +kernel)) rfl hK hP hD hS hA (a0 := (10, .inr (.inr (.inl (fun _ => FP.fconst0))))) (N' := 10) (fun _ => rfl) (by decide) (by decide) (Nat.le_of_ble_eq_true rfl) (Nat.le_of_ble_eq_true rfl) (Nat.le_of_ble_eq_true rfl) 2 rfl dX13_init_74 (fun q_14 H hP9 hD9 hS9 => ?_)
  clear hP hD hS
  have hP := hP9
  have hD := hD9
  have hS := hS9
  clear hP9 hD9 hS9
  replace hP := vP_perm hP (List.perm_append_comm (l₂ := ([(q_14, .inl (k 2, 10, .inr (.inr (.inl (fun _ => FP.fconst0)))))] : va_W)))
  replace hD := vD_perm hD (List.perm_append_comm (l₂ := ([(q_14, .inl (k 2, 10, .inr (.inr (.inl (fun _ => FP.fconst0)))))] : va_W)))
  replace hP : va_P D vwCl (bF10 k q_14 (fun _ => FP.fconst0) ++ (bO11 k h (.int 0) (.int 0) (.int (-1)) (.int (-1)) (.int 0) (.ref q_1) (.ref q_2) (.ref q_4) (.ref q_6) (.ref q_8) (.ref q_10) (.ref q_12) .null .null .null .null .null .null .null .null .null .null .null (.int 0) (.int 0) (.int 0) (.int 0) (.int 0) (.int 0) ++ (bI83 k q_1 (fun _ => 0) ++ (w_13)))) H := hP
  replace hD : va_D A (bF10 k q_14 (fun _ => FP.fconst0) ++ (bO11 k h (.int 0) (.int 0) (.int (-1)) (.int (-1)) (.int 0) (.ref q_1) (.ref q_2) (.ref q_4) (.ref q_6) (.ref q_8) (.ref q_10) (.ref q_12) .null .null .null .null .null .null .null .null .null .null .null (.int 0) (.int 0) (.int 0) (.int 0) (.int 0) (.int 0) ++ (bI83 k q_1 (fun _ => 0) ++ (w_13)))) := hD
  refine va_putF (D := D) (ci := 11) (v := .ref q_14) (ty := (.array .float)) (C := RX13) (T := TX13) (N := 29) hx hb hts kc_RX13 tyX13 tyX13_ok nmX13 hown hK hP hD hS 1 rfl rfl 12 (by decide) k_fieldLink_39 (fun _ h9 => h9) rfl (hin rfl) rfl (by decide +kernel) rfl rfl (Nat.le_of_ble_eq_true rfl) dX13_init_76 (fun H locs hP9 hD9 hS9 => ?_)
  clear hP hD hS
  have hP := hP9
  have hD := hD9
  have hS := hS9
  clear hP9 hD9 hS9
  replace hP : va_P D vwCl (bF10 k q_14 (fun _ => FP.fconst0) ++ (bO11 k h (.int 0) (.int 0) (.int (-1)) (.int (-1)) (.int 0) (.ref q_1) (.ref q_2) (.ref q_4) (.ref q_6) (.ref q_8) (.ref q_10) (.ref q_12) (.ref q_14) .null .null .null .null .null .null .null .null .null .null (.int 0) (.int 0) (.int 0) (.int 0) (.int 0) (.int 0) ++ (bI83 k q_1 (fun _ => 0) ++ (w_13)))) H := hP
  replace hD : va_D A (bF10 k q_14 (fun _ => FP.fconst0) ++ (bO11 k h (.int 0) (.int 0) (.int (-1)) (.int (-1)) (.int 0) (.ref q_1) (.ref q_2) (.ref q_4) (.ref q_6) (.ref q_8) (.ref q_10) (.ref q_12) (.ref q_14) .null .null .null .null .null .null .null .null .null .null (.int 0) (.int 0) (.int 0) (.int 0) (.int 0) (.int 0) ++ (bI83 k q_1 (fun _ => 0) ++ (w_13)))) := hD
  replace hP : va_P D vwCl ((bF10 k q_14 (fun _ => FP.fconst0)) ++ (bO11 k h (.int 0) (.int 0) (.int (-1)) (.int (-1)) (.int 0) (.ref q_1) (.ref q_2) (.ref q_4) (.ref q_6) (.ref q_8) (.ref q_10) (.ref q_12) (.ref q_14) .null .null .null .null .null .null .null .null .null .null (.int 0) (.int 0) (.int 0) (.int 0) (.int 0) (.int 0) ++ (bI83 k q_1 (fun _ => 0) ++ (w_13)))) H := hP
  replace hD : va_D A ((bF10 k q_14 (fun _ => FP.fconst0)) ++ (bO11 k h (.int 0) (.int 0) (.int (-1)) (.int (-1)) (.int 0) (.ref q_1) (.ref q_2) (.ref q_4) (.ref q_6) (.ref q_8) (.ref q_10) (.ref q_12) (.ref q_14) .null .null .null .null .null .null .null .null .null .null (.int 0) (.int 0) (.int 0) (.int 0) (.int 0) (.int 0) ++ (bI83 k q_1 (fun _ => 0) ++ (w_13)))) := hD
  replace hP := l_swP hP
  replace hD := l_swD hD
  replace hP : va_P D vwCl (bO11 k h (.int 0) (.int 0) (.int (-1)) (.int (-1)) (.int 0) (.ref q_1) (.ref q_2) (.ref q_4) (.ref q_6) (.ref q_8) (.ref q_10) (.ref q_12) (.ref q_14) .null .null .null .null .null .null .null .null .null .null (.int 0) (.int 0) (.int 0) (.int 0) (.int 0) (.int 0) ++ (bI83 k q_1 (fun _ => 0) ++ ((bF10 k q_14 (fun _ => FP.fconst0)) ++ w_13))) H := vP_perm hP (List.Perm.append_left _ l_sw)
  replace hD : va_D A (bO11 k h (.int 0) (.int 0) (.int (-1)) (.int (-1)) (.int 0) (.ref q_1) (.ref q_2) (.ref q_4) (.ref q_6) (.ref q_8) (.ref q_10) (.ref q_12) (.ref q_14) .null .null .null .null .null .null .null .null .null .null (.int 0) (.int 0) (.int 0) (.int 0) (.int 0) (.int 0) ++ (bI83 k q_1 (fun _ => 0) ++ ((bF10 k q_14 (fun _ => FP.fconst0)) ++ w_13))) := vD_perm hD (List.Perm.append_left _ l_sw)
  obtain ⟨w_15, hw_15⟩ : ∃ z : va_W, (bF10 k q_14 (fun _ => FP.fconst0)) ++ w_13 = z := ⟨_, rfl⟩
  rw [hw_15] at hP hD
  replace hP : va_P D vwCl (bO11 k h (.int 0) (.int 0) (.int (-1)) (.int (-1)) (.int 0) (.ref q_1) (.ref q_2) (.ref q_4) (.ref q_6) (.ref q_8) (.ref q_10) (.ref q_12) (.ref q_14) .null .null .null .null .null .null .null .null .null .null (.int 0) (.int 0) (.int 0) (.int 0) (.int 0) (.int 0) ++ (bI83 k q_1 (fun _ => 0) ++ (w_15))) H := hP
  replace hD : va_D A (bO11 k h (.int 0) (.int 0) (.int (-1)) (.int (-1)) (.int 0) (.ref q_1) (.ref q_2) (.ref q_4) (.ref q_6) (.ref q_8) (.ref q_10) (.ref q_12) (.ref q_14) .null .null .null .null .null .null .null .null .null .null (.int 0) (.int 0) (.int 0) (.int 0) (.int 0) (.int 0) ++ (bI83 k q_1 (fun _ => 0) ++ (w_15))) := hD
  refine lv_aload_n hx hb dX13_init_79 rfl (lv_at hl 0 rfl) ?_
  refine lv_bipush (v := 80) hx hb dX13_init_80 (by decide) ?_
  refine nw_arr (atype := .float) hx hb (hts (.arrayClass .float) (by decide +kernel)) rfl hK hP hD hS hA (a0 := (80, .inr (.inr (.inl (fun _ => FP.fconst0))))) (N' := 80) (fun _ => rfl) (by decide) (by decide) (Nat.le_of_ble_eq_true rfl) (Nat.le_of_ble_eq_true rfl) (Nat.le_of_ble_eq_true rfl) 2 rfl dX13_init_82 (fun q_16 H hP9 hD9 hS9 => ?_)
  clear hP hD hS
  have hP := hP9
  have hD := hD9
  have hS := hS9
  clear hP9 hD9 hS9
  replace hP := vP_perm hP (List.perm_append_comm (l₂ := ([(q_16, .inl (k 2, 80, .inr (.inr (.inl (fun _ => FP.fconst0)))))] : va_W)))
  replace hD := vD_perm hD (List.perm_append_comm (l₂ := ([(q_16, .inl (k 2, 80, .inr (.inr (.inl (fun _ => FP.fconst0)))))] : va_W)))
  replace hP : va_P D vwCl (bF80 k q_16 (fun _ => FP.fconst0) ++ (bO11 k h (.int 0) (.int 0) (.int (-1)) (.int (-1)) (.int 0) (.ref q_1) (.ref q_2) (.ref q_4) (.ref q_6) (.ref q_8) (.ref q_10) (.ref q_12) (.ref q_14) .null .null .null .null .null .null .null .null .null .null (.int 0) (.int 0) (.int 0) (.int 0) (.int 0) (.int 0) ++ (bI83 k q_1 (fun _ => 0) ++ (w_15)))) H := hP
  replace hD : va_D A (bF80 k q_16 (fun _ => FP.fconst0) ++ (bO11 k h (.int 0) (.int 0) (.int (-1)) (.int (-1)) (.int 0) (.ref q_1) (.ref q_2) (.ref q_4) (.ref q_6) (.ref q_8) (.ref q_10) (.ref q_12) (.ref q_14) .null .null .null .null .null .null .null .null .null .null (.int 0) (.int 0) (.int 0) (.int 0) (.int 0) (.int 0) ++ (bI83 k q_1 (fun _ => 0) ++ (w_15)))) := hD
  refine va_putF (D := D) (ci := 11) (v := .ref q_16) (ty := (.array .float)) (C := RX13) (T := TX13) (N := 29) hx hb hts kc_RX13 tyX13 tyX13_ok nmX13 hown hK hP hD hS 1 rfl rfl 13 (by decide) k_fieldLink_42 (fun _ h9 => h9) rfl (hin rfl) rfl (by decide +kernel) rfl rfl (Nat.le_of_ble_eq_true rfl) dX13_init_84 (fun H locs hP9 hD9 hS9 => ?_)
  clear hP hD hS
  have hP := hP9
  have hD := hD9
  have hS := hS9
  clear hP9 hD9 hS9
  replace hP : va_P D vwCl (bF80 k q_16 (fun _ => FP.fconst0) ++ (bO11 k h (.int 0) (.int 0) (.int (-1)) (.int (-1)) (.int 0) (.ref q_1) (.ref q_2) (.ref q_4) (.ref q_6) (.ref q_8) (.ref q_10) (.ref q_12) (.ref q_14) (.ref q_16) .null .null .null .null .null .null .null .null .null (.int 0) (.int 0) (.int 0) (.int 0) (.int 0) (.int 0) ++ (bI83 k q_1 (fun _ => 0) ++ (w_15)))) H := hP
  replace hD : va_D A (bF80 k q_16 (fun _ => FP.fconst0) ++ (bO11 k h (.int 0) (.int 0) (.int (-1)) (.int (-1)) (.int 0) (.ref q_1) (.ref q_2) (.ref q_4) (.ref q_6) (.ref q_8) (.ref q_10) (.ref q_12) (.ref q_14) (.ref q_16) .null .null .null .null .null .null .null .null .null (.int 0) (.int 0) (.int 0) (.int 0) (.int 0) (.int 0) ++ (bI83 k q_1 (fun _ => 0) ++ (w_15)))) := hD
  replace hP : va_P D vwCl ((bF80 k q_16 (fun _ => FP.fconst0)) ++ (bO11 k h (.int 0) (.int 0) (.int (-1)) (.int (-1)) (.int 0) (.ref q_1) (.ref q_2) (.ref q_4) (.ref q_6) (.ref q_8) (.ref q_10) (.ref q_12) (.ref q_14) (.ref q_16) .null .null .null .null .null .null .null .null .null (.int 0) (.int 0) (.int 0) (.int 0) (.int 0) (.int 0) ++ (bI83 k q_1 (fun _ => 0) ++ (w_15)))) H := hP
  replace hD : va_D A ((bF80 k q_16 (fun _ => FP.fconst0)) ++ (bO11 k h (.int 0) (.int 0) (.int (-1)) (.int (-1)) (.int 0) (.ref q_1) (.ref q_2) (.ref q_4) (.ref q_6) (.ref q_8) (.ref q_10) (.ref q_12) (.ref q_14) (.ref q_16) .null .null .null .null .null .null .null .null .null (.int 0) (.int 0) (.int 0) (.int 0) (.int 0) (.int 0) ++ (bI83 k q_1 (fun _ => 0) ++ (w_15)))) := hD
  replace hP := l_swP hP
  replace hD := l_swD hD
  replace hP : va_P D vwCl (bO11 k h (.int 0) (.int 0) (.int (-1)) (.int (-1)) (.int 0) (.ref q_1) (.ref q_2) (.ref q_4) (.ref q_6) (.ref q_8) (.ref q_10) (.ref q_12) (.ref q_14) (.ref q_16) .null .null .null .null .null .null .null .null .null (.int 0) (.int 0) (.int 0) (.int 0) (.int 0) (.int 0) ++ (bI83 k q_1 (fun _ => 0) ++ ((bF80 k q_16 (fun _ => FP.fconst0)) ++ w_15))) H := vP_perm hP (List.Perm.append_left _ l_sw)
  replace hD : va_D A (bO11 k h (.int 0) (.int 0) (.int (-1)) (.int (-1)) (.int 0) (.ref q_1) (.ref q_2) (.ref q_4) (.ref q_6) (.ref q_8) (.ref q_10) (.ref q_12) (.ref q_14) (.ref q_16) .null .null .null .null .null .null .null .null .null (.int 0) (.int 0) (.int 0) (.int 0) (.int 0) (.int 0) ++ (bI83 k q_1 (fun _ => 0) ++ ((bF80 k q_16 (fun _ => FP.fconst0)) ++ w_15))) := vD_perm hD (List.Perm.append_left _ l_sw)
  obtain ⟨w_17, hw_17⟩ : ∃ z : va_W, (bF80 k q_16 (fun _ => FP.fconst0)) ++ w_15 = z := ⟨_, rfl⟩
  rw [hw_17] at hP hD
  replace hP : va_P D vwCl (bO11 k h (.int 0) (.int 0) (.int (-1)) (.int (-1)) (.int 0) (.ref q_1) (.ref q_2) (.ref q_4) (.ref q_6) (.ref q_8) (.ref q_10) (.ref q_12) (.ref q_14) (.ref q_16) .null .null .null .null .null .null .null .null .null (.int 0) (.int 0) (.int 0) (.int 0) (.int 0) (.int 0) ++ (bI83 k q_1 (fun _ => 0) ++ (w_17))) H := hP
  replace hD : va_D A (bO11 k h (.int 0) (.int 0) (.int (-1)) (.int (-1)) (.int 0) (.ref q_1) (.ref q_2) (.ref q_4) (.ref q_6) (.ref q_8) (.ref q_10) (.ref q_12) (.ref q_14) (.ref q_16) .null .null .null .null .null .null .null .null .null (.int 0) (.int 0) (.int 0) (.int 0) (.int 0) (.int 0) ++ (bI83 k q_1 (fun _ => 0) ++ (w_17))) := hD
  refine lv_aload_n hx hb dX13_init_87 rfl (lv_at hl 0 rfl) ?_
  refine lv_bipush (v := 10) hx hb dX13_init_88 (by decide) ?_
  refine nw_arr (atype := .float) hx hb (hts (.arrayClass .float) (by decide +kernel)) rfl hK hP hD hS hA (a0 := (10, .inr (.inr (.inl (fun _ => FP.fconst0))))) (N' := 10) (fun _ => rfl) (by decide) (by decide) (Nat.le_of_ble_eq_true rfl) (Nat.le_of_ble_eq_true rfl) (Nat.le_of_ble_eq_true rfl) 2 rfl dX13_init_90 (fun q_18 H hP9 hD9 hS9 => ?_)
  clear hP hD hS
  have hP := hP9
  have hD := hD9
  have hS := hS9
  clear hP9 hD9 hS9
  replace hP := vP_perm hP (List.perm_append_comm (l₂ := ([(q_18, .inl (k 2, 10, .inr (.inr (.inl (fun _ => FP.fconst0)))))] : va_W)))
  replace hD := vD_perm hD (List.perm_append_comm (l₂ := ([(q_18, .inl (k 2, 10, .inr (.inr (.inl (fun _ => FP.fconst0)))))] : va_W)))
  replace hP : va_P D vwCl (bF10 k q_18 (fun _ => FP.fconst0) ++ (bO11 k h (.int 0) (.int 0) (.int (-1)) (.int (-1)) (.int 0) (.ref q_1) (.ref q_2) (.ref q_4) (.ref q_6) (.ref q_8) (.ref q_10) (.ref q_12) (.ref q_14) (.ref q_16) .null .null .null .null .null .null .null .null .null (.int 0) (.int 0) (.int 0) (.int 0) (.int 0) (.int 0) ++ (bI83 k q_1 (fun _ => 0) ++ (w_17)))) H := hP
  replace hD : va_D A (bF10 k q_18 (fun _ => FP.fconst0) ++ (bO11 k h (.int 0) (.int 0) (.int (-1)) (.int (-1)) (.int 0) (.ref q_1) (.ref q_2) (.ref q_4) (.ref q_6) (.ref q_8) (.ref q_10) (.ref q_12) (.ref q_14) (.ref q_16) .null .null .null .null .null .null .null .null .null (.int 0) (.int 0) (.int 0) (.int 0) (.int 0) (.int 0) ++ (bI83 k q_1 (fun _ => 0) ++ (w_17)))) := hD
  refine va_putF (D := D) (ci := 11) (v := .ref q_18) (ty := (.array .float)) (C := RX13) (T := TX13) (N := 29) hx hb hts kc_RX13 tyX13 tyX13_ok nmX13 hown hK hP hD hS 1 rfl rfl 14 (by decide) k_fieldLink_45 (fun _ h9 => h9) rfl (hin rfl) rfl (by decide +kernel) rfl rfl (Nat.le_of_ble_eq_true rfl) dX13_init_92 (fun H locs hP9 hD9 hS9 => ?_)
  clear hP hD hS
  have hP := hP9
  have hD := hD9
  have hS := hS9
  clear hP9 hD9 hS9
  replace hP : va_P D vwCl (bF10 k q_18 (fun _ => FP.fconst0) ++ (bO11 k h (.int 0) (.int 0) (.int (-1)) (.int (-1)) (.int 0) (.ref q_1) (.ref q_2) (.ref q_4) (.ref q_6) (.ref q_8) (.ref q_10) (.ref q_12) (.ref q_14) (.ref q_16) (.ref q_18) .null .null .null .null .null .null .null .null (.int 0) (.int 0) (.int 0) (.int 0) (.int 0) (.int 0) ++ (bI83 k q_1 (fun _ => 0) ++ (w_17)))) H := hP
  replace hD : va_D A (bF10 k q_18 (fun _ => FP.fconst0) ++ (bO11 k h (.int 0) (.int 0) (.int (-1)) (.int (-1)) (.int 0) (.ref q_1) (.ref q_2) (.ref q_4) (.ref q_6) (.ref q_8) (.ref q_10) (.ref q_12) (.ref q_14) (.ref q_16) (.ref q_18) .null .null .null .null .null .null .null .null (.int 0) (.int 0) (.int 0) (.int 0) (.int 0) (.int 0) ++ (bI83 k q_1 (fun _ => 0) ++ (w_17)))) := hD
  replace hP : va_P D vwCl ((bF10 k q_18 (fun _ => FP.fconst0)) ++ (bO11 k h (.int 0) (.int 0) (.int (-1)) (.int (-1)) (.int 0) (.ref q_1) (.ref q_2) (.ref q_4) (.ref q_6) (.ref q_8) (.ref q_10) (.ref q_12) (.ref q_14) (.ref q_16) (.ref q_18) .null .null .null .null .null .null .null .null (.int 0) (.int 0) (.int 0) (.int 0) (.int 0) (.int 0) ++ (bI83 k q_1 (fun _ => 0) ++ (w_17)))) H := hP
  replace hD : va_D A ((bF10 k q_18 (fun _ => FP.fconst0)) ++ (bO11 k h (.int 0) (.int 0) (.int (-1)) (.int (-1)) (.int 0) (.ref q_1) (.ref q_2) (.ref q_4) (.ref q_6) (.ref q_8) (.ref q_10) (.ref q_12) (.ref q_14) (.ref q_16) (.ref q_18) .null .null .null .null .null .null .null .null (.int 0) (.int 0) (.int 0) (.int 0) (.int 0) (.int 0) ++ (bI83 k q_1 (fun _ => 0) ++ (w_17)))) := hD
  replace hP := l_swP hP
  replace hD := l_swD hD
  replace hP : va_P D vwCl (bO11 k h (.int 0) (.int 0) (.int (-1)) (.int (-1)) (.int 0) (.ref q_1) (.ref q_2) (.ref q_4) (.ref q_6) (.ref q_8) (.ref q_10) (.ref q_12) (.ref q_14) (.ref q_16) (.ref q_18) .null .null .null .null .null .null .null .null (.int 0) (.int 0) (.int 0) (.int 0) (.int 0) (.int 0) ++ (bI83 k q_1 (fun _ => 0) ++ ((bF10 k q_18 (fun _ => FP.fconst0)) ++ w_17))) H := vP_perm hP (List.Perm.append_left _ l_sw)
  replace hD : va_D A (bO11 k h (.int 0) (.int 0) (.int (-1)) (.int (-1)) (.int 0) (.ref q_1) (.ref q_2) (.ref q_4) (.ref q_6) (.ref q_8) (.ref q_10) (.ref q_12) (.ref q_14) (.ref q_16) (.ref q_18) .null .null .null .null .null .null .null .null (.int 0) (.int 0) (.int 0) (.int 0) (.int 0) (.int 0) ++ (bI83 k q_1 (fun _ => 0) ++ ((bF10 k q_18 (fun _ => FP.fconst0)) ++ w_17))) := vD_perm hD (List.Perm.append_left _ l_sw)
  obtain ⟨w_19, hw_19⟩ : ∃ z : va_W, (bF10 k q_18 (fun _ => FP.fconst0)) ++ w_17 = z := ⟨_, rfl⟩
  rw [hw_19] at hP hD
  replace hP : va_P D vwCl (bO11 k h (.int 0) (.int 0) (.int (-1)) (.int (-1)) (.int 0) (.ref q_1) (.ref q_2) (.ref q_4) (.ref q_6) (.ref q_8) (.ref q_10) (.ref q_12) (.ref q_14) (.ref q_16) (.ref q_18) .null .null .null .null .null .null .null .null (.int 0) (.int 0) (.int 0) (.int 0) (.int 0) (.int 0) ++ (bI83 k q_1 (fun _ => 0) ++ (w_19))) H := hP
  replace hD : va_D A (bO11 k h (.int 0) (.int 0) (.int (-1)) (.int (-1)) (.int 0) (.ref q_1) (.ref q_2) (.ref q_4) (.ref q_6) (.ref q_8) (.ref q_10) (.ref q_12) (.ref q_14) (.ref q_16) (.ref q_18) .null .null .null .null .null .null .null .null (.int 0) (.int 0) (.int 0) (.int 0) (.int 0) (.int 0) ++ (bI83 k q_1 (fun _ => 0) ++ (w_19))) := hD
  refine lv_aload_n hx hb dX13_init_95 rfl (lv_at hl 0 rfl) ?_
  refine lv_bipush (v := 10) hx hb dX13_init_96 (by decide) ?_
  refine nw_arr (atype := .float) hx hb (hts (.arrayClass .float) (by decide +kernel)) rfl hK hP hD hS hA (a0 := (10, .inr (.inr (.inl (fun _ => FP.fconst0))))) (N' := 10) (fun _ => rfl) (by decide) (by decide) (Nat.le_of_ble_eq_true rfl) (Nat.le_of_ble_eq_true rfl) (Nat.le_of_ble_eq_true rfl) 2 rfl dX13_init_98 (fun q_20 H hP9 hD9 hS9 => ?_)
  clear hP hD hS
  have hP := hP9
  have hD := hD9
  have hS := hS9
  clear hP9 hD9 hS9
  replace hP := vP_perm hP (List.perm_append_comm (l₂ := ([(q_20, .inl (k 2, 10, .inr (.inr (.inl (fun _ => FP.fconst0)))))] : va_W)))
  replace hD := vD_perm hD (List.perm_append_comm (l₂ := ([(q_20, .inl (k 2, 10, .inr (.inr (.inl (fun _ => FP.fconst0)))))] : va_W)))
  replace hP : va_P D vwCl (bF10 k q_20 (fun _ => FP.fconst0) ++ (bO11 k h (.int 0) (.int 0) (.int (-1)) (.int (-1)) (.int 0) (.ref q_1) (.ref q_2) (.ref q_4) (.ref q_6) (.ref q_8) (.ref q_10) (.ref q_12) (.ref q_14) (.ref q_16) (.ref q_18) .null .null .null .null .null .null .null .null (.int 0) (.int 0) (.int 0) (.int 0) (.int 0) (.int 0) ++ (bI83 k q_1 (fun _ => 0) ++ (w_19)))) H := hP
  replace hD : va_D A (bF10 k q_20 (fun _ => FP.fconst0) ++ (bO11 k h (.int 0) (.int 0) (.int (-1)) (.int (-1)) (.int 0) (.ref q_1) (.ref q_2) (.ref q_4) (.ref q_6) (.ref q_8) (.ref q_10) (.ref q_12) (.ref q_14) (.ref q_16) (.ref q_18) .null .null .null .null .null .null .null .null (.int 0) (.int 0) (.int 0) (.int 0) (.int 0) (.int 0) ++ (bI83 k q_1 (fun _ => 0) ++ (w_19)))) := hD
  refine va_putF (D := D) (ci := 11) (v := .ref q_20) (ty := (.array .float)) (C := RX13) (T := TX13) (N := 29) hx hb hts kc_RX13 tyX13 tyX13_ok nmX13 hown hK hP hD hS 1 rfl rfl 15 (by decide) k_fieldLink_48 (fun _ h9 => h9) rfl (hin rfl) rfl (by decide +kernel) rfl rfl (Nat.le_of_ble_eq_true rfl) dX13_init_100 (fun H locs hP9 hD9 hS9 => ?_)
  clear hP hD hS
  have hP := hP9
  have hD := hD9
  have hS := hS9
  clear hP9 hD9 hS9
  replace hP : va_P D vwCl (bF10 k q_20 (fun _ => FP.fconst0) ++ (bO11 k h (.int 0) (.int 0) (.int (-1)) (.int (-1)) (.int 0) (.ref q_1) (.ref q_2) (.ref q_4) (.ref q_6) (.ref q_8) (.ref q_10) (.ref q_12) (.ref q_14) (.ref q_16) (.ref q_18) (.ref q_20) .null .null .null .null .null .null .null (.int 0) (.int 0) (.int 0) (.int 0) (.int 0) (.int 0) ++ (bI83 k q_1 (fun _ => 0) ++ (w_19)))) H := hP
  replace hD : va_D A (bF10 k q_20 (fun _ => FP.fconst0) ++ (bO11 k h (.int 0) (.int 0) (.int (-1)) (.int (-1)) (.int 0) (.ref q_1) (.ref q_2) (.ref q_4) (.ref q_6) (.ref q_8) (.ref q_10) (.ref q_12) (.ref q_14) (.ref q_16) (.ref q_18) (.ref q_20) .null .null .null .null .null .null .null (.int 0) (.int 0) (.int 0) (.int 0) (.int 0) (.int 0) ++ (bI83 k q_1 (fun _ => 0) ++ (w_19)))) := hD
  replace hP : va_P D vwCl ((bF10 k q_20 (fun _ => FP.fconst0)) ++ (bO11 k h (.int 0) (.int 0) (.int (-1)) (.int (-1)) (.int 0) (.ref q_1) (.ref q_2) (.ref q_4) (.ref q_6) (.ref q_8) (.ref q_10) (.ref q_12) (.ref q_14) (.ref q_16) (.ref q_18) (.ref q_20) .null .null .null .null .null .null .null (.int 0) (.int 0) (.int 0) (.int 0) (.int 0) (.int 0) ++ (bI83 k q_1 (fun _ => 0) ++ (w_19)))) H := hP
  replace hD : va_D A ((bF10 k q_20 (fun _ => FP.fconst0)) ++ (bO11 k h (.int 0) (.int 0) (.int (-1)) (.int (-1)) (.int 0) (.ref q_1) (.ref q_2) (.ref q_4) (.ref q_6) (.ref q_8) (.ref q_10) (.ref q_12) (.ref q_14) (.ref q_16) (.ref q_18) (.ref q_20) .null .null .null .null .null .null .null (.int 0) (.int 0) (.int 0) (.int 0) (.int 0) (.int 0) ++ (bI83 k q_1 (fun _ => 0) ++ (w_19)))) := hD
  replace hP := l_swP hP
  replace hD := l_swD hD
  replace hP : va_P D vwCl (bO11 k h (.int 0) (.int 0) (.int (-1)) (.int (-1)) (.int 0) (.ref q_1) (.ref q_2) (.ref q_4) (.ref q_6) (.ref q_8) (.ref q_10) (.ref q_12) (.ref q_14) (.ref q_16) (.ref q_18) (.ref q_20) .null .null .null .null .null .null .null (.int 0) (.int 0) (.int 0) (.int 0) (.int 0) (.int 0) ++ (bI83 k q_1 (fun _ => 0) ++ ((bF10 k q_20 (fun _ => FP.fconst0)) ++ w_19))) H := vP_perm hP (List.Perm.append_left _ l_sw)
  replace hD : va_D A (bO11 k h (.int 0) (.int 0) (.int (-1)) (.int (-1)) (.int 0) (.ref q_1) (.ref q_2) (.ref q_4) (.ref q_6) (.ref q_8) (.ref q_10) (.ref q_12) (.ref q_14) (.ref q_16) (.ref q_18) (.ref q_20) .null .null .null .null .null .null .null (.int 0) (.int 0) (.int 0) (.int 0) (.int 0) (.int 0) ++ (bI83 k q_1 (fun _ => 0) ++ ((bF10 k q_20 (fun _ => FP.fconst0)) ++ w_19))) := vD_perm hD (List.Perm.append_left _ l_sw)
  obtain ⟨w_21, hw_21⟩ : ∃ z : va_W, (bF10 k q_20 (fun _ => FP.fconst0)) ++ w_19 = z := ⟨_, rfl⟩
  rw [hw_21] at hP hD
  replace hP : va_P D vwCl (bO11 k h (.int 0) (.int 0) (.int (-1)) (.int (-1)) (.int 0) (.ref q_1) (.ref q_2) (.ref q_4) (.ref q_6) (.ref q_8) (.ref q_10) (.ref q_12) (.ref q_14) (.ref q_16) (.ref q_18) (.ref q_20) .null .null .null .null .null .null .null (.int 0) (.int 0) (.int 0) (.int 0) (.int 0) (.int 0) ++ (bI83 k q_1 (fun _ => 0) ++ (w_21))) H := hP
  replace hD : va_D A (bO11 k h (.int 0) (.int 0) (.int (-1)) (.int (-1)) (.int 0) (.ref q_1) (.ref q_2) (.ref q_4) (.ref q_6) (.ref q_8) (.ref q_10) (.ref q_12) (.ref q_14) (.ref q_16) (.ref q_18) (.ref q_20) .null .null .null .null .null .null .null (.int 0) (.int 0) (.int 0) (.int 0) (.int 0) (.int 0) ++ (bI83 k q_1 (fun _ => 0) ++ (w_21))) := hD
  refine lv_aload_n hx hb dX13_init_103 rfl (lv_at hl 0 rfl) ?_
  refine lv_bipush (v := 10) hx hb dX13_init_104 (by decide) ?_
  refine nw_arr (atype := .long) hx hb (hts (.arrayClass .long) (by decide +kernel)) rfl hK hP hD hS hA (a0 := (10, .inr (.inl (fun _ => 0)))) (N' := 10) (fun _ => rfl) (by decide) (by decide) (Nat.le_of_ble_eq_true rfl) (Nat.le_of_ble_eq_true rfl) (Nat.le_of_ble_eq_true rfl) 3 rfl dX13_init_106 (fun q_22 H hP9 hD9 hS9 => ?_)
  clear hP hD hS
  have hP := hP9
  have hD := hD9
  have hS := hS9
  clear hP9 hD9 hS9
  replace hP := vP_perm hP (List.perm_append_comm (l₂ := ([(q_22, .inl (k 3, 10, .inr (.inl (fun _ => 0))))] : va_W)))
  replace hD := vD_perm hD (List.perm_append_comm (l₂ := ([(q_22, .inl (k 3, 10, .inr (.inl (fun _ => 0))))] : va_W)))
  replace hP : va_P D vwCl (bL10 k q_22 (fun _ => 0) ++ (bO11 k h (.int 0) (.int 0) (.int (-1)) (.int (-1)) (.int 0) (.ref q_1) (.ref q_2) (.ref q_4) (.ref q_6) (.ref q_8) (.ref q_10) (.ref q_12) (.ref q_14) (.ref q_16) (.ref q_18) (.ref q_20) .null .null .null .null .null .null .null (.int 0) (.int 0) (.int 0) (.int 0) (.int 0) (.int 0) ++ (bI83 k q_1 (fun _ => 0) ++ (w_21)))) H := hP
  replace hD : va_D A (bL10 k q_22 (fun _ => 0) ++ (bO11 k h (.int 0) (.int 0) (.int (-1)) (.int (-1)) (.int 0) (.ref q_1) (.ref q_2) (.ref q_4) (.ref q_6) (.ref q_8) (.ref q_10) (.ref q_12) (.ref q_14) (.ref q_16) (.ref q_18) (.ref q_20) .null .null .null .null .null .null .null (.int 0) (.int 0) (.int 0) (.int 0) (.int 0) (.int 0) ++ (bI83 k q_1 (fun _ => 0) ++ (w_21)))) := hD
  refine va_putF (D := D) (ci := 11) (v := .ref q_22) (ty := (.array .long)) (C := RX13) (T := TX13) (N := 29) hx hb hts kc_RX13 tyX13 tyX13_ok nmX13 hown hK hP hD hS 1 rfl rfl 16 (by decide) k_fieldLink_51 (fun _ h9 => h9) rfl (hin rfl) rfl (by decide +kernel) rfl rfl (Nat.le_of_ble_eq_true rfl) dX13_init_108 (fun H locs hP9 hD9 hS9 => ?_)
  clear hP hD hS
  have hP := hP9
  have hD := hD9
  have hS := hS9
  clear hP9 hD9 hS9
  replace hP : va_P D vwCl (bL10 k q_22 (fun _ => 0) ++ (bO11 k h (.int 0) (.int 0) (.int (-1)) (.int (-1)) (.int 0) (.ref q_1) (.ref q_2) (.ref q_4) (.ref q_6) (.ref q_8) (.ref q_10) (.ref q_12) (.ref q_14) (.ref q_16) (.ref q_18) (.ref q_20) (.ref q_22) .null .null .null .null .null .null (.int 0) (.int 0) (.int 0) (.int 0) (.int 0) (.int 0) ++ (bI83 k q_1 (fun _ => 0) ++ (w_21)))) H := hP
  replace hD : va_D A (bL10 k q_22 (fun _ => 0) ++ (bO11 k h (.int 0) (.int 0) (.int (-1)) (.int (-1)) (.int 0) (.ref q_1) (.ref q_2) (.ref q_4) (.ref q_6) (.ref q_8) (.ref q_10) (.ref q_12) (.ref q_14) (.ref q_16) (.ref q_18) (.ref q_20) (.ref q_22) .null .null .null .null .null .null (.int 0) (.int 0) (.int 0) (.int 0) (.int 0) (.int 0) ++ (bI83 k q_1 (fun _ => 0) ++ (w_21)))) := hD
  replace hP : va_P D vwCl ((bL10 k q_22 (fun _ => 0)) ++ (bO11 k h (.int 0) (.int 0) (.int (-1)) (.int (-1)) (.int 0) (.ref q_1) (.ref q_2) (.ref q_4) (.ref q_6) (.ref q_8) (.ref q_10) (.ref q_12) (.ref q_14) (.ref q_16) (.ref q_18) (.ref q_20) (.ref q_22) .null .null .null .null .null .null (.int 0) (.int 0) (.int 0) (.int 0) (.int 0) (.int 0) ++ (bI83 k q_1 (fun _ => 0) ++ (w_21)))) H := hP
  replace hD : va_D A ((bL10 k q_22 (fun _ => 0)) ++ (bO11 k h (.int 0) (.int 0) (.int (-1)) (.int (-1)) (.int 0) (.ref q_1) (.ref q_2) (.ref q_4) (.ref q_6) (.ref q_8) (.ref q_10) (.ref q_12) (.ref q_14) (.ref q_16) (.ref q_18) (.ref q_20) (.ref q_22) .null .null .null .null .null .null (.int 0) (.int 0) (.int 0) (.int 0) (.int 0) (.int 0) ++ (bI83 k q_1 (fun _ => 0) ++ (w_21)))) := hD
  replace hP := l_swP hP
  replace hD := l_swD hD
  replace hP : va_P D vwCl (bO11 k h (.int 0) (.int 0) (.int (-1)) (.int (-1)) (.int 0) (.ref q_1) (.ref q_2) (.ref q_4) (.ref q_6) (.ref q_8) (.ref q_10) (.ref q_12) (.ref q_14) (.ref q_16) (.ref q_18) (.ref q_20) (.ref q_22) .null .null .null .null .null .null (.int 0) (.int 0) (.int 0) (.int 0) (.int 0) (.int 0) ++ (bI83 k q_1 (fun _ => 0) ++ ((bL10 k q_22 (fun _ => 0)) ++ w_21))) H := vP_perm hP (List.Perm.append_left _ l_sw)
  replace hD : va_D A (bO11 k h (.int 0) (.int 0) (.int (-1)) (.int (-1)) (.int 0) (.ref q_1) (.ref q_2) (.ref q_4) (.ref q_6) (.ref q_8) (.ref q_10) (.ref q_12) (.ref q_14) (.ref q_16) (.ref q_18) (.ref q_20) (.ref q_22) .null .null .null .null .null .null (.int 0) (.int 0) (.int 0) (.int 0) (.int 0) (.int 0) ++ (bI83 k q_1 (fun _ => 0) ++ ((bL10 k q_22 (fun _ => 0)) ++ w_21))) := vD_perm hD (List.Perm.append_left _ l_sw)
  obtain ⟨w_23, hw_23⟩ : ∃ z : va_W, (bL10 k q_22 (fun _ => 0)) ++ w_21 = z := ⟨_, rfl⟩
  rw [hw_23] at hP hD
  replace hP : va_P D vwCl (bO11 k h (.int 0) (.int 0) (.int (-1)) (.int (-1)) (.int 0) (.ref q_1) (.ref q_2) (.ref q_4) (.ref q_6) (.ref q_8) (.ref q_10) (.ref q_12) (.ref q_14) (.ref q_16) (.ref q_18) (.ref q_20) (.ref q_22) .null .null .null .null .null .null (.int 0) (.int 0) (.int 0) (.int 0) (.int 0) (.int 0) ++ (bI83 k q_1 (fun _ => 0) ++ (w_23))) H := hP
  replace hD : va_D A (bO11 k h (.int 0) (.int 0) (.int (-1)) (.int (-1)) (.int 0) (.ref q_1) (.ref q_2) (.ref q_4) (.ref q_6) (.ref q_8) (.ref q_10) (.ref q_12) (.ref q_14) (.ref q_16) (.ref q_18) (.ref q_20) (.ref q_22) .null .null .null .null .null .null (.int 0) (.int 0) (.int 0) (.int 0) (.int 0) (.int 0) ++ (bI83 k q_1 (fun _ => 0) ++ (w_23))) := hD
  refine lv_aload_n hx hb dX13_init_111 rfl (lv_at hl 0 rfl) ?_
  refine lv_bipush (v := 10) hx hb dX13_init_112 (by decide) ?_
  refine nw_arr (atype := .long) hx hb (hts (.arrayClass .long) (by decide +kernel)) rfl hK hP hD hS hA (a0 := (10, .inr (.inl (fun _ => 0)))) (N' := 10) (fun _ => rfl) (by decide) (by decide) (Nat.le_of_ble_eq_true rfl) (Nat.le_of_ble_eq_true rfl) (Nat.le_of_ble_eq_true rfl) 3 rfl dX13_init_114 (fun q_24 H hP9 hD9 hS9 => ?_)
  clear hP hD hS
  have hP := hP9
  have hD := hD9
  have hS := hS9
  clear hP9 hD9 hS9
  replace hP := vP_perm hP (List.perm_append_comm (l₂ := ([(q_24, .inl (k 3, 10, .inr (.inl (fun _ => 0))))] : va_W)))
  replace hD := vD_perm hD (List.perm_append_comm (l₂ := ([(q_24, .inl (k 3, 10, .inr (.inl (fun _ => 0))))] : va_W)))
  replace hP : va_P D vwCl (bL10 k q_24 (fun _ => 0) ++ (bO11 k h (.int 0) (.int 0) (.int (-1)) (.int (-1)) (.int 0) (.ref q_1) (.ref q_2) (.ref q_4) (.ref q_6) (.ref q_8) (.ref q_10) (.ref q_12) (.ref q_14) (.ref q_16) (.ref q_18) (.ref q_20) (.ref q_22) .null .null .null .null .null .null (.int 0) (.int 0) (.int 0) (.int 0) (.int 0) (.int 0) ++ (bI83 k q_1 (fun _ => 0) ++ (w_23)))) H := hP
  replace hD : va_D A (bL10 k q_24 (fun _ => 0) ++ (bO11 k h (.int 0) (.int 0) (.int (-1)) (.int (-1)) (.int 0) (.ref q_1) (.ref q_2) (.ref q_4) (.ref q_6) (.ref q_8) (.ref q_10) (.ref q_12) (.ref q_14) (.ref q_16) (.ref q_18) (.ref q_20) (.ref q_22) .null .null .null .null .null .null (.int 0) (.int 0) (.int 0) (.int 0) (.int 0) (.int 0) ++ (bI83 k q_1 (fun _ => 0) ++ (w_23)))) := hD
  refine va_putF (D := D) (ci := 11) (v := .ref q_24) (ty := (.array .long)) (C := RX13) (T := TX13) (N := 29) hx hb hts kc_RX13 tyX13 tyX13_ok nmX13 hown hK hP hD hS 1 rfl rfl 17 (by decide) k_fieldLink_55 (fun _ h9 => h9) rfl (hin rfl) rfl (by decide +kernel) rfl rfl (Nat.le_of_ble_eq_true rfl) dX13_init_116 (fun H locs hP9 hD9 hS9 => ?_)
  clear hP hD hS
  have hP := hP9
  have hD := hD9
  have hS := hS9
  clear hP9 hD9 hS9
  replace hP : va_P D vwCl (bL10 k q_24 (fun _ => 0) ++ (bO11 k h (.int 0) (.int 0) (.int (-1)) (.int (-1)) (.int 0) (.ref q_1) (.ref q_2) (.ref q_4) (.ref q_6) (.ref q_8) (.ref q_10) (.ref q_12) (.ref q_14) (.ref q_16) (.ref q_18) (.ref q_20) (.ref q_22) (.ref q_24) .null .null .null .null .null (.int 0) (.int 0) (.int 0) (.int 0) (.int 0) (.int 0) ++ (bI83 k q_1 (fun _ => 0) ++ (w_23)))) H := hP
  replace hD : va_D A (bL10 k q_24 (fun _ => 0) ++ (bO11 k h (.int 0) (.int 0) (.int (-1)) (.int (-1)) (.int 0) (.ref q_1) (.ref q_2) (.ref q_4) (.ref q_6) (.ref q_8) (.ref q_10) (.ref q_12) (.ref q_14) (.ref q_16) (.ref q_18) (.ref q_20) (.ref q_22) (.ref q_24) .null .null .null .null .null (.int 0) (.int 0) (.int 0) (.int 0) (.int 0) (.int 0) ++ (bI83 k q_1 (fun _ => 0) ++ (w_23)))) := hD
  replace hP : va_P D vwCl ((bL10 k q_24 (fun _ => 0)) ++ (bO11 k h (.int 0) (.int 0) (.int (-1)) (.int (-1)) (.int 0) (.ref q_1) (.ref q_2) (.ref q_4) (.ref q_6) (.ref q_8) (.ref q_10) (.ref q_12) (.ref q_14) (.ref q_16) (.ref q_18) (.ref q_20) (.ref q_22) (.ref q_24) .null .null .null .null .null (.int 0) (.int 0) (.int 0) (.int 0) (.int 0) (.int 0) ++ (bI83 k q_1 (fun _ => 0) ++ (w_23)))) H := hP
  replace hD : va_D A ((bL10 k q_24 (fun _ => 0)) ++ (bO11 k h (.int 0) (.int 0) (.int (-1)) (.int (-1)) (.int 0) (.ref q_1) (.ref q_2) (.ref q_4) (.ref q_6) (.ref q_8) (.ref q_10) (.ref q_12) (.ref q_14) (.ref q_16) (.ref q_18) (.ref q_20) (.ref q_22) (.ref q_24) .null .null .null .null .null (.int 0) (.int 0) (.int 0) (.int 0) (.int 0) (.int 0) ++ (bI83 k q_1 (fun _ => 0) ++ (w_23)))) := hD
  replace hP := l_swP hP
  replace hD := l_swD hD
  replace hP : va_P D vwCl (bO11 k h (.int 0) (.int 0) (.int (-1)) (.int (-1)) (.int 0) (.ref q_1) (.ref q_2) (.ref q_4) (.ref q_6) (.ref q_8) (.ref q_10) (.ref q_12) (.ref q_14) (.ref q_16) (.ref q_18) (.ref q_20) (.ref q_22) (.ref q_24) .null .null .null .null .null (.int 0) (.int 0) (.int 0) (.int 0) (.int 0) (.int 0) ++ (bI83 k q_1 (fun _ => 0) ++ ((bL10 k q_24 (fun _ => 0)) ++ w_23))) H := vP_perm hP (List.Perm.append_left _ l_sw)
  replace hD : va_D A (bO11 k h (.int 0) (.int 0) (.int (-1)) (.int (-1)) (.int 0) (.ref q_1) (.ref q_2) (.ref q_4) (.ref q_6) (.ref q_8) (.ref q_10) (.ref q_12) (.ref q_14) (.ref q_16) (.ref q_18) (.ref q_20) (.ref q_22) (.ref q_24) .null .null .null .null .null (.int 0) (.int 0) (.int 0) (.int 0) (.int 0) (.int 0) ++ (bI83 k q_1 (fun _ => 0) ++ ((bL10 k q_24 (fun _ => 0)) ++ w_23))) := vD_perm hD (List.Perm.append_left _ l_sw)
  obtain ⟨w_25, hw_25⟩ : ∃ z : va_W, (bL10 k q_24 (fun _ => 0)) ++ w_23 = z := ⟨_, rfl⟩
  rw [hw_25] at hP hD
  replace hP : va_P D vwCl (bO11 k h (.int 0) (.int 0) (.int (-1)) (.int (-1)) (.int 0) (.ref q_1) (.ref q_2) (.ref q_4) (.ref q_6) (.ref q_8) (.ref q_10) (.ref q_12) (.ref q_14) (.ref q_16) (.ref q_18) (.ref q_20) (.ref q_22) (.ref q_24) .null .null .null .null .null (.int 0) (.int 0) (.int 0) (.int 0) (.int 0) (.int 0) ++ (bI83 k q_1 (fun _ => 0) ++ (w_25))) H := hP
  replace hD : va_D A (bO11 k h (.int 0) (.int 0) (.int (-1)) (.int (-1)) (.int 0) (.ref q_1) (.ref q_2) (.ref q_4) (.ref q_6) (.ref q_8) (.ref q_10) (.ref q_12) (.ref q_14) (.ref q_16) (.ref q_18) (.ref q_20) (.ref q_22) (.ref q_24) .null .null .null .null .null (.int 0) (.int 0) (.int 0) (.int 0) (.int 0) (.int 0) ++ (bI83 k q_1 (fun _ => 0) ++ (w_25))) := hD
  refine lv_aload_n hx hb dX13_init_119 rfl (lv_at hl 0 rfl) ?_
  refine lv_bipush (v := 60) hx hb dX13_init_120 (by decide) ?_
  refine nw_arr (atype := .int) hx hb (hts (.arrayClass .int) (by decide +kernel)) rfl hK hP hD hS hA (a0 := (60, .inl (fun _ => 0))) (N' := 60) (fun _ => rfl) (by decide) (by decide) (Nat.le_of_ble_eq_true rfl) (Nat.le_of_ble_eq_true rfl) (Nat.le_of_ble_eq_true rfl) 0 rfl dX13_init_122 (fun q_26 H hP9 hD9 hS9 => ?_)
  clear hP hD hS
  have hP := hP9
  have hD := hD9
  have hS := hS9
  clear hP9 hD9 hS9
  replace hP := vP_perm hP (List.perm_append_comm (l₂ := ([(q_26, .inl (k 0, 60, .inl (fun _ => 0)))] : va_W)))
  replace hD := vD_perm hD (List.perm_append_comm (l₂ := ([(q_26, .inl (k 0, 60, .inl (fun _ => 0)))] : va_W)))
  replace hP : va_P D vwCl (bI60 k q_26 (fun _ => 0) ++ (bO11 k h (.int 0) (.int 0) (.int (-1)) (.int (-1)) (.int 0) (.ref q_1) (.ref q_2) (.ref q_4) (.ref q_6) (.ref q_8) (.ref q_10) (.ref q_12) (.ref q_14) (.ref q_16) (.ref q_18) (.ref q_20) (.ref q_22) (.ref q_24) .null .null .null .null .null (.int 0) (.int 0) (.int 0) (.int 0) (.int 0) (.int 0) ++ (bI83 k q_1 (fun _ => 0) ++ (w_25)))) H := hP
  replace hD : va_D A (bI60 k q_26 (fun _ => 0) ++ (bO11 k h (.int 0) (.int 0) (.int (-1)) (.int (-1)) (.int 0) (.ref q_1) (.ref q_2) (.ref q_4) (.ref q_6) (.ref q_8) (.ref q_10) (.ref q_12) (.ref q_14) (.ref q_16) (.ref q_18) (.ref q_20) (.ref q_22) (.ref q_24) .null .null .null .null .null (.int 0) (.int 0) (.int 0) (.int 0) (.int 0) (.int 0) ++ (bI83 k q_1 (fun _ => 0) ++ (w_25)))) := hD
  refine va_putF (D := D) (ci := 11) (v := .ref q_26) (ty := (.array .int)) (C := RX13) (T := TX13) (N := 29) hx hb hts kc_RX13 tyX13 tyX13_ok nmX13 hown hK hP hD hS 1 rfl rfl 18 (by decide) k_fieldLink_58 (fun _ h9 => h9) rfl (hin rfl) rfl (by decide +kernel) rfl rfl (Nat.le_of_ble_eq_true rfl) dX13_init_124 (fun H locs hP9 hD9 hS9 => ?_)
  clear hP hD hS
  have hP := hP9
  have hD := hD9
  have hS := hS9
  clear hP9 hD9 hS9
  replace hP : va_P D vwCl (bI60 k q_26 (fun _ => 0) ++ (bO11 k h (.int 0) (.int 0) (.int (-1)) (.int (-1)) (.int 0) (.ref q_1) (.ref q_2) (.ref q_4) (.ref q_6) (.ref q_8) (.ref q_10) (.ref q_12) (.ref q_14) (.ref q_16) (.ref q_18) (.ref q_20) (.ref q_22) (.ref q_24) (.ref q_26) .null .null .null .null (.int 0) (.int 0) (.int 0) (.int 0) (.int 0) (.int 0) ++ (bI83 k q_1 (fun _ => 0) ++ (w_25)))) H := hP
  replace hD : va_D A (bI60 k q_26 (fun _ => 0) ++ (bO11 k h (.int 0) (.int 0) (.int (-1)) (.int (-1)) (.int 0) (.ref q_1) (.ref q_2) (.ref q_4) (.ref q_6) (.ref q_8) (.ref q_10) (.ref q_12) (.ref q_14) (.ref q_16) (.ref q_18) (.ref q_20) (.ref q_22) (.ref q_24) (.ref q_26) .null .null .null .null (.int 0) (.int 0) (.int 0) (.int 0) (.int 0) (.int 0) ++ (bI83 k q_1 (fun _ => 0) ++ (w_25)))) := hD
  replace hP : va_P D vwCl ((bI60 k q_26 (fun _ => 0)) ++ (bO11 k h (.int 0) (.int 0) (.int (-1)) (.int (-1)) (.int 0) (.ref q_1) (.ref q_2) (.ref q_4) (.ref q_6) (.ref q_8) (.ref q_10) (.ref q_12) (.ref q_14) (.ref q_16) (.ref q_18) (.ref q_20) (.ref q_22) (.ref q_24) (.ref q_26) .null .null .null .null (.int 0) (.int 0) (.int 0) (.int 0) (.int 0) (.int 0) ++ (bI83 k q_1 (fun _ => 0) ++ (w_25)))) H := hP
  replace hD : va_D A ((bI60 k q_26 (fun _ => 0)) ++ (bO11 k h (.int 0) (.int 0) (.int (-1)) (.int (-1)) (.int 0) (.ref q_1) (.ref q_2) (.ref q_4) (.ref q_6) (.ref q_8) (.ref q_10) (.ref q_12) (.ref q_14) (.ref q_16) (.ref q_18) (.ref q_20) (.ref q_22) (.ref q_24) (.ref q_26) .null .null .null .null (.int 0) (.int 0) (.int 0) (.int 0) (.int 0) (.int 0) ++ (bI83 k q_1 (fun _ => 0) ++ (w_25)))) := hD
  replace hP := l_swP hP
  replace hD := l_swD hD
  replace hP : va_P D vwCl (bO11 k h (.int 0) (.int 0) (.int (-1)) (.int (-1)) (.int 0) (.ref q_1) (.ref q_2) (.ref q_4) (.ref q_6) (.ref q_8) (.ref q_10) (.ref q_12) (.ref q_14) (.ref q_16) (.ref q_18) (.ref q_20) (.ref q_22) (.ref q_24) (.ref q_26) .null .null .null .null (.int 0) (.int 0) (.int 0) (.int 0) (.int 0) (.int 0) ++ (bI83 k q_1 (fun _ => 0) ++ ((bI60 k q_26 (fun _ => 0)) ++ w_25))) H := vP_perm hP (List.Perm.append_left _ l_sw)
  replace hD : va_D A (bO11 k h (.int 0) (.int 0) (.int (-1)) (.int (-1)) (.int 0) (.ref q_1) (.ref q_2) (.ref q_4) (.ref q_6) (.ref q_8) (.ref q_10) (.ref q_12) (.ref q_14) (.ref q_16) (.ref q_18) (.ref q_20) (.ref q_22) (.ref q_24) (.ref q_26) .null .null .null .null (.int 0) (.int 0) (.int 0) (.int 0) (.int 0) (.int 0) ++ (bI83 k q_1 (fun _ => 0) ++ ((bI60 k q_26 (fun _ => 0)) ++ w_25))) := vD_perm hD (List.Perm.append_left _ l_sw)
  obtain ⟨w_27, hw_27⟩ : ∃ z : va_W, (bI60 k q_26 (fun _ => 0)) ++ w_25 = z := ⟨_, rfl⟩
  rw [hw_27] at hP hD
  replace hP : va_P D vwCl (bO11 k h (.int 0) (.int 0) (.int (-1)) (.int (-1)) (.int 0) (.ref q_1) (.ref q_2) (.ref q_4) (.ref q_6) (.ref q_8) (.ref q_10) (.ref q_12) (.ref q_14) (.ref q_16) (.ref q_18) (.ref q_20) (.ref q_22) (.ref q_24) (.ref q_26) .null .null .null .null (.int 0) (.int 0) (.int 0) (.int 0) (.int 0) (.int 0) ++ (bI83 k q_1 (fun _ => 0) ++ (w_27))) H := hP
  replace hD : va_D A (bO11 k h (.int 0) (.int 0) (.int (-1)) (.int (-1)) (.int 0) (.ref q_1) (.ref q_2) (.ref q_4) (.ref q_6) (.ref q_8) (.ref q_10) (.ref q_12) (.ref q_14) (.ref q_16) (.ref q_18) (.ref q_20) (.ref q_22) (.ref q_24) (.ref q_26) .null .null .null .null (.int 0) (.int 0) (.int 0) (.int 0) (.int 0) (.int 0) ++ (bI83 k q_1 (fun _ => 0) ++ (w_27))) := hD
  refine lv_aload_n hx hb dX13_init_127 rfl (lv_at hl 0 rfl) ?_
  refine lv_bipush (v := 24) hx hb dX13_init_128 (by decide) ?_
  refine nw_arr (atype := .int) hx hb (hts (.arrayClass .int) (by decide +kernel)) rfl hK hP hD hS hA (a0 := (24, .inl (fun _ => 0))) (N' := 24) (fun _ => rfl) (by decide) (by decide) (Nat.le_of_ble_eq_true rfl) (Nat.le_of_ble_eq_true rfl) (Nat.le_of_ble_eq_true rfl) 0 rfl dX13_init_130 (fun q_28 H hP9 hD9 hS9 => ?_)
  clear hP hD hS
  have hP := hP9
  have hD := hD9
  have hS := hS9
  clear hP9 hD9 hS9
  replace hP := vP_perm hP (List.perm_append_comm (l₂ := ([(q_28, .inl (k 0, 24, .inl (fun _ => 0)))] : va_W)))
  replace hD := vD_perm hD (List.perm_append_comm (l₂ := ([(q_28, .inl (k 0, 24, .inl (fun _ => 0)))] : va_W)))
  replace hP : va_P D vwCl (bI24 k q_28 (fun _ => 0) ++ (bO11 k h (.int 0) (.int 0) (.int (-1)) (.int (-1)) (.int 0) (.ref q_1) (.ref q_2) (.ref q_4) (.ref q_6) (.ref q_8) (.ref q_10) (.ref q_12) (.ref q_14) (.ref q_16) (.ref q_18) (.ref q_20) (.ref q_22) (.ref q_24) (.ref q_26) .null .null .null .null (.int 0) (.int 0) (.int 0) (.int 0) (.int 0) (.int 0) ++ (bI83 k q_1 (fun _ => 0) ++ (w_27)))) H := hP
  replace hD : va_D A (bI24 k q_28 (fun _ => 0) ++ (bO11 k h (.int 0) (.int 0) (.int (-1)) (.int (-1)) (.int 0) (.ref q_1) (.ref q_2) (.ref q_4) (.ref q_6) (.ref q_8) (.ref q_10) (.ref q_12) (.ref q_14) (.ref q_16) (.ref q_18) (.ref q_20) (.ref q_22) (.ref q_24) (.ref q_26) .null .null .null .null (.int 0) (.int 0) (.int 0) (.int 0) (.int 0) (.int 0) ++ (bI83 k q_1 (fun _ => 0) ++ (w_27)))) := hD
  refine va_putF (D := D) (ci := 11) (v := .ref q_28) (ty := (.array .int)) (C := RX13) (T := TX13) (N := 29) hx hb hts kc_RX13 tyX13 tyX13_ok nmX13 hown hK hP hD hS 1 rfl rfl 19 (by decide) k_fieldLink_61 (fun _ h9 => h9) rfl (hin rfl) rfl (by decide +kernel) rfl rfl (Nat.le_of_ble_eq_true rfl) dX13_init_132 (fun H locs hP9 hD9 hS9 => ?_)
  clear hP hD hS
  have hP := hP9
  have hD := hD9
  have hS := hS9
  clear hP9 hD9 hS9
  replace hP : va_P D vwCl (bI24 k q_28 (fun _ => 0) ++ (bO11 k h (.int 0) (.int 0) (.int (-1)) (.int (-1)) (.int 0) (.ref q_1) (.ref q_2) (.ref q_4) (.ref q_6) (.ref q_8) (.ref q_10) (.ref q_12) (.ref q_14) (.ref q_16) (.ref q_18) (.ref q_20) (.ref q_22) (.ref q_24) (.ref q_26) (.ref q_28) .null .null .null (.int 0) (.int 0) (.int 0) (.int 0) (.int 0) (.int 0) ++ (bI83 k q_1 (fun _ => 0) ++ (w_27)))) H := hP
  replace hD : va_D A (bI24 k q_28 (fun _ => 0) ++ (bO11 k h (.int 0) (.int 0) (.int (-1)) (.int (-1)) (.int 0) (.ref q_1) (.ref q_2) (.ref q_4) (.ref q_6) (.ref q_8) (.ref q_10) (.ref q_12) (.ref q_14) (.ref q_16) (.ref q_18) (.ref q_20) (.ref q_22) (.ref q_24) (.ref q_26) (.ref q_28) .null .null .null (.int 0) (.int 0) (.int 0) (.int 0) (.int 0) (.int 0) ++ (bI83 k q_1 (fun _ => 0) ++ (w_27)))) := hD
  replace hP : va_P D vwCl ((bI24 k q_28 (fun _ => 0)) ++ (bO11 k h (.int 0) (.int 0) (.int (-1)) (.int (-1)) (.int 0) (.ref q_1) (.ref q_2) (.ref q_4) (.ref q_6) (.ref q_8) (.ref q_10) (.ref q_12) (.ref q_14) (.ref q_16) (.ref q_18) (.ref q_20) (.ref q_22) (.ref q_24) (.ref q_26) (.ref q_28) .null .null .null (.int 0) (.int 0) (.int 0) (.int 0) (.int 0) (.int 0) ++ (bI83 k q_1 (fun _ => 0) ++ (w_27)))) H := hP
  replace hD : va_D A ((bI24 k q_28 (fun _ => 0)) ++ (bO11 k h (.int 0) (.int 0) (.int (-1)) (.int (-1)) (.int 0) (.ref q_1) (.ref q_2) (.ref q_4) (.ref q_6) (.ref q_8) (.ref q_10) (.ref q_12) (.ref q_14) (.ref q_16) (.ref q_18) (.ref q_20) (.ref q_22) (.ref q_24) (.ref q_26) (.ref q_28) .null .null .null (.int 0) (.int 0) (.int 0) (.int 0) (.int 0) (.int 0) ++ (bI83 k q_1 (fun _ => 0) ++ (w_27)))) := hD
  replace hP := l_swP hP
  replace hD := l_swD hD
  replace hP : va_P D vwCl (bO11 k h (.int 0) (.int 0) (.int (-1)) (.int (-1)) (.int 0) (.ref q_1) (.ref q_2) (.ref q_4) (.ref q_6) (.ref q_8) (.ref q_10) (.ref q_12) (.ref q_14) (.ref q_16) (.ref q_18) (.ref q_20) (.ref q_22) (.ref q_24) (.ref q_26) (.ref q_28) .null .null .null (.int 0) (.int 0) (.int 0) (.int 0) (.int 0) (.int 0) ++ (bI83 k q_1 (fun _ => 0) ++ ((bI24 k q_28 (fun _ => 0)) ++ w_27))) H := vP_perm hP (List.Perm.append_left _ l_sw)
  replace hD : va_D A (bO11 k h (.int 0) (.int 0) (.int (-1)) (.int (-1)) (.int 0) (.ref q_1) (.ref q_2) (.ref q_4) (.ref q_6) (.ref q_8) (.ref q_10) (.ref q_12) (.ref q_14) (.ref q_16) (.ref q_18) (.ref q_20) (.ref q_22) (.ref q_24) (.ref q_26) (.ref q_28) .null .null .null (.int 0) (.int 0) (.int 0) (.int 0) (.int 0) (.int 0) ++ (bI83 k q_1 (fun _ => 0) ++ ((bI24 k q_28 (fun _ => 0)) ++ w_27))) := vD_perm hD (List.Perm.append_left _ l_sw)
  obtain ⟨w_29, hw_29⟩ : ∃ z : va_W, (bI24 k q_28 (fun _ => 0)) ++ w_27 = z := ⟨_, rfl⟩
  rw [hw_29] at hP hD
  replace hP : va_P D vwCl (bO11 k h (.int 0) (.int 0) (.int (-1)) (.int (-1)) (.int 0) (.ref q_1) (.ref q_2) (.ref q_4) (.ref q_6) (.ref q_8) (.ref q_10) (.ref q_12) (.ref q_14) (.ref q_16) (.ref q_18) (.ref q_20) (.ref q_22) (.ref q_24) (.ref q_26) (.ref q_28) .null .null .null (.int 0) (.int 0) (.int 0) (.int 0) (.int 0) (.int 0) ++ (bI83 k q_1 (fun _ => 0) ++ (w_29))) H := hP
  replace hD : va_D A (bO11 k h (.int 0) (.int 0) (.int (-1)) (.int (-1)) (.int 0) (.ref q_1) (.ref q_2) (.ref q_4) (.ref q_6) (.ref q_8) (.ref q_10) (.ref q_12) (.ref q_14) (.ref q_16) (.ref q_18) (.ref q_20) (.ref q_22) (.ref q_24) (.ref q_26) (.ref q_28) .null .null .null (.int 0) (.int 0) (.int 0) (.int 0) (.int 0) (.int 0) ++ (bI83 k q_1 (fun _ => 0) ++ (w_29))) := hD
  refine lv_aload_n hx hb dX13_init_135 rfl (lv_at hl 0 rfl) ?_
  refine lv_bipush (v := 10) hx hb dX13_init_136 (by decide) ?_
  refine nw_arr (atype := .int) hx hb (hts (.arrayClass .int) (by decide +kernel)) rfl hK hP hD hS hA (a0 := (10, .inl (fun _ => 0))) (N' := 10) (fun _ => rfl) (by decide) (by decide) (Nat.le_of_ble_eq_true rfl) (Nat.le_of_ble_eq_true rfl) (Nat.le_of_ble_eq_true rfl) 0 rfl dX13_init_138 (fun q_30 H hP9 hD9 hS9 => ?_)
  clear hP hD hS
  have hP := hP9
  have hD := hD9
  have hS := hS9
  clear hP9 hD9 hS9
  replace hP := vP_perm hP (List.perm_append_comm (l₂ := ([(q_30, .inl (k 0, 10, .inl (fun _ => 0)))] : va_W)))
  replace hD := vD_perm hD (List.perm_append_comm (l₂ := ([(q_30, .inl (k 0, 10, .inl (fun _ => 0)))] : va_W)))
  replace hP : va_P D vwCl (bI10 k q_30 (fun _ => 0) ++ (bO11 k h (.int 0) (.int 0) (.int (-1)) (.int (-1)) (.int 0) (.ref q_1) (.ref q_2) (.ref q_4) (.ref q_6) (.ref q_8) (.ref q_10) (.ref q_12) (.ref q_14) (.ref q_16) (.ref q_18) (.ref q_20) (.ref q_22) (.ref q_24) (.ref q_26) (.ref q_28) .null .null .null (.int 0) (.int 0) (.int 0) (.int 0) (.int 0) (.int 0) ++ (bI83 k q_1 (fun _ => 0) ++ (w_29)))) H := hP
  replace hD : va_D A (bI10 k q_30 (fun _ => 0) ++ (bO11 k h (.int 0) (.int 0) (.int (-1)) (.int (-1)) (.int 0) (.ref q_1) (.ref q_2) (.ref q_4) (.ref q_6) (.ref q_8) (.ref q_10) (.ref q_12) (.ref q_14) (.ref q_16) (.ref q_18) (.ref q_20) (.ref q_22) (.ref q_24) (.ref q_26) (.ref q_28) .null .null .null (.int 0) (.int 0) (.int 0) (.int 0) (.int 0) (.int 0) ++ (bI83 k q_1 (fun _ => 0) ++ (w_29)))) := hD
  refine va_putF (D := D) (ci := 11) (v := .ref q_30) (ty := (.array .int)) (C := RX13) (T := TX13) (N := 29) hx hb hts kc_RX13 tyX13 tyX13_ok nmX13 hown hK hP hD hS 1 rfl rfl 20 (by decide) k_fieldLink_64 (fun _ h9 => h9) rfl (hin rfl) rfl (by decide +kernel) rfl rfl (Nat.le_of_ble_eq_true rfl) dX13_init_140 (fun H locs hP9 hD9 hS9 => ?_)
  clear hP hD hS
  have hP := hP9
  have hD := hD9
  have hS := hS9
  clear hP9 hD9 hS9
  replace hP : va_P D vwCl (bI10 k q_30 (fun _ => 0) ++ (bO11 k h (.int 0) (.int 0) (.int (-1)) (.int (-1)) (.int 0) (.ref q_1) (.ref q_2) (.ref q_4) (.ref q_6) (.ref q_8) (.ref q_10) (.ref q_12) (.ref q_14) (.ref q_16) (.ref q_18) (.ref q_20) (.ref q_22) (.ref q_24) (.ref q_26) (.ref q_28) (.ref q_30) .null .null (.int 0) (.int 0) (.int 0) (.int 0) (.int 0) (.int 0) ++ (bI83 k q_1 (fun _ => 0) ++ (w_29)))) H := hP
  replace hD : va_D A (bI10 k q_30 (fun _ => 0) ++ (bO11 k h (.int 0) (.int 0) (.int (-1)) (.int (-1)) (.int 0) (.ref q_1) (.ref q_2) (.ref q_4) (.ref q_6) (.ref q_8) (.ref q_10) (.ref q_12) (.ref q_14) (.ref q_16) (.ref q_18) (.ref q_20) (.ref q_22) (.ref q_24) (.ref q_26) (.ref q_28) (.ref q_30) .null .null (.int 0) (.int 0) (.int 0) (.int 0) (.int 0) (.int 0) ++ (bI83 k q_1 (fun _ => 0) ++ (w_29)))) := hD
  replace hP : va_P D vwCl ((bI10 k q_30 (fun _ => 0)) ++ (bO11 k h (.int 0) (.int 0) (.int (-1)) (.int (-1)) (.int 0) (.ref q_1) (.ref q_2) (.ref q_4) (.ref q_6) (.ref q_8) (.ref q_10) (.ref q_12) (.ref q_14) (.ref q_16) (.ref q_18) (.ref q_20) (.ref q_22) (.ref q_24) (.ref q_26) (.ref q_28) (.ref q_30) .null .null (.int 0) (.int 0) (.int 0) (.int 0) (.int 0) (.int 0) ++ (bI83 k q_1 (fun _ => 0) ++ (w_29)))) H := hP
  replace hD : va_D A ((bI10 k q_30 (fun _ => 0)) ++ (bO11 k h (.int 0) (.int 0) (.int (-1)) (.int (-1)) (.int 0) (.ref q_1) (.ref q_2) (.ref q_4) (.ref q_6) (.ref q_8) (.ref q_10) (.ref q_12) (.ref q_14) (.ref q_16) (.ref q_18) (.ref q_20) (.ref q_22) (.ref q_24) (.ref q_26) (.ref q_28) (.ref q_30) .null .null (.int 0) (.int 0) (.int 0) (.int 0) (.int 0) (.int 0) ++ (bI83 k q_1 (fun _ => 0) ++ (w_29)))) := hD
  replace hP := l_swP hP
  replace hD := l_swD hD
  replace hP : va_P D vwCl (bO11 k h (.int 0) (.int 0) (.int (-1)) (.int (-1)) (.int 0) (.ref q_1) (.ref q_2) (.ref q_4) (.ref q_6) (.ref q_8) (.ref q_10) (.ref q_12) (.ref q_14) (.ref q_16) (.ref q_18) (.ref q_20) (.ref q_22) (.ref q_24) (.ref q_26) (.ref q_28) (.ref q_30) .null .null (.int 0) (.int 0) (.int 0) (.int 0) (.int 0) (.int 0) ++ (bI83 k q_1 (fun _ => 0) ++ ((bI10 k q_30 (fun _ => 0)) ++ w_29))) H := vP_perm hP (List.Perm.append_left _ l_sw)
  replace hD : va_D A (bO11 k h (.int 0) (.int 0) (.int (-1)) (.int (-1)) (.int 0) (.ref q_1) (.ref q_2) (.ref q_4) (.ref q_6) (.ref q_8) (.ref q_10) (.ref q_12) (.ref q_14) (.ref q_16) (.ref q_18) (.ref q_20) (.ref q_22) (.ref q_24) (.ref q_26) (.ref q_28) (.ref q_30) .null .null (.int 0) (.int 0) (.int 0) (.int 0) (.int 0) (.int 0) ++ (bI83 k q_1 (fun _ => 0) ++ ((bI10 k q_30 (fun _ => 0)) ++ w_29))) := vD_perm hD (List.Perm.append_left _ l_sw)
  obtain ⟨w_31, hw_31⟩ : ∃ z : va_W, (bI10 k q_30 (fun _ => 0)) ++ w_29 = z := ⟨_, rfl⟩
  rw [hw_31] at hP hD
  replace hP : va_P D vwCl (bO11 k h (.int 0) (.int 0) (.int (-1)) (.int (-1)) (.int 0) (.ref q_1) (.ref q_2) (.ref q_4) (.ref q_6) (.ref q_8) (.ref q_10) (.ref q_12) (.ref q_14) (.ref q_16) (.ref q_18) (.ref q_20) (.ref q_22) (.ref q_24) (.ref q_26) (.ref q_28) (.ref q_30) .null .null (.int 0) (.int 0) (.int 0) (.int 0) (.int 0) (.int 0) ++ (bI83 k q_1 (fun _ => 0) ++ (w_31))) H := hP
  replace hD : va_D A (bO11 k h (.int 0) (.int 0) (.int (-1)) (.int (-1)) (.int 0) (.ref q_1) (.ref q_2) (.ref q_4) (.ref q_6) (.ref q_8) (.ref q_10) (.ref q_12) (.ref q_14) (.ref q_16) (.ref q_18) (.ref q_20) (.ref q_22) (.ref q_24) (.ref q_26) (.ref q_28) (.ref q_30) .null .null (.int 0) (.int 0) (.int 0) (.int 0) (.int 0) (.int 0) ++ (bI83 k q_1 (fun _ => 0) ++ (w_31))) := hD
  refine lv_aload_n hx hb dX13_init_143 rfl (lv_at hl 0 rfl) ?_
  refine lv_bipush (v := 59) hx hb dX13_init_144 (by decide) ?_
  refine nw_arr (atype := .int) hx hb (hts (.arrayClass .int) (by decide +kernel)) rfl hK hP hD hS hA (a0 := (59, .inl (fun _ => 0))) (N' := 59) (fun _ => rfl) (by decide) (by decide) (Nat.le_of_ble_eq_true rfl) (Nat.le_of_ble_eq_true rfl) (Nat.le_of_ble_eq_true rfl) 0 rfl dX13_init_146 (fun q_32 H hP9 hD9 hS9 => ?_)
  clear hP hD hS
  have hP := hP9
  have hD := hD9
  have hS := hS9
  clear hP9 hD9 hS9
  replace hP := vP_perm hP (List.perm_append_comm (l₂ := ([(q_32, .inl (k 0, 59, .inl (fun _ => 0)))] : va_W)))
  replace hD := vD_perm hD (List.perm_append_comm (l₂ := ([(q_32, .inl (k 0, 59, .inl (fun _ => 0)))] : va_W)))
  replace hP : va_P D vwCl (bI59 k q_32 (fun _ => 0) ++ (bO11 k h (.int 0) (.int 0) (.int (-1)) (.int (-1)) (.int 0) (.ref q_1) (.ref q_2) (.ref q_4) (.ref q_6) (.ref q_8) (.ref q_10) (.ref q_12) (.ref q_14) (.ref q_16) (.ref q_18) (.ref q_20) (.ref q_22) (.ref q_24) (.ref q_26) (.ref q_28) (.ref q_30) .null .null (.int 0) (.int 0) (.int 0) (.int 0) (.int 0) (.int 0) ++ (bI83 k q_1 (fun _ => 0) ++ (w_31)))) H := hP
  replace hD : va_D A (bI59 k q_32 (fun _ => 0) ++ (bO11 k h (.int 0) (.int 0) (.int (-1)) (.int (-1)) (.int 0) (.ref q_1) (.ref q_2) (.ref q_4) (.ref q_6) (.ref q_8) (.ref q_10) (.ref q_12) (.ref q_14) (.ref q_16) (.ref q_18) (.ref q_20) (.ref q_22) (.ref q_24) (.ref q_26) (.ref q_28) (.ref q_30) .null .null (.int 0) (.int 0) (.int 0) (.int 0) (.int 0) (.int 0) ++ (bI83 k q_1 (fun _ => 0) ++ (w_31)))) := hD
  refine lv_dup hx hb dX13_init_148 rfl ?_
  refine lv_iconst (v := 0) hx hb dX13_init_149 (by decide) ?_
  refine lv_bipush (v := 99) hx hb dX13_init_150 (by decide) ?_
  refine ia_st hx hb hK hP hD hS 0 rfl 0 (by omega) (by decide) (bI59 k q_32 (upd (fun _ => 0) 0 99) ++ (bO11 k h (.int 0) (.int 0) (.int (-1)) (.int (-1)) (.int 0) (.ref q_1) (.ref q_2) (.ref q_4) (.ref q_6) (.ref q_8) (.ref q_10) (.ref q_12) (.ref q_14) (.ref q_16) (.ref q_18) (.ref q_20) (.ref q_22) (.ref q_24) (.ref q_26) (.ref q_28) (.ref q_30) .null .null (.int 0) (.int 0) (.int 0) (.int 0) (.int 0) (.int 0) ++ (bI83 k q_1 (fun _ => 0) ++ (w_31)))) rfl dX13_init_152 (fun H locs hP9 hD9 hS9 => ?_)
  clear hP hD hS
  have hP := hP9
  have hD := hD9
  have hS := hS9
  clear hP9 hD9 hS9
  refine lv_dup hx hb dX13_init_153 rfl ?_
  refine lv_iconst (v := 1) hx hb dX13_init_154 (by decide) ?_
  refine lv_bipush (v := 108) hx hb dX13_init_155 (by decide) ?_
  refine ia_st hx hb hK hP hD hS 0 rfl 1 (by omega) (by decide) (bI59 k q_32 (upd (upd (fun _ => 0) 0 99) 1 108) ++ (bO11 k h (.int 0) (.int 0) (.int (-1)) (.int (-1)) (.int 0) (.ref q_1) (.ref q_2) (.ref q_4) (.ref q_6) (.ref q_8) (.ref q_10) (.ref q_12) (.ref q_14) (.ref q_16) (.ref q_18) (.ref q_20) (.ref q_22) (.ref q_24) (.ref q_26) (.ref q_28) (.ref q_30) .null .null (.int 0) (.int 0) (.int 0) (.int 0) (.int 0) (.int 0) ++ (bI83 k q_1 (fun _ => 0) ++ (w_31)))) rfl dX13_init_157 (fun H locs hP9 hD9 hS9 => ?_)
  clear hP hD hS
  have hP := hP9
  have hD := hD9
  have hS := hS9
  clear hP9 hD9 hS9
  refine lv_dup hx hb dX13_init_158 rfl ?_
  refine lv_iconst (v := 2) hx hb dX13_init_159 (by decide) ?_
  refine lv_bipush (v := 97) hx hb dX13_init_160 (by decide) ?_
  refine ia_st hx hb hK hP hD hS 0 rfl 2 (by omega) (by decide) (bI59 k q_32 (upd (upd (upd (fun _ => 0) 0 99) 1 108) 2 97) ++ (bO11 k h (.int 0) (.int 0) (.int (-1)) (.int (-1)) (.int 0) (.ref q_1) (.ref q_2) (.ref q_4) (.ref q_6) (.ref q_8) (.ref q_10) (.ref q_12) (.ref q_14) (.ref q_16) (.ref q_18) (.ref q_20) (.ref q_22) (.ref q_24) (.ref q_26) (.ref q_28) (.ref q_30) .null .null (.int 0) (.int 0) (.int 0) (.int 0) (.int 0) (.int 0) ++ (bI83 k q_1 (fun _ => 0) ++ (w_31)))) rfl dX13_init_162 (fun H locs hP9 hD9 hS9 => ?_)
  clear hP hD hS
  have hP := hP9
  have hD := hD9
  have hS := hS9
  clear hP9 hD9 hS9
  refine lv_dup hx hb dX13_init_163 rfl ?_
  refine lv_iconst (v := 3) hx hb dX13_init_164 (by decide) ?_
  refine lv_bipush (v := 105) hx hb dX13_init_165 (by decide) ?_
  refine ia_st hx hb hK hP hD hS 0 rfl 3 (by omega) (by decide) (bI59 k q_32 (upd (upd (upd (upd (fun _ => 0) 0 99) 1 108) 2 97) 3 105) ++ (bO11 k h (.int 0) (.int 0) (.int (-1)) (.int (-1)) (.int 0) (.ref q_1) (.ref q_2) (.ref q_4) (.ref q_6) (.ref q_8) (.ref q_10) (.ref q_12) (.ref q_14) (.ref q_16) (.ref q_18) (.ref q_20) (.ref q_22) (.ref q_24) (.ref q_26) (.ref q_28) (.ref q_30) .null .null (.int 0) (.int 0) (.int 0) (.int 0) (.int 0) (.int 0) ++ (bI83 k q_1 (fun _ => 0) ++ (w_31)))) rfl dX13_init_167 (fun H locs hP9 hD9 hS9 => ?_)
  clear hP hD hS
  have hP := hP9
  have hD := hD9
  have hS := hS9
  clear hP9 hD9 hS9
  refine lv_dup hx hb dX13_init_168 rfl ?_
  refine lv_iconst (v := 4) hx hb dX13_init_169 (by decide) ?_
  refine lv_bipush (v := 109) hx hb dX13_init_170 (by decide) ?_
  refine ia_st hx hb hK hP hD hS 0 rfl 4 (by omega) (by decide) (bI59 k q_32 (upd (upd (upd (upd (upd (fun _ => 0) 0 99) 1 108) 2 97) 3 105) 4 109) ++ (bO11 k h (.int 0) (.int 0) (.int (-1)) (.int (-1)) (.int 0) (.ref q_1) (.ref q_2) (.ref q_4) (.ref q_6) (.ref q_8) (.ref q_10) (.ref q_12) (.ref q_14) (.ref q_16) (.ref q_18) (.ref q_20) (.ref q_22) (.ref q_24) (.ref q_26) (.ref q_28) (.ref q_30) .null .null (.int 0) (.int 0) (.int 0) (.int 0) (.int 0) (.int 0) ++ (bI83 k q_1 (fun _ => 0) ++ (w_31)))) rfl dX13_init_172 (fun H locs hP9 hD9 hS9 => ?_)
  clear hP hD hS
  have hP := hP9
  have hD := hD9
  have hS := hS9
  clear hP9 hD9 hS9
  refine lv_dup hx hb dX13_init_173 rfl ?_
  refine lv_iconst (v := 5) hx hb dX13_init_174 (by decide) ?_
  refine lv_bipush (v := 32) hx hb dX13_init_175 (by decide) ?_
  refine ia_st hx hb hK hP hD hS 0 rfl 5 (by omega) (by decide) (bI59 k q_32 (upd (upd (upd (upd (upd (upd (fun _ => 0) 0 99) 1 108) 2 97) 3 105) 4 109) 5 32) ++ (bO11 k h (.int 0) (.int 0) (.int (-1)) (.int (-1)) (.int 0) (.ref q_1) (.ref q_2) (.ref q_4) (.ref q_6) (.ref q_8) (.ref q_10) (.ref q_12) (.ref q_14) (.ref q_16) (.ref q_18) (.ref q_20) (.ref q_22) (.ref q_24) (.ref q_26) (.ref q_28) (.ref q_30) .null .null (.int 0) (.int 0) (.int 0) (.int 0) (.int 0) (.int 0) ++ (bI83 k q_1 (fun _ => 0) ++ (w_31)))) rfl dX13_init_177 (fun H locs hP9 hD9 hS9 => ?_)
  clear hP hD hS
  have hP := hP9
  have hD := hD9
  have hS := hS9
  clear hP9 hD9 hS9
  refine lv_dup hx hb dX13_init_178 rfl ?_
  refine lv_bipush (v := 6) hx hb dX13_init_179 (by decide) ?_
  refine lv_bipush (v := 97) hx hb dX13_init_181 (by decide) ?_
  refine ia_st hx hb hK hP hD hS 0 rfl 6 (by omega) (by decide) (bI59 k q_32 (upd (upd (upd (upd (upd (upd (upd (fun _ => 0) 0 99) 1 108) 2 97) 3 105) 4 109) 5 32) 6 97) ++ (bO11 k h (.int 0) (.int 0) (.int (-1)) (.int (-1)) (.int 0) (.ref q_1) (.ref q_2) (.ref q_4) (.ref q_6) (.ref q_8) (.ref q_10) (.ref q_12) (.ref q_14) (.ref q_16) (.ref q_18) (.ref q_20) (.ref q_22) (.ref q_24) (.ref q_26) (.ref q_28) (.ref q_30) .null .null (.int 0) (.int 0) (.int 0) (.int 0) (.int 0) (.int 0) ++ (bI83 k q_1 (fun _ => 0) ++ (w_31)))) rfl dX13_init_183 (fun H locs hP9 hD9 hS9 => ?_)
  clear hP hD hS
  have hP := hP9
  have hD := hD9
  have hS := hS9
  clear hP9 hD9 hS9
  refine lv_dup hx hb dX13_init_184 rfl ?_
  refine lv_bipush (v := 7) hx hb dX13_init_185 (by decide) ?_
  refine lv_bipush (v := 116) hx hb dX13_init_187 (by decide) ?_
  refine ia_st hx hb hK hP hD hS 0 rfl 7 (by omega) (by decide) (bI59 k q_32 (upd (upd (upd (upd (upd (upd (upd (upd (fun _ => 0) 0 99) 1 108) 2 97) 3 105) 4 109) 5 32) 6 97) 7 116) ++ (bO11 k h (.int 0) (.int 0) (.int (-1)) (.int (-1)) (.int 0) (.ref q_1) (.ref q_2) (.ref q_4) (.ref q_6) (.ref q_8) (.ref q_10) (.ref q_12) (.ref q_14) (.ref q_16) (.ref q_18) (.ref q_20) (.ref q_22) (.ref q_24) (.ref q_26) (.ref q_28) (.ref q_30) .null .null (.int 0) (.int 0) (.int 0) (.int 0) (.int 0) (.int 0) ++ (bI83 k q_1 (fun _ => 0) ++ (w_31)))) rfl dX13_init_189 (fun H locs hP9 hD9 hS9 => ?_)
  clear hP hD hS
  have hP := hP9
  have hD := hD9
  have hS := hS9
  clear hP9 hD9 hS9
  refine lv_dup hx hb dX13_init_190 rfl ?_
  refine lv_bipush (v := 8) hx hb dX13_init_191 (by decide) ?_
  refine lv_bipush (v := 116) hx hb dX13_init_193 (by decide) ?_
  refine ia_st hx hb hK hP hD hS 0 rfl 8 (by omega) (by decide) (bI59 k q_32 (upd (upd (upd (upd (upd (upd (upd (upd (upd (fun _ => 0) 0 99) 1 108) 2 97) 3 105) 4 109) 5 32) 6 97) 7 116) 8 116) ++ (bO11 k h (.int 0) (.int 0) (.int (-1)) (.int (-1)) (.int 0) (.ref q_1) (.ref q_2) (.ref q_4) (.ref q_6) (.ref q_8) (.ref q_10) (.ref q_12) (.ref q_14) (.ref q_16) (.ref q_18) (.ref q_20) (.ref q_22) (.ref q_24) (.ref q_26) (.ref q_28) (.ref q_30) .null .null (.int 0) (.int 0) (.int 0) (.int 0) (.int 0) (.int 0) ++ (bI83 k q_1 (fun _ => 0) ++ (w_31)))) rfl dX13_init_195 (fun H locs hP9 hD9 hS9 => ?_)
  clear hP hD hS
  have hP := hP9
  have hD := hD9
  have hS := hS9
  clear hP9 hD9 hS9
  refine lv_dup hx hb dX13_init_196 rfl ?_
  refine lv_bipush (v := 9) hx hb dX13_init_197 (by decide) ?_
  refine lv_bipush (v := 97) hx hb dX13_init_199 (by decide) ?_
  refine ia_st hx hb hK hP hD hS 0 rfl 9 (by omega) (by decide) (bI59 k q_32 (upd (upd (upd (upd (upd (upd (upd (upd (upd (upd (fun _ => 0) 0 99) 1 108) 2 97) 3 105) 4 109) 5 32) 6 97) 7 116) 8 116) 9 97) ++ (bO11 k h (.int 0) (.int 0) (.int (-1)) (.int (-1)) (.int 0) (.ref q_1) (.ref q_2) (.ref q_4) (.ref q_6) (.ref q_8) (.ref q_10) (.ref q_12) (.ref q_14) (.ref q_16) (.ref q_18) (.ref q_20) (.ref q_22) (.ref q_24) (.ref q_26) (.ref q_28) (.ref q_30) .null .null (.int 0) (.int 0) (.int 0) (.int 0) (.int 0) (.int 0) ++ (bI83 k q_1 (fun _ => 0) ++ (w_31)))) rfl dX13_init_201 (fun H locs hP9 hD9 hS9 => ?_)
  clear hP hD hS
  have hP := hP9
  have hD := hD9
  have hS := hS9
  clear hP9 hD9 hS9
  refine lv_dup hx hb dX13_init_202 rfl ?_
  refine lv_bipush (v := 10) hx hb dX13_init_203 (by decide) ?_
  refine lv_bipush (v := 99) hx hb dX13_init_205 (by decide) ?_
  refine ia_st hx hb hK hP hD hS 0 rfl 10 (by omega) (by decide) (bI59 k q_32 (upd (upd (upd (upd (upd (upd (upd (upd (upd (upd (upd (fun _ => 0) 0 99) 1 108) 2 97) 3 105) 4 109) 5 32) 6 97) 7 116) 8 116) 9 97) 10 99) ++ (bO11 k h (.int 0) (.int 0) (.int (-1)) (.int (-1)) (.int 0) (.ref q_1) (.ref q_2) (.ref q_4) (.ref q_6) (.ref q_8) (.ref q_10) (.ref q_12) (.ref q_14) (.ref q_16) (.ref q_18) (.ref q_20) (.ref q_22) (.ref q_24) (.ref q_26) (.ref q_28) (.ref q_30) .null .null (.int 0) (.int 0) (.int 0) (.int 0) (.int 0) (.int 0) ++ (bI83 k q_1 (fun _ => 0) ++ (w_31)))) rfl dX13_init_207 (fun H locs hP9 hD9 hS9 => ?_)
  clear hP hD hS
  have hP := hP9
  have hD := hD9
  have hS := hS9
  clear hP9 hD9 hS9
  refine lv_dup hx hb dX13_init_208 rfl ?_
  refine lv_bipush (v := 11) hx hb dX13_init_209 (by decide) ?_
  refine lv_bipush (v := 107) hx hb dX13_init_211 (by decide) ?_
  refine ia_st hx hb hK hP hD hS 0 rfl 11 (by omega) (by decide) (bI59 k q_32 (upd (upd (upd (upd (upd (upd (upd (upd (upd (upd (upd (upd (fun _ => 0) 0 99) 1 108) 2 97) 3 105) 4 109) 5 32) 6 97) 7 116) 8 116) 9 97) 10 99) 11 107) ++ (bO11 k h (.int 0) (.int 0) (.int (-1)) (.int (-1)) (.int 0) (.ref q_1) (.ref q_2) (.ref q_4) (.ref q_6) (.ref q_8) (.ref q_10) (.ref q_12) (.ref q_14) (.ref q_16) (.ref q_18) (.ref q_20) (.ref q_22) (.ref q_24) (.ref q_26) (.ref q_28) (.ref q_30) .null .null (.int 0) (.int 0) (.int 0) (.int 0) (.int 0) (.int 0) ++ (bI83 k q_1 (fun _ => 0) ++ (w_31)))) rfl dX13_init_213 (fun H locs hP9 hD9 hS9 => ?_)
  clear hP hD hS
  have hP := hP9
  have hD := hD9
  have hS := hS9
  clear hP9 hD9 hS9
  refine lv_dup hx hb dX13_init_214 rfl ?_
  refine lv_bipush (v := 12) hx hb dX13_init_215 (by decide) ?_
  refine lv_bipush (v := 32) hx hb dX13_init_217 (by decide) ?_
  refine ia_st hx hb hK hP hD hS 0 rfl 12 (by omega) (by decide) (bI59 k q_32 (upd (upd (upd (upd (upd (upd (upd (upd (upd (upd (upd (upd (upd (fun _ => 0) 0 99) 1 108) 2 97) 3 105) 4 109) 5 32) 6 97) 7 116) 8 116) 9 97) 10 99) 11 107) 12 32) ++ (bO11 k h (.int 0) (.int 0) (.int (-1)) (.int (-1)) (.int 0) (.ref q_1) (.ref q_2) (.ref q_4) (.ref q_6) (.ref q_8) (.ref q_10) (.ref q_12) (.ref q_14) (.ref q_16) (.ref q_18) (.ref q_20) (.ref q_22) (.ref q_24) (.ref q_26) (.ref q_28) (.ref q_30) .null .null (.int 0) (.int 0) (.int 0) (.int 0) (.int 0) (.int 0) ++ (bI83 k q_1 (fun _ => 0) ++ (w_31)))) rfl dX13_init_219 (fun H locs hP9 hD9 hS9 => ?_)
  clear hP hD hS
  have hP := hP9
  have hD := hD9
  have hS := hS9
  clear hP9 hD9 hS9
  refine lv_dup hx hb dX13_init_220 rfl ?_
  refine lv_bipush (v := 13) hx hb dX13_init_221 (by decide) ?_
  refine lv_bipush (v := 99) hx hb dX13_init_223 (by decide) ?_
  refine ia_st hx hb hK hP hD hS 0 rfl 13 (by omega) (by decide) (bI59 k q_32 (upd (upd (upd (upd (upd (upd (upd (upd (upd (upd (upd (upd (upd (upd (fun _ => 0) 0 99) 1 108) 2 97) 3 105) 4 109) 5 32) 6 97) 7 116) 8 116) 9 97) 10 99) 11 107) 12 32) 13 99) ++ (bO11 k h (.int 0) (.int 0) (.int (-1)) (.int (-1)) (.int 0) (.ref q_1) (.ref q_2) (.ref q_4) (.ref q_6) (.ref q_8) (.ref q_10) (.ref q_12) (.ref q_14) (.ref q_16) (.ref q_18) (.ref q_20) (.ref q_22) (.ref q_24) (.ref q_26) (.ref q_28) (.ref q_30) .null .null (.int 0) (.int 0) (.int 0) (.int 0) (.int 0) (.int 0) ++ (bI83 k q_1 (fun _ => 0) ++ (w_31)))) rfl dX13_init_225 (fun H locs hP9 hD9 hS9 => ?_)
  clear hP hD hS
  have hP := hP9
  have hD := hD9
  have hS := hS9
  clear hP9 hD9 hS9
  refine lv_dup hx hb dX13_init_226 rfl ?_
  refine lv_bipush (v := 14) hx hb dX13_init_227 (by decide) ?_
  refine lv_bipush (v := 97) hx hb dX13_init_229 (by decide) ?_
  refine ia_st hx hb hK hP hD hS 0 rfl 14 (by omega) (by decide) (bI59 k q_32 (upd (upd (upd (upd (upd (upd (upd (upd (upd (upd (upd (upd (upd (upd (upd (fun _ => 0) 0 99) 1 108) 2 97) 3 105) 4 109) 5 32) 6 97) 7 116) 8 116) 9 97) 10 99) 11 107) 12 32) 13 99) 14 97) ++ (bO11 k h (.int 0) (.int 0) (.int (-1)) (.int (-1)) (.int 0) (.ref q_1) (.ref q_2) (.ref q_4) (.ref q_6) (.ref q_8) (.ref q_10) (.ref q_12) (.ref q_14) (.ref q_16) (.ref q_18) (.ref q_20) (.ref q_22) (.ref q_24) (.ref q_26) (.ref q_28) (.ref q_30) .null .null (.int 0) (.int 0) (.int 0) (.int 0) (.int 0) (.int 0) ++ (bI83 k q_1 (fun _ => 0) ++ (w_31)))) rfl dX13_init_231 (fun H locs hP9 hD9 hS9 => ?_)
  clear hP hD hS
  have hP := hP9
  have hD := hD9
  have hS := hS9
  clear hP9 hD9 hS9
  refine lv_dup hx hb dX13_init_232 rfl ?_
  refine lv_bipush (v := 15) hx hb dX13_init_233 (by decide) ?_
  refine lv_bipush (v := 108) hx hb dX13_init_235 (by decide) ?_
  refine ia_st hx hb hK hP hD hS 0 rfl 15 (by omega) (by decide) (bI59 k q_32 (upd (upd (upd (upd (upd (upd (upd (upd (upd (upd (upd (upd (upd (upd (upd (upd (fun _ => 0) 0 99) 1 108) 2 97) 3 105) 4 109) 5 32) 6 97) 7 116) 8 116) 9 97) 10 99) 11 107) 12 32) 13 99) 14 97) 15 108) ++ (bO11 k h (.int 0) (.int 0) (.int (-1)) (.int (-1)) (.int 0) (.ref q_1) (.ref q_2) (.ref q_4) (.ref q_6) (.ref q_8) (.ref q_10) (.ref q_12) (.ref q_14) (.ref q_16) (.ref q_18) (.ref q_20) (.ref q_22) (.ref q_24) (.ref q_26) (.ref q_28) (.ref q_30) .null .null (.int 0) (.int 0) (.int 0) (.int 0) (.int 0) (.int 0) ++ (bI83 k q_1 (fun _ => 0) ++ (w_31)))) rfl dX13_init_237 (fun H locs hP9 hD9 hS9 => ?_)
  clear hP hD hS
  have hP := hP9
  have hD := hD9
  have hS := hS9
  clear hP9 hD9 hS9
  refine lv_dup hx hb dX13_init_238 rfl ?_
  refine lv_bipush (v := 16) hx hb dX13_init_239 (by decide) ?_
  refine lv_bipush (v := 109) hx hb dX13_init_241 (by decide) ?_
  refine ia_st hx hb hK hP hD hS 0 rfl 16 (by omega) (by decide) (bI59 k q_32 (upd (upd (upd (upd (upd (upd (upd (upd (upd (upd (upd (upd (upd (upd (upd (upd (upd (fun _ => 0) 0 99) 1 108) 2 97) 3 105) 4 109) 5 32) 6 97) 7 116) 8 116) 9 97) 10 99) 11 107) 12 32) 13 99) 14 97) 15 108) 16 109) ++ (bO11 k h (.int 0) (.int 0) (.int (-1)) (.int (-1)) (.int 0) (.ref q_1) (.ref q_2) (.ref q_4) (.ref q_6) (.ref q_8) (.ref q_10) (.ref q_12) (.ref q_14) (.ref q_16) (.ref q_18) (.ref q_20) (.ref q_22) (.ref q_24) (.ref q_26) (.ref q_28) (.ref q_30) .null .null (.int 0) (.int 0) (.int 0) (.int 0) (.int 0) (.int 0) ++ (bI83 k q_1 (fun _ => 0) ++ (w_31)))) rfl dX13_init_243 (fun H locs hP9 hD9 hS9 => ?_)
  clear hP hD hS
  have hP := hP9
  have hD := hD9
  have hS := hS9
  clear hP9 hD9 hS9
  refine lv_dup hx hb dX13_init_244 rfl ?_
  refine lv_bipush (v := 17) hx hb dX13_init_245 (by decide) ?_
  refine lv_bipush (v := 32) hx hb dX13_init_247 (by decide) ?_
  refine ia_st hx hb hK hP hD hS 0 rfl 17 (by omega) (by decide) (bI59 k q_32 (upd (upd (upd (upd (upd (upd (upd (upd (upd (upd (upd (upd (upd (upd (upd (upd (upd (upd (fun _ => 0) 0 99) 1 108) 2 97) 3 105) 4 109) 5 32) 6 97) 7 116) 8 116) 9 97) 10 99) 11 107) 12 32) 13 99) 14 97) 15 108) 16 109) 17 32) ++ (bO11 k h (.int 0) (.int 0) (.int (-1)) (.int (-1)) (.int 0) (.ref q_1) (.ref q_2) (.ref q_4) (.ref q_6) (.ref q_8) (.ref q_10) (.ref q_12) (.ref q_14) (.ref q_16) (.ref q_18) (.ref q_20) (.ref q_22) (.ref q_24) (.ref q_26) (.ref q_28) (.ref q_30) .null .null (.int 0) (.int 0) (.int 0) (.int 0) (.int 0) (.int 0) ++ (bI83 k q_1 (fun _ => 0) ++ (w_31)))) rfl dX13_init_249 (fun H locs hP9 hD9 hS9 => ?_)
  clear hP hD hS
  have hP := hP9
  have hD := hD9
  have hS := hS9
  clear hP9 hD9 hS9
  refine lv_dup hx hb dX13_init_250 rfl ?_
  refine lv_bipush (v := 18) hx hb dX13_init_251 (by decide) ?_
  refine lv_bipush (v := 108) hx hb dX13_init_253 (by decide) ?_
  refine ia_st hx hb hK hP hD hS 0 rfl 18 (by omega) (by decide) (bI59 k q_32 (upd (upd (upd (upd (upd (upd (upd (upd (upd (upd (upd (upd (upd (upd (upd (upd (upd (upd (upd (fun _ => 0) 0 99) 1 108) 2 97) 3 105) 4 109) 5 32) 6 97) 7 116) 8 116) 9 97) 10 99) 11 107) 12 32) 13 99) 14 97) 15 108) 16 109) 17 32) 18 108) ++ (bO11 k h (.int 0) (.int 0) (.int (-1)) (.int (-1)) (.int 0) (.ref q_1) (.ref q_2) (.ref q_4) (.ref q_6) (.ref q_8) (.ref q_10) (.ref q_12) (.ref q_14) (.ref q_16) (.ref q_18) (.ref q_20) (.ref q_22) (.ref q_24) (.ref q_26) (.ref q_28) (.ref q_30) .null .null (.int 0) (.int 0) (.int 0) (.int 0) (.int 0) (.int 0) ++ (bI83 k q_1 (fun _ => 0) ++ (w_31)))) rfl dX13_init_255 (fun H locs hP9 hD9 hS9 => ?_)
  clear hP hD hS
  have hP := hP9
  have hD := hD9
  have hS := hS9
  clear hP9 hD9 hS9
  refine lv_dup hx hb dX13_init_256 rfl ?_
  refine lv_bipush (v := 19) hx hb dX13_init_257 (by decide) ?_
  refine lv_bipush (v := 97) hx hb dX13_init_259 (by decide) ?_
  refine ia_st hx hb hK hP hD hS 0 rfl 19 (by omega) (by decide) (bI59 k q_32 (upd (upd (upd (upd (upd (upd (upd (upd (upd (upd (upd (upd (upd (upd (upd (upd (upd (upd (upd (upd (fun _ => 0) 0 99) 1 108) 2 97) 3 105) 4 109) 5 32) 6 97) 7 116) 8 116) 9 97) 10 99) 11 107) 12 32) 13 99) 14 97) 15 108) 16 109) 17 32) 18 108) 19 97) ++ (bO11 k h (.int 0) (.int 0) (.int (-1)) (.int (-1)) (.int 0) (.ref q_1) (.ref q_2) (.ref q_4) (.ref q_6) (.ref q_8) (.ref q_10) (.ref q_12) (.ref q_14) (.ref q_16) (.ref q_18) (.ref q_20) (.ref q_22) (.ref q_24) (.ref q_26) (.ref q_28) (.ref q_30) .null .null (.int 0) (.int 0) (.int 0) (.int 0) (.int 0) (.int 0) ++ (bI83 k q_1 (fun _ => 0) ++ (w_31)))) rfl dX13_init_261 (fun H locs hP9 hD9 hS9 => ?_)
  clear hP hD hS
  have hP := hP9
  have hD := hD9
  have hS := hS9
  clear hP9 hD9 hS9
  refine lv_dup hx hb dX13_init_262 rfl ?_
  refine lv_bipush (v := 20) hx hb dX13_init_263 (by decide) ?_
  refine lv_bipush (v := 121) hx hb dX13_init_265 (by decide) ?_
  refine ia_st hx hb hK hP hD hS 0 rfl 20 (by omega) (by decide) (bI59 k q_32 (upd (upd (upd (upd (upd (upd (upd (upd (upd (upd (upd (upd (upd (upd (upd (upd (upd (upd (upd (upd (upd (fun _ => 0) 0 99) 1 108) 2 97) 3 105) 4 109) 5 32) 6 97) 7 116) 8 116) 9 97) 10 99) 11 107) 12 32) 13 99) 14 97) 15 108) 16 109) 17 32) 18 108) 19 97) 20 121) ++ (bO11 k h (.int 0) (.int 0) (.int (-1)) (.int (-1)) (.int 0) (.ref q_1) (.ref q_2) (.ref q_4) (.ref q_6) (.ref q_8) (.ref q_10) (.ref q_12) (.ref q_14) (.ref q_16) (.ref q_18) (.ref q_20) (.ref q_22) (.ref q_24) (.ref q_26) (.ref q_28) (.ref q_30) .null .null (.int 0) (.int 0) (.int 0) (.int 0) (.int 0) (.int 0) ++ (bI83 k q_1 (fun _ => 0) ++ (w_31)))) rfl dX13_init_267 (fun H locs hP9 hD9 hS9 => ?_)
  clear hP hD hS
  have hP := hP9
  have hD := hD9
  have hS := hS9
  clear hP9 hD9 hS9
  refine lv_dup hx hb dX13_init_268 rfl ?_
  refine lv_bipush (v := 21) hx hb dX13_init_269 (by decide) ?_
  refine lv_bipush (v := 101) hx hb dX13_init_271 (by decide) ?_
  refine ia_st hx hb hK hP hD hS 0 rfl 21 (by omega) (by decide) (bI59 k q_32 (upd (upd (upd (upd (upd (upd (upd (upd (upd (upd (upd (upd (upd (upd (upd (upd (upd (upd (upd (upd (upd (upd (fun _ => 0) 0 99) 1 108) 2 97) 3 105) 4 109) 5 32) 6 97) 7 116) 8 116) 9 97) 10 99) 11 107) 12 32) 13 99) 14 97) 15 108) 16 109) 17 32) 18 108) 19 97) 20 121) 21 101) ++ (bO11 k h (.int 0) (.int 0) (.int (-1)) (.int (-1)) (.int 0) (.ref q_1) (.ref q_2) (.ref q_4) (.ref q_6) (.ref q_8) (.ref q_10) (.ref q_12) (.ref q_14) (.ref q_16) (.ref q_18) (.ref q_20) (.ref q_22) (.ref q_24) (.ref q_26) (.ref q_28) (.ref q_30) .null .null (.int 0) (.int 0) (.int 0) (.int 0) (.int 0) (.int 0) ++ (bI83 k q_1 (fun _ => 0) ++ (w_31)))) rfl dX13_init_273 (fun H locs hP9 hD9 hS9 => ?_)
  clear hP hD hS
  have hP := hP9
  have hD := hD9
  have hS := hS9
  clear hP9 hD9 hS9
  refine lv_dup hx hb dX13_init_274 rfl ?_
  refine lv_bipush (v := 22) hx hb dX13_init_275 (by decide) ?_
  refine lv_bipush (v := 114) hx hb dX13_init_277 (by decide) ?_
  refine ia_st hx hb hK hP hD hS 0 rfl 22 (by omega) (by decide) (bI59 k q_32 (upd (upd (upd (upd (upd (upd (upd (upd (upd (upd (upd (upd (upd (upd (upd (upd (upd (upd (upd (upd (upd (upd (upd (fun _ => 0) 0 99) 1 108) 2 97) 3 105) 4 109) 5 32) 6 97) 7 116) 8 116) 9 97) 10 99) 11 107) 12 32) 13 99) 14 97) 15 108) 16 109) 17 32) 18 108) 19 97) 20 121) 21 101) 22 114) ++ (bO11 k h (.int 0) (.int 0) (.int (-1)) (.int (-1)) (.int 0) (.ref q_1) (.ref q_2) (.ref q_4) (.ref q_6) (.ref q_8) (.ref q_10) (.ref q_12) (.ref q_14) (.ref q_16) (.ref q_18) (.ref q_20) (.ref q_22) (.ref q_24) (.ref q_26) (.ref q_28) (.ref q_30) .null .null (.int 0) (.int 0) (.int 0) (.int 0) (.int 0) (.int 0) ++ (bI83 k q_1 (fun _ => 0) ++ (w_31)))) rfl dX13_init_279 (fun H locs hP9 hD9 hS9 => ?_)
  clear hP hD hS
  have hP := hP9
  have hD := hD9
  have hS := hS9
  clear hP9 hD9 hS9
  refine lv_dup hx hb dX13_init_280 rfl ?_
  refine lv_bipush (v := 23) hx hb dX13_init_281 (by decide) ?_
  refine lv_bipush (v := 32) hx hb dX13_init_283 (by decide) ?_
  refine ia_st hx hb hK hP hD hS 0 rfl 23 (by omega) (by decide) (bI59 k q_32 (upd (upd (upd (upd (upd (upd (upd (upd (upd (upd (upd (upd (upd (upd (upd (upd (upd (upd (upd (upd (upd (upd (upd (upd (fun _ => 0) 0 99) 1 108) 2 97) 3 105) 4 109) 5 32) 6 97) 7 116) 8 116) 9 97) 10 99) 11 107) 12 32) 13 99) 14 97) 15 108) 16 109) 17 32) 18 108) 19 97) 20 121) 21 101) 22 114) 23 32) ++ (bO11 k h (.int 0) (.int 0) (.int (-1)) (.int (-1)) (.int 0) (.ref q_1) (.ref q_2) (.ref q_4) (.ref q_6) (.ref q_8) (.ref q_10) (.ref q_12) (.ref q_14) (.ref q_16) (.ref q_18) (.ref q_20) (.ref q_22) (.ref q_24) (.ref q_26) (.ref q_28) (.ref q_30) .null .null (.int 0) (.int 0) (.int 0) (.int 0) (.int 0) (.int 0) ++ (bI83 k q_1 (fun _ => 0) ++ (w_31)))) rfl dX13_init_285 (fun H locs hP9 hD9 hS9 => ?_)
  clear hP hD hS
  have hP := hP9
  have hD := hD9
  have hS := hS9
  clear hP9 hD9 hS9
  refine lv_dup hx hb dX13_init_286 rfl ?_
  refine lv_bipush (v := 24) hx hb dX13_init_287 (by decide) ?_
  refine lv_bipush (v := 114) hx hb dX13_init_289 (by decide) ?_
  refine ia_st hx hb hK hP hD hS 0 rfl 24 (by omega) (by decide) (bI59 k q_32 (upd (upd (upd (upd (upd (upd (upd (upd (upd (upd (upd (upd (upd (upd (upd (upd (upd (upd (upd (upd (upd (upd (upd (upd (upd (fun _ => 0) 0 99) 1 108) 2 97) 3 105) 4 109) 5 32) 6 97) 7 116) 8 116) 9 97) 10 99) 11 107) 12 32) 13 99) 14 97) 15 108) 16 109) 17 32) 18 108) 19 97) 20 121) 21 101) 22 114) 23 32) 24 114) ++ (bO11 k h (.int 0) (.int 0) (.int (-1)) (.int (-1)) (.int 0) (.ref q_1) (.ref q_2) (.ref q_4) (.ref q_6) (.ref q_8) (.ref q_10) (.ref q_12) (.ref q_14) (.ref q_16) (.ref q_18) (.ref q_20) (.ref q_22) (.ref q_24) (.ref q_26) (.ref q_28) (.ref q_30) .null .null (.int 0) (.int 0) (.int 0) (.int 0) (.int 0) (.int 0) ++ (bI83 k q_1 (fun _ => 0) ++ (w_31)))) rfl dX13_init_291 (fun H locs hP9 hD9 hS9 => ?_)
  clear hP hD hS
  have hP := hP9
  have hD := hD9
  have hS := hS9
  clear hP9 hD9 hS9
  refine lv_dup hx hb dX13_init_292 rfl ?_
  refine lv_bipush (v := 25) hx hb dX13_init_293 (by decide) ?_
  refine lv_bipush (v := 97) hx hb dX13_init_295 (by decide) ?_
  refine ia_st hx hb hK hP hD hS 0 rfl 25 (by omega) (by decide) (bI59 k q_32 (upd (upd (upd (upd (upd (upd (upd (upd (upd (upd (upd (upd (upd (upd (upd (upd (upd (upd (upd (upd (upd (upd (upd (upd (upd (upd (fun _ => 0) 0 99) 1 108) 2 97) 3 105) 4 109) 5 32) 6 97) 7 116) 8 116) 9 97) 10 99) 11 107) 12 32) 13 99) 14 97) 15 108) 16 109) 17 32) 18 108) 19 97) 20 121) 21 101) 22 114) 23 32) 24 114) 25 97) ++ (bO11 k h (.int 0) (.int 0) (.int (-1)) (.int (-1)) (.int 0) (.ref q_1) (.ref q_2) (.ref q_4) (.ref q_6) (.ref q_8) (.ref q_10) (.ref q_12) (.ref q_14) (.ref q_16) (.ref q_18) (.ref q_20) (.ref q_22) (.ref q_24) (.ref q_26) (.ref q_28) (.ref q_30) .null .null (.int 0) (.int 0) (.int 0) (.int 0) (.int 0) (.int 0) ++ (bI83 k q_1 (fun _ => 0) ++ (w_31)))) rfl dX13_init_297 (fun H locs hP9 hD9 hS9 => ?_)
  clear hP hD hS
  have hP := hP9
  have hD := hD9
  have hS := hS9
  clear hP9 hD9 hS9
  refine lv_dup hx hb dX13_init_298 rfl ?_
  refine lv_bipush (v := 26) hx hb dX13_init_299 (by decide) ?_
  refine lv_bipush (v := 99) hx hb dX13_init_301 (by decide) ?_
  refine ia_st hx hb hK hP hD hS 0 rfl 26 (by omega) (by decide) (bI59 k q_32 (upd (upd (upd (upd (upd (upd (upd (upd (upd (upd (upd (upd (upd (upd (upd (upd (upd (upd (upd (upd (upd (upd (upd (upd (upd (upd (upd (fun _ => 0) 0 99) 1 108) 2 97) 3 105) 4 109) 5 32) 6 97) 7 116) 8 116) 9 97) 10 99) 11 107) 12 32) 13 99) 14 97) 15 108) 16 109) 17 32) 18 108) 19 97) 20 121) 21 101) 22 114) 23 32) 24 114) 25 97) 26 99) ++ (bO11 k h (.int 0) (.int 0) (.int (-1)) (.int (-1)) (.int 0) (.ref q_1) (.ref q_2) (.ref q_4) (.ref q_6) (.ref q_8) (.ref q_10) (.ref q_12) (.ref q_14) (.ref q_16) (.ref q_18) (.ref q_20) (.ref q_22) (.ref q_24) (.ref q_26) (.ref q_28) (.ref q_30) .null .null (.int 0) (.int 0) (.int 0) (.int 0) (.int 0) (.int 0) ++ (bI83 k q_1 (fun _ => 0) ++ (w_31)))) rfl dX13_init_303 (fun H locs hP9 hD9 hS9 => ?_)
  clear hP hD hS
  have hP := hP9
  have hD := hD9
  have hS := hS9
  clear hP9 hD9 hS9
  refine lv_dup hx hb dX13_init_304 rfl ?_
  refine lv_bipush (v := 27) hx hb dX13_init_305 (by decide) ?_
  refine lv_bipush (v := 107) hx hb dX13_init_307 (by decide) ?_
  refine ia_st hx hb hK hP hD hS 0 rfl 27 (by omega) (by decide) (bI59 k q_32 (upd (upd (upd (upd (upd (upd (upd (upd (upd (upd (upd (upd (upd (upd (upd (upd (upd (upd (upd (upd (upd (upd (upd (upd (upd (upd (upd (upd (fun _ => 0) 0 99) 1 108) 2 97) 3 105) 4 109) 5 32) 6 97) 7 116) 8 116) 9 97) 10 99) 11 107) 12 32) 13 99) 14 97) 15 108) 16 109) 17 32) 18 108) 19 97) 20 121) 21 101) 22 114) 23 32) 24 114) 25 97) 26 99) 27 107) ++ (bO11 k h (.int 0) (.int 0) (.int (-1)) (.int (-1)) (.int 0) (.ref q_1) (.ref q_2) (.ref q_4) (.ref q_6) (.ref q_8) (.ref q_10) (.ref q_12) (.ref q_14) (.ref q_16) (.ref q_18) (.ref q_20) (.ref q_22) (.ref q_24) (.ref q_26) (.ref q_28) (.ref q_30) .null .null (.int 0) (.int 0) (.int 0) (.int 0) (.int 0) (.int 0) ++ (bI83 k q_1 (fun _ => 0) ++ (w_31)))) rfl dX13_init_309 (fun H locs hP9 hD9 hS9 => ?_)
  clear hP hD hS
  have hP := hP9
  have hD := hD9
  have hS := hS9
  clear hP9 hD9 hS9
  refine lv_dup hx hb dX13_init_310 rfl ?_
  refine lv_bipush (v := 28) hx hb dX13_init_311 (by decide) ?_
  refine lv_bipush (v := 32) hx hb dX13_init_313 (by decide) ?_
  refine ia_st hx hb hK hP hD hS 0 rfl 28 (by omega) (by decide) (bI59 k q_32 (upd (upd (upd (upd (upd (upd (upd (upd (upd (upd (upd (upd (upd (upd (upd (upd (upd (upd (upd (upd (upd (upd (upd (upd (upd (upd (upd (upd (upd (fun _ => 0) 0 99) 1 108) 2 97) 3 105) 4 109) 5 32) 6 97) 7 116) 8 116) 9 97) 10 99) 11 107) 12 32) 13 99) 14 97) 15 108) 16 109) 17 32) 18 108) 19 97) 20 121) 21 101) 22 114) 23 32) 24 114) 25 97) 26 99) 27 107) 28 32) ++ (bO11 k h (.int 0) (.int 0) (.int (-1)) (.int (-1)) (.int 0) (.ref q_1) (.ref q_2) (.ref q_4) (.ref q_6) (.ref q_8) (.ref q_10) (.ref q_12) (.ref q_14) (.ref q_16) (.ref q_18) (.ref q_20) (.ref q_22) (.ref q_24) (.ref q_26) (.ref q_28) (.ref q_30) .null .null (.int 0) (.int 0) (.int 0) (.int 0) (.int 0) (.int 0) ++ (bI83 k q_1 (fun _ => 0) ++ (w_31)))) rfl dX13_init_315 (fun H locs hP9 hD9 hS9 => ?_)
  clear hP hD hS
  have hP := hP9
  have hD := hD9
  have hS := hS9
  clear hP9 hD9 hS9
  refine lv_dup hx hb dX13_init_316 rfl ?_
  refine lv_bipush (v := 29) hx hb dX13_init_317 (by decide) ?_
  refine lv_bipush (v := 105) hx hb dX13_init_319 (by decide) ?_
  refine ia_st hx hb hK hP hD hS 0 rfl 29 (by omega) (by decide) (bI59 k q_32 (upd (upd (upd (upd (upd (upd (upd (upd (upd (upd (upd (upd (upd (upd (upd (upd (upd (upd (upd (upd (upd (upd (upd (upd (upd (upd (upd (upd (upd (upd (fun _ => 0) 0 99) 1 108) 2 97) 3 105) 4 109) 5 32) 6 97) 7 116) 8 116) 9 97) 10 99) 11 107) 12 32) 13 99) 14 97) 15 108) 16 109) 17 32) 18 108) 19 97) 20 121) 21 101) 22 114) 23 32) 24 114) 25 97) 26 99) 27 107) 28 32) 29 105) ++ (bO11 k h (.int 0) (.int 0) (.int (-1)) (.int (-1)) (.int 0) (.ref q_1) (.ref q_2) (.ref q_4) (.ref q_6) (.ref q_8) (.ref q_10) (.ref q_12) (.ref q_14) (.ref q_16) (.ref q_18) (.ref q_20) (.ref q_22) (.ref q_24) (.ref q_26) (.ref q_28) (.ref q_30) .null .null (.int 0) (.int 0) (.int 0) (.int 0) (.int 0) (.int 0) ++ (bI83 k q_1 (fun _ => 0) ++ (w_31)))) rfl dX13_init_321 (fun H locs hP9 hD9 hS9 => ?_)
  clear hP hD hS
  have hP := hP9
  have hD := hD9
  have hS := hS9
  clear hP9 hD9 hS9
  refine lv_dup hx hb dX13_init_322 rfl ?_
  refine lv_bipush (v := 30) hx hb dX13_init_323 (by decide) ?_
  refine lv_bipush (v := 110) hx hb dX13_init_325 (by decide) ?_
  refine ia_st hx hb hK hP hD hS 0 rfl 30 (by omega) (by decide) (bI59 k q_32 (upd (upd (upd (upd (upd (upd (upd (upd (upd (upd (upd (upd (upd (upd (upd (upd (upd (upd (upd (upd (upd (upd (upd (upd (upd (upd (upd (upd (upd (upd (upd (fun _ => 0) 0 99) 1 108) 2 97) 3 105) 4 109) 5 32) 6 97) 7 116) 8 116) 9 97) 10 99) 11 107) 12 32) 13 99) 14 97) 15 108) 16 109) 17 32) 18 108) 19 97) 20 121) 21 101) 22 114) 23 32) 24 114) 25 97) 26 99) 27 107) 28 32) 29 105) 30 110) ++ (bO11 k h (.int 0) (.int 0) (.int (-1)) (.int (-1)) (.int 0) (.ref q_1) (.ref q_2) (.ref q_4) (.ref q_6) (.ref q_8) (.ref q_10) (.ref q_12) (.ref q_14) (.ref q_16) (.ref q_18) (.ref q_20) (.ref q_22) (.ref q_24) (.ref q_26) (.ref q_28) (.ref q_30) .null .null (.int 0) (.int 0) (.int 0) (.int 0) (.int 0) (.int 0) ++ (bI83 k q_1 (fun _ => 0) ++ (w_31)))) rfl dX13_init_327 (fun H locs hP9 hD9 hS9 => ?_)
  clear hP hD hS
  have hP := hP9
  have hD := hD9
  have hS := hS9
  clear hP9 hD9 hS9
  refine lv_dup hx hb dX13_init_328 rfl ?_
  refine lv_bipush (v := 31) hx hb dX13_init_329 (by decide) ?_
  refine lv_bipush (v := 115) hx hb dX13_init_331 (by decide) ?_
  refine ia_st hx hb hK hP hD hS 0 rfl 31 (by omega) (by decide) (bI59 k q_32 (upd (upd (upd (upd (upd (upd (upd (upd (upd (upd (upd (upd (upd (upd (upd (upd (upd (upd (upd (upd (upd (upd (upd (upd (upd (upd (upd (upd (upd (upd (upd (upd (fun _ => 0) 0 99) 1 108) 2 97) 3 105) 4 109) 5 32) 6 97) 7 116) 8 116) 9 97) 10 99) 11 107) 12 32) 13 99) 14 97) 15 108) 16 109) 17 32) 18 108) 19 97) 20 121) 21 101) 22 114) 23 32) 24 114) 25 97) 26 99) 27 107) 28 32) 29 105) 30 110) 31 115) ++ (bO11 k h (.int 0) (.int 0) (.int (-1)) (.int (-1)) (.int 0) (.ref q_1) (.ref q_2) (.ref q_4) (.ref q_6) (.ref q_8) (.ref q_10) (.ref q_12) (.ref q_14) (.ref q_16) (.ref q_18) (.ref q_20) (.ref q_22) (.ref q_24) (.ref q_26) (.ref q_28) (.ref q_30) .null .null (.int 0) (.int 0) (.int 0) (.int 0) (.int 0) (.int 0) ++ (bI83 k q_1 (fun _ => 0) ++ (w_31)))) rfl dX13_init_333 (fun H locs hP9 hD9 hS9 => ?_)
  clear hP hD hS
  have hP := hP9
  have hD := hD9
  have hS := hS9
  clear hP9 hD9 hS9
  refine lv_dup hx hb dX13_init_334 rfl ?_
  refine lv_bipush (v := 32) hx hb dX13_init_335 (by decide) ?_
  refine lv_bipush (v := 101) hx hb dX13_init_337 (by decide) ?_
  refine ia_st hx hb hK hP hD hS 0 rfl 32 (by omega) (by decide) (bI59 k q_32 (upd (upd (upd (upd (upd (upd (upd (upd (upd (upd (upd (upd (upd (upd (upd (upd (upd (upd (upd (upd (upd (upd (upd (upd (upd (upd (upd (upd (upd (upd (upd (upd (upd (fun _ => 0) 0 99) 1 108) 2 97) 3 105) 4 109) 5 32) 6 97) 7 116) 8 116) 9 97) 10 99) 11 107) 12 32) 13 99) 14 97) 15 108) 16 109) 17 32) 18 108) 19 97) 20 121) 21 101) 22 114) 23 32) 24 114) 25 97) 26 99) 27 107) 28 32) 29 105) 30 110) 31 115) 32 101) ++ (bO11 k h (.int 0) (.int 0) (.int (-1)) (.int (-1)) (.int 0) (.ref q_1) (.ref q_2) (.ref q_4) (.ref q_6) (.ref q_8) (.ref q_10) (.ref q_12) (.ref q_14) (.ref q_16) (.ref q_18) (.ref q_20) (.ref q_22) (.ref q_24) (.ref q_26) (.ref q_28) (.ref q_30) .null .null (.int 0) (.int 0) (.int 0) (.int 0) (.int 0) (.int 0) ++ (bI83 k q_1 (fun _ => 0) ++ (w_31)))) rfl dX13_init_339 (fun H locs hP9 hD9 hS9 => ?_)
  clear hP hD hS
  have hP := hP9
  have hD := hD9
  have hS := hS9
  clear hP9 hD9 hS9
  refine lv_dup hx hb dX13_init_340 rfl ?_
  refine lv_bipush (v := 33) hx hb dX13_init_341 (by decide) ?_
  refine lv_bipush (v := 114) hx hb dX13_init_343 (by decide) ?_
  refine ia_st hx hb hK hP hD hS 0 rfl 33 (by omega) (by decide) (bI59 k q_32 (upd (upd (upd (upd (upd (upd (upd (upd (upd (upd (upd (upd (upd (upd (upd (upd (upd (upd (upd (upd (upd (upd (upd (upd (upd (upd (upd (upd (upd (upd (upd (upd (upd (upd (fun _ => 0) 0 99) 1 108) 2 97) 3 105) 4 109) 5 32) 6 97) 7 116) 8 116) 9 97) 10 99) 11 107) 12 32) 13 99) 14 97) 15 108) 16 109) 17 32) 18 108) 19 97) 20 121) 21 101) 22 114) 23 32) 24 114) 25 97) 26 99) 27 107) 28 32) 29 105) 30 110) 31 115) 32 101) 33 114) ++ (bO11 k h (.int 0) (.int 0) (.int (-1)) (.int (-1)) (.int 0) (.ref q_1) (.ref q_2) (.ref q_4) (.ref q_6) (.ref q_8) (.ref q_10) (.ref q_12) (.ref q_14) (.ref q_16) (.ref q_18) (.ref q_20) (.ref q_22) (.ref q_24) (.ref q_26) (.ref q_28) (.ref q_30) .null .null (.int 0) (.int 0) (.int 0) (.int 0) (.int 0) (.int 0) ++ (bI83 k q_1 (fun _ => 0) ++ (w_31)))) rfl dX13_init_345 (fun H locs hP9 hD9 hS9 => ?_)
  clear hP hD hS
  have hP := hP9
  have hD := hD9
  have hS := hS9
  clear hP9 hD9 hS9
  refine lv_dup hx hb dX13_init_346 rfl ?_
  refine lv_bipush (v := 34) hx hb dX13_init_347 (by decide) ?_
  refine lv_bipush (v := 116) hx hb dX13_init_349 (by decide) ?_
  refine ia_st hx hb hK hP hD hS 0 rfl 34 (by omega) (by decide) (bI59 k q_32 (upd (upd (upd (upd (upd (upd (upd (upd (upd (upd (upd (upd (upd (upd (upd (upd (upd (upd (upd (upd (upd (upd (upd (upd (upd (upd (upd (upd (upd (upd (upd (upd (upd (upd (upd (fun _ => 0) 0 99) 1 108) 2 97) 3 105) 4 109) 5 32) 6 97) 7 116) 8 116) 9 97) 10 99) 11 107) 12 32) 13 99) 14 97) 15 108) 16 109) 17 32) 18 108) 19 97) 20 121) 21 101) 22 114) 23 32) 24 114) 25 97) 26 99) 27 107) 28 32) 29 105) 30 110) 31 115) 32 101) 33 114) 34 116) ++ (bO11 k h (.int 0) (.int 0) (.int (-1)) (.int (-1)) (.int 0) (.ref q_1) (.ref q_2) (.ref q_4) (.ref q_6) (.ref q_8) (.ref q_10) (.ref q_12) (.ref q_14) (.ref q_16) (.ref q_18) (.ref q_20) (.ref q_22) (.ref q_24) (.ref q_26) (.ref q_28) (.ref q_30) .null .null (.int 0) (.int 0) (.int 0) (.int 0) (.int 0) (.int 0) ++ (bI83 k q_1 (fun _ => 0) ++ (w_31)))) rfl dX13_init_351 (fun H locs hP9 hD9 hS9 => ?_)
  clear hP hD hS
  have hP := hP9
  have hD := hD9
  have hS := hS9
  clear hP9 hD9 hS9
  refine lv_dup hx hb dX13_init_352 rfl ?_
  refine lv_bipush (v := 35) hx hb dX13_init_353 (by decide) ?_
  refine lv_bipush (v := 32) hx hb dX13_init_355 (by decide) ?_
  refine ia_st hx hb hK hP hD hS 0 rfl 35 (by omega) (by decide) (bI59 k q_32 (upd (upd (upd (upd (upd (upd (upd (upd (upd (upd (upd (upd (upd (upd (upd (upd (upd (upd (upd (upd (upd (upd (upd (upd (upd (upd (upd (upd (upd (upd (upd (upd (upd (upd (upd (upd (fun _ => 0) 0 99) 1 108) 2 97) 3 105) 4 109) 5 32) 6 97) 7 116) 8 116) 9 97) 10 99) 11 107) 12 32) 13 99) 14 97) 15 108) 16 109) 17 32) 18 108) 19 97) 20 121) 21 101) 22 114) 23 32) 24 114) 25 97) 26 99) 27 107) 28 32) 29 105) 30 110) 31 115) 32 101) 33 114) 34 116) 35 32) ++ (bO11 k h (.int 0) (.int 0) (.int (-1)) (.int (-1)) (.int 0) (.ref q_1) (.ref q_2) (.ref q_4) (.ref q_6) (.ref q_8) (.ref q_10) (.ref q_12) (.ref q_14) (.ref q_16) (.ref q_18) (.ref q_20) (.ref q_22) (.ref q_24) (.ref q_26) (.ref q_28) (.ref q_30) .null .null (.int 0) (.int 0) (.int 0) (.int 0) (.int 0) (.int 0) ++ (bI83 k q_1 (fun _ => 0) ++ (w_31)))) rfl dX13_init_357 (fun H locs hP9 hD9 hS9 => ?_)
  clear hP hD hS
  have hP := hP9
  have hD := hD9
  have hS := hS9
  clear hP9 hD9 hS9
  refine lv_dup hx hb dX13_init_358 rfl ?_
  refine lv_bipush (v := 36) hx hb dX13_init_359 (by decide) ?_
  refine lv_bipush (v := 100) hx hb dX13_init_361 (by decide) ?_
  refine ia_st hx hb hK hP hD hS 0 rfl 36 (by omega) (by decide) (bI59 k q_32 (upd (upd (upd (upd (upd (upd (upd (upd (upd (upd (upd (upd (upd (upd (upd (upd (upd (upd (upd (upd (upd (upd (upd (upd (upd (upd (upd (upd (upd (upd (upd (upd (upd (upd (upd (upd (upd (fun _ => 0) 0 99) 1 108) 2 97) 3 105) 4 109) 5 32) 6 97) 7 116) 8 116) 9 97) 10 99) 11 107) 12 32) 13 99) 14 97) 15 108) 16 109) 17 32) 18 108) 19 97) 20 121) 21 101) 22 114) 23 32) 24 114) 25 97) 26 99) 27 107) 28 32) 29 105) 30 110) 31 115) 32 101) 33 114) 34 116) 35 32) 36 100) ++ (bO11 k h (.int 0) (.int 0) (.int (-1)) (.int (-1)) (.int 0) (.ref q_1) (.ref q_2) (.ref q_4) (.ref q_6) (.ref q_8) (.ref q_10) (.ref q_12) (.ref q_14) (.ref q_16) (.ref q_18) (.ref q_20) (.ref q_22) (.ref q_24) (.ref q_26) (.ref q_28) (.ref q_30) .null .null (.int 0) (.int 0) (.int 0) (.int 0) (.int 0) (.int 0) ++ (bI83 k q_1 (fun _ => 0) ++ (w_31)))) rfl dX13_init_363 (fun H locs hP9 hD9 hS9 => ?_)
  clear hP hD hS
  have hP := hP9
  have hD := hD9
  have hS := hS9
  clear hP9 hD9 hS9
  refine lv_dup hx hb dX13_init_364 rfl ?_
  refine lv_bipush (v := 37) hx hb dX13_init_365 (by decide) ?_
  refine lv_bipush (v := 114) hx hb dX13_init_367 (by decide) ?_
  refine ia_st hx hb hK hP hD hS 0 rfl 37 (by omega) (by decide) (bI59 k q_32 (upd (upd (upd (upd (upd (upd (upd (upd (upd (upd (upd (upd (upd (upd (upd (upd (upd (upd (upd (upd (upd (upd (upd (upd (upd (upd (upd (upd (upd (upd (upd (upd (upd (upd (upd (upd (upd (upd (fun _ => 0) 0 99) 1 108) 2 97) 3 105) 4 109) 5 32) 6 97) 7 116) 8 116) 9 97) 10 99) 11 107) 12 32) 13 99) 14 97) 15 108) 16 109) 17 32) 18 108) 19 97) 20 121) 21 101) 22 114) 23 32) 24 114) 25 97) 26 99) 27 107) 28 32) 29 105) 30 110) 31 115) 32 101) 33 114) 34 116) 35 32) 36 100) 37 114) ++ (bO11 k h (.int 0) (.int 0) (.int (-1)) (.int (-1)) (.int 0) (.ref q_1) (.ref q_2) (.ref q_4) (.ref q_6) (.ref q_8) (.ref q_10) (.ref q_12) (.ref q_14) (.ref q_16) (.ref q_18) (.ref q_20) (.ref q_22) (.ref q_24) (.ref q_26) (.ref q_28) (.ref q_30) .null .null (.int 0) (.int 0) (.int 0) (.int 0) (.int 0) (.int 0) ++ (bI83 k q_1 (fun _ => 0) ++ (w_31)))) rfl dX13_init_369 (fun H locs hP9 hD9 hS9 => ?_)
  clear hP hD hS
  have hP := hP9
  have hD := hD9
  have hS := hS9
  clear hP9 hD9 hS9
  refine lv_dup hx hb dX13_init_370 rfl ?_
  refine lv_bipush (v := 38) hx hb dX13_init_371 (by decide) ?_
  refine lv_bipush (v := 97) hx hb dX13_init_373 (by decide) ?_
  refine ia_st hx hb hK hP hD hS 0 rfl 38 (by omega) (by decide) (bI59 k q_32 (upd (upd (upd (upd (upd (upd (upd (upd (upd (upd (upd (upd (upd (upd (upd (upd (upd (upd (upd (upd (upd (upd (upd (upd (upd (upd (upd (upd (upd (upd (upd (upd (upd (upd (upd (upd (upd (upd (upd (fun _ => 0) 0 99) 1 108) 2 97) 3 105) 4 109) 5 32) 6 97) 7 116) 8 116) 9 97) 10 99) 11 107) 12 32) 13 99) 14 97) 15 108) 16 109) 17 32) 18 108) 19 97) 20 121) 21 101) 22 114) 23 32) 24 114) 25 97) 26 99) 27 107) 28 32) 29 105) 30 110) 31 115) 32 101) 33 114) 34 116) 35 32) 36 100) 37 114) 38 97) ++ (bO11 k h (.int 0) (.int 0) (.int (-1)) (.int (-1)) (.int 0) (.ref q_1) (.ref q_2) (.ref q_4) (.ref q_6) (.ref q_8) (.ref q_10) (.ref q_12) (.ref q_14) (.ref q_16) (.ref q_18) (.ref q_20) (.ref q_22) (.ref q_24) (.ref q_26) (.ref q_28) (.ref q_30) .null .null (.int 0) (.int 0) (.int 0) (.int 0) (.int 0) (.int 0) ++ (bI83 k q_1 (fun _ => 0) ++ (w_31)))) rfl dX13_init_375 (fun H locs hP9 hD9 hS9 => ?_)
  clear hP hD hS
  have hP := hP9
  have hD := hD9
  have hS := hS9
  clear hP9 hD9 hS9
  refine lv_dup hx hb dX13_init_376 rfl ?_
  refine lv_bipush (v := 39) hx hb dX13_init_377 (by decide) ?_
  refine lv_bipush (v := 119) hx hb dX13_init_379 (by decide) ?_
  refine ia_st hx hb hK hP hD hS 0 rfl 39 (by omega) (by decide) (bI59 k q_32 (upd (upd (upd (upd (upd (upd (upd (upd (upd (upd (upd (upd (upd (upd (upd (upd (upd (upd (upd (upd (upd (upd (upd (upd (upd (upd (upd (upd (upd (upd (upd (upd (upd (upd (upd (upd (upd (upd (upd (upd (fun _ => 0) 0 99) 1 108) 2 97) 3 105) 4 109) 5 32) 6 97) 7 116) 8 116) 9 97) 10 99) 11 107) 12 32) 13 99) 14 97) 15 108) 16 109) 17 32) 18 108) 19 97) 20 121) 21 101) 22 114) 23 32) 24 114) 25 97) 26 99) 27 107) 28 32) 29 105) 30 110) 31 115) 32 101) 33 114) 34 116) 35 32) 36 100) 37 114) 38 97) 39 119) ++ (bO11 k h (.int 0) (.int 0) (.int (-1)) (.int (-1)) (.int 0) (.ref q_1) (.ref q_2) (.ref q_4) (.ref q_6) (.ref q_8) (.ref q_10) (.ref q_12) (.ref q_14) (.ref q_16) (.ref q_18) (.ref q_20) (.ref q_22) (.ref q_24) (.ref q_26) (.ref q_28) (.ref q_30) .null .null (.int 0) (.int 0) (.int 0) (.int 0) (.int 0) (.int 0) ++ (bI83 k q_1 (fun _ => 0) ++ (w_31)))) rfl dX13_init_381 (fun H locs hP9 hD9 hS9 => ?_)
  clear hP hD hS
  have hP := hP9
  have hD := hD9
  have hS := hS9
  clear hP9 hD9 hS9
  refine lv_dup hx hb dX13_init_382 rfl ?_
  refine lv_bipush (v := 40) hx hb dX13_init_383 (by decide) ?_
  refine lv_bipush (v := 32) hx hb dX13_init_385 (by decide) ?_
  refine ia_st hx hb hK hP hD hS 0 rfl 40 (by omega) (by decide) (bI59 k q_32 (upd (upd (upd (upd (upd (upd (upd (upd (upd (upd (upd (upd (upd (upd (upd (upd (upd (upd (upd (upd (upd (upd (upd (upd (upd (upd (upd (upd (upd (upd (upd (upd (upd (upd (upd (upd (upd (upd (upd (upd (upd (fun _ => 0) 0 99) 1 108) 2 97) 3 105) 4 109) 5 32) 6 97) 7 116) 8 116) 9 97) 10 99) 11 107) 12 32) 13 99) 14 97) 15 108) 16 109) 17 32) 18 108) 19 97) 20 121) 21 101) 22 114) 23 32) 24 114) 25 97) 26 99) 27 107) 28 32) 29 105) 30 110) 31 115) 32 101) 33 114) 34 116) 35 32) 36 100) 37 114) 38 97) 39 119) 40 32) ++ (bO11 k h (.int 0) (.int 0) (.int (-1)) (.int (-1)) (.int 0) (.ref q_1) (.ref q_2) (.ref q_4) (.ref q_6) (.ref q_8) (.ref q_10) (.ref q_12) (.ref q_14) (.ref q_16) (.ref q_18) (.ref q_20) (.ref q_22) (.ref q_24) (.ref q_26) (.ref q_28) (.ref q_30) .null .null (.int 0) (.int 0) (.int 0) (.int 0) (.int 0) (.int 0) ++ (bI83 k q_1 (fun _ => 0) ++ (w_31)))) rfl dX13_init_387 (fun H locs hP9 hD9 hS9 => ?_)
  clear hP hD hS
  have hP := hP9
  have hD := hD9
  have hS := hS9
  clear hP9 hD9 hS9
  refine lv_dup hx hb dX13_init_388 rfl ?_
  refine lv_bipush (v := 41) hx hb dX13_init_389 (by decide) ?_
  refine lv_bipush (v := 101) hx hb dX13_init_391 (by decide) ?_
  refine ia_st hx hb hK hP hD hS 0 rfl 41 (by omega) (by decide) (bI59 k q_32 (upd (upd (upd (upd (upd (upd (upd (upd (upd (upd (upd (upd (upd (upd (upd (upd (upd (upd (upd (upd (upd (upd (upd (upd (upd (upd (upd (upd (upd (upd (upd (upd (upd (upd (upd (upd (upd (upd (upd (upd (upd (upd (fun _ => 0) 0 99) 1 108) 2 97) 3 105) 4 109) 5 32) 6 97) 7 116) 8 116) 9 97) 10 99) 11 107) 12 32) 13 99) 14 97) 15 108) 16 109) 17 32) 18 108) 19 97) 20 121) 21 101) 22 114) 23 32) 24 114) 25 97) 26 99) 27 107) 28 32) 29 105) 30 110) 31 115) 32 101) 33 114) 34 116) 35 32) 36 100) 37 114) 38 97) 39 119) 40 32) 41 101) ++ (bO11 k h (.int 0) (.int 0) (.int (-1)) (.int (-1)) (.int 0) (.ref q_1) (.ref q_2) (.ref q_4) (.ref q_6) (.ref q_8) (.ref q_10) (.ref q_12) (.ref q_14) (.ref q_16) (.ref q_18) (.ref q_20) (.ref q_22) (.ref q_24) (.ref q_26) (.ref q_28) (.ref q_30) .null .null (.int 0) (.int 0) (.int 0) (.int 0) (.int 0) (.int 0) ++ (bI83 k q_1 (fun _ => 0) ++ (w_31)))) rfl dX13_init_393 (fun H locs hP9 hD9 hS9 => ?_)
  clear hP hD hS
  have hP := hP9
  have hD := hD9
  have hS := hS9
  clear hP9 hD9 hS9
  refine lv_dup hx hb dX13_init_394 rfl ?_
  refine lv_bipush (v := 42) hx hb dX13_init_395 (by decide) ?_
  refine lv_bipush (v := 120) hx hb dX13_init_397 (by decide) ?_
  refine ia_st hx hb hK hP hD hS 0 rfl 42 (by omega) (by decide) (bI59 k q_32 (upd (upd (upd (upd (upd (upd (upd (upd (upd (upd (upd (upd (upd (upd (upd (upd (upd (upd (upd (upd (upd (upd (upd (upd (upd (upd (upd (upd (upd (upd (upd (upd (upd (upd (upd (upd (upd (upd (upd (upd (upd (upd (upd (fun _ => 0) 0 99) 1 108) 2 97) 3 105) 4 109) 5 32) 6 97) 7 116) 8 116) 9 97) 10 99) 11 107) 12 32) 13 99) 14 97) 15 108) 16 109) 17 32) 18 108) 19 97) 20 121) 21 101) 22 114) 23 32) 24 114) 25 97) 26 99) 27 107) 28 32) 29 105) 30 110) 31 115) 32 101) 33 114) 34 116) 35 32) 36 100) 37 114) 38 97) 39 119) 40 32) 41 101) 42 120) ++ (bO11 k h (.int 0) (.int 0) (.int (-1)) (.int (-1)) (.int 0) (.ref q_1) (.ref q_2) (.ref q_4) (.ref q_6) (.ref q_8) (.ref q_10) (.ref q_12) (.ref q_14) (.ref q_16) (.ref q_18) (.ref q_20) (.ref q_22) (.ref q_24) (.ref q_26) (.ref q_28) (.ref q_30) .null .null (.int 0) (.int 0) (.int 0) (.int 0) (.int 0) (.int 0) ++ (bI83 k q_1 (fun _ => 0) ++ (w_31)))) rfl dX13_init_399 (fun H locs hP9 hD9 hS9 => ?_)
  clear hP hD hS
  have hP := hP9
  have hD := hD9
  have hS := hS9
  clear hP9 hD9 hS9
  refine lv_dup hx hb dX13_init_400 rfl ?_
  refine lv_bipush (v := 43) hx hb dX13_init_401 (by decide) ?_
  refine lv_bipush (v := 99) hx hb dX13_init_403 (by decide) ?_
  refine ia_st hx hb hK hP hD hS 0 rfl 43 (by omega) (by decide) (bI59 k q_32 (upd (upd (upd (upd (upd (upd (upd (upd (upd (upd (upd (upd (upd (upd (upd (upd (upd (upd (upd (upd (upd (upd (upd (upd (upd (upd (upd (upd (upd (upd (upd (upd (upd (upd (upd (upd (upd (upd (upd (upd (upd (upd (upd (upd (fun _ => 0) 0 99) 1 108) 2 97) 3 105) 4 109) 5 32) 6 97) 7 116) 8 116) 9 97) 10 99) 11 107) 12 32) 13 99) 14 97) 15 108) 16 109) 17 32) 18 108) 19 97) 20 121) 21 101) 22 114) 23 32) 24 114) 25 97) 26 99) 27 107) 28 32) 29 105) 30 110) 31 115) 32 101) 33 114) 34 116) 35 32) 36 100) 37 114) 38 97) 39 119) 40 32) 41 101) 42 120) 43 99) ++ (bO11 k h (.int 0) (.int 0) (.int (-1)) (.int (-1)) (.int 0) (.ref q_1) (.ref q_2) (.ref q_4) (.ref q_6) (.ref q_8) (.ref q_10) (.ref q_12) (.ref q_14) (.ref q_16) (.ref q_18) (.ref q_20) (.ref q_22) (.ref q_24) (.ref q_26) (.ref q_28) (.ref q_30) .null .null (.int 0) (.int 0) (.int 0) (.int 0) (.int 0) (.int 0) ++ (bI83 k q_1 (fun _ => 0) ++ (w_31)))) rfl dX13_init_405 (fun H locs hP9 hD9 hS9 => ?_)
  clear hP hD hS
  have hP := hP9
  have hD := hD9
  have hS := hS9
  clear hP9 hD9 hS9
  refine lv_dup hx hb dX13_init_406 rfl ?_
  refine lv_bipush (v := 44) hx hb dX13_init_407 (by decide) ?_
  refine lv_bipush (v := 105) hx hb dX13_init_409 (by decide) ?_
  refine ia_st hx hb hK hP hD hS 0 rfl 44 (by omega) (by decide) (bI59 k q_32 (upd (upd (upd (upd (upd (upd (upd (upd (upd (upd (upd (upd (upd (upd (upd (upd (upd (upd (upd (upd (upd (upd (upd (upd (upd (upd (upd (upd (upd (upd (upd (upd (upd (upd (upd (upd (upd (upd (upd (upd (upd (upd (upd (upd (upd (fun _ => 0) 0 99) 1 108) 2 97) 3 105) 4 109) 5 32) 6 97) 7 116) 8 116) 9 97) 10 99) 11 107) 12 32) 13 99) 14 97) 15 108) 16 109) 17 32) 18 108) 19 97) 20 121) 21 101) 22 114) 23 32) 24 114) 25 97) 26 99) 27 107) 28 32) 29 105) 30 110) 31 115) 32 101) 33 114) 34 116) 35 32) 36 100) 37 114) 38 97) 39 119) 40 32) 41 101) 42 120) 43 99) 44 105) ++ (bO11 k h (.int 0) (.int 0) (.int (-1)) (.int (-1)) (.int 0) (.ref q_1) (.ref q_2) (.ref q_4) (.ref q_6) (.ref q_8) (.ref q_10) (.ref q_12) (.ref q_14) (.ref q_16) (.ref q_18) (.ref q_20) (.ref q_22) (.ref q_24) (.ref q_26) (.ref q_28) (.ref q_30) .null .null (.int 0) (.int 0) (.int 0) (.int 0) (.int 0) (.int 0) ++ (bI83 k q_1 (fun _ => 0) ++ (w_31)))) rfl dX13_init_411 (fun H locs hP9 hD9 hS9 => ?_)
  clear hP hD hS
  have hP := hP9
  have hD := hD9
  have hS := hS9
  clear hP9 hD9 hS9
  refine lv_dup hx hb dX13_init_412 rfl ?_
  refine lv_bipush (v := 45) hx hb dX13_init_413 (by decide) ?_
  refine lv_bipush (v := 116) hx hb dX13_init_415 (by decide) ?_
  refine ia_st hx hb hK hP hD hS 0 rfl 45 (by omega) (by decide) (bI59 k q_32 (upd (upd (upd (upd (upd (upd (upd (upd (upd (upd (upd (upd (upd (upd (upd (upd (upd (upd (upd (upd (upd (upd (upd (upd (upd (upd (upd (upd (upd (upd (upd (upd (upd (upd (upd (upd (upd (upd (upd (upd (upd (upd (upd (upd (upd (upd (fun _ => 0) 0 99) 1 108) 2 97) 3 105) 4 109) 5 32) 6 97) 7 116) 8 116) 9 97) 10 99) 11 107) 12 32) 13 99) 14 97) 15 108) 16 109) 17 32) 18 108) 19 97) 20 121) 21 101) 22 114) 23 32) 24 114) 25 97) 26 99) 27 107) 28 32) 29 105) 30 110) 31 115) 32 101) 33 114) 34 116) 35 32) 36 100) 37 114) 38 97) 39 119) 40 32) 41 101) 42 120) 43 99) 44 105) 45 116) ++ (bO11 k h (.int 0) (.int 0) (.int (-1)) (.int (-1)) (.int 0) (.ref q_1) (.ref q_2) (.ref q_4) (.ref q_6) (.ref q_8) (.ref q_10) (.ref q_12) (.ref q_14) (.ref q_16) (.ref q_18) (.ref q_20) (.ref q_22) (.ref q_24) (.ref q_26) (.ref q_28) (.ref q_30) .null .null (.int 0) (.int 0) (.int 0) (.int 0) (.int 0) (.int 0) ++ (bI83 k q_1 (fun _ => 0) ++ (w_31)))) rfl dX13_init_417 (fun H locs hP9 hD9 hS9 => ?_)
  clear hP hD hS
  have hP := hP9
  have hD := hD9
  have hS := hS9
  clear hP9 hD9 hS9
  refine lv_dup hx hb dX13_init_418 rfl ?_
  refine lv_bipush (v := 46) hx hb dX13_init_419 (by decide) ?_
  refine lv_bipush (v := 101) hx hb dX13_init_421 (by decide) ?_
  refine ia_st hx hb hK hP hD hS 0 rfl 46 (by omega) (by decide) (bI59 k q_32 (upd (upd (upd (upd (upd (upd (upd (upd (upd (upd (upd (upd (upd (upd (upd (upd (upd (upd (upd (upd (upd (upd (upd (upd (upd (upd (upd (upd (upd (upd (upd (upd (upd (upd (upd (upd (upd (upd (upd (upd (upd (upd (upd (upd (upd (upd (upd (fun _ => 0) 0 99) 1 108) 2 97) 3 105) 4 109) 5 32) 6 97) 7 116) 8 116) 9 97) 10 99) 11 107) 12 32) 13 99) 14 97) 15 108) 16 109) 17 32) 18 108) 19 97) 20 121) 21 101) 22 114) 23 32) 24 114) 25 97) 26 99) 27 107) 28 32) 29 105) 30 110) 31 115) 32 101) 33 114) 34 116) 35 32) 36 100) 37 114) 38 97) 39 119) 40 32) 41 101) 42 120) 43 99) 44 105) 45 116) 46 101) ++ (bO11 k h (.int 0) (.int 0) (.int (-1)) (.int (-1)) (.int 0) (.ref q_1) (.ref q_2) (.ref q_4) (.ref q_6) (.ref q_8) (.ref q_10) (.ref q_12) (.ref q_14) (.ref q_16) (.ref q_18) (.ref q_20) (.ref q_22) (.ref q_24) (.ref q_26) (.ref q_28) (.ref q_30) .null .null (.int 0) (.int 0) (.int 0) (.int 0) (.int 0) (.int 0) ++ (bI83 k q_1 (fun _ => 0) ++ (w_31)))) rfl dX13_init_423 (fun H locs hP9 hD9 hS9 => ?_)
  clear hP hD hS
  have hP := hP9
  have hD := hD9
  have hS := hS9
  clear hP9 hD9 hS9
  refine lv_dup hx hb dX13_init_424 rfl ?_
  refine lv_bipush (v := 47) hx hb dX13_init_425 (by decide) ?_
  refine lv_bipush (v := 32) hx hb dX13_init_427 (by decide) ?_
  refine ia_st hx hb hK hP hD hS 0 rfl 47 (by omega) (by decide) (bI59 k q_32 (upd (upd (upd (upd (upd (upd (upd (upd (upd (upd (upd (upd (upd (upd (upd (upd (upd (upd (upd (upd (upd (upd (upd (upd (upd (upd (upd (upd (upd (upd (upd (upd (upd (upd (upd (upd (upd (upd (upd (upd (upd (upd (upd (upd (upd (upd (upd (upd (fun _ => 0) 0 99) 1 108) 2 97) 3 105) 4 109) 5 32) 6 97) 7 116) 8 116) 9 97) 10 99) 11 107) 12 32) 13 99) 14 97) 15 108) 16 109) 17 32) 18 108) 19 97) 20 121) 21 101) 22 114) 23 32) 24 114) 25 97) 26 99) 27 107) 28 32) 29 105) 30 110) 31 115) 32 101) 33 114) 34 116) 35 32) 36 100) 37 114) 38 97) 39 119) 40 32) 41 101) 42 120) 43 99) 44 105) 45 116) 46 101) 47 32) ++ (bO11 k h (.int 0) (.int 0) (.int (-1)) (.int (-1)) (.int 0) (.ref q_1) (.ref q_2) (.ref q_4) (.ref q_6) (.ref q_8) (.ref q_10) (.ref q_12) (.ref q_14) (.ref q_16) (.ref q_18) (.ref q_20) (.ref q_22) (.ref q_24) (.ref q_26) (.ref q_28) (.ref q_30) .null .null (.int 0) (.int 0) (.int 0) (.int 0) (.int 0) (.int 0) ++ (bI83 k q_1 (fun _ => 0) ++ (w_31)))) rfl dX13_init_429 (fun H locs hP9 hD9 hS9 => ?_)
  clear hP hD hS
  have hP := hP9
  have hD := hD9
  have hS := hS9
  clear hP9 hD9 hS9
  refine lv_dup hx hb dX13_init_430 rfl ?_
  refine lv_bipush (v := 48) hx hb dX13_init_431 (by decide) ?_
  refine lv_bipush (v := 108) hx hb dX13_init_433 (by decide) ?_
  refine ia_st hx hb hK hP hD hS 0 rfl 48 (by omega) (by decide) (bI59 k q_32 (upd (upd (upd (upd (upd (upd (upd (upd (upd (upd (upd (upd (upd (upd (upd (upd (upd (upd (upd (upd (upd (upd (upd (upd (upd (upd (upd (upd (upd (upd (upd (upd (upd (upd (upd (upd (upd (upd (upd (upd (upd (upd (upd (upd (upd (upd (upd (upd (upd (fun _ => 0) 0 99) 1 108) 2 97) 3 105) 4 109) 5 32) 6 97) 7 116) 8 116) 9 97) 10 99) 11 107) 12 32) 13 99) 14 97) 15 108) 16 109) 17 32) 18 108) 19 97) 20 121) 21 101) 22 114) 23 32) 24 114) 25 97) 26 99) 27 107) 28 32) 29 105) 30 110) 31 115) 32 101) 33 114) 34 116) 35 32) 36 100) 37 114) 38 97) 39 119) 40 32) 41 101) 42 120) 43 99) 44 105) 45 116) 46 101) 47 32) 48 108) ++ (bO11 k h (.int 0) (.int 0) (.int (-1)) (.int (-1)) (.int 0) (.ref q_1) (.ref q_2) (.ref q_4) (.ref q_6) (.ref q_8) (.ref q_10) (.ref q_12) (.ref q_14) (.ref q_16) (.ref q_18) (.ref q_20) (.ref q_22) (.ref q_24) (.ref q_26) (.ref q_28) (.ref q_30) .null .null (.int 0) (.int 0) (.int 0) (.int 0) (.int 0) (.int 0) ++ (bI83 k q_1 (fun _ => 0) ++ (w_31)))) rfl dX13_init_435 (fun H locs hP9 hD9 hS9 => ?_)
  clear hP hD hS
  have hP := hP9
  have hD := hD9
  have hS := hS9
  clear hP9 hD9 hS9
  refine lv_dup hx hb dX13_init_436 rfl ?_
  refine lv_bipush (v := 49) hx hb dX13_init_437 (by decide) ?_
  refine lv_bipush (v := 105) hx hb dX13_init_439 (by decide) ?_
  refine ia_st hx hb hK hP hD hS 0 rfl 49 (by omega) (by decide) (bI59 k q_32 (upd (upd (upd (upd (upd (upd (upd (upd (upd (upd (upd (upd (upd (upd (upd (upd (upd (upd (upd (upd (upd (upd (upd (upd (upd (upd (upd (upd (upd (upd (upd (upd (upd (upd (upd (upd (upd (upd (upd (upd (upd (upd (upd (upd (upd (upd (upd (upd (upd (upd (fun _ => 0) 0 99) 1 108) 2 97) 3 105) 4 109) 5 32) 6 97) 7 116) 8 116) 9 97) 10 99) 11 107) 12 32) 13 99) 14 97) 15 108) 16 109) 17 32) 18 108) 19 97) 20 121) 21 101) 22 114) 23 32) 24 114) 25 97) 26 99) 27 107) 28 32) 29 105) 30 110) 31 115) 32 101) 33 114) 34 116) 35 32) 36 100) 37 114) 38 97) 39 119) 40 32) 41 101) 42 120) 43 99) 44 105) 45 116) 46 101) 47 32) 48 108) 49 105) ++ (bO11 k h (.int 0) (.int 0) (.int (-1)) (.int (-1)) (.int 0) (.ref q_1) (.ref q_2) (.ref q_4) (.ref q_6) (.ref q_8) (.ref q_10) (.ref q_12) (.ref q_14) (.ref q_16) (.ref q_18) (.ref q_20) (.ref q_22) (.ref q_24) (.ref q_26) (.ref q_28) (.ref q_30) .null .null (.int 0) (.int 0) (.int 0) (.int 0) (.int 0) (.int 0) ++ (bI83 k q_1 (fun _ => 0) ++ (w_31)))) rfl dX13_init_441 (fun H locs hP9 hD9 hS9 => ?_)
  clear hP hD hS
  have hP := hP9
  have hD := hD9
  have hS := hS9
  clear hP9 hD9 hS9
  refine lv_dup hx hb dX13_init_442 rfl ?_
  refine lv_bipush (v := 50) hx hb dX13_init_443 (by decide) ?_
  refine lv_bipush (v := 109) hx hb dX13_init_445 (by decide) ?_
  refine ia_st hx hb hK hP hD hS 0 rfl 50 (by omega) (by decide) (bI59 k q_32 (upd (upd (upd (upd (upd (upd (upd (upd (upd (upd (upd (upd (upd (upd (upd (upd (upd (upd (upd (upd (upd (upd (upd (upd (upd (upd (upd (upd (upd (upd (upd (upd (upd (upd (upd (upd (upd (upd (upd (upd (upd (upd (upd (upd (upd (upd (upd (upd (upd (upd (upd (fun _ => 0) 0 99) 1 108) 2 97) 3 105) 4 109) 5 32) 6 97) 7 116) 8 116) 9 97) 10 99) 11 107) 12 32) 13 99) 14 97) 15 108) 16 109) 17 32) 18 108) 19 97) 20 121) 21 101) 22 114) 23 32) 24 114) 25 97) 26 99) 27 107) 28 32) 29 105) 30 110) 31 115) 32 101) 33 114) 34 116) 35 32) 36 100) 37 114) 38 97) 39 119) 40 32) 41 101) 42 120) 43 99) 44 105) 45 116) 46 101) 47 32) 48 108) 49 105) 50 109) ++ (bO11 k h (.int 0) (.int 0) (.int (-1)) (.int (-1)) (.int 0) (.ref q_1) (.ref q_2) (.ref q_4) (.ref q_6) (.ref q_8) (.ref q_10) (.ref q_12) (.ref q_14) (.ref q_16) (.ref q_18) (.ref q_20) (.ref q_22) (.ref q_24) (.ref q_26) (.ref q_28) (.ref q_30) .null .null (.int 0) (.int 0) (.int 0) (.int 0) (.int 0) (.int 0) ++ (bI83 k q_1 (fun _ => 0) ++ (w_31)))) rfl dX13_init_447 (fun H locs hP9 hD9 hS9 => ?_)
  clear hP hD hS
  have hP := hP9
  have hD := hD9
  have hS := hS9
  clear hP9 hD9 hS9
  refine lv_dup hx hb dX13_init_448 rfl ?_
  refine lv_bipush (v := 51) hx hb dX13_init_449 (by decide) ?_
  refine lv_bipush (v := 105) hx hb dX13_init_451 (by decide) ?_
  refine ia_st hx hb hK hP hD hS 0 rfl 51 (by omega) (by decide) (bI59 k q_32 (upd (upd (upd (upd (upd (upd (upd (upd (upd (upd (upd (upd (upd (upd (upd (upd (upd (upd (upd (upd (upd (upd (upd (upd (upd (upd (upd (upd (upd (upd (upd (upd (upd (upd (upd (upd (upd (upd (upd (upd (upd (upd (upd (upd (upd (upd (upd (upd (upd (upd (upd (upd (fun _ => 0) 0 99) 1 108) 2 97) 3 105) 4 109) 5 32) 6 97) 7 116) 8 116) 9 97) 10 99) 11 107) 12 32) 13 99) 14 97) 15 108) 16 109) 17 32) 18 108) 19 97) 20 121) 21 101) 22 114) 23 32) 24 114) 25 97) 26 99) 27 107) 28 32) 29 105) 30 110) 31 115) 32 101) 33 114) 34 116) 35 32) 36 100) 37 114) 38 97) 39 119) 40 32) 41 101) 42 120) 43 99) 44 105) 45 116) 46 101) 47 32) 48 108) 49 105) 50 109) 51 105) ++ (bO11 k h (.int 0) (.int 0) (.int (-1)) (.int (-1)) (.int 0) (.ref q_1) (.ref q_2) (.ref q_4) (.ref q_6) (.ref q_8) (.ref q_10) (.ref q_12) (.ref q_14) (.ref q_16) (.ref q_18) (.ref q_20) (.ref q_22) (.ref q_24) (.ref q_26) (.ref q_28) (.ref q_30) .null .null (.int 0) (.int 0) (.int 0) (.int 0) (.int 0) (.int 0) ++ (bI83 k q_1 (fun _ => 0) ++ (w_31)))) rfl dX13_init_453 (fun H locs hP9 hD9 hS9 => ?_)
  clear hP hD hS
  have hP := hP9
  have hD := hD9
  have hS := hS9
  clear hP9 hD9 hS9
  refine lv_dup hx hb dX13_init_454 rfl ?_
  refine lv_bipush (v := 52) hx hb dX13_init_455 (by decide) ?_
  refine lv_bipush (v := 116) hx hb dX13_init_457 (by decide) ?_
  refine ia_st hx hb hK hP hD hS 0 rfl 52 (by omega) (by decide) (bI59 k q_32 (upd (upd (upd (upd (upd (upd (upd (upd (upd (upd (upd (upd (upd (upd (upd (upd (upd (upd (upd (upd (upd (upd (upd (upd (upd (upd (upd (upd (upd (upd (upd (upd (upd (upd (upd (upd (upd (upd (upd (upd (upd (upd (upd (upd (upd (upd (upd (upd (upd (upd (upd (upd (upd (fun _ => 0) 0 99) 1 108) 2 97) 3 105) 4 109) 5 32) 6 97) 7 116) 8 116) 9 97) 10 99) 11 107) 12 32) 13 99) 14 97) 15 108) 16 109) 17 32) 18 108) 19 97) 20 121) 21 101) 22 114) 23 32) 24 114) 25 97) 26 99) 27 107) 28 32) 29 105) 30 110) 31 115) 32 101) 33 114) 34 116) 35 32) 36 100) 37 114) 38 97) 39 119) 40 32) 41 101) 42 120) 43 99) 44 105) 45 116) 46 101) 47 32) 48 108) 49 105) 50 109) 51 105) 52 116) ++ (bO11 k h (.int 0) (.int 0) (.int (-1)) (.int (-1)) (.int 0) (.ref q_1) (.ref q_2) (.ref q_4) (.ref q_6) (.ref q_8) (.ref q_10) (.ref q_12) (.ref q_14) (.ref q_16) (.ref q_18) (.ref q_20) (.ref q_22) (.ref q_24) (.ref q_26) (.ref q_28) (.ref q_30) .null .null (.int 0) (.int 0) (.int 0) (.int 0) (.int 0) (.int 0) ++ (bI83 k q_1 (fun _ => 0) ++ (w_31)))) rfl dX13_init_459 (fun H locs hP9 hD9 hS9 => ?_)
  clear hP hD hS
  have hP := hP9
  have hD := hD9
  have hS := hS9
  clear hP9 hD9 hS9
  refine lv_dup hx hb dX13_init_460 rfl ?_
  refine lv_bipush (v := 53) hx hb dX13_init_461 (by decide) ?_
  refine lv_bipush (v := 32) hx hb dX13_init_463 (by decide) ?_
  refine ia_st hx hb hK hP hD hS 0 rfl 53 (by omega) (by decide) (bI59 k q_32 (upd (upd (upd (upd (upd (upd (upd (upd (upd (upd (upd (upd (upd (upd (upd (upd (upd (upd (upd (upd (upd (upd (upd (upd (upd (upd (upd (upd (upd (upd (upd (upd (upd (upd (upd (upd (upd (upd (upd (upd (upd (upd (upd (upd (upd (upd (upd (upd (upd (upd (upd (upd (upd (upd (fun _ => 0) 0 99) 1 108) 2 97) 3 105) 4 109) 5 32) 6 97) 7 116) 8 116) 9 97) 10 99) 11 107) 12 32) 13 99) 14 97) 15 108) 16 109) 17 32) 18 108) 19 97) 20 121) 21 101) 22 114) 23 32) 24 114) 25 97) 26 99) 27 107) 28 32) 29 105) 30 110) 31 115) 32 101) 33 114) 34 116) 35 32) 36 100) 37 114) 38 97) 39 119) 40 32) 41 101) 42 120) 43 99) 44 105) 45 116) 46 101) 47 32) 48 108) 49 105) 50 109) 51 105) 52 116) 53 32) ++ (bO11 k h (.int 0) (.int 0) (.int (-1)) (.int (-1)) (.int 0) (.ref q_1) (.ref q_2) (.ref q_4) (.ref q_6) (.ref q_8) (.ref q_10) (.ref q_12) (.ref q_14) (.ref q_16) (.ref q_18) (.ref q_20) (.ref q_22) (.ref q_24) (.ref q_26) (.ref q_28) (.ref q_30) .null .null (.int 0) (.int 0) (.int 0) (.int 0) (.int 0) (.int 0) ++ (bI83 k q_1 (fun _ => 0) ++ (w_31)))) rfl dX13_init_465 (fun H locs hP9 hD9 hS9 => ?_)
  clear hP hD hS
  have hP := hP9
  have hD := hD9
  have hS := hS9
  clear hP9 hD9 hS9
  refine lv_dup hx hb dX13_init_466 rfl ?_
  refine lv_bipush (v := 54) hx hb dX13_init_467 (by decide) ?_
  refine lv_bipush (v := 112) hx hb dX13_init_469 (by decide) ?_
  refine ia_st hx hb hK hP hD hS 0 rfl 54 (by omega) (by decide) (bI59 k q_32 (upd (upd (upd (upd (upd (upd (upd (upd (upd (upd (upd (upd (upd (upd (upd (upd (upd (upd (upd (upd (upd (upd (upd (upd (upd (upd (upd (upd (upd (upd (upd (upd (upd (upd (upd (upd (upd (upd (upd (upd (upd (upd (upd (upd (upd (upd (upd (upd (upd (upd (upd (upd (upd (upd (upd (fun _ => 0) 0 99) 1 108) 2 97) 3 105) 4 109) 5 32) 6 97) 7 116) 8 116) 9 97) 10 99) 11 107) 12 32) 13 99) 14 97) 15 108) 16 109) 17 32) 18 108) 19 97) 20 121) 21 101) 22 114) 23 32) 24 114) 25 97) 26 99) 27 107) 28 32) 29 105) 30 110) 31 115) 32 101) 33 114) 34 116) 35 32) 36 100) 37 114) 38 97) 39 119) 40 32) 41 101) 42 120) 43 99) 44 105) 45 116) 46 101) 47 32) 48 108) 49 105) 50 109) 51 105) 52 116) 53 32) 54 112) ++ (bO11 k h (.int 0) (.int 0) (.int (-1)) (.int (-1)) (.int 0) (.ref q_1) (.ref q_2) (.ref q_4) (.ref q_6) (.ref q_8) (.ref q_10) (.ref q_12) (.ref q_14) (.ref q_16) (.ref q_18) (.ref q_20) (.ref q_22) (.ref q_24) (.ref q_26) (.ref q_28) (.ref q_30) .null .null (.int 0) (.int 0) (.int 0) (.int 0) (.int 0) (.int 0) ++ (bI83 k q_1 (fun _ => 0) ++ (w_31)))) rfl dX13_init_471 (fun H locs hP9 hD9 hS9 => ?_)
  clear hP hD hS
  have hP := hP9
  have hD := hD9
  have hS := hS9
  clear hP9 hD9 hS9
  refine lv_dup hx hb dX13_init_472 rfl ?_
  refine lv_bipush (v := 55) hx hb dX13_init_473 (by decide) ?_
  refine lv_bipush (v := 97) hx hb dX13_init_475 (by decide) ?_
  refine ia_st hx hb hK hP hD hS 0 rfl 55 (by omega) (by decide) (bI59 k q_32 (upd (upd (upd (upd (upd (upd (upd (upd (upd (upd (upd (upd (upd (upd (upd (upd (upd (upd (upd (upd (upd (upd (upd (upd (upd (upd (upd (upd (upd (upd (upd (upd (upd (upd (upd (upd (upd (upd (upd (upd (upd (upd (upd (upd (upd (upd (upd (upd (upd (upd (upd (upd (upd (upd (upd (upd (fun _ => 0) 0 99) 1 108) 2 97) 3 105) 4 109) 5 32) 6 97) 7 116) 8 116) 9 97) 10 99) 11 107) 12 32) 13 99) 14 97) 15 108) 16 109) 17 32) 18 108) 19 97) 20 121) 21 101) 22 114) 23 32) 24 114) 25 97) 26 99) 27 107) 28 32) 29 105) 30 110) 31 115) 32 101) 33 114) 34 116) 35 32) 36 100) 37 114) 38 97) 39 119) 40 32) 41 101) 42 120) 43 99) 44 105) 45 116) 46 101) 47 32) 48 108) 49 105) 50 109) 51 105) 52 116) 53 32) 54 112) 55 97) ++ (bO11 k h (.int 0) (.int 0) (.int (-1)) (.int (-1)) (.int 0) (.ref q_1) (.ref q_2) (.ref q_4) (.ref q_6) (.ref q_8) (.ref q_10) (.ref q_12) (.ref q_14) (.ref q_16) (.ref q_18) (.ref q_20) (.ref q_22) (.ref q_24) (.ref q_26) (.ref q_28) (.ref q_30) .null .null (.int 0) (.int 0) (.int 0) (.int 0) (.int 0) (.int 0) ++ (bI83 k q_1 (fun _ => 0) ++ (w_31)))) rfl dX13_init_477 (fun H locs hP9 hD9 hS9 => ?_)
  clear hP hD hS
  have hP := hP9
  have hD := hD9
  have hS := hS9
  clear hP9 hD9 hS9
  refine lv_dup hx hb dX13_init_478 rfl ?_
  refine lv_bipush (v := 56) hx hb dX13_init_479 (by decide) ?_
  refine lv_bipush (v := 115) hx hb dX13_init_481 (by decide) ?_
  refine ia_st hx hb hK hP hD hS 0 rfl 56 (by omega) (by decide) (bI59 k q_32 (upd (upd (upd (upd (upd (upd (upd (upd (upd (upd (upd (upd (upd (upd (upd (upd (upd (upd (upd (upd (upd (upd (upd (upd (upd (upd (upd (upd (upd (upd (upd (upd (upd (upd (upd (upd (upd (upd (upd (upd (upd (upd (upd (upd (upd (upd (upd (upd (upd (upd (upd (upd (upd (upd (upd (upd (upd (fun _ => 0) 0 99) 1 108) 2 97) 3 105) 4 109) 5 32) 6 97) 7 116) 8 116) 9 97) 10 99) 11 107) 12 32) 13 99) 14 97) 15 108) 16 109) 17 32) 18 108) 19 97) 20 121) 21 101) 22 114) 23 32) 24 114) 25 97) 26 99) 27 107) 28 32) 29 105) 30 110) 31 115) 32 101) 33 114) 34 116) 35 32) 36 100) 37 114) 38 97) 39 119) 40 32) 41 101) 42 120) 43 99) 44 105) 45 116) 46 101) 47 32) 48 108) 49 105) 50 109) 51 105) 52 116) 53 32) 54 112) 55 97) 56 115) ++ (bO11 k h (.int 0) (.int 0) (.int (-1)) (.int (-1)) (.int 0) (.ref q_1) (.ref q_2) (.ref q_4) (.ref q_6) (.ref q_8) (.ref q_10) (.ref q_12) (.ref q_14) (.ref q_16) (.ref q_18) (.ref q_20) (.ref q_22) (.ref q_24) (.ref q_26) (.ref q_28) (.ref q_30) .null .null (.int 0) (.int 0) (.int 0) (.int 0) (.int 0) (.int 0) ++ (bI83 k q_1 (fun _ => 0) ++ (w_31)))) rfl dX13_init_483 (fun H locs hP9 hD9 hS9 => ?_)
  clear hP hD hS
  have hP := hP9
  have hD := hD9
  have hS := hS9
  clear hP9 hD9 hS9
  refine lv_dup hx hb dX13_init_484 rfl ?_
  refine lv_bipush (v := 57) hx hb dX13_init_485 (by decide) ?_
  refine lv_bipush (v := 115) hx hb dX13_init_487 (by decide) ?_
  refine ia_st hx hb hK hP hD hS 0 rfl 57 (by omega) (by decide) (bI59 k q_32 (upd (upd (upd (upd (upd (upd (upd (upd (upd (upd (upd (upd (upd (upd (upd (upd (upd (upd (upd (upd (upd (upd (upd (upd (upd (upd (upd (upd (upd (upd (upd (upd (upd (upd (upd (upd (upd (upd (upd (upd (upd (upd (upd (upd (upd (upd (upd (upd (upd (upd (upd (upd (upd (upd (upd (upd (upd (upd (fun _ => 0) 0 99) 1 108) 2 97) 3 105) 4 109) 5 32) 6 97) 7 116) 8 116) 9 97) 10 99) 11 107) 12 32) 13 99) 14 97) 15 108) 16 109) 17 32) 18 108) 19 97) 20 121) 21 101) 22 114) 23 32) 24 114) 25 97) 26 99) 27 107) 28 32) 29 105) 30 110) 31 115) 32 101) 33 114) 34 116) 35 32) 36 100) 37 114) 38 97) 39 119) 40 32) 41 101) 42 120) 43 99) 44 105) 45 116) 46 101) 47 32) 48 108) 49 105) 50 109) 51 105) 52 116) 53 32) 54 112) 55 97) 56 115) 57 115) ++ (bO11 k h (.int 0) (.int 0) (.int (-1)) (.int (-1)) (.int 0) (.ref q_1) (.ref q_2) (.ref q_4) (.ref q_6) (.ref q_8) (.ref q_10) (.ref q_12) (.ref q_14) (.ref q_16) (.ref q_18) (.ref q_20) (.ref q_22) (.ref q_24) (.ref q_26) (.ref q_28) (.ref q_30) .null .null (.int 0) (.int 0) (.int 0) (.int 0) (.int 0) (.int 0) ++ (bI83 k q_1 (fun _ => 0) ++ (w_31)))) rfl dX13_init_489 (fun H locs hP9 hD9 hS9 => ?_)
  clear hP hD hS
  have hP := hP9
  have hD := hD9
  have hS := hS9
  clear hP9 hD9 hS9
  refine lv_dup hx hb dX13_init_490 rfl ?_
  refine lv_bipush (v := 58) hx hb dX13_init_491 (by decide) ?_
  refine lv_bipush (v := 32) hx hb dX13_init_493 (by decide) ?_
  refine ia_st hx hb hK hP hD hS 0 rfl 58 (by omega) (by decide) (bI59 k q_32 (upd (upd (upd (upd (upd (upd (upd (upd (upd (upd (upd (upd (upd (upd (upd (upd (upd (upd (upd (upd (upd (upd (upd (upd (upd (upd (upd (upd (upd (upd (upd (upd (upd (upd (upd (upd (upd (upd (upd (upd (upd (upd (upd (upd (upd (upd (upd (upd (upd (upd (upd (upd (upd (upd (upd (upd (upd (upd (upd (fun _ => 0) 0 99) 1 108) 2 97) 3 105) 4 109) 5 32) 6 97) 7 116) 8 116) 9 97) 10 99) 11 107) 12 32) 13 99) 14 97) 15 108) 16 109) 17 32) 18 108) 19 97) 20 121) 21 101) 22 114) 23 32) 24 114) 25 97) 26 99) 27 107) 28 32) 29 105) 30 110) 31 115) 32 101) 33 114) 34 116) 35 32) 36 100) 37 114) 38 97) 39 119) 40 32) 41 101) 42 120) 43 99) 44 105) 45 116) 46 101) 47 32) 48 108) 49 105) 50 109) 51 105) 52 116) 53 32) 54 112) 55 97) 56 115) 57 115) 58 32) ++ (bO11 k h (.int 0) (.int 0) (.int (-1)) (.int (-1)) (.int 0) (.ref q_1) (.ref q_2) (.ref q_4) (.ref q_6) (.ref q_8) (.ref q_10) (.ref q_12) (.ref q_14) (.ref q_16) (.ref q_18) (.ref q_20) (.ref q_22) (.ref q_24) (.ref q_26) (.ref q_28) (.ref q_30) .null .null (.int 0) (.int 0) (.int 0) (.int 0) (.int 0) (.int 0) ++ (bI83 k q_1 (fun _ => 0) ++ (w_31)))) rfl dX13_init_495 (fun H locs hP9 hD9 hS9 => ?_)
  clear hP hD hS
  have hP := hP9
  have hD := hD9
  have hS := hS9
  clear hP9 hD9 hS9
  obtain ⟨hP, hD⟩ := ext_i hP hD 0 rfl (g := wdK) (fun j hj => (by have h9 : ∀ j : Nat, j < 59 → (upd (upd (upd (upd (upd (upd (upd (upd (upd (upd (upd (upd (upd (upd (upd (upd (upd (upd (upd (upd (upd (upd (upd (upd (upd (upd (upd (upd (upd (upd (upd (upd (upd (upd (upd (upd (upd (upd (upd (upd (upd (upd (upd (upd (upd (upd (upd (upd (upd (upd (upd (upd (upd (upd (upd (upd (upd (upd (upd (fun _ => 0) 0 99) 1 108) 2 97) 3 105) 4 109) 5 32) 6 97) 7 116) 8 116) 9 97) 10 99) 11 107) 12 32) 13 99) 14 97) 15 108) 16 109) 17 32) 18 108) 19 97) 20 121) 21 101) 22 114) 23 32) 24 114) 25 97) 26 99) 27 107) 28 32) 29 105) 30 110) 31 115) 32 101) 33 114) 34 116) 35 32) 36 100) 37 114) 38 97) 39 119) 40 32) 41 101) 42 120) 43 99) 44 105) 45 116) 46 101) 47 32) 48 108) 49 105) 50 109) 51 105) 52 116) 53 32) 54 112) 55 97) 56 115) 57 115) 58 32) j = wdK j := (by decide +kernel); exact h9 j hj))
  replace hP : va_P D vwCl (bI59 k q_32 wdK ++ (bO11 k h (.int 0) (.int 0) (.int (-1)) (.int (-1)) (.int 0) (.ref q_1) (.ref q_2) (.ref q_4) (.ref q_6) (.ref q_8) (.ref q_10) (.ref q_12) (.ref q_14) (.ref q_16) (.ref q_18) (.ref q_20) (.ref q_22) (.ref q_24) (.ref q_26) (.ref q_28) (.ref q_30) .null .null (.int 0) (.int 0) (.int 0) (.int 0) (.int 0) (.int 0) ++ (bI83 k q_1 (fun _ => 0) ++ (w_31)))) H := hP
  replace hD : va_D A (bI59 k q_32 wdK ++ (bO11 k h (.int 0) (.int 0) (.int (-1)) (.int (-1)) (.int 0) (.ref q_1) (.ref q_2) (.ref q_4) (.ref q_6) (.ref q_8) (.ref q_10) (.ref q_12) (.ref q_14) (.ref q_16) (.ref q_18) (.ref q_20) (.ref q_22) (.ref q_24) (.ref q_26) (.ref q_28) (.ref q_30) .null .null (.int 0) (.int 0) (.int 0) (.int 0) (.int 0) (.int 0) ++ (bI83 k q_1 (fun _ => 0) ++ (w_31)))) := hD
  refine va_putF (D := D) (ci := 11) (v := .ref q_32) (ty := (.array .int)) (C := RX13) (T := TX13) (N := 29) hx hb hts kc_RX13 tyX13 tyX13_ok nmX13 hown hK hP hD hS 1 rfl rfl 21 (by decide) k_fieldLink_67 (fun _ h9 => h9) rfl (hin rfl) rfl (by decide +kernel) rfl rfl (Nat.le_of_ble_eq_true rfl) dX13_init_496 (fun H locs hP9 hD9 hS9 => ?_)
  clear hP hD hS
  have hP := hP9
  have hD := hD9
  have hS := hS9
  clear hP9 hD9 hS9
  replace hP : va_P D vwCl (bI59 k q_32 wdK ++ (bO11 k h (.int 0) (.int 0) (.int (-1)) (.int (-1)) (.int 0) (.ref q_1) (.ref q_2) (.ref q_4) (.ref q_6) (.ref q_8) (.ref q_10) (.ref q_12) (.ref q_14) (.ref q_16) (.ref q_18) (.ref q_20) (.ref q_22) (.ref q_24) (.ref q_26) (.ref q_28) (.ref q_30) (.ref q_32) .null (.int 0) (.int 0) (.int 0) (.int 0) (.int 0) (.int 0) ++ (bI83 k q_1 (fun _ => 0) ++ (w_31)))) H := hP
  replace hD : va_D A (bI59 k q_32 wdK ++ (bO11 k h (.int 0) (.int 0) (.int (-1)) (.int (-1)) (.int 0) (.ref q_1) (.ref q_2) (.ref q_4) (.ref q_6) (.ref q_8) (.ref q_10) (.ref q_12) (.ref q_14) (.ref q_16) (.ref q_18) (.ref q_20) (.ref q_22) (.ref q_24) (.ref q_26) (.ref q_28) (.ref q_30) (.ref q_32) .null (.int 0) (.int 0) (.int 0) (.int 0) (.int 0) (.int 0) ++ (bI83 k q_1 (fun _ => 0) ++ (w_31)))) := hD
  replace hP : va_P D vwCl ((bI59 k q_32 wdK) ++ (bO11 k h (.int 0) (.int 0) (.int (-1)) (.int (-1)) (.int 0) (.ref q_1) (.ref q_2) (.ref q_4) (.ref q_6) (.ref q_8) (.ref q_10) (.ref q_12) (.ref q_14) (.ref q_16) (.ref q_18) (.ref q_20) (.ref q_22) (.ref q_24) (.ref q_26) (.ref q_28) (.ref q_30) (.ref q_32) .null (.int 0) (.int 0) (.int 0) (.int 0) (.int 0) (.int 0) ++ (bI83 k q_1 (fun _ => 0) ++ (w_31)))) H := hP
  replace hD : va_D A ((bI59 k q_32 wdK) ++ (bO11 k h (.int 0) (.int 0) (.int (-1)) (.int (-1)) (.int 0) (.ref q_1) (.ref q_2) (.ref q_4) (.ref q_6) (.ref q_8) (.ref q_10) (.ref q_12) (.ref q_14) (.ref q_16) (.ref q_18) (.ref q_20) (.ref q_22) (.ref q_24) (.ref q_26) (.ref q_28) (.ref q_30) (.ref q_32) .null (.int 0) (.int 0) (.int 0) (.int 0) (.int 0) (.int 0) ++ (bI83 k q_1 (fun _ => 0) ++ (w_31)))) := hD
  replace hP := l_swP hP
  replace hD := l_swD hD
  replace hP : va_P D vwCl (bO11 k h (.int 0) (.int 0) (.int (-1)) (.int (-1)) (.int 0) (.ref q_1) (.ref q_2) (.ref q_4) (.ref q_6) (.ref q_8) (.ref q_10) (.ref q_12) (.ref q_14) (.ref q_16) (.ref q_18) (.ref q_20) (.ref q_22) (.ref q_24) (.ref q_26) (.ref q_28) (.ref q_30) (.ref q_32) .null (.int 0) (.int 0) (.int 0) (.int 0) (.int 0) (.int 0) ++ (bI83 k q_1 (fun _ => 0) ++ ((bI59 k q_32 wdK) ++ w_31))) H := vP_perm hP (List.Perm.append_left _ l_sw)
  replace hD : va_D A (bO11 k h (.int 0) (.int 0) (.int (-1)) (.int (-1)) (.int 0) (.ref q_1) (.ref q_2) (.ref q_4) (.ref q_6) (.ref q_8) (.ref q_10) (.ref q_12) (.ref q_14) (.ref q_16) (.ref q_18) (.ref q_20) (.ref q_22) (.ref q_24) (.ref q_26) (.ref q_28) (.ref q_30) (.ref q_32) .null (.int 0) (.int 0) (.int 0) (.int 0) (.int 0) (.int 0) ++ (bI83 k q_1 (fun _ => 0) ++ ((bI59 k q_32 wdK) ++ w_31))) := vD_perm hD (List.Perm.append_left _ l_sw)
  obtain ⟨w_33, hw_33⟩ : ∃ z : va_W, (bI59 k q_32 wdK) ++ w_31 = z := ⟨_, rfl⟩
  rw [hw_33] at hP hD
  replace hP : va_P D vwCl (bO11 k h (.int 0) (.int 0) (.int (-1)) (.int (-1)) (.int 0) (.ref q_1) (.ref q_2) (.ref q_4) (.ref q_6) (.ref q_8) (.ref q_10) (.ref q_12) (.ref q_14) (.ref q_16) (.ref q_18) (.ref q_20) (.ref q_22) (.ref q_24) (.ref q_26) (.ref q_28) (.ref q_30) (.ref q_32) .null (.int 0) (.int 0) (.int 0) (.int 0) (.int 0) (.int 0) ++ (bI83 k q_1 (fun _ => 0) ++ (w_33))) H := hP
  replace hD : va_D A (bO11 k h (.int 0) (.int 0) (.int (-1)) (.int (-1)) (.int 0) (.ref q_1) (.ref q_2) (.ref q_4) (.ref q_6) (.ref q_8) (.ref q_10) (.ref q_12) (.ref q_14) (.ref q_16) (.ref q_18) (.ref q_20) (.ref q_22) (.ref q_24) (.ref q_26) (.ref q_28) (.ref q_30) (.ref q_32) .null (.int 0) (.int 0) (.int 0) (.int 0) (.int 0) (.int 0) ++ (bI83 k q_1 (fun _ => 0) ++ (w_33))) := hD
  refine lv_aload_n hx hb dX13_init_499 rfl (lv_at hl 0 rfl) ?_
  refine lv_bipush (v := 11) hx hb dX13_init_500 (by decide) ?_
  refine nw_arr (atype := .int) hx hb (hts (.arrayClass .int) (by decide +kernel)) rfl hK hP hD hS hA (a0 := (11, .inl (fun _ => 0))) (N' := 11) (fun _ => rfl) (by decide) (by decide) (Nat.le_of_ble_eq_true rfl) (Nat.le_of_ble_eq_true rfl) (Nat.le_of_ble_eq_true rfl) 0 rfl dX13_init_502 (fun q_34 H hP9 hD9 hS9 => ?_)
  clear hP hD hS
  have hP := hP9
  have hD := hD9
  have hS := hS9
  clear hP9 hD9 hS9
  replace hP := vP_perm hP (List.perm_append_comm (l₂ := ([(q_34, .inl (k 0, 11, .inl (fun _ => 0)))] : va_W)))
  replace hD := vD_perm hD (List.perm_append_comm (l₂ := ([(q_34, .inl (k 0, 11, .inl (fun _ => 0)))] : va_W)))
  replace hP : va_P D vwCl (bI11 k q_34 (fun _ => 0) ++ (bO11 k h (.int 0) (.int 0) (.int (-1)) (.int (-1)) (.int 0) (.ref q_1) (.ref q_2) (.ref q_4) (.ref q_6) (.ref q_8) (.ref q_10) (.ref q_12) (.ref q_14) (.ref q_16) (.ref q_18) (.ref q_20) (.ref q_22) (.ref q_24) (.ref q_26) (.ref q_28) (.ref q_30) (.ref q_32) .null (.int 0) (.int 0) (.int 0) (.int 0) (.int 0) (.int 0) ++ (bI83 k q_1 (fun _ => 0) ++ (w_33)))) H := hP
  replace hD : va_D A (bI11 k q_34 (fun _ => 0) ++ (bO11 k h (.int 0) (.int 0) (.int (-1)) (.int (-1)) (.int 0) (.ref q_1) (.ref q_2) (.ref q_4) (.ref q_6) (.ref q_8) (.ref q_10) (.ref q_12) (.ref q_14) (.ref q_16) (.ref q_18) (.ref q_20) (.ref q_22) (.ref q_24) (.ref q_26) (.ref q_28) (.ref q_30) (.ref q_32) .null (.int 0) (.int 0) (.int 0) (.int 0) (.int 0) (.int 0) ++ (bI83 k q_1 (fun _ => 0) ++ (w_33)))) := hD
  refine lv_dup hx hb dX13_init_504 rfl ?_
  refine lv_iconst (v := 0) hx hb dX13_init_505 (by decide) ?_
  refine lv_iconst (v := 0) hx hb dX13_init_506 (by decide) ?_
  refine ia_st hx hb hK hP hD hS 0 rfl 0 (by omega) (by decide) (bI11 k q_34 (upd (fun _ => 0) 0 0) ++ (bO11 k h (.int 0) (.int 0) (.int (-1)) (.int (-1)) (.int 0) (.ref q_1) (.ref q_2) (.ref q_4) (.ref q_6) (.ref q_8) (.ref q_10) (.ref q_12) (.ref q_14) (.ref q_16) (.ref q_18) (.ref q_20) (.ref q_22) (.ref q_24) (.ref q_26) (.ref q_28) (.ref q_30) (.ref q_32) .null (.int 0) (.int 0) (.int 0) (.int 0) (.int 0) (.int 0) ++ (bI83 k q_1 (fun _ => 0) ++ (w_33)))) rfl dX13_init_507 (fun H locs hP9 hD9 hS9 => ?_)
  clear hP hD hS
  have hP := hP9
  have hD := hD9
  have hS := hS9
  clear hP9 hD9 hS9
  refine lv_dup hx hb dX13_init_508 rfl ?_
  refine lv_iconst (v := 1) hx hb dX13_init_509 (by decide) ?_
  refine lv_bipush (v := 6) hx hb dX13_init_510 (by decide) ?_
  refine ia_st hx hb hK hP hD hS 0 rfl 1 (by omega) (by decide) (bI11 k q_34 (upd (upd (fun _ => 0) 0 0) 1 6) ++ (bO11 k h (.int 0) (.int 0) (.int (-1)) (.int (-1)) (.int 0) (.ref q_1) (.ref q_2) (.ref q_4) (.ref q_6) (.ref q_8) (.ref q_10) (.ref q_12) (.ref q_14) (.ref q_16) (.ref q_18) (.ref q_20) (.ref q_22) (.ref q_24) (.ref q_26) (.ref q_28) (.ref q_30) (.ref q_32) .null (.int 0) (.int 0) (.int 0) (.int 0) (.int 0) (.int 0) ++ (bI83 k q_1 (fun _ => 0) ++ (w_33)))) rfl dX13_init_512 (fun H locs hP9 hD9 hS9 => ?_)
  clear hP hD hS
  have hP := hP9
  have hD := hD9
  have hS := hS9
  clear hP9 hD9 hS9
  refine lv_dup hx hb dX13_init_513 rfl ?_
  refine lv_iconst (v := 2) hx hb dX13_init_514 (by decide) ?_
  refine lv_bipush (v := 13) hx hb dX13_init_515 (by decide) ?_
  refine ia_st hx hb hK hP hD hS 0 rfl 2 (by omega) (by decide) (bI11 k q_34 (upd (upd (upd (fun _ => 0) 0 0) 1 6) 2 13) ++ (bO11 k h (.int 0) (.int 0) (.int (-1)) (.int (-1)) (.int 0) (.ref q_1) (.ref q_2) (.ref q_4) (.ref q_6) (.ref q_8) (.ref q_10) (.ref q_12) (.ref q_14) (.ref q_16) (.ref q_18) (.ref q_20) (.ref q_22) (.ref q_24) (.ref q_26) (.ref q_28) (.ref q_30) (.ref q_32) .null (.int 0) (.int 0) (.int 0) (.int 0) (.int 0) (.int 0) ++ (bI83 k q_1 (fun _ => 0) ++ (w_33)))) rfl dX13_init_517 (fun H locs hP9 hD9 hS9 => ?_)
  clear hP hD hS
  have hP := hP9
  have hD := hD9
  have hS := hS9
  clear hP9 hD9 hS9
  refine lv_dup hx hb dX13_init_518 rfl ?_
  refine lv_iconst (v := 3) hx hb dX13_init_519 (by decide) ?_
  refine lv_bipush (v := 18) hx hb dX13_init_520 (by decide) ?_
  refine ia_st hx hb hK hP hD hS 0 rfl 3 (by omega) (by decide) (bI11 k q_34 (upd (upd (upd (upd (fun _ => 0) 0 0) 1 6) 2 13) 3 18) ++ (bO11 k h (.int 0) (.int 0) (.int (-1)) (.int (-1)) (.int 0) (.ref q_1) (.ref q_2) (.ref q_4) (.ref q_6) (.ref q_8) (.ref q_10) (.ref q_12) (.ref q_14) (.ref q_16) (.ref q_18) (.ref q_20) (.ref q_22) (.ref q_24) (.ref q_26) (.ref q_28) (.ref q_30) (.ref q_32) .null (.int 0) (.int 0) (.int 0) (.int 0) (.int 0) (.int 0) ++ (bI83 k q_1 (fun _ => 0) ++ (w_33)))) rfl dX13_init_522 (fun H locs hP9 hD9 hS9 => ?_)
  clear hP hD hS
  have hP := hP9
  have hD := hD9
  have hS := hS9
  clear hP9 hD9 hS9
  refine lv_dup hx hb dX13_init_523 rfl ?_
  refine lv_iconst (v := 4) hx hb dX13_init_524 (by decide) ?_
  refine lv_bipush (v := 24) hx hb dX13_init_525 (by decide) ?_
  refine ia_st hx hb hK hP hD hS 0 rfl 4 (by omega) (by decide) (bI11 k q_34 (upd (upd (upd (upd (upd (fun _ => 0) 0 0) 1 6) 2 13) 3 18) 4 24) ++ (bO11 k h (.int 0) (.int 0) (.int (-1)) (.int (-1)) (.int 0) (.ref q_1) (.ref q_2) (.ref q_4) (.ref q_6) (.ref q_8) (.ref q_10) (.ref q_12) (.ref q_14) (.ref q_16) (.ref q_18) (.ref q_20) (.ref q_22) (.ref q_24) (.ref q_26) (.ref q_28) (.ref q_30) (.ref q_32) .null (.int 0) (.int 0) (.int 0) (.int 0) (.int 0) (.int 0) ++ (bI83 k q_1 (fun _ => 0) ++ (w_33)))) rfl dX13_init_527 (fun H locs hP9 hD9 hS9 => ?_)
  clear hP hD hS
  have hP := hP9
  have hD := hD9
  have hS := hS9
  clear hP9 hD9 hS9
  refine lv_dup hx hb dX13_init_528 rfl ?_
  refine lv_iconst (v := 5) hx hb dX13_init_529 (by decide) ?_
  refine lv_bipush (v := 29) hx hb dX13_init_530 (by decide) ?_
  refine ia_st hx hb hK hP hD hS 0 rfl 5 (by omega) (by decide) (bI11 k q_34 (upd (upd (upd (upd (upd (upd (fun _ => 0) 0 0) 1 6) 2 13) 3 18) 4 24) 5 29) ++ (bO11 k h (.int 0) (.int 0) (.int (-1)) (.int (-1)) (.int 0) (.ref q_1) (.ref q_2) (.ref q_4) (.ref q_6) (.ref q_8) (.ref q_10) (.ref q_12) (.ref q_14) (.ref q_16) (.ref q_18) (.ref q_20) (.ref q_22) (.ref q_24) (.ref q_26) (.ref q_28) (.ref q_30) (.ref q_32) .null (.int 0) (.int 0) (.int 0) (.int 0) (.int 0) (.int 0) ++ (bI83 k q_1 (fun _ => 0) ++ (w_33)))) rfl dX13_init_532 (fun H locs hP9 hD9 hS9 => ?_)
  clear hP hD hS
  have hP := hP9
  have hD := hD9
  have hS := hS9
  clear hP9 hD9 hS9
  refine lv_dup hx hb dX13_init_533 rfl ?_
  refine lv_bipush (v := 6) hx hb dX13_init_534 (by decide) ?_
  refine lv_bipush (v := 36) hx hb dX13_init_536 (by decide) ?_
  refine ia_st hx hb hK hP hD hS 0 rfl 6 (by omega) (by decide) (bI11 k q_34 (upd (upd (upd (upd (upd (upd (upd (fun _ => 0) 0 0) 1 6) 2 13) 3 18) 4 24) 5 29) 6 36) ++ (bO11 k h (.int 0) (.int 0) (.int (-1)) (.int (-1)) (.int 0) (.ref q_1) (.ref q_2) (.ref q_4) (.ref q_6) (.ref q_8) (.ref q_10) (.ref q_12) (.ref q_14) (.ref q_16) (.ref q_18) (.ref q_20) (.ref q_22) (.ref q_24) (.ref q_26) (.ref q_28) (.ref q_30) (.ref q_32) .null (.int 0) (.int 0) (.int 0) (.int 0) (.int 0) (.int 0) ++ (bI83 k q_1 (fun _ => 0) ++ (w_33)))) rfl dX13_init_538 (fun H locs hP9 hD9 hS9 => ?_)
  clear hP hD hS
  have hP := hP9
  have hD := hD9
  have hS := hS9
  clear hP9 hD9 hS9
  refine lv_dup hx hb dX13_init_539 rfl ?_
  refine lv_bipush (v := 7) hx hb dX13_init_540 (by decide) ?_
  refine lv_bipush (v := 41) hx hb dX13_init_542 (by decide) ?_
  refine ia_st hx hb hK hP hD hS 0 rfl 7 (by omega) (by decide) (bI11 k q_34 (upd (upd (upd (upd (upd (upd (upd (upd (fun _ => 0) 0 0) 1 6) 2 13) 3 18) 4 24) 5 29) 6 36) 7 41) ++ (bO11 k h (.int 0) (.int 0) (.int (-1)) (.int (-1)) (.int 0) (.ref q_1) (.ref q_2) (.ref q_4) (.ref q_6) (.ref q_8) (.ref q_10) (.ref q_12) (.ref q_14) (.ref q_16) (.ref q_18) (.ref q_20) (.ref q_22) (.ref q_24) (.ref q_26) (.ref q_28) (.ref q_30) (.ref q_32) .null (.int 0) (.int 0) (.int 0) (.int 0) (.int 0) (.int 0) ++ (bI83 k q_1 (fun _ => 0) ++ (w_33)))) rfl dX13_init_544 (fun H locs hP9 hD9 hS9 => ?_)
  clear hP hD hS
  have hP := hP9
  have hD := hD9
  have hS := hS9
  clear hP9 hD9 hS9
  refine lv_dup hx hb dX13_init_545 rfl ?_
  refine lv_bipush (v := 8) hx hb dX13_init_546 (by decide) ?_
  refine lv_bipush (v := 48) hx hb dX13_init_548 (by decide) ?_
  refine ia_st hx hb hK hP hD hS 0 rfl 8 (by omega) (by decide) (bI11 k q_34 (upd (upd (upd (upd (upd (upd (upd (upd (upd (fun _ => 0) 0 0) 1 6) 2 13) 3 18) 4 24) 5 29) 6 36) 7 41) 8 48) ++ (bO11 k h (.int 0) (.int 0) (.int (-1)) (.int (-1)) (.int 0) (.ref q_1) (.ref q_2) (.ref q_4) (.ref q_6) (.ref q_8) (.ref q_10) (.ref q_12) (.ref q_14) (.ref q_16) (.ref q_18) (.ref q_20) (.ref q_22) (.ref q_24) (.ref q_26) (.ref q_28) (.ref q_30) (.ref q_32) .null (.int 0) (.int 0) (.int 0) (.int 0) (.int 0) (.int 0) ++ (bI83 k q_1 (fun _ => 0) ++ (w_33)))) rfl dX13_init_550 (fun H locs hP9 hD9 hS9 => ?_)
  clear hP hD hS
  have hP := hP9
  have hD := hD9
  have hS := hS9
  clear hP9 hD9 hS9
  refine lv_dup hx hb dX13_init_551 rfl ?_
  refine lv_bipush (v := 9) hx hb dX13_init_552 (by decide) ?_
  refine lv_bipush (v := 54) hx hb dX13_init_554 (by decide) ?_
  refine ia_st hx hb hK hP hD hS 0 rfl 9 (by omega) (by decide) (bI11 k q_34 (upd (upd (upd (upd (upd (upd (upd (upd (upd (upd (fun _ => 0) 0 0) 1 6) 2 13) 3 18) 4 24) 5 29) 6 36) 7 41) 8 48) 9 54) ++ (bO11 k h (.int 0) (.int 0) (.int (-1)) (.int (-1)) (.int 0) (.ref q_1) (.ref q_2) (.ref q_4) (.ref q_6) (.ref q_8) (.ref q_10) (.ref q_12) (.ref q_14) (.ref q_16) (.ref q_18) (.ref q_20) (.ref q_22) (.ref q_24) (.ref q_26) (.ref q_28) (.ref q_30) (.ref q_32) .null (.int 0) (.int 0) (.int 0) (.int 0) (.int 0) (.int 0) ++ (bI83 k q_1 (fun _ => 0) ++ (w_33)))) rfl dX13_init_556 (fun H locs hP9 hD9 hS9 => ?_)
  clear hP hD hS
  have hP := hP9
  have hD := hD9
  have hS := hS9
  clear hP9 hD9 hS9
  refine lv_dup hx hb dX13_init_557 rfl ?_
  refine lv_bipush (v := 10) hx hb dX13_init_558 (by decide) ?_
  refine lv_bipush (v := 59) hx hb dX13_init_560 (by decide) ?_
  refine ia_st hx hb hK hP hD hS 0 rfl 10 (by omega) (by decide) (bI11 k q_34 (upd (upd (upd (upd (upd (upd (upd (upd (upd (upd (upd (fun _ => 0) 0 0) 1 6) 2 13) 3 18) 4 24) 5 29) 6 36) 7 41) 8 48) 9 54) 10 59) ++ (bO11 k h (.int 0) (.int 0) (.int (-1)) (.int (-1)) (.int 0) (.ref q_1) (.ref q_2) (.ref q_4) (.ref q_6) (.ref q_8) (.ref q_10) (.ref q_12) (.ref q_14) (.ref q_16) (.ref q_18) (.ref q_20) (.ref q_22) (.ref q_24) (.ref q_26) (.ref q_28) (.ref q_30) (.ref q_32) .null (.int 0) (.int 0) (.int 0) (.int 0) (.int 0) (.int 0) ++ (bI83 k q_1 (fun _ => 0) ++ (w_33)))) rfl dX13_init_562 (fun H locs hP9 hD9 hS9 => ?_)
  clear hP hD hS
  have hP := hP9
  have hD := hD9
  have hS := hS9
  clear hP9 hD9 hS9
  obtain ⟨hP, hD⟩ := ext_i hP hD 0 rfl (g := waI) (fun j hj => (by have h9 : ∀ j : Nat, j < 11 → (upd (upd (upd (upd (upd (upd (upd (upd (upd (upd (upd (fun _ => 0) 0 0) 1 6) 2 13) 3 18) 4 24) 5 29) 6 36) 7 41) 8 48) 9 54) 10 59) j = waI j := (by decide +kernel); exact h9 j hj))
  replace hP : va_P D vwCl (bI11 k q_34 waI ++ (bO11 k h (.int 0) (.int 0) (.int (-1)) (.int (-1)) (.int 0) (.ref q_1) (.ref q_2) (.ref q_4) (.ref q_6) (.ref q_8) (.ref q_10) (.ref q_12) (.ref q_14) (.ref q_16) (.ref q_18) (.ref q_20) (.ref q_22) (.ref q_24) (.ref q_26) (.ref q_28) (.ref q_30) (.ref q_32) .null (.int 0) (.int 0) (.int 0) (.int 0) (.int 0) (.int 0) ++ (bI83 k q_1 (fun _ => 0) ++ (w_33)))) H := hP
  replace hD : va_D A (bI11 k q_34 waI ++ (bO11 k h (.int 0) (.int 0) (.int (-1)) (.int (-1)) (.int 0) (.ref q_1) (.ref q_2) (.ref q_4) (.ref q_6) (.ref q_8) (.ref q_10) (.ref q_12) (.ref q_14) (.ref q_16) (.ref q_18) (.ref q_20) (.ref q_22) (.ref q_24) (.ref q_26) (.ref q_28) (.ref q_30) (.ref q_32) .null (.int 0) (.int 0) (.int 0) (.int 0) (.int 0) (.int 0) ++ (bI83 k q_1 (fun _ => 0) ++ (w_33)))) := hD
  refine va_putF (D := D) (ci := 11) (v := .ref q_34) (ty := (.array .int)) (C := RX13) (T := TX13) (N := 29) hx hb hts kc_RX13 tyX13 tyX13_ok nmX13 hown hK hP hD hS 1 rfl rfl 22 (by decide) k_fieldLink_70 (fun _ h9 => h9) rfl (hin rfl) rfl (by decide +kernel) rfl rfl (Nat.le_of_ble_eq_true rfl) dX13_init_563 (fun H locs hP9 hD9 hS9 => ?_)
  clear hP hD hS
  have hP := hP9
  have hD := hD9
  have hS := hS9
  clear hP9 hD9 hS9
  replace hP : va_P D vwCl (bI11 k q_34 waI ++ (bO11 k h (.int 0) (.int 0) (.int (-1)) (.int (-1)) (.int 0) (.ref q_1) (.ref q_2) (.ref q_4) (.ref q_6) (.ref q_8) (.ref q_10) (.ref q_12) (.ref q_14) (.ref q_16) (.ref q_18) (.ref q_20) (.ref q_22) (.ref q_24) (.ref q_26) (.ref q_28) (.ref q_30) (.ref q_32) (.ref q_34) (.int 0) (.int 0) (.int 0) (.int 0) (.int 0) (.int 0) ++ (bI83 k q_1 (fun _ => 0) ++ (w_33)))) H := hP
  replace hD : va_D A (bI11 k q_34 waI ++ (bO11 k h (.int 0) (.int 0) (.int (-1)) (.int (-1)) (.int 0) (.ref q_1) (.ref q_2) (.ref q_4) (.ref q_6) (.ref q_8) (.ref q_10) (.ref q_12) (.ref q_14) (.ref q_16) (.ref q_18) (.ref q_20) (.ref q_22) (.ref q_24) (.ref q_26) (.ref q_28) (.ref q_30) (.ref q_32) (.ref q_34) (.int 0) (.int 0) (.int 0) (.int 0) (.int 0) (.int 0) ++ (bI83 k q_1 (fun _ => 0) ++ (w_33)))) := hD
  replace hP : va_P D vwCl ((bI11 k q_34 waI) ++ (bO11 k h (.int 0) (.int 0) (.int (-1)) (.int (-1)) (.int 0) (.ref q_1) (.ref q_2) (.ref q_4) (.ref q_6) (.ref q_8) (.ref q_10) (.ref q_12) (.ref q_14) (.ref q_16) (.ref q_18) (.ref q_20) (.ref q_22) (.ref q_24) (.ref q_26) (.ref q_28) (.ref q_30) (.ref q_32) (.ref q_34) (.int 0) (.int 0) (.int 0) (.int 0) (.int 0) (.int 0) ++ (bI83 k q_1 (fun _ => 0) ++ (w_33)))) H := hP
  replace hD : va_D A ((bI11 k q_34 waI) ++ (bO11 k h (.int 0) (.int 0) (.int (-1)) (.int (-1)) (.int 0) (.ref q_1) (.ref q_2) (.ref q_4) (.ref q_6) (.ref q_8) (.ref q_10) (.ref q_12) (.ref q_14) (.ref q_16) (.ref q_18) (.ref q_20) (.ref q_22) (.ref q_24) (.ref q_26) (.ref q_28) (.ref q_30) (.ref q_32) (.ref q_34) (.int 0) (.int 0) (.int 0) (.int 0) (.int 0) (.int 0) ++ (bI83 k q_1 (fun _ => 0) ++ (w_33)))) := hD
  replace hP := l_swP hP
  replace hD := l_swD hD
  replace hP : va_P D vwCl (bO11 k h (.int 0) (.int 0) (.int (-1)) (.int (-1)) (.int 0) (.ref q_1) (.ref q_2) (.ref q_4) (.ref q_6) (.ref q_8) (.ref q_10) (.ref q_12) (.ref q_14) (.ref q_16) (.ref q_18) (.ref q_20) (.ref q_22) (.ref q_24) (.ref q_26) (.ref q_28) (.ref q_30) (.ref q_32) (.ref q_34) (.int 0) (.int 0) (.int 0) (.int 0) (.int 0) (.int 0) ++ (bI83 k q_1 (fun _ => 0) ++ ((bI11 k q_34 waI) ++ w_33))) H := vP_perm hP (List.Perm.append_left _ l_sw)
  replace hD : va_D A (bO11 k h (.int 0) (.int 0) (.int (-1)) (.int (-1)) (.int 0) (.ref q_1) (.ref q_2) (.ref q_4) (.ref q_6) (.ref q_8) (.ref q_10) (.ref q_12) (.ref q_14) (.ref q_16) (.ref q_18) (.ref q_20) (.ref q_22) (.ref q_24) (.ref q_26) (.ref q_28) (.ref q_30) (.ref q_32) (.ref q_34) (.int 0) (.int 0) (.int 0) (.int 0) (.int 0) (.int 0) ++ (bI83 k q_1 (fun _ => 0) ++ ((bI11 k q_34 waI) ++ w_33))) := vD_perm hD (List.Perm.append_left _ l_sw)
  obtain ⟨w_35, hw_35⟩ : ∃ z : va_W, (bI11 k q_34 waI) ++ w_33 = z := ⟨_, rfl⟩
  rw [hw_35] at hP hD
  replace hP : va_P D vwCl (bO11 k h (.int 0) (.int 0) (.int (-1)) (.int (-1)) (.int 0) (.ref q_1) (.ref q_2) (.ref q_4) (.ref q_6) (.ref q_8) (.ref q_10) (.ref q_12) (.ref q_14) (.ref q_16) (.ref q_18) (.ref q_20) (.ref q_22) (.ref q_24) (.ref q_26) (.ref q_28) (.ref q_30) (.ref q_32) (.ref q_34) (.int 0) (.int 0) (.int 0) (.int 0) (.int 0) (.int 0) ++ (bI83 k q_1 (fun _ => 0) ++ (w_35))) H := hP
  replace hD : va_D A (bO11 k h (.int 0) (.int 0) (.int (-1)) (.int (-1)) (.int 0) (.ref q_1) (.ref q_2) (.ref q_4) (.ref q_6) (.ref q_8) (.ref q_10) (.ref q_12) (.ref q_14) (.ref q_16) (.ref q_18) (.ref q_20) (.ref q_22) (.ref q_24) (.ref q_26) (.ref q_28) (.ref q_30) (.ref q_32) (.ref q_34) (.int 0) (.int 0) (.int 0) (.int 0) (.int 0) (.int 0) ++ (bI83 k q_1 (fun _ => 0) ++ (w_35))) := hD
  refine lv_aload_n hx hb dX13_init_566 rfl (lv_at hl 0 rfl) ?_
  refine va_get (D := D) (ci := 11) (v := .ref q_1) (C := RX13) (T := TX13) (N := 29) hx hb hts kc_RX13 hown hK hP 0 rfl rfl 5 (by decide) k_fieldLink_16 (fun _ h9 => h9) rfl dX13_init_567 ?_
  refine lv_iconst (v := 1) hx hb dX13_init_570 (by decide) ?_
  refine lv_sipush (v := 1000) hx hb dX13_init_571 (by decide) ?_
  refine ia_st hx hb hK hP hD hS 1 rfl 1 (by omega) (by decide) (bO11 k h (.int 0) (.int 0) (.int (-1)) (.int (-1)) (.int 0) (.ref q_1) (.ref q_2) (.ref q_4) (.ref q_6) (.ref q_8) (.ref q_10) (.ref q_12) (.ref q_14) (.ref q_16) (.ref q_18) (.ref q_20) (.ref q_22) (.ref q_24) (.ref q_26) (.ref q_28) (.ref q_30) (.ref q_32) (.ref q_34) (.int 0) (.int 0) (.int 0) (.int 0) (.int 0) (.int 0) ++ (bI83 k q_1 (upd (fun _ => 0) 1 1000) ++ (w_35))) rfl dX13_init_574 (fun H locs hP9 hD9 hS9 => ?_)
  clear hP hD hS
  have hP := hP9
  have hD := hD9
  have hS := hS9
  clear hP9 hD9 hS9
  refine lv_iconst (v := 0) hx hb dX13_init_575 (by decide) ?_
  refine lv_istore_n (lv' := [(1, .int 0), (0, .ref h)]) hx hb dX13_init_576 rfl hl (by decide) rfl (fun ls hl => ?_)
  refine lv_iload_n hx hb dX13_init_577 rfl (lv_at hl 0 rfl) ?_
  refine lv_iconst (v := 4) hx hb dX13_init_578 (by decide) ?_
  refine lv_icmp_ge (tgt := 600) hx hb dX13_init_579 (by decide) (fun c_36 => ?_) (fun c_36 => ?_)
  · first | exact absurd c_36 (by decide) | exact absurd (by decide) c_36
  · skip
    refine lv_aload_n hx hb dX13_init_582 rfl (lv_at hl 1 rfl) ?_
    refine va_get (D := D) (ci := 11) (v := .ref q_1) (C := RX13) (T := TX13) (N := 29) hx hb hts kc_RX13 hown hK hP 0 rfl rfl 5 (by decide) k_fieldLink_16 (fun _ h9 => h9) rfl dX13_init_583 ?_
    refine lv_iload_n hx hb dX13_init_586 rfl (lv_at hl 0 rfl) ?_
    refine lv_iconst (v := 0) hx hb dX13_init_587 (by decide) ?_
    refine vp_callSi (W.runS (As := [.int 0, .int 0]) (rest := [.ref q_1]) hF (m_X13_rackAt l9 D k 0 0 ) (va_cwS 2 hts gX13_init_X13_rackAt rfl rfl rfl (by decide +kernel) ⟨Nat.le_of_ble_eq_true rfl, Nat.le_of_ble_eq_true rfl⟩) (rPreS hK hN hP [] rfl) rfl rfl hl.1 rfl (lv_room (Nat.le_of_ble_eq_true rfl)) dX13_init_588 ⟨Nat.le_of_ble_eq_true rfl, Nat.le_of_ble_eq_true rfl⟩) (fun r_37 hr_37 => ?_)
    subst hr_37
    refine lv_bipush (v := 97) hx hb dX13_init_591 (by decide) ?_
    refine ia_st hx hb hK hP hD hS 1 rfl (35 + 4 * 0 + 0) (by omega) (by decide) (bO11 k h (.int 0) (.int 0) (.int (-1)) (.int (-1)) (.int 0) (.ref q_1) (.ref q_2) (.ref q_4) (.ref q_6) (.ref q_8) (.ref q_10) (.ref q_12) (.ref q_14) (.ref q_16) (.ref q_18) (.ref q_20) (.ref q_22) (.ref q_24) (.ref q_26) (.ref q_28) (.ref q_30) (.ref q_32) (.ref q_34) (.int 0) (.int 0) (.int 0) (.int 0) (.int 0) (.int 0) ++ (bI83 k q_1 (upd (upd (fun _ => 0) 1 1000) (35 + 4 * 0 + 0) 97) ++ (w_35))) rfl dX13_init_593 (fun H locs hP9 hD9 hS9 => ?_)
    clear hP hD hS
    have hP := hP9
    have hD := hD9
    have hS := hS9
    clear hP9 hD9 hS9
    refine lv_iinc (v := 1) (lv' := [(1, .int 1), (0, .ref h)]) hx hb dX13_init_594 hl (k := 0) rfl (by decide) (by decide) rfl (fun ls hl => ?_)
    refine lv_goto (tgt := 577) hx hb dX13_init_597 (by decide) ?_
    refine lv_iload_n hx hb dX13_init_577 rfl (lv_at hl 0 rfl) ?_
    refine lv_iconst (v := 4) hx hb dX13_init_578 (by decide) ?_
    refine lv_icmp_ge (tgt := 600) hx hb dX13_init_579 (by decide) (fun c_38 => ?_) (fun c_38 => ?_)
    · first | exact absurd c_38 (by decide) | exact absurd (by decide) c_38
    · skip
      refine lv_aload_n hx hb dX13_init_582 rfl (lv_at hl 1 rfl) ?_
      refine va_get (D := D) (ci := 11) (v := .ref q_1) (C := RX13) (T := TX13) (N := 29) hx hb hts kc_RX13 hown hK hP 0 rfl rfl 5 (by decide) k_fieldLink_16 (fun _ h9 => h9) rfl dX13_init_583 ?_
      refine lv_iload_n hx hb dX13_init_586 rfl (lv_at hl 0 rfl) ?_
      refine lv_iconst (v := 0) hx hb dX13_init_587 (by decide) ?_
      refine vp_callSi (W.runS (As := [.int 1, .int 0]) (rest := [.ref q_1]) hF (m_X13_rackAt l9 D k 1 0 ) (va_cwS 2 hts gX13_init_X13_rackAt rfl rfl rfl (by decide +kernel) ⟨Nat.le_of_ble_eq_true rfl, Nat.le_of_ble_eq_true rfl⟩) (rPreS hK hN hP [] rfl) rfl rfl hl.1 rfl (lv_room (Nat.le_of_ble_eq_true rfl)) dX13_init_588 ⟨Nat.le_of_ble_eq_true rfl, Nat.le_of_ble_eq_true rfl⟩) (fun r_39 hr_39 => ?_)
      subst hr_39
      refine lv_bipush (v := 97) hx hb dX13_init_591 (by decide) ?_
      refine ia_st hx hb hK hP hD hS 1 rfl (35 + 4 * 1 + 0) (by omega) (by decide) (bO11 k h (.int 0) (.int 0) (.int (-1)) (.int (-1)) (.int 0) (.ref q_1) (.ref q_2) (.ref q_4) (.ref q_6) (.ref q_8) (.ref q_10) (.ref q_12) (.ref q_14) (.ref q_16) (.ref q_18) (.ref q_20) (.ref q_22) (.ref q_24) (.ref q_26) (.ref q_28) (.ref q_30) (.ref q_32) (.ref q_34) (.int 0) (.int 0) (.int 0) (.int 0) (.int 0) (.int 0) ++ (bI83 k q_1 (upd (upd (upd (fun _ => 0) 1 1000) (35 + 4 * 0 + 0) 97) (35 + 4 * 1 + 0) 97) ++ (w_35))) rfl dX13_init_593 (fun H locs hP9 hD9 hS9 => ?_)
      clear hP hD hS
      have hP := hP9
      have hD := hD9
      have hS := hS9
      clear hP9 hD9 hS9
      refine lv_iinc (v := 2) (lv' := [(1, .int 2), (0, .ref h)]) hx hb dX13_init_594 hl (k := 0) rfl (by decide) (by decide) rfl (fun ls hl => ?_)
      refine lv_goto (tgt := 577) hx hb dX13_init_597 (by decide) ?_
      refine lv_iload_n hx hb dX13_init_577 rfl (lv_at hl 0 rfl) ?_
      refine lv_iconst (v := 4) hx hb dX13_init_578 (by decide) ?_
      refine lv_icmp_ge (tgt := 600) hx hb dX13_init_579 (by decide) (fun c_40 => ?_) (fun c_40 => ?_)
      · first | exact absurd c_40 (by decide) | exact absurd (by decide) c_40
      · skip
        refine lv_aload_n hx hb dX13_init_582 rfl (lv_at hl 1 rfl) ?_
        refine va_get (D := D) (ci := 11) (v := .ref q_1) (C := RX13) (T := TX13) (N := 29) hx hb hts kc_RX13 hown hK hP 0 rfl rfl 5 (by decide) k_fieldLink_16 (fun _ h9 => h9) rfl dX13_init_583 ?_
        refine lv_iload_n hx hb dX13_init_586 rfl (lv_at hl 0 rfl) ?_
        refine lv_iconst (v := 0) hx hb dX13_init_587 (by decide) ?_
        refine vp_callSi (W.runS (As := [.int 2, .int 0]) (rest := [.ref q_1]) hF (m_X13_rackAt l9 D k 2 0 ) (va_cwS 2 hts gX13_init_X13_rackAt rfl rfl rfl (by decide +kernel) ⟨Nat.le_of_ble_eq_true rfl, Nat.le_of_ble_eq_true rfl⟩) (rPreS hK hN hP [] rfl) rfl rfl hl.1 rfl (lv_room (Nat.le_of_ble_eq_true rfl)) dX13_init_588 ⟨Nat.le_of_ble_eq_true rfl, Nat.le_of_ble_eq_true rfl⟩) (fun r_41 hr_41 => ?_)
        subst hr_41
        refine lv_bipush (v := 97) hx hb dX13_init_591 (by decide) ?_
        refine ia_st hx hb hK hP hD hS 1 rfl (35 + 4 * 2 + 0) (by omega) (by decide) (bO11 k h (.int 0) (.int 0) (.int (-1)) (.int (-1)) (.int 0) (.ref q_1) (.ref q_2) (.ref q_4) (.ref q_6) (.ref q_8) (.ref q_10) (.ref q_12) (.ref q_14) (.ref q_16) (.ref q_18) (.ref q_20) (.ref q_22) (.ref q_24) (.ref q_26) (.ref q_28) (.ref q_30) (.ref q_32) (.ref q_34) (.int 0) (.int 0) (.int 0) (.int 0) (.int 0) (.int 0) ++ (bI83 k q_1 (upd (upd (upd (upd (fun _ => 0) 1 1000) (35 + 4 * 0 + 0) 97) (35 + 4 * 1 + 0) 97) (35 + 4 * 2 + 0) 97) ++ (w_35))) rfl dX13_init_593 (fun H locs hP9 hD9 hS9 => ?_)
        clear hP hD hS
        have hP := hP9
        have hD := hD9
        have hS := hS9
        clear hP9 hD9 hS9
        refine lv_iinc (v := 3) (lv' := [(1, .int 3), (0, .ref h)]) hx hb dX13_init_594 hl (k := 0) rfl (by decide) (by decide) rfl (fun ls hl => ?_)
        refine lv_goto (tgt := 577) hx hb dX13_init_597 (by decide) ?_
        refine lv_iload_n hx hb dX13_init_577 rfl (lv_at hl 0 rfl) ?_
        refine lv_iconst (v := 4) hx hb dX13_init_578 (by decide) ?_
        refine lv_icmp_ge (tgt := 600) hx hb dX13_init_579 (by decide) (fun c_42 => ?_) (fun c_42 => ?_)
        · first | exact absurd c_42 (by decide) | exact absurd (by decide) c_42
        · skip
          refine lv_aload_n hx hb dX13_init_582 rfl (lv_at hl 1 rfl) ?_
          refine va_get (D := D) (ci := 11) (v := .ref q_1) (C := RX13) (T := TX13) (N := 29) hx hb hts kc_RX13 hown hK hP 0 rfl rfl 5 (by decide) k_fieldLink_16 (fun _ h9 => h9) rfl dX13_init_583 ?_
          refine lv_iload_n hx hb dX13_init_586 rfl (lv_at hl 0 rfl) ?_
          refine lv_iconst (v := 0) hx hb dX13_init_587 (by decide) ?_
          refine vp_callSi (W.runS (As := [.int 3, .int 0]) (rest := [.ref q_1]) hF (m_X13_rackAt l9 D k 3 0 ) (va_cwS 2 hts gX13_init_X13_rackAt rfl rfl rfl (by decide +kernel) ⟨Nat.le_of_ble_eq_true rfl, Nat.le_of_ble_eq_true rfl⟩) (rPreS hK hN hP [] rfl) rfl rfl hl.1 rfl (lv_room (Nat.le_of_ble_eq_true rfl)) dX13_init_588 ⟨Nat.le_of_ble_eq_true rfl, Nat.le_of_ble_eq_true rfl⟩) (fun r_43 hr_43 => ?_)
          subst hr_43
          refine lv_bipush (v := 97) hx hb dX13_init_591 (by decide) ?_
          refine ia_st hx hb hK hP hD hS 1 rfl (35 + 4 * 3 + 0) (by omega) (by decide) (bO11 k h (.int 0) (.int 0) (.int (-1)) (.int (-1)) (.int 0) (.ref q_1) (.ref q_2) (.ref q_4) (.ref q_6) (.ref q_8) (.ref q_10) (.ref q_12) (.ref q_14) (.ref q_16) (.ref q_18) (.ref q_20) (.ref q_22) (.ref q_24) (.ref q_26) (.ref q_28) (.ref q_30) (.ref q_32) (.ref q_34) (.int 0) (.int 0) (.int 0) (.int 0) (.int 0) (.int 0) ++ (bI83 k q_1 (upd (upd (upd (upd (upd (fun _ => 0) 1 1000) (35 + 4 * 0 + 0) 97) (35 + 4 * 1 + 0) 97) (35 + 4 * 2 + 0) 97) (35 + 4 * 3 + 0) 97) ++ (w_35))) rfl dX13_init_593 (fun H locs hP9 hD9 hS9 => ?_)
          clear hP hD hS
          have hP := hP9
          have hD := hD9
          have hS := hS9
          clear hP9 hD9 hS9
          refine lv_iinc (v := 4) (lv' := [(1, .int 4), (0, .ref h)]) hx hb dX13_init_594 hl (k := 0) rfl (by decide) (by decide) rfl (fun ls hl => ?_)
          refine lv_goto (tgt := 577) hx hb dX13_init_597 (by decide) ?_
          refine lv_iload_n hx hb dX13_init_577 rfl (lv_at hl 0 rfl) ?_
          refine lv_iconst (v := 4) hx hb dX13_init_578 (by decide) ?_
          refine lv_icmp_ge (tgt := 600) hx hb dX13_init_579 (by decide) (fun c_44 => ?_) (fun c_44 => ?_)
          · skip
            subst hw_35
            subst hw_33
            subst hw_31
            subst hw_29
            subst hw_27
            subst hw_25
            subst hw_23
            subst hw_21
            subst hw_19
            subst hw_17
            subst hw_15
            subst hw_13
            subst hw_11
            subst hw_9
            subst hw_7
            subst hw_5
            subst hw_3
            have pm9 : List.Perm (bO11 k h (.int 0) (.int 0) (.int (-1)) (.int (-1)) (.int 0) (.ref q_1) (.ref q_2) (.ref q_4) (.ref q_6) (.ref q_8) (.ref q_10) (.ref q_12) (.ref q_14) (.ref q_16) (.ref q_18) (.ref q_20) (.ref q_22) (.ref q_24) (.ref q_26) (.ref q_28) (.ref q_30) (.ref q_32) (.ref q_34) (.int 0) (.int 0) (.int 0) (.int 0) (.int 0) (.int 0) ++ (bI83 k q_1 (upd (upd (upd (upd (upd (fun _ => 0) 1 1000) (35 + 4 * 0 + 0) 97) (35 + 4 * 1 + 0) 97) (35 + 4 * 2 + 0) 97) (35 + 4 * 3 + 0) 97) ++ (bI11 k q_34 waI ++ (bI59 k q_32 wdK ++ (bI10 k q_30 (fun _ => 0) ++ (bI24 k q_28 (fun _ => 0) ++ (bI60 k q_26 (fun _ => 0) ++ (bL10 k q_24 (fun _ => 0) ++ (bL10 k q_22 (fun _ => 0) ++ (bF10 k q_20 (fun _ => FP.fconst0) ++ (bF10 k q_18 (fun _ => FP.fconst0) ++ (bF80 k q_16 (fun _ => FP.fconst0) ++ (bF10 k q_14 (fun _ => FP.fconst0) ++ (bF10 k q_12 (fun _ => FP.fconst0) ++ (bF10 k q_10 (fun _ => FP.fconst0) ++ (bI10 k q_8 (fun _ => 0) ++ (bI664 k q_6 (fun _ => 0) ++ (bI83 k q_4 (fun _ => 0) ++ (bI83 k q_2 (fun _ => 0) ++ (([] : va_W))))))))))))))))))))) (bO11 k h (.int 0) (.int 0) (.int (-1)) (.int (-1)) (.int 0) (.ref q_1) (.ref q_2) (.ref q_4) (.ref q_6) (.ref q_8) (.ref q_10) (.ref q_12) (.ref q_14) (.ref q_16) (.ref q_18) (.ref q_20) (.ref q_22) (.ref q_24) (.ref q_26) (.ref q_28) (.ref q_30) (.ref q_32) (.ref q_34) (.int 0) (.int 0) (.int 0) (.int 0) (.int 0) (.int 0) ++ bI83 k q_1 (upd (upd (upd (upd (upd (fun _ => 0) 1 1000) (35 + 4 * 0 + 0) 97) (35 + 4 * 1 + 0) 97) (35 + 4 * 2 + 0) 97) (35 + 4 * 3 + 0) 97) ++ bI83 k q_2 (fun _ => 0) ++ bI83 k q_4 (fun _ => 0) ++ bI664 k q_6 (fun _ => 0) ++ bI10 k q_8 (fun _ => 0) ++ bF10 k q_10 (fun _ => FP.fconst0) ++ bF10 k q_12 (fun _ => FP.fconst0) ++ bF10 k q_14 (fun _ => FP.fconst0) ++ bF80 k q_16 (fun _ => FP.fconst0) ++ bF10 k q_18 (fun _ => FP.fconst0) ++ bF10 k q_20 (fun _ => FP.fconst0) ++ bL10 k q_22 (fun _ => 0) ++ bL10 k q_24 (fun _ => 0) ++ bI60 k q_26 (fun _ => 0) ++ bI24 k q_28 (fun _ => 0) ++ bI10 k q_30 (fun _ => 0) ++ bI59 k q_32 wdK ++ bI11 k q_34 waI) := (catB_to [bO11 k h (.int 0) (.int 0) (.int (-1)) (.int (-1)) (.int 0) (.ref q_1) (.ref q_2) (.ref q_4) (.ref q_6) (.ref q_8) (.ref q_10) (.ref q_12) (.ref q_14) (.ref q_16) (.ref q_18) (.ref q_20) (.ref q_22) (.ref q_24) (.ref q_26) (.ref q_28) (.ref q_30) (.ref q_32) (.ref q_34) (.int 0) (.int 0) (.int 0) (.int 0) (.int 0) (.int 0), bI83 k q_1 (upd (upd (upd (upd (upd (fun _ => 0) 1 1000) (35 + 4 * 0 + 0) 97) (35 + 4 * 1 + 0) 97) (35 + 4 * 2 + 0) 97) (35 + 4 * 3 + 0) 97), bI11 k q_34 waI, bI59 k q_32 wdK, bI10 k q_30 (fun _ => 0), bI24 k q_28 (fun _ => 0), bI60 k q_26 (fun _ => 0), bL10 k q_24 (fun _ => 0), bL10 k q_22 (fun _ => 0), bF10 k q_20 (fun _ => FP.fconst0), bF10 k q_18 (fun _ => FP.fconst0), bF80 k q_16 (fun _ => FP.fconst0), bF10 k q_14 (fun _ => FP.fconst0), bF10 k q_12 (fun _ => FP.fconst0), bF10 k q_10 (fun _ => FP.fconst0), bI10 k q_8 (fun _ => 0), bI664 k q_6 (fun _ => 0), bI83 k q_4 (fun _ => 0), bI83 k q_2 (fun _ => 0)] [bO11 k h (.int 0) (.int 0) (.int (-1)) (.int (-1)) (.int 0) (.ref q_1) (.ref q_2) (.ref q_4) (.ref q_6) (.ref q_8) (.ref q_10) (.ref q_12) (.ref q_14) (.ref q_16) (.ref q_18) (.ref q_20) (.ref q_22) (.ref q_24) (.ref q_26) (.ref q_28) (.ref q_30) (.ref q_32) (.ref q_34) (.int 0) (.int 0) (.int 0) (.int 0) (.int 0) (.int 0), bI83 k q_1 (upd (upd (upd (upd (upd (fun _ => 0) 1 1000) (35 + 4 * 0 + 0) 97) (35 + 4 * 1 + 0) 97) (35 + 4 * 2 + 0) 97) (35 + 4 * 3 + 0) 97), bI83 k q_2 (fun _ => 0), bI83 k q_4 (fun _ => 0), bI664 k q_6 (fun _ => 0), bI10 k q_8 (fun _ => 0), bF10 k q_10 (fun _ => FP.fconst0), bF10 k q_12 (fun _ => FP.fconst0), bF10 k q_14 (fun _ => FP.fconst0), bF80 k q_16 (fun _ => FP.fconst0), bF10 k q_18 (fun _ => FP.fconst0), bF10 k q_20 (fun _ => FP.fconst0), bL10 k q_22 (fun _ => 0), bL10 k q_24 (fun _ => 0), bI60 k q_26 (fun _ => 0), bI24 k q_28 (fun _ => 0), bI10 k q_30 (fun _ => 0), bI59 k q_32 wdK, bI11 k q_34 waI] [0, 1, 18, 17, 16, 15, 14, 13, 12, 11, 10, 9, 8, 7, 6, 5, 4, 3, 2] 19 (by decide) rfl rfl (by simp only [catB, List.append_assoc, List.append_nil]) (by simp only [catB, List.append_assoc, List.append_nil]))
            replace hP := vP_perm hP pm9
            replace hD := vD_perm hD pm9
            clear pm9
            replace hP : va_P D vwCl (bO11 k h (.int 0) (.int 0) (.int (-1)) (.int (-1)) (.int 0) (.ref q_1) (.ref q_2) (.ref q_4) (.ref q_6) (.ref q_8) (.ref q_10) (.ref q_12) (.ref q_14) (.ref q_16) (.ref q_18) (.ref q_20) (.ref q_22) (.ref q_24) (.ref q_26) (.ref q_28) (.ref q_30) (.ref q_32) (.ref q_34) (.int 0) (.int 0) (.int 0) (.int 0) (.int 0) (.int 0) ++ bI83 k q_1 (upd (upd (upd (upd (upd (fun _ => 0) 1 1000) (35 + 4 * 0 + 0) 97) (35 + 4 * 1 + 0) 97) (35 + 4 * 2 + 0) 97) (35 + 4 * 3 + 0) 97) ++ bI83 k q_2 (fun _ => 0) ++ bI83 k q_4 (fun _ => 0) ++ bI664 k q_6 (fun _ => 0) ++ bI10 k q_8 (fun _ => 0) ++ bF10 k q_10 (fun _ => FP.fconst0) ++ bF10 k q_12 (fun _ => FP.fconst0) ++ bF10 k q_14 (fun _ => FP.fconst0) ++ bF80 k q_16 (fun _ => FP.fconst0) ++ bF10 k q_18 (fun _ => FP.fconst0) ++ bF10 k q_20 (fun _ => FP.fconst0) ++ bL10 k q_22 (fun _ => 0) ++ bL10 k q_24 (fun _ => 0) ++ bI60 k q_26 (fun _ => 0) ++ bI24 k q_28 (fun _ => 0) ++ bI10 k q_30 (fun _ => 0) ++ bI59 k q_32 wdK ++ bI11 k q_34 waI) H := hP
            replace hD : va_D A (bO11 k h (.int 0) (.int 0) (.int (-1)) (.int (-1)) (.int 0) (.ref q_1) (.ref q_2) (.ref q_4) (.ref q_6) (.ref q_8) (.ref q_10) (.ref q_12) (.ref q_14) (.ref q_16) (.ref q_18) (.ref q_20) (.ref q_22) (.ref q_24) (.ref q_26) (.ref q_28) (.ref q_30) (.ref q_32) (.ref q_34) (.int 0) (.int 0) (.int 0) (.int 0) (.int 0) (.int 0) ++ bI83 k q_1 (upd (upd (upd (upd (upd (fun _ => 0) 1 1000) (35 + 4 * 0 + 0) 97) (35 + 4 * 1 + 0) 97) (35 + 4 * 2 + 0) 97) (35 + 4 * 3 + 0) 97) ++ bI83 k q_2 (fun _ => 0) ++ bI83 k q_4 (fun _ => 0) ++ bI664 k q_6 (fun _ => 0) ++ bI10 k q_8 (fun _ => 0) ++ bF10 k q_10 (fun _ => FP.fconst0) ++ bF10 k q_12 (fun _ => FP.fconst0) ++ bF10 k q_14 (fun _ => FP.fconst0) ++ bF80 k q_16 (fun _ => FP.fconst0) ++ bF10 k q_18 (fun _ => FP.fconst0) ++ bF10 k q_20 (fun _ => FP.fconst0) ++ bL10 k q_22 (fun _ => 0) ++ bL10 k q_24 (fun _ => 0) ++ bI60 k q_26 (fun _ => 0) ++ bI24 k q_28 (fun _ => 0) ++ bI10 k q_30 (fun _ => 0) ++ bI59 k q_32 wdK ++ bI11 k q_34 waI) := hD
            replace hP : va_P D vwCl ((fun u9 : Nat → Nat => bMO k u9 0 (-1) (-1) 0 0 0 0 0 false false false ++ bI83 k (u9 1) v0M ++ bI83 k (u9 2) (fun _ => 0) ++ bI83 k (u9 3) (fun _ => 0) ++ bI664 k (u9 4) (fun _ => 0) ++ bI10 k (u9 5) (fun _ => 0) ++ bF10 k (u9 6) (fun _ => FP.fconst0) ++ bF10 k (u9 7) (fun _ => FP.fconst0) ++ bF10 k (u9 8) (fun _ => FP.fconst0) ++ bF80 k (u9 9) (fun _ => FP.fconst0) ++ bF10 k (u9 10) (fun _ => FP.fconst0) ++ bF10 k (u9 11) (fun _ => FP.fconst0) ++ bL10 k (u9 12) (fun _ => 0) ++ bL10 k (u9 13) (fun _ => 0) ++ bI60 k (u9 14) (fun _ => 0) ++ bI24 k (u9 15) (fun _ => 0) ++ bI10 k (u9 16) (fun _ => 0) ++ bI59 k (u9 17) wdK ++ bI11 k (u9 18) waI) (ad [h, q_1, q_2, q_4, q_6, q_8, q_10, q_12, q_14, q_16, q_18, q_20, q_22, q_24, q_26, q_28, q_30, q_32, q_34])) H := hP
            replace hD : va_D A ((fun u9 : Nat → Nat => bMO k u9 0 (-1) (-1) 0 0 0 0 0 false false false ++ bI83 k (u9 1) v0M ++ bI83 k (u9 2) (fun _ => 0) ++ bI83 k (u9 3) (fun _ => 0) ++ bI664 k (u9 4) (fun _ => 0) ++ bI10 k (u9 5) (fun _ => 0) ++ bF10 k (u9 6) (fun _ => FP.fconst0) ++ bF10 k (u9 7) (fun _ => FP.fconst0) ++ bF10 k (u9 8) (fun _ => FP.fconst0) ++ bF80 k (u9 9) (fun _ => FP.fconst0) ++ bF10 k (u9 10) (fun _ => FP.fconst0) ++ bF10 k (u9 11) (fun _ => FP.fconst0) ++ bL10 k (u9 12) (fun _ => 0) ++ bL10 k (u9 13) (fun _ => 0) ++ bI60 k (u9 14) (fun _ => 0) ++ bI24 k (u9 15) (fun _ => 0) ++ bI10 k (u9 16) (fun _ => 0) ++ bI59 k (u9 17) wdK ++ bI11 k (u9 18) waI) (ad [h, q_1, q_2, q_4, q_6, q_8, q_10, q_12, q_14, q_16, q_18, q_20, q_22, q_24, q_26, q_28, q_30, q_32, q_34])) := hD
            refine W.widen (k := 18) (n := 1237) (Nat.le_of_ble_eq_true rfl) (Nat.le_of_ble_eq_true rfl) ?_
            exact W.vret hx hb hr (fun t9 ht hW => ⟨⟨ad [h, q_1, q_2, q_4, q_6, q_8, q_10, q_12, q_14, q_16, q_18, q_20, q_22, q_24, q_26, q_28, q_30, q_32, q_34], rfl, rfl, ⟨by rw [ht]; exact hP, va_K.moved hW.alike hK, hD⟩⟩, hS.F ht⟩) hS.2.2 dX13_init_600 hlocks
          · first | exact absurd c_44 (by decide) | exact absurd (by decide) c_44

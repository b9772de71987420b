/-! A command. -/
set_option maxHeartbeats 20000000 in
set_option maxRecDepth 100000 in
theorem m_X13_command_8 (l9 : Launch) (D : va_G) (k : Nat → ClassId) (sz : Nat) (q : Nat → Nat) (th ea fa : Int32) (ch tn he en ln : Nat) (sv wr dg : Bool) (tx lf v : Nat → Int32) (fl nx : Nat → UInt32) (h1 : Nat) (hen : en ≤ 60) (hhe : he ≤ en) (hok : okV v fl) (hw1 : (wdS tx en he).1 = h1) (hw2 : (wdS tx en he).2.1 = false) (hw3 : (wdS tx en he).2.2 = nI 8) : Met l9 yX13_command wsX13_command ({ frames := 5, cells := 0, slots := 0, locals := 114 }) (WPc D k [.ref (q 0)] (bMO k q th ea fa ch tn he en ln sv false dg ++ bI60 k (q 14) tx ++ bI10 k (q 16) lf ++ bI59 k (q 17) wdK ++ bI11 k (q 18) waI ++ bI83 k (q 1) v ++ bF10 k (q 6) fl ++ bF10 k (q 10) nx) sz) (WV D k (bMO k q ((cmX tx en he dg th v fl nx).1) ea fa ch tn ((cmP tx en he).1) en ln sv ((cmP tx en he).2.1) dg ++ bI60 k (q 14) tx ++ bI10 k (q 16) (lfZ tx en he) ++ bI59 k (q 17) wdK ++ bI11 k (q 18) waI ++ bI83 k (q 1) ((cmX tx en he dg th v fl nx).2.1) ++ bF10 k (q 6) ((cmX tx en he dg th v fl nx).2.2.1) ++ bF10 k (q 10) ((cmX tx en he dg th v fl nx).2.2.2)) (va_A (bMO k q th ea fa ch tn he en ln sv false dg ++ bI60 k (q 14) tx ++ bI10 k (q 16) lf ++ bI59 k (q 17) wdK ++ bI11 k (q 18) waI ++ bI83 k (q 1) v ++ bF10 k (q 6) fl ++ bF10 k (q 10) nx) sz)) 0 0 (va_A (bMO k q th ea fa ch tn he en ln sv false dg ++ bI60 k (q 14) tx ++ bI10 k (q 16) lf ++ bI59 k (q 17) wdK ++ bI11 k (q 18) waI ++ bI83 k (q 1) v ++ bF10 k (q 6) fl ++ bF10 k (q 10) nx) sz) := by
  have hhw : h1 ≤ en := by rw [← hw1]; exact wdS_le tx hhe
  refine wMet (y := yX13_command) (cc := cX13_command) (maxL := 6) (ret := none) (Qc := fun A => WV D k (bMO k q ((cmX tx en he dg th v fl nx).1) ea fa ch tn ((cmP tx en he).1) en ln sv ((cmP tx en he).2.1) dg ++ bI60 k (q 14) tx ++ bI10 k (q 16) (lfZ tx en he) ++ bI59 k (q 17) wdK ++ bI11 k (q 18) waI ++ bI83 k (q 1) ((cmX tx en he dg th v fl nx).2.1) ++ bF10 k (q 6) ((cmX tx en he dg th v fl nx).2.2.1) ++ bF10 k (q 10) ((cmX tx en he dg th v fl nx).2.2.2)) A) [.ref (q 0)] (by decide) rfl (Nat.le_of_ble_eq_true rfl) ?_
  intro p9 e9 s9 m9 bl9 me9 c9 ls A H hF hr hlocks hP hK hN hD hA hS hl hin
  have hl : lv_has ls 6 [(0, .ref (q 0))] := hl
  obtain ⟨hx, hb, hml, hown, hts⟩ := id hF
  have k_fieldLink_238 : (Cond.fieldLink RX13 238 "OpinionReactorModel" "isWrong" "Z").before _ s9 = true := hts (.fieldLink RX13 238 "OpinionReactorModel" "isWrong" "Z") (by decide +kernel)
  have kc_RX13 : ∀ w ∈ u_ws RX13 TX13 29, w ∈ wsX13_command := by decide +kernel
  have k_fieldLink_261 : (Cond.fieldLink RX13 261 "OpinionReactorModel" "isDoing" "Z").before _ s9 = true := hts (.fieldLink RX13 261 "OpinionReactorModel" "isDoing" "Z") (by decide +kernel)
  refine lv_aload_n hx hb dX13_command_0 rfl (lv_at hl 0 rfl) ?_
  have hq9 := mp_of (ws := bMO k q th ea fa ch tn he en ln sv false dg ++ bI60 k (q 14) tx ++ bI10 k (q 16) lf ++ bI59 k (q 17) wdK ++ bI11 k (q 18) waI ++ bI83 k (q 1) v ++ bF10 k (q 6) fl ++ bF10 k (q 10) nx) (wc := bMO k q th ea fa ch tn he en ln sv false dg ++ bI60 k (q 14) tx ++ bI10 k (q 16) lf ++ bI59 k (q 17) wdK ++ bI11 k (q 18) waI) (is := [0, 1, 2, 3, 4]) rfl
  have hFc := va_free (wc := bMO k q th ea fa ch tn he en ln sv false dg ++ bI60 k (q 14) tx ++ bI10 k (q 16) lf ++ bI59 k (q 17) wdK ++ bI11 k (q 18) waI) hD hS hA [0, 1, 2, 3, 4] hq9
  refine va_calli (va_runV (As := []) (rest := []) hF (m_X13_word l9 D k H.size q th ea fa ch tn he en ln sv false dg tx lf hen hhe) (cwV 0 hts gX13_command_X13_word rfl rfl rfl (by decide +kernel) ⟨Nat.le_of_ble_eq_true rfl, Nat.le_of_ble_eq_true rfl⟩) (wPreV hK hN hP hD [0, 1, 2, 3, 4] (fm_of hq9) (by decide) hq9 0 11 rfl rfl) rfl rfl hl.1 rfl (lv_room (Nat.le_of_ble_eq_true rfl)) dX13_command_1 ⟨Nat.zero_le _, Nat.zero_le _⟩) hS (fun q _ h => hFc q h) hFc (fun r u9 t9 H1 locs ht hvm hw hB hz1 hk1 hS => ?_)
  obtain ⟨hP, hD⟩ := wjoin9 (wr := bI83 k (q 1) v ++ bF10 k (q 6) fl ++ bF10 k (q 10) nx) (wf := bMO k q th ea fa ch tn ((wdE tx en he false).1) en ln sv ((wdE tx en he false).2.1) dg ++ bI60 k (q 14) tx ++ bI10 k (q 16) (fun w => bI (lfE tx en he w (wdN tx en he false))) ++ bI59 k (q 17) wdK ++ bI11 k (q 18) waI ++ bI83 k (q 1) v ++ bF10 k (q 6) fl ++ bF10 k (q 10) nx) hP hD [0, 1, 2, 3, 4] [5, 6, 7] [3, 4, 5, 6, 7, 0, 1, 2] hq9 rfl (by decide) (by decide) hk1 hFc hB ht rfl (by decide)
  rw [hw]
  clear hw
  clear hB hk1 hz1 hvm hFc hq9
  clear ht
  clear t9
  generalize H1 = H at hP hS ⊢
  have e_1 : ((wdE tx en he false).1 : Nat) = h1 := by first | (with_reducible rfl) | (rw [wdS_eq]; exact hw1)
  have hP := Eq.mp (congrArg (fun z9 => va_P D vwCl (bMO k q th ea fa ch tn z9 en ln sv ((wdE tx en he false).2.1) dg ++ bI60 k (q 14) tx ++ bI10 k (q 16) (fun w => bI (lfE tx en he w (wdN tx en he false))) ++ bI59 k (q 17) wdK ++ bI11 k (q 18) waI ++ bI83 k (q 1) v ++ bF10 k (q 6) fl ++ bF10 k (q 10) nx) H) e_1) hP
  have hD := Eq.mp (congrArg (fun z9 => va_D A (bMO k q th ea fa ch tn z9 en ln sv ((wdE tx en he false).2.1) dg ++ bI60 k (q 14) tx ++ bI10 k (q 16) (fun w => bI (lfE tx en he w (wdN tx en he false))) ++ bI59 k (q 17) wdK ++ bI11 k (q 18) waI ++ bI83 k (q 1) v ++ bF10 k (q 6) fl ++ bF10 k (q 10) nx)) e_1) hD
  have e_2 : ((wdE tx en he false).2.1 : Bool) = false := by first | (with_reducible rfl) | (rw [wdS_eq]; exact hw2)
  have hP := Eq.mp (congrArg (fun z9 => va_P D vwCl (bMO k q th ea fa ch tn h1 en ln sv z9 dg ++ bI60 k (q 14) tx ++ bI10 k (q 16) (fun w => bI (lfE tx en he w (wdN tx en he false))) ++ bI59 k (q 17) wdK ++ bI11 k (q 18) waI ++ bI83 k (q 1) v ++ bF10 k (q 6) fl ++ bF10 k (q 10) nx) H) e_2) hP
  have hD := Eq.mp (congrArg (fun z9 => va_D A (bMO k q th ea fa ch tn h1 en ln sv z9 dg ++ bI60 k (q 14) tx ++ bI10 k (q 16) (fun w => bI (lfE tx en he w (wdN tx en he false))) ++ bI59 k (q 17) wdK ++ bI11 k (q 18) waI ++ bI83 k (q 1) v ++ bF10 k (q 6) fl ++ bF10 k (q 10) nx)) e_2) hD
  have e_3 : (fun w => bI (lfE tx en he w (wdN tx en he false)) : Nat → Int32) = lfZ tx en he := by first | (with_reducible rfl) | (exact lfZ_eq tx en he)
  have hP := Eq.mp (congrArg (fun z9 => va_P D vwCl (bMO k q th ea fa ch tn h1 en ln sv false dg ++ bI60 k (q 14) tx ++ bI10 k (q 16) z9 ++ bI59 k (q 17) wdK ++ bI11 k (q 18) waI ++ bI83 k (q 1) v ++ bF10 k (q 6) fl ++ bF10 k (q 10) nx) H) e_3) hP
  have hD := Eq.mp (congrArg (fun z9 => va_D A (bMO k q th ea fa ch tn h1 en ln sv false dg ++ bI60 k (q 14) tx ++ bI10 k (q 16) z9 ++ bI59 k (q 17) wdK ++ bI11 k (q 18) waI ++ bI83 k (q 1) v ++ bF10 k (q 6) fl ++ bF10 k (q 10) nx)) e_3) hD
  refine lv_tope (show Value.int ((wdE tx en he false).2.2) = Value.int 8 from congrArg Value.int (by rw [wdS_eq]; exact hw3)) ?_
  refine lv_istore_n (lv' := [(1, .int 8), (0, .ref (q 0))]) hx hb dX13_command_4 rfl hl (by decide) rfl (fun ls hl => ?_)
  refine lv_iconst (v := 0) hx hb dX13_command_5 (by decide) ?_
  refine lv_istore_n (lv' := [(2, .int 0), (1, .int 8), (0, .ref (q 0))]) hx hb dX13_command_6 rfl hl (by decide) rfl (fun ls hl => ?_)
  refine lv_iconst (v := 0) hx hb dX13_command_7 (by decide) ?_
  refine lv_istore_n (lv' := [(3, .int 0), (2, .int 0), (1, .int 8), (0, .ref (q 0))]) hx hb dX13_command_8 rfl hl (by decide) rfl (fun ls hl => ?_)
  refine lv_aload_n hx hb dX13_command_9 rfl (lv_at hl 3 rfl) ?_
  refine va_get (D := D) (ci := 11) (v := .int (bI false)) (C := RX13) (T := TX13) (N := 29) hx hb hts kc_RX13 hown hK hP 0 rfl rfl 27 (by decide) k_fieldLink_238 (fun _ h9 => h9) rfl dX13_command_10 ?_
  refine lv_if_eq (tgt := 17) hx hb dX13_command_13 (by decide) (fun c_4 => ?_) (fun c_4 => ?_)
  · skip
    refine lv_aload_n hx hb dX13_command_17 rfl (lv_at hl 3 rfl) ?_
    refine lv_iload_n hx hb dX13_command_18 rfl (lv_at hl 2 rfl) ?_
    refine lv_if_eq (tgt := 28) hx hb dX13_command_19 (by decide) (fun c_5 => ?_) (fun c_5 => ?_)
    · first | exact absurd c_5 (by decide) | exact absurd (by decide) c_5
    · skip
      refine lv_iload_n hx hb dX13_command_22 rfl (lv_at hl 2 rfl) ?_
      refine lv_bipush (v := 7) hx hb dX13_command_23 (by decide) ?_
      refine lv_icmp_le (tgt := 32) hx hb dX13_command_25 (by decide) (fun c_6 => ?_) (fun c_6 => ?_)
      · first | exact absurd c_6 (by decide) | exact absurd (by decide) c_6
      · skip
        refine lv_iconst (v := 4) hx hb dX13_command_28 (by decide) ?_
        refine lv_goto (tgt := 33) hx hb dX13_command_29 (by decide) ?_
        have hq9 := mp_of (ws := bMO k q th ea fa ch tn h1 en ln sv false dg ++ bI60 k (q 14) tx ++ bI10 k (q 16) (lfZ tx en he) ++ bI59 k (q 17) wdK ++ bI11 k (q 18) waI ++ bI83 k (q 1) v ++ bF10 k (q 6) fl ++ bF10 k (q 10) nx) (wc := bMO k q th ea fa ch tn h1 en ln sv false dg ++ bI60 k (q 14) tx) (is := [0, 1]) rfl
        have hFc := va_free (wc := bMO k q th ea fa ch tn h1 en ln sv false dg ++ bI60 k (q 14) tx) hD hS hA [0, 1] hq9
        refine va_calli (va_runV (As := [.int 4]) (rest := []) hF (m_X13_digits l9 D k H.size q th ea fa ch tn h1 en ln sv false dg tx 4 hen hhw (by omega)) (cwV 1 hts gX13_command_X13_digits rfl rfl rfl (by decide +kernel) ⟨Nat.le_of_ble_eq_true rfl, Nat.le_of_ble_eq_true rfl⟩) (wPreV hK hN hP hD [0, 1] (fm_of hq9) (by decide) hq9 0 11 rfl rfl) rfl rfl hl.1 rfl (lv_room (Nat.le_of_ble_eq_true rfl)) dX13_command_33 ⟨Nat.zero_le _, Nat.zero_le _⟩) hS (fun q _ h => hFc q h) hFc (fun r u9 t9 H1 locs ht hvm hw hB hz1 hk1 hS => ?_)
        obtain ⟨hP, hD⟩ := wjoin9 (wr := bI10 k (q 16) (lfZ tx en he) ++ bI59 k (q 17) wdK ++ bI11 k (q 18) waI ++ bI83 k (q 1) v ++ bF10 k (q 6) fl ++ bF10 k (q 10) nx) (wf := bMO k q th ea fa ch tn (h1 + (dkE tx en h1 false 4)) en ln sv (dwE tx en h1 false 4) dg ++ bI60 k (q 14) tx ++ bI10 k (q 16) (lfZ tx en he) ++ bI59 k (q 17) wdK ++ bI11 k (q 18) waI ++ bI83 k (q 1) v ++ bF10 k (q 6) fl ++ bF10 k (q 10) nx) hP hD [0, 1] [2, 3, 4, 5, 6, 7] [6, 7, 0, 1, 2, 3, 4, 5] hq9 rfl (by decide) (by decide) hk1 hFc hB ht rfl (by decide)
        rw [hw]
        clear hw
        clear hB hk1 hz1 hvm hFc hq9
        clear ht
        clear t9
        generalize H1 = H at hP hS ⊢
        refine lv_istore (lv' := [(4, .int (dvE tx en h1 (dkE tx en h1 false 4))), (3, .int 0), (2, .int 0), (1, .int 8), (0, .ref (q 0))]) hx hb dX13_command_36 hl (by decide) rfl (fun ls hl => ?_)
        refine lv_iload_n hx hb dX13_command_38 rfl (lv_at hl 3 rfl) ?_
        refine lv_iconst (v := 1) hx hb dX13_command_39 (by decide) ?_
        refine lv_icmp_eq (tgt := 48) hx hb dX13_command_40 (by decide) (fun c_7 => ?_) (fun c_7 => ?_)
        · first | exact absurd c_7 (by decide) | exact absurd (by decide) c_7
        · skip
          refine lv_iload_n hx hb dX13_command_43 rfl (lv_at hl 3 rfl) ?_
          refine lv_iconst (v := 2) hx hb dX13_command_44 (by decide) ?_
          refine lv_icmp_ne (tgt := 63) hx hb dX13_command_45 (by decide) (fun c_8 => ?_) (fun c_8 => ?_)
          · skip
            refine lv_iload_n hx hb dX13_command_63 rfl (lv_at hl 3 rfl) ?_
            refine lv_iconst (v := 3) hx hb dX13_command_64 (by decide) ?_
            refine lv_icmp_ne (tgt := 83) hx hb dX13_command_65 (by decide) (fun c_9 => ?_) (fun c_9 => ?_)
            · skip
              refine lv_iload_n hx hb dX13_command_83 rfl (lv_at hl 3 rfl) ?_
              refine lv_iconst (v := 4) hx hb dX13_command_84 (by decide) ?_
              refine lv_icmp_ne (tgt := 101) hx hb dX13_command_85 (by decide) (fun c_10 => ?_) (fun c_10 => ?_)
              · skip
                refine lv_iload_n hx hb dX13_command_101 rfl (lv_at hl 3 rfl) ?_
                refine lv_iconst (v := 5) hx hb dX13_command_102 (by decide) ?_
                refine lv_icmp_eq (tgt := 112) hx hb dX13_command_103 (by decide) (fun c_11 => ?_) (fun c_11 => ?_)
                · first | exact absurd c_11 (by decide) | exact absurd (by decide) c_11
                · skip
                  refine lv_iload_n hx hb dX13_command_106 rfl (lv_at hl 3 rfl) ?_
                  refine lv_bipush (v := 6) hx hb dX13_command_107 (by decide) ?_
                  refine lv_icmp_ne (tgt := 125) hx hb dX13_command_109 (by decide) (fun c_12 => ?_) (fun c_12 => ?_)
                  · skip
                    refine lv_iload_n hx hb dX13_command_125 rfl (lv_at hl 3 rfl) ?_
                    refine lv_iconst (v := 5) hx hb dX13_command_126 (by decide) ?_
                    refine lv_icmp_ne (tgt := 143) hx hb dX13_command_127 (by decide) (fun c_13 => ?_) (fun c_13 => ?_)
                    · skip
                      refine lv_iload_n hx hb dX13_command_143 rfl (lv_at hl 3 rfl) ?_
                      refine lv_bipush (v := 7) hx hb dX13_command_144 (by decide) ?_
                      refine lv_icmp_ne (tgt := 164) hx hb dX13_command_146 (by decide) (fun c_14 => ?_) (fun c_14 => ?_)
                      · skip
                        have hcm : cmP tx en he = (h1 + (dkE tx en h1 false 4), dwE tx en h1 false 4, 8, dvE tx en h1 (dkE tx en h1 false 4), 0, 0) := by
                          rw [cmP_w hw1 hw2 hw3 (by omega), show caE 8 = 4 from rfl]
                          simp only [cpE, ↓reduceIte, Bool.false_eq_true, eq_self]
                        refine lv_aload_n hx hb dX13_command_164 rfl (lv_at hl 4 rfl) ?_
                        refine va_get (D := D) (ci := 11) (v := .int (bI (dwE tx en h1 false 4))) (C := RX13) (T := TX13) (N := 29) hx hb hts kc_RX13 hown hK hP 0 rfl rfl 27 (by decide) k_fieldLink_238 (fun _ h9 => h9) rfl dX13_command_165 ?_
                        refine lv_if_ne (tgt := 178) hx hb dX13_command_168 (by decide) (fun c_15 => ?_) (fun c_15 => ?_)
                        · skip
                          have c_15 : (dwE tx en h1 false 4) = true := bI_1 c_15
                          have e_16 : (th : Int32) = (cmX tx en he dg th v fl nx).1 := by first | (with_reducible rfl) | (rw [cmX_w (by rw [hcm]; exact c_15)])
                          have hP := Eq.mp (congrArg (fun z9 => va_P D vwCl (bMO k q z9 ea fa ch tn (h1 + (dkE tx en h1 false 4)) en ln sv (dwE tx en h1 false 4) dg ++ bI60 k (q 14) tx ++ bI10 k (q 16) (lfZ tx en he) ++ bI59 k (q 17) wdK ++ bI11 k (q 18) waI ++ bI83 k (q 1) v ++ bF10 k (q 6) fl ++ bF10 k (q 10) nx) H) e_16) hP
                          have hD := Eq.mp (congrArg (fun z9 => va_D A (bMO k q z9 ea fa ch tn (h1 + (dkE tx en h1 false 4)) en ln sv (dwE tx en h1 false 4) dg ++ bI60 k (q 14) tx ++ bI10 k (q 16) (lfZ tx en he) ++ bI59 k (q 17) wdK ++ bI11 k (q 18) waI ++ bI83 k (q 1) v ++ bF10 k (q 6) fl ++ bF10 k (q 10) nx)) e_16) hD
                          have e_17 : (h1 + (dkE tx en h1 false 4) : Nat) = (cmP tx en he).1 := by first | (with_reducible rfl) | (rw [hcm])
                          have hP := Eq.mp (congrArg (fun z9 => va_P D vwCl (bMO k q ((cmX tx en he dg th v fl nx).1) ea fa ch tn z9 en ln sv (dwE tx en h1 false 4) dg ++ bI60 k (q 14) tx ++ bI10 k (q 16) (lfZ tx en he) ++ bI59 k (q 17) wdK ++ bI11 k (q 18) waI ++ bI83 k (q 1) v ++ bF10 k (q 6) fl ++ bF10 k (q 10) nx) H) e_17) hP
                          have hD := Eq.mp (congrArg (fun z9 => va_D A (bMO k q ((cmX tx en he dg th v fl nx).1) ea fa ch tn z9 en ln sv (dwE tx en h1 false 4) dg ++ bI60 k (q 14) tx ++ bI10 k (q 16) (lfZ tx en he) ++ bI59 k (q 17) wdK ++ bI11 k (q 18) waI ++ bI83 k (q 1) v ++ bF10 k (q 6) fl ++ bF10 k (q 10) nx)) e_17) hD
                          have e_18 : (dwE tx en h1 false 4 : Bool) = (cmP tx en he).2.1 := by first | (with_reducible rfl) | (rw [hcm]; first | done | (exact Eq.symm (by assumption)))
                          have hP := Eq.mp (congrArg (fun z9 => va_P D vwCl (bMO k q ((cmX tx en he dg th v fl nx).1) ea fa ch tn ((cmP tx en he).1) en ln sv z9 dg ++ bI60 k (q 14) tx ++ bI10 k (q 16) (lfZ tx en he) ++ bI59 k (q 17) wdK ++ bI11 k (q 18) waI ++ bI83 k (q 1) v ++ bF10 k (q 6) fl ++ bF10 k (q 10) nx) H) e_18) hP
                          have hD := Eq.mp (congrArg (fun z9 => va_D A (bMO k q ((cmX tx en he dg th v fl nx).1) ea fa ch tn ((cmP tx en he).1) en ln sv z9 dg ++ bI60 k (q 14) tx ++ bI10 k (q 16) (lfZ tx en he) ++ bI59 k (q 17) wdK ++ bI11 k (q 18) waI ++ bI83 k (q 1) v ++ bF10 k (q 6) fl ++ bF10 k (q 10) nx)) e_18) hD
                          have e_19 : (v : Nat → Int32) = (cmX tx en he dg th v fl nx).2.1 := by first | (with_reducible rfl) | (rw [cmX_w (by rw [hcm]; exact c_15)])
                          have hP := Eq.mp (congrArg (fun z9 => va_P D vwCl (bMO k q ((cmX tx en he dg th v fl nx).1) ea fa ch tn ((cmP tx en he).1) en ln sv ((cmP tx en he).2.1) dg ++ bI60 k (q 14) tx ++ bI10 k (q 16) (lfZ tx en he) ++ bI59 k (q 17) wdK ++ bI11 k (q 18) waI ++ bI83 k (q 1) z9 ++ bF10 k (q 6) fl ++ bF10 k (q 10) nx) H) e_19) hP
                          have hD := Eq.mp (congrArg (fun z9 => va_D A (bMO k q ((cmX tx en he dg th v fl nx).1) ea fa ch tn ((cmP tx en he).1) en ln sv ((cmP tx en he).2.1) dg ++ bI60 k (q 14) tx ++ bI10 k (q 16) (lfZ tx en he) ++ bI59 k (q 17) wdK ++ bI11 k (q 18) waI ++ bI83 k (q 1) z9 ++ bF10 k (q 6) fl ++ bF10 k (q 10) nx)) e_19) hD
                          have e_20 : (fl : Nat → UInt32) = (cmX tx en he dg th v fl nx).2.2.1 := by first | (with_reducible rfl) | (rw [cmX_w (by rw [hcm]; exact c_15)])
                          have hP := Eq.mp (congrArg (fun z9 => va_P D vwCl (bMO k q ((cmX tx en he dg th v fl nx).1) ea fa ch tn ((cmP tx en he).1) en ln sv ((cmP tx en he).2.1) dg ++ bI60 k (q 14) tx ++ bI10 k (q 16) (lfZ tx en he) ++ bI59 k (q 17) wdK ++ bI11 k (q 18) waI ++ bI83 k (q 1) ((cmX tx en he dg th v fl nx).2.1) ++ bF10 k (q 6) z9 ++ bF10 k (q 10) nx) H) e_20) hP
                          have hD := Eq.mp (congrArg (fun z9 => va_D A (bMO k q ((cmX tx en he dg th v fl nx).1) ea fa ch tn ((cmP tx en he).1) en ln sv ((cmP tx en he).2.1) dg ++ bI60 k (q 14) tx ++ bI10 k (q 16) (lfZ tx en he) ++ bI59 k (q 17) wdK ++ bI11 k (q 18) waI ++ bI83 k (q 1) ((cmX tx en he dg th v fl nx).2.1) ++ bF10 k (q 6) z9 ++ bF10 k (q 10) nx)) e_20) hD
                          have e_21 : (nx : Nat → UInt32) = (cmX tx en he dg th v fl nx).2.2.2 := by first | (with_reducible rfl) | (rw [cmX_w (by rw [hcm]; exact c_15)])
                          have hP := Eq.mp (congrArg (fun z9 => va_P D vwCl (bMO k q ((cmX tx en he dg th v fl nx).1) ea fa ch tn ((cmP tx en he).1) en ln sv ((cmP tx en he).2.1) dg ++ bI60 k (q 14) tx ++ bI10 k (q 16) (lfZ tx en he) ++ bI59 k (q 17) wdK ++ bI11 k (q 18) waI ++ bI83 k (q 1) ((cmX tx en he dg th v fl nx).2.1) ++ bF10 k (q 6) ((cmX tx en he dg th v fl nx).2.2.1) ++ bF10 k (q 10) z9) H) e_21) hP
                          have hD := Eq.mp (congrArg (fun z9 => va_D A (bMO k q ((cmX tx en he dg th v fl nx).1) ea fa ch tn ((cmP tx en he).1) en ln sv ((cmP tx en he).2.1) dg ++ bI60 k (q 14) tx ++ bI10 k (q 16) (lfZ tx en he) ++ bI59 k (q 17) wdK ++ bI11 k (q 18) waI ++ bI83 k (q 1) ((cmX tx en he dg th v fl nx).2.1) ++ bF10 k (q 6) ((cmX tx en he dg th v fl nx).2.2.1) ++ bF10 k (q 10) z9)) e_21) hD
                          exact W.vret hx hb hr (fun t9 ht hW => ⟨⟨(), rfl, trivial, ⟨by rw [ht]; exact hP, va_K.moved hW.alike hK, hD⟩⟩, hS.F ht⟩) hS.2.2 dX13_command_178 hlocks
                        · skip
                          have c_15 : (dwE tx en h1 false 4) = false := bI_0 c_15
                          refine lv_aload_n hx hb dX13_command_171 rfl (lv_at hl 4 rfl) ?_
                          refine va_get (D := D) (ci := 11) (v := .int (bI dg)) (C := RX13) (T := TX13) (N := 29) hx hb hts kc_RX13 hown hK hP 0 rfl rfl 28 (by decide) k_fieldLink_261 (fun _ h9 => h9) rfl dX13_command_172 ?_
                          refine lv_if_ne (tgt := 179) hx hb dX13_command_175 (by decide) (fun c_22 => ?_) (fun c_22 => ?_)
                          · skip
                            have c_22 : dg = true := bI_1 c_22
                            refine lv_aload_n hx hb dX13_command_179 rfl (lv_at hl 4 rfl) ?_
                            refine lv_iload_n hx hb dX13_command_180 rfl (lv_at hl 3 rfl) ?_
                            refine lv_iload hx hb dX13_command_181 (lv_at hl 0 rfl) ?_
                            refine lv_iload_n hx hb dX13_command_183 rfl (lv_at hl 2 rfl) ?_
                            refine lv_iload_n hx hb dX13_command_184 rfl (lv_at hl 1 rfl) ?_
                            have hq9 := mp_of (ws := bMO k q th ea fa ch tn (h1 + (dkE tx en h1 false 4)) en ln sv (dwE tx en h1 false 4) dg ++ bI60 k (q 14) tx ++ bI10 k (q 16) (lfZ tx en he) ++ bI59 k (q 17) wdK ++ bI11 k (q 18) waI ++ bI83 k (q 1) v ++ bF10 k (q 6) fl ++ bF10 k (q 10) nx) (wc := bMO k q th ea fa ch tn (h1 + (dkE tx en h1 false 4)) en ln sv (dwE tx en h1 false 4) dg ++ bI83 k (q 1) v ++ bF10 k (q 6) fl ++ bF10 k (q 10) nx) (is := [0, 5, 6, 7]) rfl
                            have hFc := va_free (wc := bMO k q th ea fa ch tn (h1 + (dkE tx en h1 false 4)) en ln sv (dwE tx en h1 false 4) dg ++ bI83 k (q 1) v ++ bF10 k (q 6) fl ++ bF10 k (q 10) nx) hD hS hA [0, 5, 6, 7] hq9
                            refine va_calli (va_runV (As := [.int 8, .int (dvE tx en h1 (dkE tx en h1 false 4)), .int 0, .int 0]) (rest := []) hF (m_X13_does l9 D k H.size q th ea fa ch tn (h1 + (dkE tx en h1 false 4)) en ln sv (dwE tx en h1 false 4) dg v fl nx (nOf v) (lOf v) 8 (dvE tx en h1 (dkE tx en h1 false 4)) 0 0 hok.2.1 hok.1 hok.2.2.2.2.1 hok.2.2.2.2.2 hok.2.2.2.1 hok.2.2.1 (by omega)) (cwV 4 hts gX13_command_X13_does rfl rfl rfl (by decide +kernel) ⟨Nat.le_of_ble_eq_true rfl, Nat.le_of_ble_eq_true rfl⟩) (wPreV hK hN hP hD [0, 5, 6, 7] (fm_of hq9) (by decide) hq9 0 11 rfl rfl) rfl rfl hl.1 rfl (lv_room (Nat.le_of_ble_eq_true rfl)) dX13_command_185 ⟨Nat.zero_le _, Nat.zero_le _⟩) hS (fun q _ h => hFc q h) hFc (fun r u9 t9 H1 locs ht hvm hw hB hz1 hk1 hS => ?_)
                            obtain ⟨hP, hD⟩ := wjoin9 (wr := bI60 k (q 14) tx ++ bI10 k (q 16) (lfZ tx en he) ++ bI59 k (q 17) wdK ++ bI11 k (q 18) waI) (wf := bMO k q ((doM (nOf v) (lOf v) v fl nx th 8 (dvE tx en h1 (dkE tx en h1 false 4)) 0 0).2.1) ea fa ch tn (h1 + (dkE tx en h1 false 4)) en ln sv (dwE tx en h1 false 4) dg ++ bI60 k (q 14) tx ++ bI10 k (q 16) (lfZ tx en he) ++ bI59 k (q 17) wdK ++ bI11 k (q 18) waI ++ bI83 k (q 1) ((doM (nOf v) (lOf v) v fl nx th 8 (dvE tx en h1 (dkE tx en h1 false 4)) 0 0).2.2.1) ++ bF10 k (q 6) ((doM (nOf v) (lOf v) v fl nx th 8 (dvE tx en h1 (dkE tx en h1 false 4)) 0 0).2.2.2.1) ++ bF10 k (q 10) ((doM (nOf v) (lOf v) v fl nx th 8 (dvE tx en h1 (dkE tx en h1 false 4)) 0 0).2.2.2.2)) hP hD [0, 5, 6, 7] [1, 2, 3, 4] [4, 0, 1, 2, 3, 5, 6, 7] hq9 rfl (by decide) (by decide) hk1 hFc hB ht rfl (by decide)
                            rw [hw]
                            clear hw
                            clear hB hk1 hz1 hvm hFc hq9
                            clear ht
                            clear t9
                            generalize H1 = H at hP hS ⊢
                            refine lv_istore (lv' := [(5, .int ((doM (nOf v) (lOf v) v fl nx th 8 (dvE tx en h1 (dkE tx en h1 false 4)) 0 0).1)), (4, .int (dvE tx en h1 (dkE tx en h1 false 4))), (3, .int 0), (2, .int 0), (1, .int 8), (0, .ref (q 0))]) hx hb dX13_command_188 hl (by decide) rfl (fun ls hl => ?_)
                            have e_23 : ((doM (nOf v) (lOf v) v fl nx th 8 (dvE tx en h1 (dkE tx en h1 false 4)) 0 0).2.1 : Int32) = (cmX tx en he dg th v fl nx).1 := by first | (with_reducible rfl) | (rw [cmX_o (hcm.trans (by rw [c_15])) c_22]; first | done | with_reducible rfl | (unfold doV; with_reducible rfl))
                            have hP := Eq.mp (congrArg (fun z9 => va_P D vwCl (bMO k q z9 ea fa ch tn (h1 + (dkE tx en h1 false 4)) en ln sv (dwE tx en h1 false 4) dg ++ bI60 k (q 14) tx ++ bI10 k (q 16) (lfZ tx en he) ++ bI59 k (q 17) wdK ++ bI11 k (q 18) waI ++ bI83 k (q 1) ((doM (nOf v) (lOf v) v fl nx th 8 (dvE tx en h1 (dkE tx en h1 false 4)) 0 0).2.2.1) ++ bF10 k (q 6) ((doM (nOf v) (lOf v) v fl nx th 8 (dvE tx en h1 (dkE tx en h1 false 4)) 0 0).2.2.2.1) ++ bF10 k (q 10) ((doM (nOf v) (lOf v) v fl nx th 8 (dvE tx en h1 (dkE tx en h1 false 4)) 0 0).2.2.2.2)) H) e_23) hP
                            have hD := Eq.mp (congrArg (fun z9 => va_D A (bMO k q z9 ea fa ch tn (h1 + (dkE tx en h1 false 4)) en ln sv (dwE tx en h1 false 4) dg ++ bI60 k (q 14) tx ++ bI10 k (q 16) (lfZ tx en he) ++ bI59 k (q 17) wdK ++ bI11 k (q 18) waI ++ bI83 k (q 1) ((doM (nOf v) (lOf v) v fl nx th 8 (dvE tx en h1 (dkE tx en h1 false 4)) 0 0).2.2.1) ++ bF10 k (q 6) ((doM (nOf v) (lOf v) v fl nx th 8 (dvE tx en h1 (dkE tx en h1 false 4)) 0 0).2.2.2.1) ++ bF10 k (q 10) ((doM (nOf v) (lOf v) v fl nx th 8 (dvE tx en h1 (dkE tx en h1 false 4)) 0 0).2.2.2.2))) e_23) hD
                            have e_24 : ((h1 + (dkE tx en h1 false 4)) : Nat) = (cmP tx en he).1 := by first | (with_reducible rfl) | (rw [hcm])
                            have hP := Eq.mp (congrArg (fun z9 => va_P D vwCl (bMO k q ((cmX tx en he dg th v fl nx).1) ea fa ch tn z9 en ln sv (dwE tx en h1 false 4) dg ++ bI60 k (q 14) tx ++ bI10 k (q 16) (lfZ tx en he) ++ bI59 k (q 17) wdK ++ bI11 k (q 18) waI ++ bI83 k (q 1) ((doM (nOf v) (lOf v) v fl nx th 8 (dvE tx en h1 (dkE tx en h1 false 4)) 0 0).2.2.1) ++ bF10 k (q 6) ((doM (nOf v) (lOf v) v fl nx th 8 (dvE tx en h1 (dkE tx en h1 false 4)) 0 0).2.2.2.1) ++ bF10 k (q 10) ((doM (nOf v) (lOf v) v fl nx th 8 (dvE tx en h1 (dkE tx en h1 false 4)) 0 0).2.2.2.2)) H) e_24) hP
                            have hD := Eq.mp (congrArg (fun z9 => va_D A (bMO k q ((cmX tx en he dg th v fl nx).1) ea fa ch tn z9 en ln sv (dwE tx en h1 false 4) dg ++ bI60 k (q 14) tx ++ bI10 k (q 16) (lfZ tx en he) ++ bI59 k (q 17) wdK ++ bI11 k (q 18) waI ++ bI83 k (q 1) ((doM (nOf v) (lOf v) v fl nx th 8 (dvE tx en h1 (dkE tx en h1 false 4)) 0 0).2.2.1) ++ bF10 k (q 6) ((doM (nOf v) (lOf v) v fl nx th 8 (dvE tx en h1 (dkE tx en h1 false 4)) 0 0).2.2.2.1) ++ bF10 k (q 10) ((doM (nOf v) (lOf v) v fl nx th 8 (dvE tx en h1 (dkE tx en h1 false 4)) 0 0).2.2.2.2))) e_24) hD
                            have e_25 : ((dwE tx en h1 false 4) : Bool) = (cmP tx en he).2.1 := by first | (with_reducible rfl) | (rw [hcm]; first | done | (exact Eq.symm (by assumption)))
                            have hP := Eq.mp (congrArg (fun z9 => va_P D vwCl (bMO k q ((cmX tx en he dg th v fl nx).1) ea fa ch tn ((cmP tx en he).1) en ln sv z9 dg ++ bI60 k (q 14) tx ++ bI10 k (q 16) (lfZ tx en he) ++ bI59 k (q 17) wdK ++ bI11 k (q 18) waI ++ bI83 k (q 1) ((doM (nOf v) (lOf v) v fl nx th 8 (dvE tx en h1 (dkE tx en h1 false 4)) 0 0).2.2.1) ++ bF10 k (q 6) ((doM (nOf v) (lOf v) v fl nx th 8 (dvE tx en h1 (dkE tx en h1 false 4)) 0 0).2.2.2.1) ++ bF10 k (q 10) ((doM (nOf v) (lOf v) v fl nx th 8 (dvE tx en h1 (dkE tx en h1 false 4)) 0 0).2.2.2.2)) H) e_25) hP
                            have hD := Eq.mp (congrArg (fun z9 => va_D A (bMO k q ((cmX tx en he dg th v fl nx).1) ea fa ch tn ((cmP tx en he).1) en ln sv z9 dg ++ bI60 k (q 14) tx ++ bI10 k (q 16) (lfZ tx en he) ++ bI59 k (q 17) wdK ++ bI11 k (q 18) waI ++ bI83 k (q 1) ((doM (nOf v) (lOf v) v fl nx th 8 (dvE tx en h1 (dkE tx en h1 false 4)) 0 0).2.2.1) ++ bF10 k (q 6) ((doM (nOf v) (lOf v) v fl nx th 8 (dvE tx en h1 (dkE tx en h1 false 4)) 0 0).2.2.2.1) ++ bF10 k (q 10) ((doM (nOf v) (lOf v) v fl nx th 8 (dvE tx en h1 (dkE tx en h1 false 4)) 0 0).2.2.2.2))) e_25) hD
                            have e_26 : ((doM (nOf v) (lOf v) v fl nx th 8 (dvE tx en h1 (dkE tx en h1 false 4)) 0 0).2.2.1 : Nat → Int32) = (cmX tx en he dg th v fl nx).2.1 := by first | (with_reducible rfl) | (rw [cmX_o (hcm.trans (by rw [c_15])) c_22]; first | done | with_reducible rfl | (unfold doV; with_reducible rfl))
                            have hP := Eq.mp (congrArg (fun z9 => va_P D vwCl (bMO k q ((cmX tx en he dg th v fl nx).1) ea fa ch tn ((cmP tx en he).1) en ln sv ((cmP tx en he).2.1) dg ++ bI60 k (q 14) tx ++ bI10 k (q 16) (lfZ tx en he) ++ bI59 k (q 17) wdK ++ bI11 k (q 18) waI ++ bI83 k (q 1) z9 ++ bF10 k (q 6) ((doM (nOf v) (lOf v) v fl nx th 8 (dvE tx en h1 (dkE tx en h1 false 4)) 0 0).2.2.2.1) ++ bF10 k (q 10) ((doM (nOf v) (lOf v) v fl nx th 8 (dvE tx en h1 (dkE tx en h1 false 4)) 0 0).2.2.2.2)) H) e_26) hP
                            have hD := Eq.mp (congrArg (fun z9 => va_D A (bMO k q ((cmX tx en he dg th v fl nx).1) ea fa ch tn ((cmP tx en he).1) en ln sv ((cmP tx en he).2.1) dg ++ bI60 k (q 14) tx ++ bI10 k (q 16) (lfZ tx en he) ++ bI59 k (q 17) wdK ++ bI11 k (q 18) waI ++ bI83 k (q 1) z9 ++ bF10 k (q 6) ((doM (nOf v) (lOf v) v fl nx th 8 (dvE tx en h1 (dkE tx en h1 false 4)) 0 0).2.2.2.1) ++ bF10 k (q 10) ((doM (nOf v) (lOf v) v fl nx th 8 (dvE tx en h1 (dkE tx en h1 false 4)) 0 0).2.2.2.2))) e_26) hD
                            have e_27 : ((doM (nOf v) (lOf v) v fl nx th 8 (dvE tx en h1 (dkE tx en h1 false 4)) 0 0).2.2.2.1 : Nat → UInt32) = (cmX tx en he dg th v fl nx).2.2.1 := by first | (with_reducible rfl) | (rw [cmX_o (hcm.trans (by rw [c_15])) c_22]; first | done | with_reducible rfl | (unfold doV; with_reducible rfl))
                            have hP := Eq.mp (congrArg (fun z9 => va_P D vwCl (bMO k q ((cmX tx en he dg th v fl nx).1) ea fa ch tn ((cmP tx en he).1) en ln sv ((cmP tx en he).2.1) dg ++ bI60 k (q 14) tx ++ bI10 k (q 16) (lfZ tx en he) ++ bI59 k (q 17) wdK ++ bI11 k (q 18) waI ++ bI83 k (q 1) ((cmX tx en he dg th v fl nx).2.1) ++ bF10 k (q 6) z9 ++ bF10 k (q 10) ((doM (nOf v) (lOf v) v fl nx th 8 (dvE tx en h1 (dkE tx en h1 false 4)) 0 0).2.2.2.2)) H) e_27) hP
                            have hD := Eq.mp (congrArg (fun z9 => va_D A (bMO k q ((cmX tx en he dg th v fl nx).1) ea fa ch tn ((cmP tx en he).1) en ln sv ((cmP tx en he).2.1) dg ++ bI60 k (q 14) tx ++ bI10 k (q 16) (lfZ tx en he) ++ bI59 k (q 17) wdK ++ bI11 k (q 18) waI ++ bI83 k (q 1) ((cmX tx en he dg th v fl nx).2.1) ++ bF10 k (q 6) z9 ++ bF10 k (q 10) ((doM (nOf v) (lOf v) v fl nx th 8 (dvE tx en h1 (dkE tx en h1 false 4)) 0 0).2.2.2.2))) e_27) hD
                            have e_28 : ((doM (nOf v) (lOf v) v fl nx th 8 (dvE tx en h1 (dkE tx en h1 false 4)) 0 0).2.2.2.2 : Nat → UInt32) = (cmX tx en he dg th v fl nx).2.2.2 := by first | (with_reducible rfl) | (rw [cmX_o (hcm.trans (by rw [c_15])) c_22]; first | done | with_reducible rfl | (unfold doV; with_reducible rfl))
                            have hP := Eq.mp (congrArg (fun z9 => va_P D vwCl (bMO k q ((cmX tx en he dg th v fl nx).1) ea fa ch tn ((cmP tx en he).1) en ln sv ((cmP tx en he).2.1) dg ++ bI60 k (q 14) tx ++ bI10 k (q 16) (lfZ tx en he) ++ bI59 k (q 17) wdK ++ bI11 k (q 18) waI ++ bI83 k (q 1) ((cmX tx en he dg th v fl nx).2.1) ++ bF10 k (q 6) ((cmX tx en he dg th v fl nx).2.2.1) ++ bF10 k (q 10) z9) H) e_28) hP
                            have hD := Eq.mp (congrArg (fun z9 => va_D A (bMO k q ((cmX tx en he dg th v fl nx).1) ea fa ch tn ((cmP tx en he).1) en ln sv ((cmP tx en he).2.1) dg ++ bI60 k (q 14) tx ++ bI10 k (q 16) (lfZ tx en he) ++ bI59 k (q 17) wdK ++ bI11 k (q 18) waI ++ bI83 k (q 1) ((cmX tx en he dg th v fl nx).2.1) ++ bF10 k (q 6) ((cmX tx en he dg th v fl nx).2.2.1) ++ bF10 k (q 10) z9)) e_28) hD
                            exact W.vret hx hb hr (fun t9 ht hW => ⟨⟨(), rfl, trivial, ⟨by rw [ht]; exact hP, va_K.moved hW.alike hK, hD⟩⟩, hS.F ht⟩) hS.2.2 dX13_command_190 hlocks
                          · skip
                            have c_22 : dg = false := bI_0 c_22
                            have e_29 : (th : Int32) = (cmX tx en he dg th v fl nx).1 := by first | (with_reducible rfl) | (rw [cmX_d c_22])
                            have hP := Eq.mp (congrArg (fun z9 => va_P D vwCl (bMO k q z9 ea fa ch tn (h1 + (dkE tx en h1 false 4)) en ln sv (dwE tx en h1 false 4) dg ++ bI60 k (q 14) tx ++ bI10 k (q 16) (lfZ tx en he) ++ bI59 k (q 17) wdK ++ bI11 k (q 18) waI ++ bI83 k (q 1) v ++ bF10 k (q 6) fl ++ bF10 k (q 10) nx) H) e_29) hP
                            have hD := Eq.mp (congrArg (fun z9 => va_D A (bMO k q z9 ea fa ch tn (h1 + (dkE tx en h1 false 4)) en ln sv (dwE tx en h1 false 4) dg ++ bI60 k (q 14) tx ++ bI10 k (q 16) (lfZ tx en he) ++ bI59 k (q 17) wdK ++ bI11 k (q 18) waI ++ bI83 k (q 1) v ++ bF10 k (q 6) fl ++ bF10 k (q 10) nx)) e_29) hD
                            have e_30 : (h1 + (dkE tx en h1 false 4) : Nat) = (cmP tx en he).1 := by first | (with_reducible rfl) | (rw [hcm])
                            have hP := Eq.mp (congrArg (fun z9 => va_P D vwCl (bMO k q ((cmX tx en he dg th v fl nx).1) ea fa ch tn z9 en ln sv (dwE tx en h1 false 4) dg ++ bI60 k (q 14) tx ++ bI10 k (q 16) (lfZ tx en he) ++ bI59 k (q 17) wdK ++ bI11 k (q 18) waI ++ bI83 k (q 1) v ++ bF10 k (q 6) fl ++ bF10 k (q 10) nx) H) e_30) hP
                            have hD := Eq.mp (congrArg (fun z9 => va_D A (bMO k q ((cmX tx en he dg th v fl nx).1) ea fa ch tn z9 en ln sv (dwE tx en h1 false 4) dg ++ bI60 k (q 14) tx ++ bI10 k (q 16) (lfZ tx en he) ++ bI59 k (q 17) wdK ++ bI11 k (q 18) waI ++ bI83 k (q 1) v ++ bF10 k (q 6) fl ++ bF10 k (q 10) nx)) e_30) hD
                            have e_31 : (dwE tx en h1 false 4 : Bool) = (cmP tx en he).2.1 := by first | (with_reducible rfl) | (rw [hcm]; first | done | (exact Eq.symm (by assumption)))
                            have hP := Eq.mp (congrArg (fun z9 => va_P D vwCl (bMO k q ((cmX tx en he dg th v fl nx).1) ea fa ch tn ((cmP tx en he).1) en ln sv z9 dg ++ bI60 k (q 14) tx ++ bI10 k (q 16) (lfZ tx en he) ++ bI59 k (q 17) wdK ++ bI11 k (q 18) waI ++ bI83 k (q 1) v ++ bF10 k (q 6) fl ++ bF10 k (q 10) nx) H) e_31) hP
                            have hD := Eq.mp (congrArg (fun z9 => va_D A (bMO k q ((cmX tx en he dg th v fl nx).1) ea fa ch tn ((cmP tx en he).1) en ln sv z9 dg ++ bI60 k (q 14) tx ++ bI10 k (q 16) (lfZ tx en he) ++ bI59 k (q 17) wdK ++ bI11 k (q 18) waI ++ bI83 k (q 1) v ++ bF10 k (q 6) fl ++ bF10 k (q 10) nx)) e_31) hD
                            have e_32 : (v : Nat → Int32) = (cmX tx en he dg th v fl nx).2.1 := by first | (with_reducible rfl) | (rw [cmX_d c_22])
                            have hP := Eq.mp (congrArg (fun z9 => va_P D vwCl (bMO k q ((cmX tx en he dg th v fl nx).1) ea fa ch tn ((cmP tx en he).1) en ln sv ((cmP tx en he).2.1) dg ++ bI60 k (q 14) tx ++ bI10 k (q 16) (lfZ tx en he) ++ bI59 k (q 17) wdK ++ bI11 k (q 18) waI ++ bI83 k (q 1) z9 ++ bF10 k (q 6) fl ++ bF10 k (q 10) nx) H) e_32) hP
                            have hD := Eq.mp (congrArg (fun z9 => va_D A (bMO k q ((cmX tx en he dg th v fl nx).1) ea fa ch tn ((cmP tx en he).1) en ln sv ((cmP tx en he).2.1) dg ++ bI60 k (q 14) tx ++ bI10 k (q 16) (lfZ tx en he) ++ bI59 k (q 17) wdK ++ bI11 k (q 18) waI ++ bI83 k (q 1) z9 ++ bF10 k (q 6) fl ++ bF10 k (q 10) nx)) e_32) hD
                            have e_33 : (fl : Nat → UInt32) = (cmX tx en he dg th v fl nx).2.2.1 := by first | (with_reducible rfl) | (rw [cmX_d c_22])
                            have hP := Eq.mp (congrArg (fun z9 => va_P D vwCl (bMO k q ((cmX tx en he dg th v fl nx).1) ea fa ch tn ((cmP tx en he).1) en ln sv ((cmP tx en he).2.1) dg ++ bI60 k (q 14) tx ++ bI10 k (q 16) (lfZ tx en he) ++ bI59 k (q 17) wdK ++ bI11 k (q 18) waI ++ bI83 k (q 1) ((cmX tx en he dg th v fl nx).2.1) ++ bF10 k (q 6) z9 ++ bF10 k (q 10) nx) H) e_33) hP
                            have hD := Eq.mp (congrArg (fun z9 => va_D A (bMO k q ((cmX tx en he dg th v fl nx).1) ea fa ch tn ((cmP tx en he).1) en ln sv ((cmP tx en he).2.1) dg ++ bI60 k (q 14) tx ++ bI10 k (q 16) (lfZ tx en he) ++ bI59 k (q 17) wdK ++ bI11 k (q 18) waI ++ bI83 k (q 1) ((cmX tx en he dg th v fl nx).2.1) ++ bF10 k (q 6) z9 ++ bF10 k (q 10) nx)) e_33) hD
                            have e_34 : (nx : Nat → UInt32) = (cmX tx en he dg th v fl nx).2.2.2 := by first | (with_reducible rfl) | (rw [cmX_d c_22])
                            have hP := Eq.mp (congrArg (fun z9 => va_P D vwCl (bMO k q ((cmX tx en he dg th v fl nx).1) ea fa ch tn ((cmP tx en he).1) en ln sv ((cmP tx en he).2.1) dg ++ bI60 k (q 14) tx ++ bI10 k (q 16) (lfZ tx en he) ++ bI59 k (q 17) wdK ++ bI11 k (q 18) waI ++ bI83 k (q 1) ((cmX tx en he dg th v fl nx).2.1) ++ bF10 k (q 6) ((cmX tx en he dg th v fl nx).2.2.1) ++ bF10 k (q 10) z9) H) e_34) hP
                            have hD := Eq.mp (congrArg (fun z9 => va_D A (bMO k q ((cmX tx en he dg th v fl nx).1) ea fa ch tn ((cmP tx en he).1) en ln sv ((cmP tx en he).2.1) dg ++ bI60 k (q 14) tx ++ bI10 k (q 16) (lfZ tx en he) ++ bI59 k (q 17) wdK ++ bI11 k (q 18) waI ++ bI83 k (q 1) ((cmX tx en he dg th v fl nx).2.1) ++ bF10 k (q 6) ((cmX tx en he dg th v fl nx).2.2.1) ++ bF10 k (q 10) z9)) e_34) hD
                            exact W.vret hx hb hr (fun t9 ht hW => ⟨⟨(), rfl, trivial, ⟨by rw [ht]; exact hP, va_K.moved hW.alike hK, hD⟩⟩, hS.F ht⟩) hS.2.2 dX13_command_178 hlocks
                      · first | exact absurd c_14 (by decide) | exact absurd (by decide) c_14
                    · first | exact absurd c_13 (by decide) | exact absurd (by decide) c_13
                  · first | exact absurd c_12 (by decide) | exact absurd (by decide) c_12
              · first | exact absurd c_10 (by decide) | exact absurd (by decide) c_10
            · first | exact absurd c_9 (by decide) | exact absurd (by decide) c_9
          · first | exact absurd c_8 (by decide) | exact absurd (by decide) c_8
  · first | exact absurd c_4 (by decide) | exact absurd (by decide) c_4

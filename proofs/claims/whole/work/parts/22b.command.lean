/-! A command. -/
set_option maxHeartbeats 20000000 in
set_option maxRecDepth 100000 in
theorem m_X13_command_e (l9 : Launch) (D : va_G) (k : Nat → ClassId) (sz : Nat) (q : Nat → Nat) (th ea fa : Int32) (ch tn he en ln : Nat) (sv wr dg : Bool) (tx lf v : Nat → Int32) (fl nx : Nat → UInt32) (h1 : Nat) (hen : en ≤ 60) (hhe : he ≤ en) (hok : okV v fl) (hw1 : (wdE tx en he false).1 = h1) (hw2 : (wdE tx en he false).2.1 = true) : Met l9 yX13_command wsX13_command ({ frames := 2, cells := 0, slots := 0, locals := 44 }) (WPc D k [.ref (q 0)] (bMO k q th ea fa ch tn he en ln sv false dg ++ bI60 k (q 14) tx ++ bI10 k (q 16) lf ++ bI59 k (q 17) wdK ++ bI11 k (q 18) waI ++ bI83 k (q 1) v ++ bF10 k (q 6) fl ++ bF10 k (q 10) nx) sz) (WV D k (bMO k q ((cmX tx en he dg th v fl nx).1) ea fa ch tn ((cmP tx en he).1) en ln sv ((cmP tx en he).2.1) dg ++ bI60 k (q 14) tx ++ bI10 k (q 16) (lfZ tx en he) ++ bI59 k (q 17) wdK ++ bI11 k (q 18) waI ++ bI83 k (q 1) ((cmX tx en he dg th v fl nx).2.1) ++ bF10 k (q 6) ((cmX tx en he dg th v fl nx).2.2.1) ++ bF10 k (q 10) ((cmX tx en he dg th v fl nx).2.2.2)) (va_A (bMO k q th ea fa ch tn he en ln sv false dg ++ bI60 k (q 14) tx ++ bI10 k (q 16) lf ++ bI59 k (q 17) wdK ++ bI11 k (q 18) waI ++ bI83 k (q 1) v ++ bF10 k (q 6) fl ++ bF10 k (q 10) nx) sz)) 0 0 (va_A (bMO k q th ea fa ch tn he en ln sv false dg ++ bI60 k (q 14) tx ++ bI10 k (q 16) lf ++ bI59 k (q 17) wdK ++ bI11 k (q 18) waI ++ bI83 k (q 1) v ++ bF10 k (q 6) fl ++ bF10 k (q 10) nx) sz) := by
  have hhw : h1 ≤ en := by rw [← hw1]; exact wdE_le tx false hhe
  refine wMet (y := yX13_command) (cc := cX13_command) (maxL := 6) (ret := none) (Qc := fun A => WV D k (bMO k q ((cmX tx en he dg th v fl nx).1) ea fa ch tn ((cmP tx en he).1) en ln sv ((cmP tx en he).2.1) dg ++ bI60 k (q 14) tx ++ bI10 k (q 16) (lfZ tx en he) ++ bI59 k (q 17) wdK ++ bI11 k (q 18) waI ++ bI83 k (q 1) ((cmX tx en he dg th v fl nx).2.1) ++ bF10 k (q 6) ((cmX tx en he dg th v fl nx).2.2.1) ++ bF10 k (q 10) ((cmX tx en he dg th v fl nx).2.2.2)) A) [.ref (q 0)] (by decide) rfl (Nat.le_of_ble_eq_true rfl) ?_
  intro p9 e9 s9 m9 bl9 me9 c9 ls A H hF hr hlocks hP hK hN hD hA hS hl hin
  have hl : lv_has ls 6 [(0, .ref (q 0))] := hl
  obtain ⟨hx, hb, hml, hown, hts⟩ := id hF
  have k_fieldLink_238 : (Cond.fieldLink RX13 238 "OpinionReactorModel" "isWrong" "Z").before _ s9 = true := hts (.fieldLink RX13 238 "OpinionReactorModel" "isWrong" "Z") (by decide +kernel)
  have kc_RX13 : ∀ w ∈ u_ws RX13 TX13 29, w ∈ wsX13_command := by decide +kernel
  refine lv_aload_n hx hb dX13_command_0 rfl (lv_at hl 0 rfl) ?_
  have hFc := va_free (wc := bMO k q th ea fa ch tn he en ln sv false dg ++ bI60 k (q 14) tx ++ bI10 k (q 16) lf ++ bI59 k (q 17) wdK ++ bI11 k (q 18) waI) hD hS hA [0, 1, 2, 3, 4] rfl
  refine va_calli (va_runV (As := []) (rest := []) hF (m_X13_word l9 D k H.size q th ea fa ch tn he en ln sv false dg tx lf hen hhe) (cwV 0 hts gX13_command_X13_word rfl rfl rfl (by decide +kernel) ⟨Nat.le_of_ble_eq_true rfl, Nat.le_of_ble_eq_true rfl⟩) (wPreV hK hN hP hD [0, 1, 2, 3, 4] rfl (by decide) rfl 0 11 rfl rfl) rfl rfl hl.1 rfl (lv_room (Nat.le_of_ble_eq_true rfl)) dX13_command_1 ⟨Nat.zero_le _, Nat.zero_le _⟩) hS (fun q _ h => hFc q h) hFc (fun r u9 t9 H1 locs ht hvm hw hB hz1 hk1 hS => ?_)
  obtain ⟨hP, hD⟩ := wjoin (wr := bI83 k (q 1) v ++ bF10 k (q 6) fl ++ bF10 k (q 10) nx) (wf := bMO k q th ea fa ch tn ((wdE tx en he false).1) en ln sv ((wdE tx en he false).2.1) dg ++ bI60 k (q 14) tx ++ bI10 k (q 16) (fun w => bI (lfE tx en he w (wdN tx en he false))) ++ bI59 k (q 17) wdK ++ bI11 k (q 18) waI ++ bI83 k (q 1) v ++ bF10 k (q 6) fl ++ bF10 k (q 10) nx) hP hD [0, 1, 2, 3, 4] [5, 6, 7] [3, 4, 5, 6, 7, 0, 1, 2] rfl rfl (by decide) (by decide) hk1 hFc hB ht rfl rfl (by decide)
  rw [hw]
  clear hw
  clear hB hk1 hz1 hvm hFc
  clear ht
  clear t9
  generalize H1 = H at hP hS ⊢
  have e_1 : ((wdE tx en he false).1 : Nat) = h1 := by first | (with_reducible rfl) | (exact hw1)
  have hP := Eq.mp (congrArg (fun z9 => va_P D vwCl (bMO k q th ea fa ch tn z9 en ln sv ((wdE tx en he false).2.1) dg ++ bI60 k (q 14) tx ++ bI10 k (q 16) (fun w => bI (lfE tx en he w (wdN tx en he false))) ++ bI59 k (q 17) wdK ++ bI11 k (q 18) waI ++ bI83 k (q 1) v ++ bF10 k (q 6) fl ++ bF10 k (q 10) nx) H) e_1) hP
  have hD := Eq.mp (congrArg (fun z9 => va_D A (bMO k q th ea fa ch tn z9 en ln sv ((wdE tx en he false).2.1) dg ++ bI60 k (q 14) tx ++ bI10 k (q 16) (fun w => bI (lfE tx en he w (wdN tx en he false))) ++ bI59 k (q 17) wdK ++ bI11 k (q 18) waI ++ bI83 k (q 1) v ++ bF10 k (q 6) fl ++ bF10 k (q 10) nx)) e_1) hD
  have e_2 : ((wdE tx en he false).2.1 : Bool) = true := by first | (with_reducible rfl) | (exact hw2)
  have hP := Eq.mp (congrArg (fun z9 => va_P D vwCl (bMO k q th ea fa ch tn h1 en ln sv z9 dg ++ bI60 k (q 14) tx ++ bI10 k (q 16) (fun w => bI (lfE tx en he w (wdN tx en he false))) ++ bI59 k (q 17) wdK ++ bI11 k (q 18) waI ++ bI83 k (q 1) v ++ bF10 k (q 6) fl ++ bF10 k (q 10) nx) H) e_2) hP
  have hD := Eq.mp (congrArg (fun z9 => va_D A (bMO k q th ea fa ch tn h1 en ln sv z9 dg ++ bI60 k (q 14) tx ++ bI10 k (q 16) (fun w => bI (lfE tx en he w (wdN tx en he false))) ++ bI59 k (q 17) wdK ++ bI11 k (q 18) waI ++ bI83 k (q 1) v ++ bF10 k (q 6) fl ++ bF10 k (q 10) nx)) e_2) hD
  have e_3 : (fun w => bI (lfE tx en he w (wdN tx en he false)) : Nat → Int32) = lfZ tx en he := by first | (with_reducible rfl) | (exact lfZ_eq tx en he)
  have hP := Eq.mp (congrArg (fun z9 => va_P D vwCl (bMO k q th ea fa ch tn h1 en ln sv true dg ++ bI60 k (q 14) tx ++ bI10 k (q 16) z9 ++ bI59 k (q 17) wdK ++ bI11 k (q 18) waI ++ bI83 k (q 1) v ++ bF10 k (q 6) fl ++ bF10 k (q 10) nx) H) e_3) hP
  have hD := Eq.mp (congrArg (fun z9 => va_D A (bMO k q th ea fa ch tn h1 en ln sv true dg ++ bI60 k (q 14) tx ++ bI10 k (q 16) z9 ++ bI59 k (q 17) wdK ++ bI11 k (q 18) waI ++ bI83 k (q 1) v ++ bF10 k (q 6) fl ++ bF10 k (q 10) nx)) e_3) hD
  refine lv_istore_n (lv' := [(1, .int ((wdE tx en he false).2.2)), (0, .ref (q 0))]) hx hb dX13_command_4 rfl hl (by decide) rfl (fun ls hl => ?_)
  refine lv_iconst (v := 0) hx hb dX13_command_5 (by decide) ?_
  refine lv_istore_n (lv' := [(2, .int 0), (1, .int ((wdE tx en he false).2.2)), (0, .ref (q 0))]) hx hb dX13_command_6 rfl hl (by decide) rfl (fun ls hl => ?_)
  refine lv_iconst (v := 0) hx hb dX13_command_7 (by decide) ?_
  refine lv_istore_n (lv' := [(3, .int 0), (2, .int 0), (1, .int ((wdE tx en he false).2.2)), (0, .ref (q 0))]) hx hb dX13_command_8 rfl hl (by decide) rfl (fun ls hl => ?_)
  refine lv_aload_n hx hb dX13_command_9 rfl (lv_at hl 3 rfl) ?_
  refine va_get (D := D) (ci := 11) (v := .int (bI true)) (C := RX13) (T := TX13) (N := 29) hx hb hts kc_RX13 hown hK hP 0 rfl rfl 27 (by decide) k_fieldLink_238 (fun _ h9 => h9) rfl dX13_command_10 ?_
  refine lv_if_eq (tgt := 17) hx hb dX13_command_13 (by decide) (fun c_4 => ?_) (fun c_4 => ?_)
  · first | exact absurd c_4 (by decide) | exact absurd (by decide) c_4
  · skip
    have e_5 : (th : Int32) = (cmX tx en he dg th v fl nx).1 := by first | (with_reducible rfl) | (rw [cmX_w (by rw [cmP_e hw1 hw2])])
    have hP := Eq.mp (congrArg (fun z9 => va_P D vwCl (bMO k q z9 ea fa ch tn h1 en ln sv true dg ++ bI60 k (q 14) tx ++ bI10 k (q 16) (lfZ tx en he) ++ bI59 k (q 17) wdK ++ bI11 k (q 18) waI ++ bI83 k (q 1) v ++ bF10 k (q 6) fl ++ bF10 k (q 10) nx) H) e_5) hP
    have hD := Eq.mp (congrArg (fun z9 => va_D A (bMO k q z9 ea fa ch tn h1 en ln sv true dg ++ bI60 k (q 14) tx ++ bI10 k (q 16) (lfZ tx en he) ++ bI59 k (q 17) wdK ++ bI11 k (q 18) waI ++ bI83 k (q 1) v ++ bF10 k (q 6) fl ++ bF10 k (q 10) nx)) e_5) hD
    have e_6 : (h1 : Nat) = (cmP tx en he).1 := by first | (with_reducible rfl) | (rw [cmP_e hw1 hw2])
    have hP := Eq.mp (congrArg (fun z9 => va_P D vwCl (bMO k q ((cmX tx en he dg th v fl nx).1) ea fa ch tn z9 en ln sv true dg ++ bI60 k (q 14) tx ++ bI10 k (q 16) (lfZ tx en he) ++ bI59 k (q 17) wdK ++ bI11 k (q 18) waI ++ bI83 k (q 1) v ++ bF10 k (q 6) fl ++ bF10 k (q 10) nx) H) e_6) hP
    have hD := Eq.mp (congrArg (fun z9 => va_D A (bMO k q ((cmX tx en he dg th v fl nx).1) ea fa ch tn z9 en ln sv true dg ++ bI60 k (q 14) tx ++ bI10 k (q 16) (lfZ tx en he) ++ bI59 k (q 17) wdK ++ bI11 k (q 18) waI ++ bI83 k (q 1) v ++ bF10 k (q 6) fl ++ bF10 k (q 10) nx)) e_6) hD
    have e_7 : (true : Bool) = (cmP tx en he).2.1 := by first | (with_reducible rfl) | (rw [cmP_e hw1 hw2])
    have hP := Eq.mp (congrArg (fun z9 => va_P D vwCl (bMO k q ((cmX tx en he dg th v fl nx).1) ea fa ch tn ((cmP tx en he).1) en ln sv z9 dg ++ bI60 k (q 14) tx ++ bI10 k (q 16) (lfZ tx en he) ++ bI59 k (q 17) wdK ++ bI11 k (q 18) waI ++ bI83 k (q 1) v ++ bF10 k (q 6) fl ++ bF10 k (q 10) nx) H) e_7) hP
    have hD := Eq.mp (congrArg (fun z9 => va_D A (bMO k q ((cmX tx en he dg th v fl nx).1) ea fa ch tn ((cmP tx en he).1) en ln sv z9 dg ++ bI60 k (q 14) tx ++ bI10 k (q 16) (lfZ tx en he) ++ bI59 k (q 17) wdK ++ bI11 k (q 18) waI ++ bI83 k (q 1) v ++ bF10 k (q 6) fl ++ bF10 k (q 10) nx)) e_7) hD
    have e_8 : (v : Nat → Int32) = (cmX tx en he dg th v fl nx).2.1 := by first | (with_reducible rfl) | (rw [cmX_w (by rw [cmP_e hw1 hw2])])
    have hP := Eq.mp (congrArg (fun z9 => va_P D vwCl (bMO k q ((cmX tx en he dg th v fl nx).1) ea fa ch tn ((cmP tx en he).1) en ln sv ((cmP tx en he).2.1) dg ++ bI60 k (q 14) tx ++ bI10 k (q 16) (lfZ tx en he) ++ bI59 k (q 17) wdK ++ bI11 k (q 18) waI ++ bI83 k (q 1) z9 ++ bF10 k (q 6) fl ++ bF10 k (q 10) nx) H) e_8) hP
    have hD := Eq.mp (congrArg (fun z9 => va_D A (bMO k q ((cmX tx en he dg th v fl nx).1) ea fa ch tn ((cmP tx en he).1) en ln sv ((cmP tx en he).2.1) dg ++ bI60 k (q 14) tx ++ bI10 k (q 16) (lfZ tx en he) ++ bI59 k (q 17) wdK ++ bI11 k (q 18) waI ++ bI83 k (q 1) z9 ++ bF10 k (q 6) fl ++ bF10 k (q 10) nx)) e_8) hD
    have e_9 : (fl : Nat → UInt32) = (cmX tx en he dg th v fl nx).2.2.1 := by first | (with_reducible rfl) | (rw [cmX_w (by rw [cmP_e hw1 hw2])])
    have hP := Eq.mp (congrArg (fun z9 => va_P D vwCl (bMO k q ((cmX tx en he dg th v fl nx).1) ea fa ch tn ((cmP tx en he).1) en ln sv ((cmP tx en he).2.1) dg ++ bI60 k (q 14) tx ++ bI10 k (q 16) (lfZ tx en he) ++ bI59 k (q 17) wdK ++ bI11 k (q 18) waI ++ bI83 k (q 1) ((cmX tx en he dg th v fl nx).2.1) ++ bF10 k (q 6) z9 ++ bF10 k (q 10) nx) H) e_9) hP
    have hD := Eq.mp (congrArg (fun z9 => va_D A (bMO k q ((cmX tx en he dg th v fl nx).1) ea fa ch tn ((cmP tx en he).1) en ln sv ((cmP tx en he).2.1) dg ++ bI60 k (q 14) tx ++ bI10 k (q 16) (lfZ tx en he) ++ bI59 k (q 17) wdK ++ bI11 k (q 18) waI ++ bI83 k (q 1) ((cmX tx en he dg th v fl nx).2.1) ++ bF10 k (q 6) z9 ++ bF10 k (q 10) nx)) e_9) hD
    have e_10 : (nx : Nat → UInt32) = (cmX tx en he dg th v fl nx).2.2.2 := by first | (with_reducible rfl) | (rw [cmX_w (by rw [cmP_e hw1 hw2])])
    have hP := Eq.mp (congrArg (fun z9 => va_P D vwCl (bMO k q ((cmX tx en he dg th v fl nx).1) ea fa ch tn ((cmP tx en he).1) en ln sv ((cmP tx en he).2.1) dg ++ bI60 k (q 14) tx ++ bI10 k (q 16) (lfZ tx en he) ++ bI59 k (q 17) wdK ++ bI11 k (q 18) waI ++ bI83 k (q 1) ((cmX tx en he dg th v fl nx).2.1) ++ bF10 k (q 6) ((cmX tx en he dg th v fl nx).2.2.1) ++ bF10 k (q 10) z9) H) e_10) hP
    have hD := Eq.mp (congrArg (fun z9 => va_D A (bMO k q ((cmX tx en he dg th v fl nx).1) ea fa ch tn ((cmP tx en he).1) en ln sv ((cmP tx en he).2.1) dg ++ bI60 k (q 14) tx ++ bI10 k (q 16) (lfZ tx en he) ++ bI59 k (q 17) wdK ++ bI11 k (q 18) waI ++ bI83 k (q 1) ((cmX tx en he dg th v fl nx).2.1) ++ bF10 k (q 6) ((cmX tx en he dg th v fl nx).2.2.1) ++ bF10 k (q 10) z9)) e_10) hD
    exact W.vret hx hb hr (fun t9 ht hW => ⟨⟨(), rfl, trivial, ⟨by rw [ht]; exact hP, va_K.moved hW.alike hK, hD⟩⟩, hS.F ht⟩) hS.2.2 dX13_command_16 hlocks

  sorry

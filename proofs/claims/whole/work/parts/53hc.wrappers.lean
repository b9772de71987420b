/-! The law's wrappers: meanWeightBits, undo, restore, fluxOf, excite. -/
set_option maxHeartbeats 4000000 in
set_option maxRecDepth 100000 in
theorem m_L_meanWeightBits_ok (l9 : Launch) (hl9 : l9.stackTraces = false) (D : va_G) (k : Nat → ClassId) (ks kv kf : Nat → Nat) (ka kw : Nat) (sz : Nat) (o bf pa pn pk sv tr tx li ll ac ci ch : Nat) (iz : Bool) (er fl : Int32) (qs qc qr ql : Nat → Nat) (lim sh sc : Int32) (fr : Nat → UInt32) (n : Nat) (w ly t a : Nat → Int32) (fx : Nat → UInt32) (out : Nat) (ou : Nat → Int64) (hn : n ≤ 10) (hw : wtOk n w) (h1 : 1 ≤ n) : Met l9 yL_meanWeightBits wsL_meanWeightBits ({ frames := 4, cells := 1, slots := 6, locals := 85 }) (LPc ks kv kf ka kw D k [.ref o, .ref out] (bRO k o (qs 0) bf pa pn pk sv iz tr tx er fl li ll ac ci ch ++ bSt k qs qc qr ql lim sh sc fr ++ bClaims k qc n w ly t a fx ++ bL1 k out ou) sz) (WI D k (bRO k o (qs 0) bf pa pn pk sv iz tr tx er fl li ll ac ci ch ++ bSt k qs qc qr ql lim sh sc fr ++ bClaims k qc n w ly t a fx ++ bL1 k out (vp_updL ou 0 (bdS (mnS n w)))) 0 (va_A (bRO k o (qs 0) bf pa pn pk sv iz tr tx er fl li ll ac ci ch ++ bSt k qs qc qr ql lim sh sc fr ++ bClaims k qc n w ly t a fx ++ bL1 k out ou) sz)) 1 6 (va_A (bRO k o (qs 0) bf pa pn pk sv iz tr tx er fl li ll ac ci ch ++ bSt k qs qc qr ql lim sh sc fr ++ bClaims k qc n w ly t a fx ++ bL1 k out ou) sz) := by
  refine lMet (y := yL_meanWeightBits) (cc := cL_meanWeightBits) (maxL := 3) (ret := (some .int)) (hh := [(0, 7, 10, 130)]) (Qc := fun A => WI D k (bRO k o (qs 0) bf pa pn pk sv iz tr tx er fl li ll ac ci ch ++ bSt k qs qc qr ql lim sh sc fr ++ bClaims k qc n w ly t a fx ++ bL1 k out (vp_updL ou 0 (bdS (mnS n w)))) 0 A) [.ref o, .ref out] (by decide) rfl (Nat.le_of_ble_eq_true rfl) ?_
  intro p9 e9 s9 m9 bl9 me9 c9 ls A H hF hr hlocks htab hP hK hN hXN hNC hZ hKC hD hA hS hl
  have hl : lv_has ls 3 [(0, .ref o), (1, .ref out)] := hl
  obtain ⟨hx, hb, hml, hown, hts⟩ := id hF
  refine lv_aload_n hx hb dL_meanWeightBits_0 rfl (lv_at hl 1 rfl) ?_
  refine lv_iconst (v := 0) hx hb dL_meanWeightBits_1 (by decide) ?_
  refine lv_aload_n hx hb dL_meanWeightBits_2 rfl (lv_at hl 0 rfl) ?_
  refine vp_callSl (W.runV (As := []) (rest := [.int 0, .ref out]) hF (m_X12_meanWeightBits l9 D k o bf pa pn pk sv tr tx li ll ac ci ch iz er fl qs qc qr ql lim sh sc fr n w ly t a fx hn hw h1) (cwV 0 hts gL_meanWeightBits_X12_meanWeightBits rfl rfl rfl (by decide +kernel) ⟨Nat.le_of_ble_eq_true rfl, Nat.le_of_ble_eq_true rfl⟩) (rPreV hK hN hP [0, 1, 2, 3, 4, 5, 6, 7, 8] rfl 0 10 rfl rfl) rfl rfl hl.1 rfl (lv_room (Nat.le_of_ble_eq_true rfl)) dL_meanWeightBits_3 ⟨Nat.zero_le _, Nat.zero_le _⟩) (fun r_1 hr_1 => ?_)
  subst hr_1
  refine la_st hx hb hK hP hD hS 9 rfl 0 (by omega) (by decide) (bRO k o (qs 0) bf pa pn pk sv iz tr tx er fl li ll ac ci ch ++ bSt k qs qc qr ql lim sh sc fr ++ bClaims k qc n w ly t a fx ++ bL1 k out (vp_updL ou 0 (bdS (mnS n w)))) rfl dL_meanWeightBits_6 (fun H locs hP hD hS => ?_)
  refine lv_goto (tgt := 13) hx hb dL_meanWeightBits_7 (by decide) ?_
  refine lv_iconst (v := 0) hx hb dL_meanWeightBits_13 (by decide) ?_
  refine W.widen (k := 1) (n := 6) (Nat.le_of_ble_eq_true rfl) (Nat.le_of_ble_eq_true rfl) ?_
  exact W.iret (v := 0) hx hb hr (fun t9 ht hW => ⟨⟨_, (), rfl, (by first | (with_reducible exact rfl) | (rw [if_pos (by assumption)]; done) | (rw [if_neg (ne_true_of_eq_false (by assumption))]; done)), ⟨by rw [ht]; exact hP, va_K.moved hW.alike hK, hD⟩⟩, hS.F ht⟩) hS.2.2 dL_meanWeightBits_14 hlocks

set_option maxHeartbeats 4000000 in
set_option maxRecDepth 100000 in
theorem m_L_meanWeightBits_1 (l9 : Launch) (hl9 : l9.stackTraces = false) (D : va_G) (k : Nat → ClassId) (ks kv kf : Nat → Nat) (ka kw : Nat) (sz : Nat) (o bf pa pn pk sv tr tx li ll ac ci ch : Nat) (iz : Bool) (er fl : Int32) (qs qc qr ql : Nat → Nat) (lim sh sc : Int32) (fr : Nat → UInt32) (n : Nat) (w ly t a : Nat → Int32) (fx : Nat → UInt32) (out : Nat) (ou : Nat → Int64) (h0 : n = 0) : Met l9 yL_meanWeightBits wsL_meanWeightBits ({ frames := 8, cells := 1, slots := 6, locals := 123 }) (LPc ks kv kf ka kw D k [.ref o, .ref out] (bRO k o (qs 0) bf pa pn pk sv iz tr tx er fl li ll ac ci ch ++ bSt k qs qc qr ql lim sh sc fr ++ bClaims k qc n w ly t a fx ++ bL1 k out ou) sz) (WI D k (bRO k o (qs 0) bf pa pn pk sv iz tr tx er fl li ll ac ci ch ++ bSt k qs qc qr ql lim sh sc fr ++ bClaims k qc n w ly t a fx ++ bL1 k out ou) 1 (va_A (bRO k o (qs 0) bf pa pn pk sv iz tr tx er fl li ll ac ci ch ++ bSt k qs qc qr ql lim sh sc fr ++ bClaims k qc n w ly t a fx ++ bL1 k out ou) sz)) 1 6 (va_A (bRO k o (qs 0) bf pa pn pk sv iz tr tx er fl li ll ac ci ch ++ bSt k qs qc qr ql lim sh sc fr ++ bClaims k qc n w ly t a fx ++ bL1 k out ou) sz) := by
  refine lMet (y := yL_meanWeightBits) (cc := cL_meanWeightBits) (maxL := 3) (ret := (some .int)) (hh := [(0, 7, 10, 130)]) (Qc := fun A => WI D k (bRO k o (qs 0) bf pa pn pk sv iz tr tx er fl li ll ac ci ch ++ bSt k qs qc qr ql lim sh sc fr ++ bClaims k qc n w ly t a fx ++ bL1 k out ou) 1 A) [.ref o, .ref out] (by decide) rfl (Nat.le_of_ble_eq_true rfl) ?_
  intro p9 e9 s9 m9 bl9 me9 c9 ls A H hF hr hlocks htab hP hK hN hXN hNC hZ hKC hD hA hS hl
  have hl : lv_has ls 3 [(0, .ref o), (1, .ref out)] := hl
  obtain ⟨hx, hb, hml, hown, hts⟩ := id hF
  refine lv_aload_n hx hb dL_meanWeightBits_0 rfl (lv_at hl 1 rfl) ?_
  refine lv_iconst (v := 0) hx hb dL_meanWeightBits_1 (by decide) ?_
  refine lv_aload_n hx hb dL_meanWeightBits_2 rfl (lv_at hl 0 rfl) ?_
  have hFc := l_free (wc := bRO k o (qs 0) bf pa pn pk sv iz tr tx er fl li ll ac ci ch ++ bSt k qs qc qr ql lim sh sc fr ++ bClaims k qc n w ly t a fx) (wr := bL1 k out ou) hD hS hA
  refine vx_calll (vx_runV (As := []) (rest := [.int 0, .ref out]) hF (x_X12_meanWeightBits l9 hl9 D k H.size o bf pa pn pk sv tr tx li ll ac ci ch iz er fl qs qc qr ql lim sh sc fr n w ly t a fx h0) (cwV 0 hts gL_meanWeightBits_X12_meanWeightBits rfl rfl rfl (by decide +kernel) ⟨Nat.le_of_ble_eq_true rfl, Nat.le_of_ble_eq_true rfl⟩) (l_preX hK hN hXN hZ hS hFc (l_P1 (wr := bL1 k out ou) hP) (l_D1 (wr := bL1 k out ou) hD) (ci := 10) rfl rfl) rfl rfl hl.1 rfl (lv_room (Nat.le_of_ble_eq_true rfl)) dL_meanWeightBits_3 ⟨Nat.le_of_ble_eq_true rfl, Nat.le_of_ble_eq_true rfl⟩) hS (fun q _ h => hFc q h) hFc (fun q _ h => hFc q h) (fun E9 ce9 q9 u9 t9 H1 locs ht hvm _ hbx hz1 hk1 hS hce hcv hcl => ?_) (fun r u9 t9 H1 locs _ _ hp _ _ _ _ => hp.elim)
  obtain ⟨rfl, hbx⟩ := hbx
  obtain ⟨hP, hD⟩ := l_join (u := ()) (wr := bL1 k out ou) hP hD hk1 hFc hbx ht
  refine vx_catch (own := RL) (name := "java/lang/ArithmeticException") (E := "java/lang/ArithmeticException") hown [] ⟨0, 7, 10, 130⟩ [] (htab.trans rfl) (fun z hz => by simp only [List.not_mem_nil] at hz) rfl (by decide) (hts (.classLink RL 130 "java/lang/ArithmeticException") (by decide +kernel)) (va_Nw.use (xnL_tables (.castable "java/lang/ArithmeticException" "java/lang/ArithmeticException") (by decide)) (hXN.1 (.castable "java/lang/ArithmeticException" "java/lang/ArithmeticException") (by decide))) hce hcv hcl ?_
  clear hbx hk1 hz1 hvm hFc hce hcv hcl ht
  clear t9
  generalize H1 = H at hP hS ⊢
  refine W.eq (g2 := F0 m9 10 ls [.ref q9]) rfl ?_
  refine lv_astore_n (lv' := [(2, .ref q9), (0, .ref o), (1, .ref out)]) hx hb dL_meanWeightBits_10 rfl hl (by decide) rfl (fun ls hl => ?_)
  refine lv_iconst (v := 1) hx hb dL_meanWeightBits_11 (by decide) ?_
  refine W.widen (k := 1) (n := 6) (Nat.le_of_ble_eq_true rfl) (Nat.le_of_ble_eq_true rfl) ?_
  exact W.iret (v := 1) hx hb hr (fun t9 ht hW => ⟨⟨_, (), rfl, (by first | (with_reducible exact rfl) | (rw [if_pos (by assumption)]; done) | (rw [if_neg (ne_true_of_eq_false (by assumption))]; done)), ⟨by rw [ht]; exact hP, va_K.moved hW.alike hK, hD⟩⟩, hS.F ht⟩) hS.2.2 dL_meanWeightBits_12 hlocks

set_option maxHeartbeats 4000000 in
set_option maxRecDepth 100000 in
theorem m_L_undo_ok (l9 : Launch) (hl9 : l9.stackTraces = false) (D : va_G) (k : Nat → ClassId) (ks kv kf : Nat → Nat) (ka kw : Nat) (sz : Nat) (o bf pa pn pk sv tr tx li ll ac ci ch : Nat) (iz : Bool) (er fl : Int32) (g : Nat → Nat) (qs qc qr ql : Nat → Nat) (lim sh sc : Int32) (fr : Nat → UInt32) (out : Nat) (ou : Nat → Int64) (hpn : pn < 8) (hpk : pk ≤ 8) (h1 : 1 ≤ pk) : Met l9 yL_undo wsL_undo ({ frames := 1, cells := 1, slots := 6, locals := 21 }) (LPc ks kv kf ka kw D k [.ref o, .ref out] (bRO k o (qs 0) bf pa pn pk sv iz tr tx er fl li ll ac ci ch ++ bPA k pa g ++ bSt k qs qc qr ql lim sh sc fr ++ bL1 k out ou) sz) (WI D k (bRO k o (g ((pn + 8 - 1) % 8)) bf pa ((pn + 8 - 1) % 8) (pk - 1) sv iz tr tx er fl li ll ac ci ch ++ bPA k pa (upP g ((pn + 8 - 1) % 8) (qs 0)) ++ bSt k qs qc qr ql lim sh sc fr ++ bL1 k out (vp_updL ou 0 ((nI (pk - 1)).toInt64))) 0 (va_A (bRO k o (qs 0) bf pa pn pk sv iz tr tx er fl li ll ac ci ch ++ bPA k pa g ++ bSt k qs qc qr ql lim sh sc fr ++ bL1 k out ou) sz)) 1 6 (va_A (bRO k o (qs 0) bf pa pn pk sv iz tr tx er fl li ll ac ci ch ++ bPA k pa g ++ bSt k qs qc qr ql lim sh sc fr ++ bL1 k out ou) sz) := by
  refine lMet (y := yL_undo) (cc := cL_undo) (maxL := 3) (ret := (some .int)) (hh := [(0, 8, 11, 15)]) (Qc := fun A => WI D k (bRO k o (g ((pn + 8 - 1) % 8)) bf pa ((pn + 8 - 1) % 8) (pk - 1) sv iz tr tx er fl li ll ac ci ch ++ bPA k pa (upP g ((pn + 8 - 1) % 8) (qs 0)) ++ bSt k qs qc qr ql lim sh sc fr ++ bL1 k out (vp_updL ou 0 ((nI (pk - 1)).toInt64))) 0 A) [.ref o, .ref out] (by decide) rfl (Nat.le_of_ble_eq_true rfl) ?_
  intro p9 e9 s9 m9 bl9 me9 c9 ls A H hF hr hlocks htab hP hK hN hXN hNC hZ hKC hD hA hS hl
  have hl : lv_has ls 3 [(0, .ref o), (1, .ref out)] := hl
  obtain ⟨hx, hb, hml, hown, hts⟩ := id hF
  refine lv_aload_n hx hb dL_undo_0 rfl (lv_at hl 1 rfl) ?_
  refine lv_iconst (v := 0) hx hb dL_undo_1 (by decide) ?_
  refine lv_aload_n hx hb dL_undo_2 rfl (lv_at hl 0 rfl) ?_
  have hFc := l_free (wc := bRO k o (qs 0) bf pa pn pk sv iz tr tx er fl li ll ac ci ch ++ bPA k pa g ++ bSt k qs qc qr ql lim sh sc fr) (wr := bL1 k out ou) hD hS hA
  refine va_calli (va_runV (As := []) (rest := [.int 0, .ref out]) hF (m_X12_undo l9 D k H.size o bf pa pn pk sv tr tx li ll ac ci ch iz er fl g qs qc qr ql lim sh sc fr hpn hpk h1) (cwV 0 hts gL_undo_X12_undo rfl rfl rfl (by decide +kernel) ⟨Nat.le_of_ble_eq_true rfl, Nat.le_of_ble_eq_true rfl⟩) (l_preV hK hN (l_P1 (wr := bL1 k out ou) hP) (l_D1 (wr := bL1 k out ou) hD) (ci := 10) rfl rfl) rfl rfl hl.1 rfl (lv_room (Nat.le_of_ble_eq_true rfl)) dL_undo_3 ⟨Nat.zero_le _, Nat.zero_le _⟩) hS (fun q _ h => hFc q h) hFc (fun r u9 t9 H1 locs ht hvm hw hB hz1 hk1 hS => ?_)
  obtain ⟨hP, hD⟩ := l_join (wr := bL1 k out ou) hP hD hk1 hFc hB ht
  subst hw
  clear hB hk1 hz1 hvm hFc
  clear ht
  clear t9
  generalize H1 = H at hP hS ⊢
  refine lv_i2l hx hb dL_undo_6 rfl ?_
  refine la_st hx hb hK hP hD hS 4 rfl 0 (by omega) (by decide) (bRO k o (g ((pn + 8 - 1) % 8)) bf pa ((pn + 8 - 1) % 8) (pk - 1) sv iz tr tx er fl li ll ac ci ch ++ bPA k pa (upP g ((pn + 8 - 1) % 8) (qs 0)) ++ bSt k qs qc qr ql lim sh sc fr ++ bL1 k out (vp_updL ou 0 ((nI (pk - 1)).toInt64))) rfl dL_undo_7 (fun H locs hP hD hS => ?_)
  refine lv_goto (tgt := 14) hx hb dL_undo_8 (by decide) ?_
  refine lv_iconst (v := 0) hx hb dL_undo_14 (by decide) ?_
  refine W.widen (k := 1) (n := 6) (Nat.le_of_ble_eq_true rfl) (Nat.le_of_ble_eq_true rfl) ?_
  exact W.iret (v := 0) hx hb hr (fun t9 ht hW => ⟨⟨_, (), rfl, (by first | (with_reducible exact rfl) | (rw [if_pos (by assumption)]; done) | (rw [if_neg (ne_true_of_eq_false (by assumption))]; done)), ⟨by rw [ht]; exact hP, va_K.moved hW.alike hK, hD⟩⟩, hS.F ht⟩) hS.2.2 dL_undo_15 hlocks

set_option maxHeartbeats 4000000 in
set_option maxRecDepth 100000 in
theorem m_L_undo_1 (l9 : Launch) (hl9 : l9.stackTraces = false) (D : va_G) (k : Nat → ClassId) (ks kv kf : Nat → Nat) (ka kw : Nat) (sz : Nat) (now : Nat) (o bf pa pn pk sv tr tx li ll ac ci ch : Nat) (iz : Bool) (er fl : Int32)  (out : Nat) (ou : Nat → Int64) (h0 : pk = 0) : Met l9 yL_undo wsL_undo ({ frames := 7, cells := 1, slots := 6, locals := 103 }) (LPc ks kv kf ka kw D k [.ref o, .ref out] (bRO k o now bf pa pn pk sv iz tr tx er fl li ll ac ci ch ++ bL1 k out ou) sz) (WI D k (bRO k o now bf pa pn pk sv iz tr tx er fl li ll ac ci ch ++ bL1 k out ou) 1 (va_A (bRO k o now bf pa pn pk sv iz tr tx er fl li ll ac ci ch ++ bL1 k out ou) sz)) 1 6 (va_A (bRO k o now bf pa pn pk sv iz tr tx er fl li ll ac ci ch ++ bL1 k out ou) sz) := by
  refine lMet (y := yL_undo) (cc := cL_undo) (maxL := 3) (ret := (some .int)) (hh := [(0, 8, 11, 15)]) (Qc := fun A => WI D k (bRO k o now bf pa pn pk sv iz tr tx er fl li ll ac ci ch ++ bL1 k out ou) 1 A) [.ref o, .ref out] (by decide) rfl (Nat.le_of_ble_eq_true rfl) ?_
  intro p9 e9 s9 m9 bl9 me9 c9 ls A H hF hr hlocks htab hP hK hN hXN hNC hZ hKC hD hA hS hl
  have hl : lv_has ls 3 [(0, .ref o), (1, .ref out)] := hl
  obtain ⟨hx, hb, hml, hown, hts⟩ := id hF
  refine lv_aload_n hx hb dL_undo_0 rfl (lv_at hl 1 rfl) ?_
  refine lv_iconst (v := 0) hx hb dL_undo_1 (by decide) ?_
  refine lv_aload_n hx hb dL_undo_2 rfl (lv_at hl 0 rfl) ?_
  have hFc := l_free (wc := bRO k o now bf pa pn pk sv iz tr tx er fl li ll ac ci ch) (wr := bL1 k out ou) hD hS hA
  refine vx_calli (vx_runV (As := []) (rest := [.int 0, .ref out]) hF (x_X12_undo l9 hl9 D k H.size now o bf pa pn pk sv tr tx li ll ac ci ch iz er fl h0) (cwV 0 hts gL_undo_X12_undo rfl rfl rfl (by decide +kernel) ⟨Nat.le_of_ble_eq_true rfl, Nat.le_of_ble_eq_true rfl⟩) (l_preX hK hN hXN hZ hS hFc (l_P1 (wr := bL1 k out ou) hP) (l_D1 (wr := bL1 k out ou) hD) (ci := 10) rfl rfl) rfl rfl hl.1 rfl (lv_room (Nat.le_of_ble_eq_true rfl)) dL_undo_3 ⟨Nat.le_of_ble_eq_true rfl, Nat.le_of_ble_eq_true rfl⟩) hS (fun q _ h => hFc q h) hFc (fun q _ h => hFc q h) (fun E9 ce9 q9 u9 t9 H1 locs ht hvm _ hbx hz1 hk1 hS hce hcv hcl => ?_) (fun r u9 t9 H1 locs _ _ hp _ _ _ _ => hp.elim)
  obtain ⟨rfl, hbx⟩ := hbx
  obtain ⟨hP, hD⟩ := l_join (u := ()) (wr := bL1 k out ou) hP hD hk1 hFc hbx ht
  refine vx_catch (own := RL) (name := "java/lang/IllegalStateException") (E := "java/lang/IllegalStateException") hown [] ⟨0, 8, 11, 15⟩ [] (htab.trans rfl) (fun z hz => by simp only [List.not_mem_nil] at hz) rfl (by decide) (hts (.classLink RL 15 "java/lang/IllegalStateException") (by decide +kernel)) (va_Nw.use (xnL_tables (.castable "java/lang/IllegalStateException" "java/lang/IllegalStateException") (by decide)) (hXN.1 (.castable "java/lang/IllegalStateException" "java/lang/IllegalStateException") (by decide))) hce hcv hcl ?_
  clear hbx hk1 hz1 hvm hFc hce hcv hcl ht
  clear t9
  generalize H1 = H at hP hS ⊢
  refine W.eq (g2 := F0 m9 11 ls [.ref q9]) rfl ?_
  refine lv_astore_n (lv' := [(2, .ref q9), (0, .ref o), (1, .ref out)]) hx hb dL_undo_11 rfl hl (by decide) rfl (fun ls hl => ?_)
  refine lv_iconst (v := 1) hx hb dL_undo_12 (by decide) ?_
  refine W.widen (k := 1) (n := 6) (Nat.le_of_ble_eq_true rfl) (Nat.le_of_ble_eq_true rfl) ?_
  exact W.iret (v := 1) hx hb hr (fun t9 ht hW => ⟨⟨_, (), rfl, (by first | (with_reducible exact rfl) | (rw [if_pos (by assumption)]; done) | (rw [if_neg (ne_true_of_eq_false (by assumption))]; done)), ⟨by rw [ht]; exact hP, va_K.moved hW.alike hK, hD⟩⟩, hS.F ht⟩) hS.2.2 dL_undo_13 hlocks

set_option maxHeartbeats 4000000 in
set_option maxRecDepth 100000 in
theorem m_L_restore_ok (l9 : Launch) (hl9 : l9.stackTraces = false) (D : va_G) (k : Nat → ClassId) (ks kv kf : Nat → Nat) (ka kw : Nat) (sz : Nat) (o bf pa pn pk sv tr tx li ll ac ci ch : Nat) (iz : Bool) (er fl : Int32) (qs qc qr ql : Nat → Nat) (lim sh sc : Int32) (fr : Nat → UInt32) (n : Nat) (w ly t a : Nat → Int32) (fx : Nat → UInt32) (kd rk : Nat → Int32) (lsh lk : Nat → Int32) (lc lx : Nat) (qs2 qc2 qr2 ql2 : Nat → Nat) (lim2 sh2 sc2 : Int32) (fr2 : Nat → UInt32) (n2 : Nat) (w2 ly2 t2 a2 : Nat → Int32) (fx2 : Nat → UInt32) (kd2 rk2 : Nat → Int32) (lsh2 lk2 : Nat → Int32) (lc2 lx2 : Nat) (out : Nat) (ou : Nat → Int64) (hkd : chOk kd2 4) (hrk : chOk rk2 12) (hlk : chOk lk2 16) (hiz : iz = true) : Met l9 yL_restore wsL_restore ({ frames := 4, cells := 1, slots := 6, locals := 122 }) (LPc ks kv kf ka kw D k [.ref o, .ref out] (bRO k o (qs 0) bf pa pn pk (qs2 0) iz tr tx er fl li ll ac ci ch ++ bSt k qs qc qr ql lim sh sc fr ++ bClaims k qc n w ly t a fx ++ bRacks k qr kd rk ++ bLog k ql lsh lk lc lx ++ bSt k qs2 qc2 qr2 ql2 lim2 sh2 sc2 fr2 ++ bClaims k qc2 n2 w2 ly2 t2 a2 fx2 ++ bRacks k qr2 kd2 rk2 ++ bLog k ql2 lsh2 lk2 lc2 lx2 ++ bL1 k out ou) sz) (WI D k (bRO k o (qs 0) bf pa pn 0 (qs2 0) iz tr tx er fl li ll ac ci ch ++ bSt k qs qc qr ql lim2 sh2 sc2 fr ++ bClaims k qc n2 w2 ly2 t2 a2 fx2 ++ bRacks k qr kd2 rk2 ++ bLog k ql lsh2 lk2 lc2 lx2 ++ bSt k qs2 qc2 qr2 ql2 lim2 sh2 sc2 fr2 ++ bClaims k qc2 n2 w2 ly2 t2 a2 fx2 ++ bRacks k qr2 kd2 rk2 ++ bLog k ql2 lsh2 lk2 lc2 lx2 ++ bL1 k out (vp_updL ou 0 ((nI n2).toInt64))) 0 (va_A (bRO k o (qs 0) bf pa pn pk (qs2 0) iz tr tx er fl li ll ac ci ch ++ bSt k qs qc qr ql lim sh sc fr ++ bClaims k qc n w ly t a fx ++ bRacks k qr kd rk ++ bLog k ql lsh lk lc lx ++ bSt k qs2 qc2 qr2 ql2 lim2 sh2 sc2 fr2 ++ bClaims k qc2 n2 w2 ly2 t2 a2 fx2 ++ bRacks k qr2 kd2 rk2 ++ bLog k ql2 lsh2 lk2 lc2 lx2 ++ bL1 k out ou) sz)) 1 6 (va_A (bRO k o (qs 0) bf pa pn pk (qs2 0) iz tr tx er fl li ll ac ci ch ++ bSt k qs qc qr ql lim sh sc fr ++ bClaims k qc n w ly t a fx ++ bRacks k qr kd rk ++ bLog k ql lsh lk lc lx ++ bSt k qs2 qc2 qr2 ql2 lim2 sh2 sc2 fr2 ++ bClaims k qc2 n2 w2 ly2 t2 a2 fx2 ++ bRacks k qr2 kd2 rk2 ++ bLog k ql2 lsh2 lk2 lc2 lx2 ++ bL1 k out ou) sz) := by
  refine lMet (y := yL_restore) (cc := cL_restore) (maxL := 3) (ret := (some .int)) (hh := [(0, 8, 11, 15)]) (Qc := fun A => WI D k (bRO k o (qs 0) bf pa pn 0 (qs2 0) iz tr tx er fl li ll ac ci ch ++ bSt k qs qc qr ql lim2 sh2 sc2 fr ++ bClaims k qc n2 w2 ly2 t2 a2 fx2 ++ bRacks k qr kd2 rk2 ++ bLog k ql lsh2 lk2 lc2 lx2 ++ bSt k qs2 qc2 qr2 ql2 lim2 sh2 sc2 fr2 ++ bClaims k qc2 n2 w2 ly2 t2 a2 fx2 ++ bRacks k qr2 kd2 rk2 ++ bLog k ql2 lsh2 lk2 lc2 lx2 ++ bL1 k out (vp_updL ou 0 ((nI n2).toInt64))) 0 A) [.ref o, .ref out] (by decide) rfl (Nat.le_of_ble_eq_true rfl) ?_
  intro p9 e9 s9 m9 bl9 me9 c9 ls A H hF hr hlocks htab hP hK hN hXN hNC hZ hKC hD hA hS hl
  have hl : lv_has ls 3 [(0, .ref o), (1, .ref out)] := hl
  obtain ⟨hx, hb, hml, hown, hts⟩ := id hF
  refine lv_aload_n hx hb dL_restore_0 rfl (lv_at hl 1 rfl) ?_
  refine lv_iconst (v := 0) hx hb dL_restore_1 (by decide) ?_
  refine lv_aload_n hx hb dL_restore_2 rfl (lv_at hl 0 rfl) ?_
  have hFc := l_free (wc := bRO k o (qs 0) bf pa pn pk (qs2 0) iz tr tx er fl li ll ac ci ch ++ bSt k qs qc qr ql lim sh sc fr ++ bClaims k qc n w ly t a fx ++ bRacks k qr kd rk ++ bLog k ql lsh lk lc lx ++ bSt k qs2 qc2 qr2 ql2 lim2 sh2 sc2 fr2 ++ bClaims k qc2 n2 w2 ly2 t2 a2 fx2 ++ bRacks k qr2 kd2 rk2 ++ bLog k ql2 lsh2 lk2 lc2 lx2) (wr := bL1 k out ou) hD hS hA
  refine va_calli (va_runV (As := []) (rest := [.int 0, .ref out]) hF (m_X12_restore l9 D k H.size o bf pa pn pk sv tr tx li ll ac ci ch iz er fl qs qc qr ql lim sh sc fr n w ly t a fx kd rk lsh lk lc lx qs2 qc2 qr2 ql2 lim2 sh2 sc2 fr2 n2 w2 ly2 t2 a2 fx2 kd2 rk2 lsh2 lk2 lc2 lx2 hkd hrk hlk hiz) (cwV 0 hts gL_restore_X12_restore rfl rfl rfl (by decide +kernel) ⟨Nat.le_of_ble_eq_true rfl, Nat.le_of_ble_eq_true rfl⟩) (l_preV hK hN (l_P1 (wr := bL1 k out ou) hP) (l_D1 (wr := bL1 k out ou) hD) (ci := 10) rfl rfl) rfl rfl hl.1 rfl (lv_room (Nat.le_of_ble_eq_true rfl)) dL_restore_3 ⟨Nat.zero_le _, Nat.zero_le _⟩) hS (fun q _ h => hFc q h) hFc (fun r u9 t9 H1 locs ht hvm hw hB hz1 hk1 hS => ?_)
  obtain ⟨hP, hD⟩ := l_join (wr := bL1 k out ou) hP hD hk1 hFc hB ht
  subst hw
  clear hB hk1 hz1 hvm hFc
  clear ht
  clear t9
  generalize H1 = H at hP hS ⊢
  refine lv_i2l hx hb dL_restore_6 rfl ?_
  refine la_st hx hb hK hP hD hS 29 rfl 0 (by omega) (by decide) (bRO k o (qs 0) bf pa pn 0 (qs2 0) iz tr tx er fl li ll ac ci ch ++ bSt k qs qc qr ql lim2 sh2 sc2 fr ++ bClaims k qc n2 w2 ly2 t2 a2 fx2 ++ bRacks k qr kd2 rk2 ++ bLog k ql lsh2 lk2 lc2 lx2 ++ bSt k qs2 qc2 qr2 ql2 lim2 sh2 sc2 fr2 ++ bClaims k qc2 n2 w2 ly2 t2 a2 fx2 ++ bRacks k qr2 kd2 rk2 ++ bLog k ql2 lsh2 lk2 lc2 lx2 ++ bL1 k out (vp_updL ou 0 ((nI n2).toInt64))) rfl dL_restore_7 (fun H locs hP hD hS => ?_)
  refine lv_goto (tgt := 14) hx hb dL_restore_8 (by decide) ?_
  refine lv_iconst (v := 0) hx hb dL_restore_14 (by decide) ?_
  refine W.widen (k := 1) (n := 6) (Nat.le_of_ble_eq_true rfl) (Nat.le_of_ble_eq_true rfl) ?_
  exact W.iret (v := 0) hx hb hr (fun t9 ht hW => ⟨⟨_, (), rfl, (by first | (with_reducible exact rfl) | (rw [if_pos (by assumption)]; done) | (rw [if_neg (ne_true_of_eq_false (by assumption))]; done)), ⟨by rw [ht]; exact hP, va_K.moved hW.alike hK, hD⟩⟩, hS.F ht⟩) hS.2.2 dL_restore_15 hlocks

set_option maxHeartbeats 4000000 in
set_option maxRecDepth 100000 in
theorem m_L_restore_1 (l9 : Launch) (hl9 : l9.stackTraces = false) (D : va_G) (k : Nat → ClassId) (ks kv kf : Nat → Nat) (ka kw : Nat) (sz : Nat) (now : Nat) (o bf pa pn pk sv tr tx li ll ac ci ch : Nat) (iz : Bool) (er fl : Int32)  (out : Nat) (ou : Nat → Int64) (hiz : iz = false) : Met l9 yL_restore wsL_restore ({ frames := 7, cells := 1, slots := 6, locals := 102 }) (LPc ks kv kf ka kw D k [.ref o, .ref out] (bRO k o now bf pa pn pk sv iz tr tx er fl li ll ac ci ch ++ bL1 k out ou) sz) (WI D k (bRO k o now bf pa pn pk sv iz tr tx er fl li ll ac ci ch ++ bL1 k out ou) 1 (va_A (bRO k o now bf pa pn pk sv iz tr tx er fl li ll ac ci ch ++ bL1 k out ou) sz)) 1 6 (va_A (bRO k o now bf pa pn pk sv iz tr tx er fl li ll ac ci ch ++ bL1 k out ou) sz) := by
  refine lMet (y := yL_restore) (cc := cL_restore) (maxL := 3) (ret := (some .int)) (hh := [(0, 8, 11, 15)]) (Qc := fun A => WI D k (bRO k o now bf pa pn pk sv iz tr tx er fl li ll ac ci ch ++ bL1 k out ou) 1 A) [.ref o, .ref out] (by decide) rfl (Nat.le_of_ble_eq_true rfl) ?_
  intro p9 e9 s9 m9 bl9 me9 c9 ls A H hF hr hlocks htab hP hK hN hXN hNC hZ hKC hD hA hS hl
  have hl : lv_has ls 3 [(0, .ref o), (1, .ref out)] := hl
  obtain ⟨hx, hb, hml, hown, hts⟩ := id hF
  refine lv_aload_n hx hb dL_restore_0 rfl (lv_at hl 1 rfl) ?_
  refine lv_iconst (v := 0) hx hb dL_restore_1 (by decide) ?_
  refine lv_aload_n hx hb dL_restore_2 rfl (lv_at hl 0 rfl) ?_
  have hFc := l_free (wc := bRO k o now bf pa pn pk sv iz tr tx er fl li ll ac ci ch) (wr := bL1 k out ou) hD hS hA
  refine vx_calli (vx_runV (As := []) (rest := [.int 0, .ref out]) hF (x_X12_restore l9 hl9 D k H.size now o bf pa pn pk sv tr tx li ll ac ci ch iz er fl hiz) (cwV 0 hts gL_restore_X12_restore rfl rfl rfl (by decide +kernel) ⟨Nat.le_of_ble_eq_true rfl, Nat.le_of_ble_eq_true rfl⟩) (l_preX hK hN hXN hZ hS hFc (l_P1 (wr := bL1 k out ou) hP) (l_D1 (wr := bL1 k out ou) hD) (ci := 10) rfl rfl) rfl rfl hl.1 rfl (lv_room (Nat.le_of_ble_eq_true rfl)) dL_restore_3 ⟨Nat.le_of_ble_eq_true rfl, Nat.le_of_ble_eq_true rfl⟩) hS (fun q _ h => hFc q h) hFc (fun q _ h => hFc q h) (fun E9 ce9 q9 u9 t9 H1 locs ht hvm _ hbx hz1 hk1 hS hce hcv hcl => ?_) (fun r u9 t9 H1 locs _ _ hp _ _ _ _ => hp.elim)
  obtain ⟨rfl, hbx⟩ := hbx
  obtain ⟨hP, hD⟩ := l_join (u := ()) (wr := bL1 k out ou) hP hD hk1 hFc hbx ht
  refine vx_catch (own := RL) (name := "java/lang/IllegalStateException") (E := "java/lang/IllegalStateException") hown [] ⟨0, 8, 11, 15⟩ [] (htab.trans rfl) (fun z hz => by simp only [List.not_mem_nil] at hz) rfl (by decide) (hts (.classLink RL 15 "java/lang/IllegalStateException") (by decide +kernel)) (va_Nw.use (xnL_tables (.castable "java/lang/IllegalStateException" "java/lang/IllegalStateException") (by decide)) (hXN.1 (.castable "java/lang/IllegalStateException" "java/lang/IllegalStateException") (by decide))) hce hcv hcl ?_
  clear hbx hk1 hz1 hvm hFc hce hcv hcl ht
  clear t9
  generalize H1 = H at hP hS ⊢
  refine W.eq (g2 := F0 m9 11 ls [.ref q9]) rfl ?_
  refine lv_astore_n (lv' := [(2, .ref q9), (0, .ref o), (1, .ref out)]) hx hb dL_restore_11 rfl hl (by decide) rfl (fun ls hl => ?_)
  refine lv_iconst (v := 1) hx hb dL_restore_12 (by decide) ?_
  refine W.widen (k := 1) (n := 6) (Nat.le_of_ble_eq_true rfl) (Nat.le_of_ble_eq_true rfl) ?_
  exact W.iret (v := 1) hx hb hr (fun t9 ht hW => ⟨⟨_, (), rfl, (by first | (with_reducible exact rfl) | (rw [if_pos (by assumption)]; done) | (rw [if_neg (ne_true_of_eq_false (by assumption))]; done)), ⟨by rw [ht]; exact hP, va_K.moved hW.alike hK, hD⟩⟩, hS.F ht⟩) hS.2.2 dL_restore_13 hlocks

set_option maxHeartbeats 4000000 in
set_option maxRecDepth 100000 in
theorem m_L_fluxOf_ok (l9 : Launch) (hl9 : l9.stackTraces = false) (D : va_G) (k : Nat → ClassId) (ks kv kf : Nat → Nat) (ka kw : Nat) (sz : Nat) (o bf pa pn pk sv tr tx li ll ac ci ch : Nat) (iz : Bool) (er fl : Int32) (qs qc qr ql : Nat → Nat) (lim sh sc : Int32) (fr : Nat → UInt32) (n : Nat) (w ly t a : Nat → Int32) (fx : Nat → UInt32) (x : Int32) (out : Nat) (ou : Nat → UInt64) (hn : n ≤ 10) (hxn : inC n x = true) (hf9 : vf_n64 (FP.f2d (fx x.toNatClampNeg))) : Met l9 yL_fluxOf wsL_fluxOf ({ frames := 3, cells := 1, slots := 6, locals := 63 }) (LPc ks kv kf ka kw D k [.ref o, .int x, .ref out] (bRO k o (qs 0) bf pa pn pk sv iz tr tx er fl li ll ac ci ch ++ bSt k qs qc qr ql lim sh sc fr ++ bClaims k qc n w ly t a fx ++ bD1 k out ou) sz) (WI D k (bRO k o (qs 0) bf pa pn pk sv iz tr tx er fl li ll ac ci ch ++ bSt k qs qc qr ql lim sh sc fr ++ bClaims k qc n w ly t a fx ++ bD1 k out (vf_upd ou 0 (FP.f2d (fx x.toNatClampNeg)))) 0 (va_A (bRO k o (qs 0) bf pa pn pk sv iz tr tx er fl li ll ac ci ch ++ bSt k qs qc qr ql lim sh sc fr ++ bClaims k qc n w ly t a fx ++ bD1 k out ou) sz)) 1 6 (va_A (bRO k o (qs 0) bf pa pn pk sv iz tr tx er fl li ll ac ci ch ++ bSt k qs qc qr ql lim sh sc fr ++ bClaims k qc n w ly t a fx ++ bD1 k out ou) sz) := by
  refine lMet (y := yL_fluxOf) (cc := cL_fluxOf) (maxL := 4) (ret := (some .int)) (hh := [(0, 9, 12, 21)]) (Qc := fun A => WI D k (bRO k o (qs 0) bf pa pn pk sv iz tr tx er fl li ll ac ci ch ++ bSt k qs qc qr ql lim sh sc fr ++ bClaims k qc n w ly t a fx ++ bD1 k out (vf_upd ou 0 (FP.f2d (fx x.toNatClampNeg)))) 0 A) [.ref o, .int x, .ref out] (by decide) rfl (Nat.le_of_ble_eq_true rfl) ?_
  intro p9 e9 s9 m9 bl9 me9 c9 ls A H hF hr hlocks htab hP hK hN hXN hNC hZ hKC hD hA hS hl
  have hl : lv_has ls 4 [(0, .ref o), (1, .int x), (2, .ref out)] := hl
  obtain ⟨hx, hb, hml, hown, hts⟩ := id hF
  refine lv_aload_n hx hb dL_fluxOf_0 rfl (lv_at hl 2 rfl) ?_
  refine lv_iconst (v := 0) hx hb dL_fluxOf_1 (by decide) ?_
  refine lv_aload_n hx hb dL_fluxOf_2 rfl (lv_at hl 0 rfl) ?_
  refine lv_iload_n hx hb dL_fluxOf_3 rfl (lv_at hl 1 rfl) ?_
  have hFc := l_free (wc := bRO k o (qs 0) bf pa pn pk sv iz tr tx er fl li ll ac ci ch ++ bSt k qs qc qr ql lim sh sc fr ++ bClaims k qc n w ly t a fx) (wr := bD1 k out ou) hD hS hA
  refine va_callf (va_runV (As := [.int x]) (rest := [.int 0, .ref out]) hF (m_X12_fluxOf l9 D k H.size o bf pa pn pk sv tr tx li ll ac ci ch iz er fl qs qc qr ql lim sh sc fr n w ly t a fx x hn hxn) (cwV 1 hts gL_fluxOf_X12_fluxOf rfl rfl rfl (by decide +kernel) ⟨Nat.le_of_ble_eq_true rfl, Nat.le_of_ble_eq_true rfl⟩) (l_preV hK hN (l_P1 (wr := bD1 k out ou) hP) (l_D1 (wr := bD1 k out ou) hD) (ci := 10) rfl rfl) rfl rfl hl.1 rfl (lv_room (Nat.le_of_ble_eq_true rfl)) dL_fluxOf_4 ⟨Nat.zero_le _, Nat.zero_le _⟩) hS (fun q _ h => hFc q h) hFc (fun r u9 t9 H1 locs ht hvm hw hB hz1 hk1 hS => ?_)
  obtain ⟨hP, hD⟩ := l_join (wr := bD1 k out ou) hP hD hk1 hFc hB ht
  subst hw
  clear hB hk1 hz1 hvm hFc
  clear ht
  clear t9
  generalize H1 = H at hP hS ⊢
  refine lv_f2d hx hb dL_fluxOf_7 hf9 ?_
  refine da_st hx hb hK hP hD hS 9 rfl 0 (by omega) (by decide) (bRO k o (qs 0) bf pa pn pk sv iz tr tx er fl li ll ac ci ch ++ bSt k qs qc qr ql lim sh sc fr ++ bClaims k qc n w ly t a fx ++ bD1 k out (vf_upd ou 0 (FP.f2d (fx x.toNatClampNeg)))) rfl dL_fluxOf_8 (fun H locs hP hD hS => ?_)
  refine lv_goto (tgt := 15) hx hb dL_fluxOf_9 (by decide) ?_
  refine lv_iconst (v := 0) hx hb dL_fluxOf_15 (by decide) ?_
  refine W.widen (k := 1) (n := 6) (Nat.le_of_ble_eq_true rfl) (Nat.le_of_ble_eq_true rfl) ?_
  exact W.iret (v := 0) hx hb hr (fun t9 ht hW => ⟨⟨_, (), rfl, (by first | (with_reducible exact rfl) | (rw [if_pos (by assumption)]; done) | (rw [if_neg (ne_true_of_eq_false (by assumption))]; done)), ⟨by rw [ht]; exact hP, va_K.moved hW.alike hK, hD⟩⟩, hS.F ht⟩) hS.2.2 dL_fluxOf_16 hlocks

set_option maxHeartbeats 4000000 in
set_option maxRecDepth 100000 in
theorem m_L_fluxOf_1 (l9 : Launch) (hl9 : l9.stackTraces = false) (D : va_G) (k : Nat → ClassId) (ks kv kf : Nat → Nat) (ka kw : Nat) (sz : Nat) (o bf pa pn pk sv tr tx li ll ac ci ch : Nat) (iz : Bool) (er fl : Int32) (qs qc qr ql : Nat → Nat) (lim sh sc : Int32) (fr : Nat → UInt32) (n : Nat) (w ly t a : Nat → Int32) (fx : Nat → UInt32) (x : Int32) (out : Nat) (ou : Nat → UInt64) (hxn : inC n x = false) : Met l9 yL_fluxOf wsL_fluxOf ({ frames := 8, cells := 1, slots := 6, locals := 124 }) (LPc ks kv kf ka kw D k [.ref o, .int x, .ref out] (bRO k o (qs 0) bf pa pn pk sv iz tr tx er fl li ll ac ci ch ++ bSt k qs qc qr ql lim sh sc fr ++ bClaims k qc n w ly t a fx ++ bD1 k out ou) sz) (WI D k (bRO k o (qs 0) bf pa pn pk sv iz tr tx er fl li ll ac ci ch ++ bSt k qs qc qr ql lim sh sc fr ++ bClaims k qc n w ly t a fx ++ bD1 k out ou) 1 (va_A (bRO k o (qs 0) bf pa pn pk sv iz tr tx er fl li ll ac ci ch ++ bSt k qs qc qr ql lim sh sc fr ++ bClaims k qc n w ly t a fx ++ bD1 k out ou) sz)) 1 6 (va_A (bRO k o (qs 0) bf pa pn pk sv iz tr tx er fl li ll ac ci ch ++ bSt k qs qc qr ql lim sh sc fr ++ bClaims k qc n w ly t a fx ++ bD1 k out ou) sz) := by
  refine lMet (y := yL_fluxOf) (cc := cL_fluxOf) (maxL := 4) (ret := (some .int)) (hh := [(0, 9, 12, 21)]) (Qc := fun A => WI D k (bRO k o (qs 0) bf pa pn pk sv iz tr tx er fl li ll ac ci ch ++ bSt k qs qc qr ql lim sh sc fr ++ bClaims k qc n w ly t a fx ++ bD1 k out ou) 1 A) [.ref o, .int x, .ref out] (by decide) rfl (Nat.le_of_ble_eq_true rfl) ?_
  intro p9 e9 s9 m9 bl9 me9 c9 ls A H hF hr hlocks htab hP hK hN hXN hNC hZ hKC hD hA hS hl
  have hl : lv_has ls 4 [(0, .ref o), (1, .int x), (2, .ref out)] := hl
  obtain ⟨hx, hb, hml, hown, hts⟩ := id hF
  refine lv_aload_n hx hb dL_fluxOf_0 rfl (lv_at hl 2 rfl) ?_
  refine lv_iconst (v := 0) hx hb dL_fluxOf_1 (by decide) ?_
  refine lv_aload_n hx hb dL_fluxOf_2 rfl (lv_at hl 0 rfl) ?_
  refine lv_iload_n hx hb dL_fluxOf_3 rfl (lv_at hl 1 rfl) ?_
  have hFc := l_free (wc := bRO k o (qs 0) bf pa pn pk sv iz tr tx er fl li ll ac ci ch ++ bSt k qs qc qr ql lim sh sc fr ++ bClaims k qc n w ly t a fx) (wr := bD1 k out ou) hD hS hA
  refine vx_callf (vx_runV (As := [.int x]) (rest := [.int 0, .ref out]) hF (x_X12_fluxOf l9 hl9 D k H.size o bf pa pn pk sv tr tx li ll ac ci ch iz er fl qs qc qr ql lim sh sc fr n w ly t a fx x hxn) (cwV 1 hts gL_fluxOf_X12_fluxOf rfl rfl rfl (by decide +kernel) ⟨Nat.le_of_ble_eq_true rfl, Nat.le_of_ble_eq_true rfl⟩) (l_preX hK hN hXN hZ hS hFc (l_P1 (wr := bD1 k out ou) hP) (l_D1 (wr := bD1 k out ou) hD) (ci := 10) rfl rfl) rfl rfl hl.1 rfl (lv_room (Nat.le_of_ble_eq_true rfl)) dL_fluxOf_4 ⟨Nat.le_of_ble_eq_true rfl, Nat.le_of_ble_eq_true rfl⟩) hS (fun q _ h => hFc q h) hFc (fun q _ h => hFc q h) (fun E9 ce9 q9 u9 t9 H1 locs ht hvm _ hbx hz1 hk1 hS hce hcv hcl => ?_) (fun r u9 t9 H1 locs _ _ hp _ _ _ _ => hp.elim)
  obtain ⟨rfl, hbx⟩ := hbx
  obtain ⟨hP, hD⟩ := l_join (u := ()) (wr := bD1 k out ou) hP hD hk1 hFc hbx ht
  refine vx_catch (own := RL) (name := "java/lang/IndexOutOfBoundsException") (E := "java/lang/IndexOutOfBoundsException") hown [] ⟨0, 9, 12, 21⟩ [] (htab.trans rfl) (fun z hz => by simp only [List.not_mem_nil] at hz) rfl (by decide) (hts (.classLink RL 21 "java/lang/IndexOutOfBoundsException") (by decide +kernel)) (va_Nw.use (xnL_tables (.castable "java/lang/IndexOutOfBoundsException" "java/lang/IndexOutOfBoundsException") (by decide)) (hXN.1 (.castable "java/lang/IndexOutOfBoundsException" "java/lang/IndexOutOfBoundsException") (by decide))) hce hcv hcl ?_
  clear hbx hk1 hz1 hvm hFc hce hcv hcl ht
  clear t9
  generalize H1 = H at hP hS ⊢
  refine W.eq (g2 := F0 m9 12 ls [.ref q9]) rfl ?_
  refine lv_astore_n (lv' := [(3, .ref q9), (0, .ref o), (1, .int x), (2, .ref out)]) hx hb dL_fluxOf_12 rfl hl (by decide) rfl (fun ls hl => ?_)
  refine lv_iconst (v := 1) hx hb dL_fluxOf_13 (by decide) ?_
  refine W.widen (k := 1) (n := 6) (Nat.le_of_ble_eq_true rfl) (Nat.le_of_ble_eq_true rfl) ?_
  exact W.iret (v := 1) hx hb hr (fun t9 ht hW => ⟨⟨_, (), rfl, (by first | (with_reducible exact rfl) | (rw [if_pos (by assumption)]; done) | (rw [if_neg (ne_true_of_eq_false (by assumption))]; done)), ⟨by rw [ht]; exact hP, va_K.moved hW.alike hK, hD⟩⟩, hS.F ht⟩) hS.2.2 dL_fluxOf_14 hlocks

set_option maxHeartbeats 4000000 in
set_option maxRecDepth 100000 in
theorem m_L_excite_ok (l9 : Launch) (hl9 : l9.stackTraces = false) (D : va_G) (k : Nat → ClassId) (ks kv kf : Nat → Nat) (ka kw : Nat) (sz : Nat) (o bf pa pn pk sv tr tx li ll ac ci ch : Nat) (iz : Bool) (er fl : Int32) (g : Nat → Nat) (qs qc qr ql : Nat → Nat) (lim sh sc : Int32) (fr : Nat → UInt32) (n : Nat) (w ly t a : Nat → Int32) (fx : Nat → UInt32) (kd rk : Nat → Int32) (lsh lk : Nat → Int32) (lc lx : Nat) (qs2 qc2 qr2 ql2 : Nat → Nat) (lim2 sh2 sc2 : Int32) (fr2 : Nat → UInt32) (n2 : Nat) (w2 ly2 t2 a2 : Nat → Int32) (fx2 : Nat → UInt32) (kd2 rk2 : Nat → Int32) (lsh2 lk2 : Nat → Int32) (lc2 lx2 : Nat) (x am : Int32) (out : Nat) (ou : Nat → UInt64) (hkd : chOk kd 4) (hrk : chOk rk 12) (hlk : chOk lk 16) (hpn : pn < 8) (hpk : pk ≤ 8) (hn : n ≤ 10) (hf : ∀ c, c < n → okF (fx c)) (hlc : lc ≤ 16) (hlx : lx < 16) (hok : hOk n x am = true) (hf9 : vf_n64 (FP.f2d ((opHeat n fx x am).2 x.toNatClampNeg))) : Met l9 yL_excite wsL_excite ({ frames := 4, cells := 1, slots := 6, locals := 125 }) (LPc ks kv kf ka kw D k [.ref o, .int x, .int am, .ref out] (bRO k o (qs 0) (qs2 0) pa pn pk sv iz tr tx er fl li ll ac ci ch ++ bPA k pa g ++ bSt k qs qc qr ql lim sh sc fr ++ bClaims k qc n w ly t a fx ++ bRacks k qr kd rk ++ bLog k ql lsh lk lc lx ++ bSt k qs2 qc2 qr2 ql2 lim2 sh2 sc2 fr2 ++ bClaims k qc2 n2 w2 ly2 t2 a2 fx2 ++ bRacks k qr2 kd2 rk2 ++ bLog k ql2 lsh2 lk2 lc2 lx2 ++ bD1 k out ou) sz) (WI D k (bRO k o (qs 0) (g pn) pa ((pn + 1) % 8) (min (pk + 1) 8) sv iz tr tx er fl li ll ac ci ch ++ bPA k pa (upP g pn (qs2 0)) ++ bSt k qs qc qr ql lim sh sc fr ++ bClaims k qc n w ly t a ((opHeat n fx x am).2) ++ bRacks k qr kd rk ++ bLog k ql (if hOk n x am = false then lsh else upd lsh lx sh) (if hOk n x am = false then lk else upd lk lx 101) (if hOk n x am = false then lc else min (lc + 1) 16) (if hOk n x am = false then lx else (lx + 1) % 16) ++ bSt k qs2 qc2 qr2 ql2 lim sh sc fr2 ++ bClaims k qc2 n w ly t a fx ++ bRacks k qr2 kd rk ++ bLog k ql2 lsh lk lc lx ++ bD1 k out (vf_upd ou 0 (FP.f2d ((opHeat n fx x am).2 x.toNatClampNeg)))) 0 (va_A (bRO k o (qs 0) (qs2 0) pa pn pk sv iz tr tx er fl li ll ac ci ch ++ bPA k pa g ++ bSt k qs qc qr ql lim sh sc fr ++ bClaims k qc n w ly t a fx ++ bRacks k qr kd rk ++ bLog k ql lsh lk lc lx ++ bSt k qs2 qc2 qr2 ql2 lim2 sh2 sc2 fr2 ++ bClaims k qc2 n2 w2 ly2 t2 a2 fx2 ++ bRacks k qr2 kd2 rk2 ++ bLog k ql2 lsh2 lk2 lc2 lx2 ++ bD1 k out ou) sz)) 1 6 (va_A (bRO k o (qs 0) (qs2 0) pa pn pk sv iz tr tx er fl li ll ac ci ch ++ bPA k pa g ++ bSt k qs qc qr ql lim sh sc fr ++ bClaims k qc n w ly t a fx ++ bRacks k qr kd rk ++ bLog k ql lsh lk lc lx ++ bSt k qs2 qc2 qr2 ql2 lim2 sh2 sc2 fr2 ++ bClaims k qc2 n2 w2 ly2 t2 a2 fx2 ++ bRacks k qr2 kd2 rk2 ++ bLog k ql2 lsh2 lk2 lc2 lx2 ++ bD1 k out ou) sz) := by
  refine lMet (y := yL_excite) (cc := cL_excite) (maxL := 5) (ret := (some .int)) (hh := [(0, 10, 13, 21), (0, 10, 17, 13)]) (Qc := fun A => WI D k (bRO k o (qs 0) (g pn) pa ((pn + 1) % 8) (min (pk + 1) 8) sv iz tr tx er fl li ll ac ci ch ++ bPA k pa (upP g pn (qs2 0)) ++ bSt k qs qc qr ql lim sh sc fr ++ bClaims k qc n w ly t a ((opHeat n fx x am).2) ++ bRacks k qr kd rk ++ bLog k ql (if hOk n x am = false then lsh else upd lsh lx sh) (if hOk n x am = false then lk else upd lk lx 101) (if hOk n x am = false then lc else min (lc + 1) 16) (if hOk n x am = false then lx else (lx + 1) % 16) ++ bSt k qs2 qc2 qr2 ql2 lim sh sc fr2 ++ bClaims k qc2 n w ly t a fx ++ bRacks k qr2 kd rk ++ bLog k ql2 lsh lk lc lx ++ bD1 k out (vf_upd ou 0 (FP.f2d ((opHeat n fx x am).2 x.toNatClampNeg)))) 0 A) [.ref o, .int x, .int am, .ref out] (by decide) rfl (Nat.le_of_ble_eq_true rfl) ?_
  intro p9 e9 s9 m9 bl9 me9 c9 ls A H hF hr hlocks htab hP hK hN hXN hNC hZ hKC hD hA hS hl
  have hl : lv_has ls 5 [(0, .ref o), (1, .int x), (2, .int am), (3, .ref out)] := hl
  obtain ⟨hx, hb, hml, hown, hts⟩ := id hF
  refine lv_aload_n hx hb dL_excite_0 rfl (lv_at hl 3 rfl) ?_
  refine lv_iconst (v := 0) hx hb dL_excite_1 (by decide) ?_
  refine lv_aload_n hx hb dL_excite_2 rfl (lv_at hl 0 rfl) ?_
  refine lv_iload_n hx hb dL_excite_3 rfl (lv_at hl 1 rfl) ?_
  refine lv_iload_n hx hb dL_excite_4 rfl (lv_at hl 2 rfl) ?_
  have hFc := l_free (wc := bRO k o (qs 0) (qs2 0) pa pn pk sv iz tr tx er fl li ll ac ci ch ++ bPA k pa g ++ bSt k qs qc qr ql lim sh sc fr ++ bClaims k qc n w ly t a fx ++ bRacks k qr kd rk ++ bLog k ql lsh lk lc lx ++ bSt k qs2 qc2 qr2 ql2 lim2 sh2 sc2 fr2 ++ bClaims k qc2 n2 w2 ly2 t2 a2 fx2 ++ bRacks k qr2 kd2 rk2 ++ bLog k ql2 lsh2 lk2 lc2 lx2) (wr := bD1 k out ou) hD hS hA
  refine va_callf (va_runV (As := [.int x, .int am]) (rest := [.int 0, .ref out]) hF (m_X12_excite l9 D k H.size o bf pa pn pk sv tr tx li ll ac ci ch iz er fl g qs qc qr ql lim sh sc fr n w ly t a fx kd rk lsh lk lc lx qs2 qc2 qr2 ql2 lim2 sh2 sc2 fr2 n2 w2 ly2 t2 a2 fx2 kd2 rk2 lsh2 lk2 lc2 lx2 x am hkd hrk hlk hpn hpk hn hf hlc hlx hok) (cwV 2 hts gL_excite_X12_excite rfl rfl rfl (by decide +kernel) ⟨Nat.le_of_ble_eq_true rfl, Nat.le_of_ble_eq_true rfl⟩) (l_preV hK hN (l_P1 (wr := bD1 k out ou) hP) (l_D1 (wr := bD1 k out ou) hD) (ci := 10) rfl rfl) rfl rfl hl.1 rfl (lv_room (Nat.le_of_ble_eq_true rfl)) dL_excite_5 ⟨Nat.zero_le _, Nat.zero_le _⟩) hS (fun q _ h => hFc q h) hFc (fun r u9 t9 H1 locs ht hvm hw hB hz1 hk1 hS => ?_)
  obtain ⟨hP, hD⟩ := l_join (wr := bD1 k out ou) hP hD hk1 hFc hB ht
  subst hw
  clear hB hk1 hz1 hvm hFc
  clear ht
  clear t9
  generalize H1 = H at hP hS ⊢
  refine lv_f2d hx hb dL_excite_8 hf9 ?_
  refine da_st hx hb hK hP hD hS 30 rfl 0 (by omega) (by decide) (bRO k o (qs 0) (g pn) pa ((pn + 1) % 8) (min (pk + 1) 8) sv iz tr tx er fl li ll ac ci ch ++ bPA k pa (upP g pn (qs2 0)) ++ bSt k qs qc qr ql lim sh sc fr ++ bClaims k qc n w ly t a ((opHeat n fx x am).2) ++ bRacks k qr kd rk ++ bLog k ql (if hOk n x am = false then lsh else upd lsh lx sh) (if hOk n x am = false then lk else upd lk lx 101) (if hOk n x am = false then lc else min (lc + 1) 16) (if hOk n x am = false then lx else (lx + 1) % 16) ++ bSt k qs2 qc2 qr2 ql2 lim sh sc fr2 ++ bClaims k qc2 n w ly t a fx ++ bRacks k qr2 kd rk ++ bLog k ql2 lsh lk lc lx ++ bD1 k out (vf_upd ou 0 (FP.f2d ((opHeat n fx x am).2 x.toNatClampNeg)))) rfl dL_excite_9 (fun H locs hP hD hS => ?_)
  refine lv_goto (tgt := 21) hx hb dL_excite_10 (by decide) ?_
  refine lv_iconst (v := 0) hx hb dL_excite_21 (by decide) ?_
  refine W.widen (k := 1) (n := 6) (Nat.le_of_ble_eq_true rfl) (Nat.le_of_ble_eq_true rfl) ?_
  exact W.iret (v := 0) hx hb hr (fun t9 ht hW => ⟨⟨_, (), rfl, (by first | (with_reducible exact rfl) | (rw [if_pos (by assumption)]; done) | (rw [if_neg (ne_true_of_eq_false (by assumption))]; done)), ⟨by rw [ht]; exact hP, va_K.moved hW.alike hK, hD⟩⟩, hS.F ht⟩) hS.2.2 dL_excite_22 hlocks

set_option maxHeartbeats 4000000 in
set_option maxRecDepth 100000 in
theorem m_L_excite_1 (l9 : Launch) (hl9 : l9.stackTraces = false) (D : va_G) (k : Nat → ClassId) (ks kv kf : Nat → Nat) (ka kw : Nat) (sz : Nat) (o bf pa pn pk sv tr tx li ll ac ci ch : Nat) (iz : Bool) (er fl : Int32) (g : Nat → Nat) (qs qc qr ql : Nat → Nat) (lim sh sc : Int32) (fr : Nat → UInt32) (n : Nat) (w ly t a : Nat → Int32) (fx : Nat → UInt32) (kd rk : Nat → Int32) (lsh lk : Nat → Int32) (lc lx : Nat) (qs2 qc2 qr2 ql2 : Nat → Nat) (lim2 sh2 sc2 : Int32) (fr2 : Nat → UInt32) (n2 : Nat) (w2 ly2 t2 a2 : Nat → Int32) (fx2 : Nat → UInt32) (kd2 rk2 : Nat → Int32) (lsh2 lk2 : Nat → Int32) (lc2 lx2 : Nat) (x am : Int32) (out : Nat) (ou : Nat → UInt64) (hkd : chOk kd 4) (hrk : chOk rk 12) (hlk : chOk lk 16) (hn : n ≤ 10) (hf : ∀ c, c < n → okF (fx c)) (hlc : lc ≤ 16) (hlx : lx < 16) (he : opHeat n fx x am = (-1, fx)) (hOn : hOk n x am = false) : Met l9 yL_excite wsL_excite ({ frames := 9, cells := 1, slots := 6, locals := 147 }) (LPc ks kv kf ka kw D k [.ref o, .int x, .int am, .ref out] (bRO k o (qs 0) (qs2 0) pa pn pk sv iz tr tx er fl li ll ac ci ch ++ bPA k pa g ++ bSt k qs qc qr ql lim sh sc fr ++ bClaims k qc n w ly t a fx ++ bRacks k qr kd rk ++ bLog k ql lsh lk lc lx ++ bSt k qs2 qc2 qr2 ql2 lim2 sh2 sc2 fr2 ++ bClaims k qc2 n2 w2 ly2 t2 a2 fx2 ++ bRacks k qr2 kd2 rk2 ++ bLog k ql2 lsh2 lk2 lc2 lx2 ++ bD1 k out ou) sz) (WI D k (bRO k o (qs 0) (qs2 0) pa pn pk sv iz tr tx er fl li ll ac ci ch ++ bPA k pa g ++ bSt k qs qc qr ql lim sh sc fr ++ bClaims k qc n w ly t a fx ++ bRacks k qr kd rk ++ bLog k ql lsh lk lc lx ++ bSt k qs2 qc2 qr2 ql2 lim sh sc fr2 ++ bClaims k qc2 n w ly t a fx ++ bRacks k qr2 kd rk ++ bLog k ql2 lsh lk lc lx ++ bD1 k out ou) 1 (va_A (bRO k o (qs 0) (qs2 0) pa pn pk sv iz tr tx er fl li ll ac ci ch ++ bPA k pa g ++ bSt k qs qc qr ql lim sh sc fr ++ bClaims k qc n w ly t a fx ++ bRacks k qr kd rk ++ bLog k ql lsh lk lc lx ++ bSt k qs2 qc2 qr2 ql2 lim2 sh2 sc2 fr2 ++ bClaims k qc2 n2 w2 ly2 t2 a2 fx2 ++ bRacks k qr2 kd2 rk2 ++ bLog k ql2 lsh2 lk2 lc2 lx2 ++ bD1 k out ou) sz)) 1 6 (va_A (bRO k o (qs 0) (qs2 0) pa pn pk sv iz tr tx er fl li ll ac ci ch ++ bPA k pa g ++ bSt k qs qc qr ql lim sh sc fr ++ bClaims k qc n w ly t a fx ++ bRacks k qr kd rk ++ bLog k ql lsh lk lc lx ++ bSt k qs2 qc2 qr2 ql2 lim2 sh2 sc2 fr2 ++ bClaims k qc2 n2 w2 ly2 t2 a2 fx2 ++ bRacks k qr2 kd2 rk2 ++ bLog k ql2 lsh2 lk2 lc2 lx2 ++ bD1 k out ou) sz) := by
  refine lMet (y := yL_excite) (cc := cL_excite) (maxL := 5) (ret := (some .int)) (hh := [(0, 10, 13, 21), (0, 10, 17, 13)]) (Qc := fun A => WI D k (bRO k o (qs 0) (qs2 0) pa pn pk sv iz tr tx er fl li ll ac ci ch ++ bPA k pa g ++ bSt k qs qc qr ql lim sh sc fr ++ bClaims k qc n w ly t a fx ++ bRacks k qr kd rk ++ bLog k ql lsh lk lc lx ++ bSt k qs2 qc2 qr2 ql2 lim sh sc fr2 ++ bClaims k qc2 n w ly t a fx ++ bRacks k qr2 kd rk ++ bLog k ql2 lsh lk lc lx ++ bD1 k out ou) 1 A) [.ref o, .int x, .int am, .ref out] (by decide) rfl (Nat.le_of_ble_eq_true rfl) ?_
  intro p9 e9 s9 m9 bl9 me9 c9 ls A H hF hr hlocks htab hP hK hN hXN hNC hZ hKC hD hA hS hl
  have hl : lv_has ls 5 [(0, .ref o), (1, .int x), (2, .int am), (3, .ref out)] := hl
  obtain ⟨hx, hb, hml, hown, hts⟩ := id hF
  refine lv_aload_n hx hb dL_excite_0 rfl (lv_at hl 3 rfl) ?_
  refine lv_iconst (v := 0) hx hb dL_excite_1 (by decide) ?_
  refine lv_aload_n hx hb dL_excite_2 rfl (lv_at hl 0 rfl) ?_
  refine lv_iload_n hx hb dL_excite_3 rfl (lv_at hl 1 rfl) ?_
  refine lv_iload_n hx hb dL_excite_4 rfl (lv_at hl 2 rfl) ?_
  have hFc := l_free (wc := bRO k o (qs 0) (qs2 0) pa pn pk sv iz tr tx er fl li ll ac ci ch ++ bPA k pa g ++ bSt k qs qc qr ql lim sh sc fr ++ bClaims k qc n w ly t a fx ++ bRacks k qr kd rk ++ bLog k ql lsh lk lc lx ++ bSt k qs2 qc2 qr2 ql2 lim2 sh2 sc2 fr2 ++ bClaims k qc2 n2 w2 ly2 t2 a2 fx2 ++ bRacks k qr2 kd2 rk2 ++ bLog k ql2 lsh2 lk2 lc2 lx2) (wr := bD1 k out ou) hD hS hA
  refine vx_callf (vx_runV (As := [.int x, .int am]) (rest := [.int 0, .ref out]) hF (x_X12_excite_1 l9 hl9 D k H.size o bf pa pn pk sv tr tx li ll ac ci ch iz er fl g qs qc qr ql lim sh sc fr n w ly t a fx kd rk lsh lk lc lx qs2 qc2 qr2 ql2 lim2 sh2 sc2 fr2 n2 w2 ly2 t2 a2 fx2 kd2 rk2 lsh2 lk2 lc2 lx2 x am hkd hrk hlk hn hf hlc hlx he hOn) (cwV 2 hts gL_excite_X12_excite rfl rfl rfl (by decide +kernel) ⟨Nat.le_of_ble_eq_true rfl, Nat.le_of_ble_eq_true rfl⟩) (l_preX hK hN hXN hZ hS hFc (l_P1 (wr := bD1 k out ou) hP) (l_D1 (wr := bD1 k out ou) hD) (ci := 10) rfl rfl) rfl rfl hl.1 rfl (lv_room (Nat.le_of_ble_eq_true rfl)) dL_excite_5 ⟨Nat.le_of_ble_eq_true rfl, Nat.le_of_ble_eq_true rfl⟩) hS (fun q _ h => hFc q h) hFc (fun q _ h => hFc q h) (fun E9 ce9 q9 u9 t9 H1 locs ht hvm _ hbx hz1 hk1 hS hce hcv hcl => ?_) (fun r u9 t9 H1 locs _ _ hp _ _ _ _ => hp.elim)
  obtain ⟨rfl, hbx⟩ := hbx
  obtain ⟨hP, hD⟩ := l_join (u := ()) (wr := bD1 k out ou) hP hD hk1 hFc hbx ht
  refine vx_catch (own := RL) (name := "java/lang/IndexOutOfBoundsException") (E := "java/lang/IndexOutOfBoundsException") hown [] ⟨0, 10, 13, 21⟩ [⟨0, 10, 17, 13⟩] (htab.trans rfl) (fun z hz => by simp only [List.not_mem_nil] at hz) rfl (by decide) (hts (.classLink RL 21 "java/lang/IndexOutOfBoundsException") (by decide +kernel)) (va_Nw.use (xnL_tables (.castable "java/lang/IndexOutOfBoundsException" "java/lang/IndexOutOfBoundsException") (by decide)) (hXN.1 (.castable "java/lang/IndexOutOfBoundsException" "java/lang/IndexOutOfBoundsException") (by decide))) hce hcv hcl ?_
  clear hbx hk1 hz1 hvm hFc hce hcv hcl ht
  clear t9
  generalize H1 = H at hP hS ⊢
  refine W.eq (g2 := F0 m9 13 ls [.ref q9]) rfl ?_
  refine lv_astore (lv' := [(4, .ref q9), (0, .ref o), (1, .int x), (2, .int am), (3, .ref out)]) hx hb dL_excite_13 hl (by decide) rfl (fun ls hl => ?_)
  refine lv_iconst (v := 1) hx hb dL_excite_15 (by decide) ?_
  refine W.widen (k := 1) (n := 6) (Nat.le_of_ble_eq_true rfl) (Nat.le_of_ble_eq_true rfl) ?_
  exact W.iret (v := 1) hx hb hr (fun t9 ht hW => ⟨⟨_, (), rfl, (by first | (with_reducible exact rfl) | (rw [if_pos (by assumption)]; done) | (rw [if_neg (ne_true_of_eq_false (by assumption))]; done)), ⟨by rw [ht]; exact hP, va_K.moved hW.alike hK, hD⟩⟩, hS.F ht⟩) hS.2.2 dL_excite_16 hlocks

set_option maxHeartbeats 4000000 in
set_option maxRecDepth 100000 in
theorem m_L_excite_2 (l9 : Launch) (hl9 : l9.stackTraces = false) (D : va_G) (k : Nat → ClassId) (ks kv kf : Nat → Nat) (ka kw : Nat) (sz : Nat) (o bf pa pn pk sv tr tx li ll ac ci ch : Nat) (iz : Bool) (er fl : Int32) (g : Nat → Nat) (qs qc qr ql : Nat → Nat) (lim sh sc : Int32) (fr : Nat → UInt32) (n : Nat) (w ly t a : Nat → Int32) (fx : Nat → UInt32) (kd rk : Nat → Int32) (lsh lk : Nat → Int32) (lc lx : Nat) (qs2 qc2 qr2 ql2 : Nat → Nat) (lim2 sh2 sc2 : Int32) (fr2 : Nat → UInt32) (n2 : Nat) (w2 ly2 t2 a2 : Nat → Int32) (fx2 : Nat → UInt32) (kd2 rk2 : Nat → Int32) (lsh2 lk2 : Nat → Int32) (lc2 lx2 : Nat) (x am : Int32) (out : Nat) (ou : Nat → UInt64) (hkd : chOk kd 4) (hrk : chOk rk 12) (hlk : chOk lk 16) (hn : n ≤ 10) (hf : ∀ c, c < n → okF (fx c)) (hlc : lc ≤ 16) (hlx : lx < 16) (he : opHeat n fx x am = (-2, fx)) (hOn : hOk n x am = false) : Met l9 yL_excite wsL_excite ({ frames := 9, cells := 1, slots := 6, locals := 147 }) (LPc ks kv kf ka kw D k [.ref o, .int x, .int am, .ref out] (bRO k o (qs 0) (qs2 0) pa pn pk sv iz tr tx er fl li ll ac ci ch ++ bPA k pa g ++ bSt k qs qc qr ql lim sh sc fr ++ bClaims k qc n w ly t a fx ++ bRacks k qr kd rk ++ bLog k ql lsh lk lc lx ++ bSt k qs2 qc2 qr2 ql2 lim2 sh2 sc2 fr2 ++ bClaims k qc2 n2 w2 ly2 t2 a2 fx2 ++ bRacks k qr2 kd2 rk2 ++ bLog k ql2 lsh2 lk2 lc2 lx2 ++ bD1 k out ou) sz) (WI D k (bRO k o (qs 0) (qs2 0) pa pn pk sv iz tr tx er fl li ll ac ci ch ++ bPA k pa g ++ bSt k qs qc qr ql lim sh sc fr ++ bClaims k qc n w ly t a fx ++ bRacks k qr kd rk ++ bLog k ql lsh lk lc lx ++ bSt k qs2 qc2 qr2 ql2 lim sh sc fr2 ++ bClaims k qc2 n w ly t a fx ++ bRacks k qr2 kd rk ++ bLog k ql2 lsh lk lc lx ++ bD1 k out ou) 2 (va_A (bRO k o (qs 0) (qs2 0) pa pn pk sv iz tr tx er fl li ll ac ci ch ++ bPA k pa g ++ bSt k qs qc qr ql lim sh sc fr ++ bClaims k qc n w ly t a fx ++ bRacks k qr kd rk ++ bLog k ql lsh lk lc lx ++ bSt k qs2 qc2 qr2 ql2 lim2 sh2 sc2 fr2 ++ bClaims k qc2 n2 w2 ly2 t2 a2 fx2 ++ bRacks k qr2 kd2 rk2 ++ bLog k ql2 lsh2 lk2 lc2 lx2 ++ bD1 k out ou) sz)) 1 6 (va_A (bRO k o (qs 0) (qs2 0) pa pn pk sv iz tr tx er fl li ll ac ci ch ++ bPA k pa g ++ bSt k qs qc qr ql lim sh sc fr ++ bClaims k qc n w ly t a fx ++ bRacks k qr kd rk ++ bLog k ql lsh lk lc lx ++ bSt k qs2 qc2 qr2 ql2 lim2 sh2 sc2 fr2 ++ bClaims k qc2 n2 w2 ly2 t2 a2 fx2 ++ bRacks k qr2 kd2 rk2 ++ bLog k ql2 lsh2 lk2 lc2 lx2 ++ bD1 k out ou) sz) := by
  refine lMet (y := yL_excite) (cc := cL_excite) (maxL := 5) (ret := (some .int)) (hh := [(0, 10, 13, 21), (0, 10, 17, 13)]) (Qc := fun A => WI D k (bRO k o (qs 0) (qs2 0) pa pn pk sv iz tr tx er fl li ll ac ci ch ++ bPA k pa g ++ bSt k qs qc qr ql lim sh sc fr ++ bClaims k qc n w ly t a fx ++ bRacks k qr kd rk ++ bLog k ql lsh lk lc lx ++ bSt k qs2 qc2 qr2 ql2 lim sh sc fr2 ++ bClaims k qc2 n w ly t a fx ++ bRacks k qr2 kd rk ++ bLog k ql2 lsh lk lc lx ++ bD1 k out ou) 2 A) [.ref o, .int x, .int am, .ref out] (by decide) rfl (Nat.le_of_ble_eq_true rfl) ?_
  intro p9 e9 s9 m9 bl9 me9 c9 ls A H hF hr hlocks htab hP hK hN hXN hNC hZ hKC hD hA hS hl
  have hl : lv_has ls 5 [(0, .ref o), (1, .int x), (2, .int am), (3, .ref out)] := hl
  obtain ⟨hx, hb, hml, hown, hts⟩ := id hF
  refine lv_aload_n hx hb dL_excite_0 rfl (lv_at hl 3 rfl) ?_
  refine lv_iconst (v := 0) hx hb dL_excite_1 (by decide) ?_
  refine lv_aload_n hx hb dL_excite_2 rfl (lv_at hl 0 rfl) ?_
  refine lv_iload_n hx hb dL_excite_3 rfl (lv_at hl 1 rfl) ?_
  refine lv_iload_n hx hb dL_excite_4 rfl (lv_at hl 2 rfl) ?_
  have hFc := l_free (wc := bRO k o (qs 0) (qs2 0) pa pn pk sv iz tr tx er fl li ll ac ci ch ++ bPA k pa g ++ bSt k qs qc qr ql lim sh sc fr ++ bClaims k qc n w ly t a fx ++ bRacks k qr kd rk ++ bLog k ql lsh lk lc lx ++ bSt k qs2 qc2 qr2 ql2 lim2 sh2 sc2 fr2 ++ bClaims k qc2 n2 w2 ly2 t2 a2 fx2 ++ bRacks k qr2 kd2 rk2 ++ bLog k ql2 lsh2 lk2 lc2 lx2) (wr := bD1 k out ou) hD hS hA
  refine vx_callf (vx_runV (As := [.int x, .int am]) (rest := [.int 0, .ref out]) hF (x_X12_excite_2 l9 hl9 D k H.size o bf pa pn pk sv tr tx li ll ac ci ch iz er fl g qs qc qr ql lim sh sc fr n w ly t a fx kd rk lsh lk lc lx qs2 qc2 qr2 ql2 lim2 sh2 sc2 fr2 n2 w2 ly2 t2 a2 fx2 kd2 rk2 lsh2 lk2 lc2 lx2 x am hkd hrk hlk hn hf hlc hlx he hOn) (cwV 2 hts gL_excite_X12_excite rfl rfl rfl (by decide +kernel) ⟨Nat.le_of_ble_eq_true rfl, Nat.le_of_ble_eq_true rfl⟩) (l_preX hK hN hXN hZ hS hFc (l_P1 (wr := bD1 k out ou) hP) (l_D1 (wr := bD1 k out ou) hD) (ci := 10) rfl rfl) rfl rfl hl.1 rfl (lv_room (Nat.le_of_ble_eq_true rfl)) dL_excite_5 ⟨Nat.le_of_ble_eq_true rfl, Nat.le_of_ble_eq_true rfl⟩) hS (fun q _ h => hFc q h) hFc (fun q _ h => hFc q h) (fun E9 ce9 q9 u9 t9 H1 locs ht hvm _ hbx hz1 hk1 hS hce hcv hcl => ?_) (fun r u9 t9 H1 locs _ _ hp _ _ _ _ => hp.elim)
  obtain ⟨rfl, hbx⟩ := hbx
  obtain ⟨hP, hD⟩ := l_join (u := ()) (wr := bD1 k out ou) hP hD hk1 hFc hbx ht
  refine vx_catch (own := RL) (name := "java/lang/IllegalArgumentException") (E := "java/lang/IllegalArgumentException") hown [⟨0, 10, 13, 21⟩] ⟨0, 10, 17, 13⟩ [] (htab.trans rfl) (fun z hz => by simp only [List.mem_cons, List.not_mem_nil, or_false] at hz; rcases hz with hz <;> subst hz <;> first | exact Or.inr ⟨by decide, "java/lang/IndexOutOfBoundsException", hts (.classLink RL 21 "java/lang/IndexOutOfBoundsException") (by decide +kernel), hNC ("java/lang/IllegalArgumentException", "java/lang/IndexOutOfBoundsException") (by decide)⟩) rfl (by decide) (hts (.classLink RL 13 "java/lang/IllegalArgumentException") (by decide +kernel)) (va_Nw.use (xnL_tables (.castable "java/lang/IllegalArgumentException" "java/lang/IllegalArgumentException") (by decide)) (hXN.1 (.castable "java/lang/IllegalArgumentException" "java/lang/IllegalArgumentException") (by decide))) hce hcv hcl ?_
  clear hbx hk1 hz1 hvm hFc hce hcv hcl ht
  clear t9
  generalize H1 = H at hP hS ⊢
  refine W.eq (g2 := F0 m9 17 ls [.ref q9]) rfl ?_
  refine lv_astore (lv' := [(4, .ref q9), (0, .ref o), (1, .int x), (2, .int am), (3, .ref out)]) hx hb dL_excite_17 hl (by decide) rfl (fun ls hl => ?_)
  refine lv_iconst (v := 2) hx hb dL_excite_19 (by decide) ?_
  refine W.widen (k := 1) (n := 6) (Nat.le_of_ble_eq_true rfl) (Nat.le_of_ble_eq_true rfl) ?_
  exact W.iret (v := 2) hx hb hr (fun t9 ht hW => ⟨⟨_, (), rfl, (by first | (with_reducible exact rfl) | (rw [if_pos (by assumption)]; done) | (rw [if_neg (ne_true_of_eq_false (by assumption))]; done)), ⟨by rw [ht]; exact hP, va_K.moved hW.alike hK, hD⟩⟩, hS.F ht⟩) hS.2.2 dL_excite_20 hlocks

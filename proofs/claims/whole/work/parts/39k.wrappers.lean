/-! The law's wrappers: lineAt, meanWeight, meanWeightBits, undo. -/
set_option maxHeartbeats 4000000 in
set_option maxRecDepth 100000 in
theorem m_L_lineAt_ok (l9 : Launch) (hl9 : l9.stackTraces = false) (D : va_G) (k : Nat → ClassId) (ks kv kf : Nat → Nat) (ka kw : Nat) (sz : Nat) (now : Nat) (o bf pa pn pk sv tr tx li ll ac ci ch : Nat) (iz : Bool) (er fl : Int32) (le : Nat → Int32) (x : Int32) (out : Nat) (ou : Nat → Int64) (hll : ll ≤ 19) (hle : chOk le 19) (hxn : inC ll x = true) : Met l9 yL_lineAt wsL_lineAt ({ frames := 1, cells := 1, slots := 6, locals := 21 }) (LPc ks kv kf ka kw D k [.ref o, .int x, .ref out] (bRO k o now bf pa pn pk sv iz tr tx er fl li ll ac ci ch ++ bC19 k li le ++ bL1 k out ou) sz) (WI D k (bRO k o now bf pa pn pk sv iz tr tx er fl li ll ac ci ch ++ bC19 k li le ++ bL1 k out (vp_updL ou 0 ((le x.toNatClampNeg).toInt64))) 0 (va_A (bRO k o now bf pa pn pk sv iz tr tx er fl li ll ac ci ch ++ bC19 k li le ++ bL1 k out ou) sz)) 1 6 (va_A (bRO k o now bf pa pn pk sv iz tr tx er fl li ll ac ci ch ++ bC19 k li le ++ bL1 k out ou) sz) := by
  refine lMet (y := yL_lineAt) (cc := cL_lineAt) (maxL := 4) (ret := (some .int)) (hh := [(0, 9, 12, 21)]) (Qc := fun A => WI D k (bRO k o now bf pa pn pk sv iz tr tx er fl li ll ac ci ch ++ bC19 k li le ++ bL1 k out (vp_updL ou 0 ((le x.toNatClampNeg).toInt64))) 0 A) [.ref o, .int x, .ref out] (by decide) rfl (Nat.le_of_ble_eq_true rfl) ?_
  intro p9 e9 s9 m9 bl9 me9 c9 ls A H hF hr hlocks htab hP hK hN hXN hNC hZ hKC hD hA hS hl
  have hl : lv_has ls 4 [(0, .ref o), (1, .int x), (2, .ref out)] := hl
  obtain ⟨hx, hb, hml, hown, hts⟩ := id hF
  refine lv_aload_n hx hb dL_lineAt_0 rfl (lv_at hl 2 rfl) ?_
  refine lv_iconst (v := 0) hx hb dL_lineAt_1 (by decide) ?_
  refine lv_aload_n hx hb dL_lineAt_2 rfl (lv_at hl 0 rfl) ?_
  refine lv_iload_n hx hb dL_lineAt_3 rfl (lv_at hl 1 rfl) ?_
  refine vp_callSi (W.runV (As := [.int x]) (rest := [.int 0, .ref out]) hF (m_X12_lineAt l9 D k now o bf pa pn pk sv tr tx li ll ac ci ch iz er fl le x hll hle hxn) (cwV 1 hts gL_lineAt_X12_lineAt rfl rfl rfl (by decide +kernel) ⟨Nat.le_of_ble_eq_true rfl, Nat.le_of_ble_eq_true rfl⟩) (rPreV hK hN hP [0, 1] rfl 0 10 rfl rfl) rfl rfl hl.1 rfl (lv_room (Nat.le_of_ble_eq_true rfl)) dL_lineAt_4 ⟨Nat.zero_le _, Nat.zero_le _⟩) (fun r_1 hr_1 => ?_)
  subst hr_1
  refine lv_i2l hx hb dL_lineAt_7 rfl ?_
  refine la_st hx hb hK hP hD hS 2 rfl 0 (by omega) (by decide) (bRO k o now bf pa pn pk sv iz tr tx er fl li ll ac ci ch ++ bC19 k li le ++ bL1 k out (vp_updL ou 0 ((le x.toNatClampNeg).toInt64))) rfl dL_lineAt_8 (fun H locs hP hD hS => ?_)
  refine lv_goto (tgt := 15) hx hb dL_lineAt_9 (by decide) ?_
  refine lv_iconst (v := 0) hx hb dL_lineAt_15 (by decide) ?_
  refine W.widen (k := 1) (n := 6) (Nat.le_of_ble_eq_true rfl) (Nat.le_of_ble_eq_true rfl) ?_
  exact W.iret (v := 0) hx hb hr (fun t9 ht hW => ⟨⟨_, (), rfl, (by first | (rw [if_pos (by assumption)]; done) | (rw [if_neg (fun h9 => Bool.noConfusion (Eq.trans (Eq.symm h9) (by assumption)))]; done)), ⟨by rw [ht]; exact hP, va_K.moved hW.alike hK, hD⟩⟩, hS.F ht⟩) hS.2.2 dL_lineAt_16 hlocks

set_option maxHeartbeats 4000000 in
set_option maxRecDepth 100000 in
theorem m_L_lineAt_1 (l9 : Launch) (hl9 : l9.stackTraces = false) (D : va_G) (k : Nat → ClassId) (ks kv kf : Nat → Nat) (ka kw : Nat) (sz : Nat) (now : Nat) (o bf pa pn pk sv tr tx li ll ac ci ch : Nat) (iz : Bool) (er fl : Int32)  (x : Int32) (out : Nat) (ou : Nat → Int64) (hxn : inC ll x = false) : Met l9 yL_lineAt wsL_lineAt ({ frames := 7, cells := 1, slots := 6, locals := 103 }) (LPc ks kv kf ka kw D k [.ref o, .int x, .ref out] (bRO k o now bf pa pn pk sv iz tr tx er fl li ll ac ci ch ++ bL1 k out ou) sz) (WI D k (bRO k o now bf pa pn pk sv iz tr tx er fl li ll ac ci ch ++ bL1 k out ou) 1 (va_A (bRO k o now bf pa pn pk sv iz tr tx er fl li ll ac ci ch ++ bL1 k out ou) sz)) 1 6 (va_A (bRO k o now bf pa pn pk sv iz tr tx er fl li ll ac ci ch ++ bL1 k out ou) sz) := by
  refine lMet (y := yL_lineAt) (cc := cL_lineAt) (maxL := 4) (ret := (some .int)) (hh := [(0, 9, 12, 21)]) (Qc := fun A => WI D k (bRO k o now bf pa pn pk sv iz tr tx er fl li ll ac ci ch ++ bL1 k out ou) 1 A) [.ref o, .int x, .ref out] (by decide) rfl (Nat.le_of_ble_eq_true rfl) ?_
  intro p9 e9 s9 m9 bl9 me9 c9 ls A H hF hr hlocks htab hP hK hN hXN hNC hZ hKC hD hA hS hl
  have hl : lv_has ls 4 [(0, .ref o), (1, .int x), (2, .ref out)] := hl
  obtain ⟨hx, hb, hml, hown, hts⟩ := id hF
  refine lv_aload_n hx hb dL_lineAt_0 rfl (lv_at hl 2 rfl) ?_
  refine lv_iconst (v := 0) hx hb dL_lineAt_1 (by decide) ?_
  refine lv_aload_n hx hb dL_lineAt_2 rfl (lv_at hl 0 rfl) ?_
  refine lv_iload_n hx hb dL_lineAt_3 rfl (lv_at hl 1 rfl) ?_
  have hq9 := mp_of (ws := bRO k o now bf pa pn pk sv iz tr tx er fl li ll ac ci ch ++ bL1 k out ou) (wc := bRO k o now bf pa pn pk sv iz tr tx er fl li ll ac ci ch) (is := [0]) rfl
  have hFc := va_free (wc := bRO k o now bf pa pn pk sv iz tr tx er fl li ll ac ci ch) hD hS hA [0] hq9
  refine vx_calli (vx_runV (As := [.int x]) (rest := [.int 0, .ref out]) hF (x_X12_lineAt l9 hl9 D k H.size now o bf pa pn pk sv tr tx li ll ac ci ch iz er fl x hxn) (cwV 1 hts gL_lineAt_X12_lineAt rfl rfl rfl (by decide +kernel) ⟨Nat.le_of_ble_eq_true rfl, Nat.le_of_ble_eq_true rfl⟩) (xPreV hK hN hXN hZ hS hFc hP hD [0] (fm_of hq9) (by decide) hq9 0 10 rfl rfl) rfl rfl hl.1 rfl (lv_room (Nat.le_of_ble_eq_true rfl)) dL_lineAt_4 ⟨Nat.le_of_ble_eq_true rfl, Nat.le_of_ble_eq_true rfl⟩) hS (fun q _ h => hFc q h) hFc (fun q _ h => hFc q h) (fun E9 ce9 q9 u9 t9 H1 locs ht hvm _ hbx hz1 hk1 hS hce hcv hcl => ?_) (fun r u9 t9 H1 locs _ _ hp _ _ _ _ => hp.elim)
  obtain ⟨rfl, hbx⟩ := hbx
  obtain ⟨hP, hD⟩ := wjoin9 (u := ()) (wr := bL1 k out ou) (wf := bRO k o now bf pa pn pk sv iz tr tx er fl li ll ac ci ch ++ bL1 k out ou) hP hD [0] [1] [1, 0] hq9 rfl (by decide) (by decide) hk1 hFc hbx ht rfl (by decide)
  refine vx_catch (own := RL) (name := "java/lang/IndexOutOfBoundsException") (E := "java/lang/IndexOutOfBoundsException") hown [] ⟨0, 9, 12, 21⟩ [] (htab.trans rfl) (fun z hz => by simp only [List.not_mem_nil] at hz) rfl (by decide) (hts (.classLink RL 21 "java/lang/IndexOutOfBoundsException") (by decide +kernel)) (va_Nw.use (xnL_tables (.castable "java/lang/IndexOutOfBoundsException" "java/lang/IndexOutOfBoundsException") (by decide)) (hXN.1 (.castable "java/lang/IndexOutOfBoundsException" "java/lang/IndexOutOfBoundsException") (by decide))) hce hcv hcl ?_
  clear hbx hk1 hz1 hvm hFc hce hcv hcl ht hq9
  clear t9
  generalize H1 = H at hP hS ⊢
  refine W.eq (g2 := F0 m9 12 ls [.ref q9]) rfl ?_
  refine lv_astore_n (lv' := [(3, .ref q9), (0, .ref o), (1, .int x), (2, .ref out)]) hx hb dL_lineAt_12 rfl hl (by decide) rfl (fun ls hl => ?_)
  refine lv_iconst (v := 1) hx hb dL_lineAt_13 (by decide) ?_
  refine W.widen (k := 1) (n := 6) (Nat.le_of_ble_eq_true rfl) (Nat.le_of_ble_eq_true rfl) ?_
  exact W.iret (v := 1) hx hb hr (fun t9 ht hW => ⟨⟨_, (), rfl, (by first | (rw [if_pos (by assumption)]; done) | (rw [if_neg (fun h9 => Bool.noConfusion (Eq.trans (Eq.symm h9) (by assumption)))]; done)), ⟨by rw [ht]; exact hP, va_K.moved hW.alike hK, hD⟩⟩, hS.F ht⟩) hS.2.2 dL_lineAt_14 hlocks

set_option maxHeartbeats 4000000 in
set_option maxRecDepth 100000 in
theorem m_L_meanWeight_ok (l9 : Launch) (hl9 : l9.stackTraces = false) (D : va_G) (k : Nat → ClassId) (ks kv kf : Nat → Nat) (ka kw : Nat) (sz : Nat) (o bf pa pn pk sv tr tx li ll ac ci ch : Nat) (iz : Bool) (er fl : Int32) (qs qc qr ql : Nat → Nat) (lim sh sc : Int32) (fr : Nat → UInt32) (n : Nat) (w ly t a : Nat → Int32) (fx : Nat → UInt32) (out : Nat) (ou : Nat → UInt64) (hn : n ≤ 10) (hw : wtOk n w) (h1 : 1 ≤ n) : Met l9 yL_meanWeight wsL_meanWeight ({ frames := 4, cells := 1, slots := 6, locals := 85 }) (LPc ks kv kf ka kw D k [.ref o, .ref out] (bRO k o (qs 0) bf pa pn pk sv iz tr tx er fl li ll ac ci ch ++ bSt k qs qc qr ql lim sh sc fr ++ bClaims k qc n w ly t a fx ++ bD1 k out ou) sz) (WI D k (bRO k o (qs 0) bf pa pn pk sv iz tr tx er fl li ll ac ci ch ++ bSt k qs qc qr ql lim sh sc fr ++ bClaims k qc n w ly t a fx ++ bD1 k out (vf_upd ou 0 (mnS n w))) 0 (va_A (bRO k o (qs 0) bf pa pn pk sv iz tr tx er fl li ll ac ci ch ++ bSt k qs qc qr ql lim sh sc fr ++ bClaims k qc n w ly t a fx ++ bD1 k out ou) sz)) 1 6 (va_A (bRO k o (qs 0) bf pa pn pk sv iz tr tx er fl li ll ac ci ch ++ bSt k qs qc qr ql lim sh sc fr ++ bClaims k qc n w ly t a fx ++ bD1 k out ou) sz) := by
  refine lMet (y := yL_meanWeight) (cc := cL_meanWeight) (maxL := 3) (ret := (some .int)) (hh := [(0, 7, 10, 130)]) (Qc := fun A => WI D k (bRO k o (qs 0) bf pa pn pk sv iz tr tx er fl li ll ac ci ch ++ bSt k qs qc qr ql lim sh sc fr ++ bClaims k qc n w ly t a fx ++ bD1 k out (vf_upd ou 0 (mnS n w))) 0 A) [.ref o, .ref out] (by decide) rfl (Nat.le_of_ble_eq_true rfl) ?_
  intro p9 e9 s9 m9 bl9 me9 c9 ls A H hF hr hlocks htab hP hK hN hXN hNC hZ hKC hD hA hS hl
  have hl : lv_has ls 3 [(0, .ref o), (1, .ref out)] := hl
  obtain ⟨hx, hb, hml, hown, hts⟩ := id hF
  refine lv_aload_n hx hb dL_meanWeight_0 rfl (lv_at hl 1 rfl) ?_
  refine lv_iconst (v := 0) hx hb dL_meanWeight_1 (by decide) ?_
  refine lv_aload_n hx hb dL_meanWeight_2 rfl (lv_at hl 0 rfl) ?_
  refine vp_callSd (W.runV (As := []) (rest := [.int 0, .ref out]) hF (m_X12_meanWeight l9 D k o bf pa pn pk sv tr tx li ll ac ci ch iz er fl qs qc qr ql lim sh sc fr n w ly t a fx hn hw h1) (cwV 0 hts gL_meanWeight_X12_meanWeight rfl rfl rfl (by decide +kernel) ⟨Nat.le_of_ble_eq_true rfl, Nat.le_of_ble_eq_true rfl⟩) (rPreV hK hN hP [0, 1, 2, 3, 4, 5, 6, 7, 8] rfl 0 10 rfl rfl) rfl rfl hl.1 rfl (lv_room (Nat.le_of_ble_eq_true rfl)) dL_meanWeight_3 ⟨Nat.zero_le _, Nat.zero_le _⟩) (fun r_1 hr_1 => ?_)
  subst hr_1
  refine da_st hx hb hK hP hD hS 9 rfl 0 (by omega) (by decide) (bRO k o (qs 0) bf pa pn pk sv iz tr tx er fl li ll ac ci ch ++ bSt k qs qc qr ql lim sh sc fr ++ bClaims k qc n w ly t a fx ++ bD1 k out (vf_upd ou 0 (mnS n w))) rfl dL_meanWeight_6 (fun H locs hP hD hS => ?_)
  refine lv_goto (tgt := 13) hx hb dL_meanWeight_7 (by decide) ?_
  refine lv_iconst (v := 0) hx hb dL_meanWeight_13 (by decide) ?_
  refine W.widen (k := 1) (n := 6) (Nat.le_of_ble_eq_true rfl) (Nat.le_of_ble_eq_true rfl) ?_
  exact W.iret (v := 0) hx hb hr (fun t9 ht hW => ⟨⟨_, (), rfl, (by first | (rw [if_pos (by assumption)]; done) | (rw [if_neg (fun h9 => Bool.noConfusion (Eq.trans (Eq.symm h9) (by assumption)))]; done)), ⟨by rw [ht]; exact hP, va_K.moved hW.alike hK, hD⟩⟩, hS.F ht⟩) hS.2.2 dL_meanWeight_14 hlocks

set_option maxHeartbeats 4000000 in
set_option maxRecDepth 100000 in
theorem m_L_meanWeight_1 (l9 : Launch) (hl9 : l9.stackTraces = false) (D : va_G) (k : Nat → ClassId) (ks kv kf : Nat → Nat) (ka kw : Nat) (sz : Nat) (o bf pa pn pk sv tr tx li ll ac ci ch : Nat) (iz : Bool) (er fl : Int32) (qs qc qr ql : Nat → Nat) (lim sh sc : Int32) (fr : Nat → UInt32) (n : Nat) (w ly t a : Nat → Int32) (fx : Nat → UInt32) (out : Nat) (ou : Nat → UInt64) (h0 : n = 0) : Met l9 yL_meanWeight wsL_meanWeight ({ frames := 7, cells := 1, slots := 6, locals := 103 }) (LPc ks kv kf ka kw D k [.ref o, .ref out] (bRO k o (qs 0) bf pa pn pk sv iz tr tx er fl li ll ac ci ch ++ bSt k qs qc qr ql lim sh sc fr ++ bClaims k qc n w ly t a fx ++ bD1 k out ou) sz) (WI D k (bRO k o (qs 0) bf pa pn pk sv iz tr tx er fl li ll ac ci ch ++ bSt k qs qc qr ql lim sh sc fr ++ bClaims k qc n w ly t a fx ++ bD1 k out ou) 1 (va_A (bRO k o (qs 0) bf pa pn pk sv iz tr tx er fl li ll ac ci ch ++ bSt k qs qc qr ql lim sh sc fr ++ bClaims k qc n w ly t a fx ++ bD1 k out ou) sz)) 1 6 (va_A (bRO k o (qs 0) bf pa pn pk sv iz tr tx er fl li ll ac ci ch ++ bSt k qs qc qr ql lim sh sc fr ++ bClaims k qc n w ly t a fx ++ bD1 k out ou) sz) := by
  refine lMet (y := yL_meanWeight) (cc := cL_meanWeight) (maxL := 3) (ret := (some .int)) (hh := [(0, 7, 10, 130)]) (Qc := fun A => WI D k (bRO k o (qs 0) bf pa pn pk sv iz tr tx er fl li ll ac ci ch ++ bSt k qs qc qr ql lim sh sc fr ++ bClaims k qc n w ly t a fx ++ bD1 k out ou) 1 A) [.ref o, .ref out] (by decide) rfl (Nat.le_of_ble_eq_true rfl) ?_
  intro p9 e9 s9 m9 bl9 me9 c9 ls A H hF hr hlocks htab hP hK hN hXN hNC hZ hKC hD hA hS hl
  have hl : lv_has ls 3 [(0, .ref o), (1, .ref out)] := hl
  obtain ⟨hx, hb, hml, hown, hts⟩ := id hF
  refine lv_aload_n hx hb dL_meanWeight_0 rfl (lv_at hl 1 rfl) ?_
  refine lv_iconst (v := 0) hx hb dL_meanWeight_1 (by decide) ?_
  refine lv_aload_n hx hb dL_meanWeight_2 rfl (lv_at hl 0 rfl) ?_
  have hq9 := mp_of (ws := bRO k o (qs 0) bf pa pn pk sv iz tr tx er fl li ll ac ci ch ++ bSt k qs qc qr ql lim sh sc fr ++ bClaims k qc n w ly t a fx ++ bD1 k out ou) (wc := bRO k o (qs 0) bf pa pn pk sv iz tr tx er fl li ll ac ci ch ++ bSt k qs qc qr ql lim sh sc fr ++ bClaims k qc n w ly t a fx) (is := [0, 1, 2, 3, 4, 5, 6, 7, 8]) rfl
  have hFc := va_free (wc := bRO k o (qs 0) bf pa pn pk sv iz tr tx er fl li ll ac ci ch ++ bSt k qs qc qr ql lim sh sc fr ++ bClaims k qc n w ly t a fx) hD hS hA [0, 1, 2, 3, 4, 5, 6, 7, 8] hq9
  refine vx_calld (vx_runV (As := []) (rest := [.int 0, .ref out]) hF (x_X12_meanWeight l9 hl9 D k H.size o bf pa pn pk sv tr tx li ll ac ci ch iz er fl qs qc qr ql lim sh sc fr n w ly t a fx h0) (cwV 0 hts gL_meanWeight_X12_meanWeight rfl rfl rfl (by decide +kernel) ⟨Nat.le_of_ble_eq_true rfl, Nat.le_of_ble_eq_true rfl⟩) (xPreV hK hN hXN hZ hS hFc hP hD [0, 1, 2, 3, 4, 5, 6, 7, 8] (fm_of hq9) (by decide) hq9 0 10 rfl rfl) rfl rfl hl.1 rfl (lv_room (Nat.le_of_ble_eq_true rfl)) dL_meanWeight_3 ⟨Nat.le_of_ble_eq_true rfl, Nat.le_of_ble_eq_true rfl⟩) hS (fun q _ h => hFc q h) hFc (fun q _ h => hFc q h) (fun E9 ce9 q9 u9 t9 H1 locs ht hvm _ hbx hz1 hk1 hS hce hcv hcl => ?_) (fun r u9 t9 H1 locs _ _ hp _ _ _ _ => hp.elim)
  obtain ⟨rfl, hbx⟩ := hbx
  obtain ⟨hP, hD⟩ := wjoin9 (u := ()) (wr := bD1 k out ou) (wf := bRO k o (qs 0) bf pa pn pk sv iz tr tx er fl li ll ac ci ch ++ bSt k qs qc qr ql lim sh sc fr ++ bClaims k qc n w ly t a fx ++ bD1 k out ou) hP hD [0, 1, 2, 3, 4, 5, 6, 7, 8] [9] [1, 2, 3, 4, 5, 6, 7, 8, 9, 0] hq9 rfl (by decide) (by decide) hk1 hFc hbx ht rfl (by decide)
  refine vx_catch (own := RL) (name := "java/lang/ArithmeticException") (E := "java/lang/ArithmeticException") hown [] ⟨0, 7, 10, 130⟩ [] (htab.trans rfl) (fun z hz => by simp only [List.not_mem_nil] at hz) rfl (by decide) (hts (.classLink RL 130 "java/lang/ArithmeticException") (by decide +kernel)) (va_Nw.use (xnL_tables (.castable "java/lang/ArithmeticException" "java/lang/ArithmeticException") (by decide)) (hXN.1 (.castable "java/lang/ArithmeticException" "java/lang/ArithmeticException") (by decide))) hce hcv hcl ?_
  clear hbx hk1 hz1 hvm hFc hce hcv hcl ht hq9
  clear t9
  generalize H1 = H at hP hS ⊢
  refine W.eq (g2 := F0 m9 10 ls [.ref q9]) rfl ?_
  refine lv_astore_n (lv' := [(2, .ref q9), (0, .ref o), (1, .ref out)]) hx hb dL_meanWeight_10 rfl hl (by decide) rfl (fun ls hl => ?_)
  refine lv_iconst (v := 1) hx hb dL_meanWeight_11 (by decide) ?_
  refine W.widen (k := 1) (n := 6) (Nat.le_of_ble_eq_true rfl) (Nat.le_of_ble_eq_true rfl) ?_
  exact W.iret (v := 1) hx hb hr (fun t9 ht hW => ⟨⟨_, (), rfl, (by first | (rw [if_pos (by assumption)]; done) | (rw [if_neg (fun h9 => Bool.noConfusion (Eq.trans (Eq.symm h9) (by assumption)))]; done)), ⟨by rw [ht]; exact hP, va_K.moved hW.alike hK, hD⟩⟩, hS.F ht⟩) hS.2.2 dL_meanWeight_12 hlocks

set_option maxHeartbeats 4000000 in
set_option maxRecDepth 100000 in
theorem m_L_meanWeightBits_ok (l9 : Launch) (hl9 : l9.stackTraces = false) (D : va_G) (k : Nat → ClassId) (ks kv kf : Nat → Nat) (ka kw : Nat) (sz : Nat) (o bf pa pn pk sv tr tx li ll ac ci ch : Nat) (iz : Bool) (er fl : Int32) (qs qc qr ql : Nat → Nat) (lim sh sc : Int32) (fr : Nat → UInt32) (n : Nat) (w ly t a : Nat → Int32) (fx : Nat → UInt32) (out : Nat) (ou : Nat → Int64) (hn : n ≤ 10) (hw : wtOk n w) (h1 : 1 ≤ n) : Met l9 yL_meanWeightBits wsL_meanWeightBits ({ frames := 5, cells := 1, slots := 6, locals := 105 }) (LPc ks kv kf ka kw D k [.ref o, .ref out] (bRO k o (qs 0) bf pa pn pk sv iz tr tx er fl li ll ac ci ch ++ bSt k qs qc qr ql lim sh sc fr ++ bClaims k qc n w ly t a fx ++ bL1 k out ou) sz) (WI D k (bRO k o (qs 0) bf pa pn pk sv iz tr tx er fl li ll ac ci ch ++ bSt k qs qc qr ql lim sh sc fr ++ bClaims k qc n w ly t a fx ++ bL1 k out (vp_updL ou 0 (bdS (mnS n w)))) 0 (va_A (bRO k o (qs 0) bf pa pn pk sv iz tr tx er fl li ll ac ci ch ++ bSt k qs qc qr ql lim sh sc fr ++ bClaims k qc n w ly t a fx ++ bL1 k out ou) sz)) 1 6 (va_A (bRO k o (qs 0) bf pa pn pk sv iz tr tx er fl li ll ac ci ch ++ bSt k qs qc qr ql lim sh sc fr ++ bClaims k qc n w ly t a fx ++ bL1 k out ou) sz) := by
  refine lMet (y := yL_meanWeightBits) (cc := cL_meanWeightBits) (maxL := 3) (ret := (some .int)) (hh := [(0, 7, 10, 130)]) (Qc := fun A => WI D k (bRO k o (qs 0) bf pa pn pk sv iz tr tx er fl li ll ac ci ch ++ bSt k qs qc qr ql lim sh sc fr ++ bClaims k qc n w ly t a fx ++ bL1 k out (vp_updL ou 0 (bdS (mnS n w)))) 0 A) [.ref o, .ref out] (by decide) rfl (Nat.le_of_ble_eq_true rfl) ?_
  intro p9 e9 s9 m9 bl9 me9 c9 ls A H hF hr hlocks htab hP hK hN hXN hNC hZ hKC hD hA hS hl
  have hl : lv_has ls 3 [(0, .ref o), (1, .ref out)] := hl
  obtain ⟨hx, hb, hml, hown, hts⟩ := id hF
  refine lv_aload_n hx hb dL_meanWeightBits_0 rfl (lv_at hl 1 rfl) ?_
  refine lv_iconst (v := 0) hx hb dL_meanWeightBits_1 (by decide) ?_
  refine lv_aload_n hx hb dL_meanWeightBits_2 rfl (lv_at hl 0 rfl) ?_
  refine vp_callSl (W.runV (As := []) (rest := [.int 0, .ref out]) hF (m_X12_meanWeightBits l9 D k o bf pa pn pk sv tr tx li ll ac ci ch iz er fl qs qc qr ql lim sh sc fr n w ly t a fx hn hw h1) (cwV 0 hts gL_meanWeightBits_X12_meanWeightBits rfl rfl rfl (by decide +kernel) ⟨Nat.le_of_ble_eq_true rfl, Nat.le_of_ble_eq_true rfl⟩) (rPreV hK hN hP [0, 1, 2, 3, 4, 5, 6, 7, 8] rfl 0 10 rfl rfl) rfl rfl hl.1 rfl (lv_room (Nat.le_of_ble_eq_true rfl)) dL_meanWeightBits_3 ⟨Nat.zero_le _, Nat.zero_le _⟩) (fun r_1 hr_1 => ?_)
  subst hr_1
  refine la_st hx hb hK hP hD hS 9 rfl 0 (by omega) (by decide) (bRO k o (qs 0) bf pa pn pk sv iz tr tx er fl li ll ac ci ch ++ bSt k qs qc qr ql lim sh sc fr ++ bClaims k qc n w ly t a fx ++ bL1 k out (vp_updL ou 0 (bdS (mnS n w)))) rfl dL_meanWeightBits_6 (fun H locs hP hD hS => ?_)
  refine lv_goto (tgt := 13) hx hb dL_meanWeightBits_7 (by decide) ?_
  refine lv_iconst (v := 0) hx hb dL_meanWeightBits_13 (by decide) ?_
  refine W.widen (k := 1) (n := 6) (Nat.le_of_ble_eq_true rfl) (Nat.le_of_ble_eq_true rfl) ?_
  exact W.iret (v := 0) hx hb hr (fun t9 ht hW => ⟨⟨_, (), rfl, (by first | (rw [if_pos (by assumption)]; done) | (rw [if_neg (fun h9 => Bool.noConfusion (Eq.trans (Eq.symm h9) (by assumption)))]; done)), ⟨by rw [ht]; exact hP, va_K.moved hW.alike hK, hD⟩⟩, hS.F ht⟩) hS.2.2 dL_meanWeightBits_14 hlocks

set_option maxHeartbeats 4000000 in
set_option maxRecDepth 100000 in
theorem m_L_meanWeightBits_1 (l9 : Launch) (hl9 : l9.stackTraces = false) (D : va_G) (k : Nat → ClassId) (ks kv kf : Nat → Nat) (ka kw : Nat) (sz : Nat) (o bf pa pn pk sv tr tx li ll ac ci ch : Nat) (iz : Bool) (er fl : Int32) (qs qc qr ql : Nat → Nat) (lim sh sc : Int32) (fr : Nat → UInt32) (n : Nat) (w ly t a : Nat → Int32) (fx : Nat → UInt32) (out : Nat) (ou : Nat → Int64) (h0 : n = 0) : Met l9 yL_meanWeightBits wsL_meanWeightBits ({ frames := 8, cells := 1, slots := 6, locals := 123 }) (LPc ks kv kf ka kw D k [.ref o, .ref out] (bRO k o (qs 0) bf pa pn pk sv iz tr tx er fl li ll ac ci ch ++ bSt k qs qc qr ql lim sh sc fr ++ bClaims k qc n w ly t a fx ++ bL1 k out ou) sz) (WI D k (bRO k o (qs 0) bf pa pn pk sv iz tr tx er fl li ll ac ci ch ++ bSt k qs qc qr ql lim sh sc fr ++ bClaims k qc n w ly t a fx ++ bL1 k out ou) 1 (va_A (bRO k o (qs 0) bf pa pn pk sv iz tr tx er fl li ll ac ci ch ++ bSt k qs qc qr ql lim sh sc fr ++ bClaims k qc n w ly t a fx ++ bL1 k out ou) sz)) 1 6 (va_A (bRO k o (qs 0) bf pa pn pk sv iz tr tx er fl li ll ac ci ch ++ bSt k qs qc qr ql lim sh sc fr ++ bClaims k qc n w ly t a fx ++ bL1 k out ou) sz) := by
  refine lMet (y := yL_meanWeightBits) (cc := cL_meanWeightBits) (maxL := 3) (ret := (some .int)) (hh := [(0, 7, 10, 130)]) (Qc := fun A => WI D k (bRO k o (qs 0) bf pa pn pk sv iz tr tx er fl li ll ac ci ch ++ bSt k qs qc qr ql lim sh sc fr ++ bClaims k qc n w ly t a fx ++ bL1 k out ou) 1 A) [.ref o, .ref out] (by decide) rfl (Nat.le_of_ble_eq_true rfl) ?_
  intro p9 e9 s9 m9 bl9 me9 c9 ls A H hF hr hlocks htab hP hK hN hXN hNC hZ hKC hD hA hS hl
  have hl : lv_has ls 3 [(0, .ref o), (1, .ref out)] := hl
  obtain ⟨hx, hb, hml, hown, hts⟩ := id hF
  refine lv_aload_n hx hb dL_meanWeightBits_0 rfl (lv_at hl 1 rfl) ?_
  refine lv_iconst (v := 0) hx hb dL_meanWeightBits_1 (by decide) ?_
  refine lv_aload_n hx hb dL_meanWeightBits_2 rfl (lv_at hl 0 rfl) ?_
  have hq9 := mp_of (ws := bRO k o (qs 0) bf pa pn pk sv iz tr tx er fl li ll ac ci ch ++ bSt k qs qc qr ql lim sh sc fr ++ bClaims k qc n w ly t a fx ++ bL1 k out ou) (wc := bRO k o (qs 0) bf pa pn pk sv iz tr tx er fl li ll ac ci ch ++ bSt k qs qc qr ql lim sh sc fr ++ bClaims k qc n w ly t a fx) (is := [0, 1, 2, 3, 4, 5, 6, 7, 8]) rfl
  have hFc := va_free (wc := bRO k o (qs 0) bf pa pn pk sv iz tr tx er fl li ll ac ci ch ++ bSt k qs qc qr ql lim sh sc fr ++ bClaims k qc n w ly t a fx) hD hS hA [0, 1, 2, 3, 4, 5, 6, 7, 8] hq9
  refine vx_calll (vx_runV (As := []) (rest := [.int 0, .ref out]) hF (x_X12_meanWeightBits l9 hl9 D k H.size o bf pa pn pk sv tr tx li ll ac ci ch iz er fl qs qc qr ql lim sh sc fr n w ly t a fx h0) (cwV 0 hts gL_meanWeightBits_X12_meanWeightBits rfl rfl rfl (by decide +kernel) ⟨Nat.le_of_ble_eq_true rfl, Nat.le_of_ble_eq_true rfl⟩) (xPreV hK hN hXN hZ hS hFc hP hD [0, 1, 2, 3, 4, 5, 6, 7, 8] (fm_of hq9) (by decide) hq9 0 10 rfl rfl) rfl rfl hl.1 rfl (lv_room (Nat.le_of_ble_eq_true rfl)) dL_meanWeightBits_3 ⟨Nat.le_of_ble_eq_true rfl, Nat.le_of_ble_eq_true rfl⟩) hS (fun q _ h => hFc q h) hFc (fun q _ h => hFc q h) (fun E9 ce9 q9 u9 t9 H1 locs ht hvm _ hbx hz1 hk1 hS hce hcv hcl => ?_) (fun r u9 t9 H1 locs _ _ hp _ _ _ _ => hp.elim)
  obtain ⟨rfl, hbx⟩ := hbx
  obtain ⟨hP, hD⟩ := wjoin9 (u := ()) (wr := bL1 k out ou) (wf := bRO k o (qs 0) bf pa pn pk sv iz tr tx er fl li ll ac ci ch ++ bSt k qs qc qr ql lim sh sc fr ++ bClaims k qc n w ly t a fx ++ bL1 k out ou) hP hD [0, 1, 2, 3, 4, 5, 6, 7, 8] [9] [1, 2, 3, 4, 5, 6, 7, 8, 9, 0] hq9 rfl (by decide) (by decide) hk1 hFc hbx ht rfl (by decide)
  refine vx_catch (own := RL) (name := "java/lang/ArithmeticException") (E := "java/lang/ArithmeticException") hown [] ⟨0, 7, 10, 130⟩ [] (htab.trans rfl) (fun z hz => by simp only [List.not_mem_nil] at hz) rfl (by decide) (hts (.classLink RL 130 "java/lang/ArithmeticException") (by decide +kernel)) (va_Nw.use (xnL_tables (.castable "java/lang/ArithmeticException" "java/lang/ArithmeticException") (by decide)) (hXN.1 (.castable "java/lang/ArithmeticException" "java/lang/ArithmeticException") (by decide))) hce hcv hcl ?_
  clear hbx hk1 hz1 hvm hFc hce hcv hcl ht hq9
  clear t9
  generalize H1 = H at hP hS ⊢
  refine W.eq (g2 := F0 m9 10 ls [.ref q9]) rfl ?_
  refine lv_astore_n (lv' := [(2, .ref q9), (0, .ref o), (1, .ref out)]) hx hb dL_meanWeightBits_10 rfl hl (by decide) rfl (fun ls hl => ?_)
  refine lv_iconst (v := 1) hx hb dL_meanWeightBits_11 (by decide) ?_
  refine W.widen (k := 1) (n := 6) (Nat.le_of_ble_eq_true rfl) (Nat.le_of_ble_eq_true rfl) ?_
  exact W.iret (v := 1) hx hb hr (fun t9 ht hW => ⟨⟨_, (), rfl, (by first | (rw [if_pos (by assumption)]; done) | (rw [if_neg (fun h9 => Bool.noConfusion (Eq.trans (Eq.symm h9) (by assumption)))]; done)), ⟨by rw [ht]; exact hP, va_K.moved hW.alike hK, hD⟩⟩, hS.F ht⟩) hS.2.2 dL_meanWeightBits_12 hlocks

set_option maxHeartbeats 4000000 in
set_option maxRecDepth 100000 in
theorem m_L_undo_ok (l9 : Launch) (hl9 : l9.stackTraces = false) (D : va_G) (k : Nat → ClassId) (ks kv kf : Nat → Nat) (ka kw : Nat) (sz : Nat) (o bf pa pn pk sv tr tx li ll ac ci ch : Nat) (iz : Bool) (er fl : Int32) (g : Nat → Nat) (qs qc qr ql : Nat → Nat) (lim sh sc : Int32) (fr : Nat → UInt32) (out : Nat) (ou : Nat → Int64) (hpn : pn < 8) (hpk : pk ≤ 8) (h1 : 1 ≤ pk) : Met l9 yL_undo wsL_undo ({ frames := 1, cells := 1, slots := 6, locals := 21 }) (LPc ks kv kf ka kw D k [.ref o, .ref out] (bRO k o (qs 0) bf pa pn pk sv iz tr tx er fl li ll ac ci ch ++ bPA k pa g ++ bSt k qs qc qr ql lim sh sc fr ++ bL1 k out ou) sz) (WI D k (bRO k o (g ((pn + 8 - 1) % 8)) bf pa ((pn + 8 - 1) % 8) (pk - 1) sv iz tr tx er fl li ll ac ci ch ++ bPA k pa (upP g ((pn + 8 - 1) % 8) (qs 0)) ++ bSt k qs qc qr ql lim sh sc fr ++ bL1 k out (vp_updL ou 0 ((nI (pk - 1)).toInt64))) 0 (va_A (bRO k o (qs 0) bf pa pn pk sv iz tr tx er fl li ll ac ci ch ++ bPA k pa g ++ bSt k qs qc qr ql lim sh sc fr ++ bL1 k out ou) sz)) 1 6 (va_A (bRO k o (qs 0) bf pa pn pk sv iz tr tx er fl li ll ac ci ch ++ bPA k pa g ++ bSt k qs qc qr ql lim sh sc fr ++ bL1 k out ou) sz) := by
  refine lMet (y := yL_undo) (cc := cL_undo) (maxL := 3) (ret := (some .int)) (hh := [(0, 8, 11, 15)]) (Qc := fun A => WI D k (bRO k o (g ((pn + 8 - 1) % 8)) bf pa ((pn + 8 - 1) % 8) (pk - 1) sv iz tr tx er fl li ll ac ci ch ++ bPA k pa (upP g ((pn + 8 - 1) % 8) (qs 0)) ++ bSt k qs qc qr ql lim sh sc fr ++ bL1 k out (vp_updL ou 0 ((nI (pk - 1)).toInt64))) 0 A) [.ref o, .ref out] (by decide) rfl (Nat.le_of_ble_eq_true rfl) ?_
  intro p9 e9 s9 m9 bl9 me9 c9 ls A H hF hr hlocks htab hP hK hN hXN hNC hZ hKC hD hA hS hl
  have hl : lv_has ls 3 [(0, .ref o), (1, .ref out)] := hl
  obtain ⟨hx, hb, hml, hown, hts⟩ := id hF
  refine lv_aload_n hx hb dL_undo_0 rfl (lv_at hl 1 rfl) ?_
  refine lv_iconst (v := 0) hx hb dL_undo_1 (by decide) ?_
  refine lv_aload_n hx hb dL_undo_2 rfl (lv_at hl 0 rfl) ?_
  have hq9 := mp_of (ws := bRO k o (qs 0) bf pa pn pk sv iz tr tx er fl li ll ac ci ch ++ bPA k pa g ++ bSt k qs qc qr ql lim sh sc fr ++ bL1 k out ou) (wc := bRO k o (qs 0) bf pa pn pk sv iz tr tx er fl li ll ac ci ch ++ bPA k pa g ++ bSt k qs qc qr ql lim sh sc fr) (is := [0, 1, 2, 3]) rfl
  have hFc := va_free (wc := bRO k o (qs 0) bf pa pn pk sv iz tr tx er fl li ll ac ci ch ++ bPA k pa g ++ bSt k qs qc qr ql lim sh sc fr) hD hS hA [0, 1, 2, 3] hq9
  refine va_calli (va_runV (As := []) (rest := [.int 0, .ref out]) hF (m_X12_undo l9 D k H.size o bf pa pn pk sv tr tx li ll ac ci ch iz er fl g qs qc qr ql lim sh sc fr hpn hpk h1) (cwV 0 hts gL_undo_X12_undo rfl rfl rfl (by decide +kernel) ⟨Nat.le_of_ble_eq_true rfl, Nat.le_of_ble_eq_true rfl⟩) (wPreV hK hN hP hD [0, 1, 2, 3] (fm_of hq9) (by decide) hq9 0 10 rfl rfl) rfl rfl hl.1 rfl (lv_room (Nat.le_of_ble_eq_true rfl)) dL_undo_3 ⟨Nat.zero_le _, Nat.zero_le _⟩) hS (fun q _ h => hFc q h) hFc (fun r u9 t9 H1 locs ht hvm hw hB hz1 hk1 hS => ?_)
  obtain ⟨hP, hD⟩ := wjoin9 (wr := bL1 k out ou) (wf := bRO k o (g ((pn + 8 - 1) % 8)) bf pa ((pn + 8 - 1) % 8) (pk - 1) sv iz tr tx er fl li ll ac ci ch ++ bPA k pa (upP g ((pn + 8 - 1) % 8) (qs 0)) ++ bSt k qs qc qr ql lim sh sc fr ++ bL1 k out ou) hP hD [0, 1, 2, 3] [4] [1, 2, 3, 4, 0] hq9 rfl (by decide) (by decide) hk1 hFc hB ht rfl (by decide)
  subst hw
  clear hB hk1 hz1 hvm hFc hq9
  clear ht
  clear t9
  generalize H1 = H at hP hS ⊢
  refine lv_i2l hx hb dL_undo_6 rfl ?_
  refine la_st hx hb hK hP hD hS 4 rfl 0 (by omega) (by decide) (bRO k o (g ((pn + 8 - 1) % 8)) bf pa ((pn + 8 - 1) % 8) (pk - 1) sv iz tr tx er fl li ll ac ci ch ++ bPA k pa (upP g ((pn + 8 - 1) % 8) (qs 0)) ++ bSt k qs qc qr ql lim sh sc fr ++ bL1 k out (vp_updL ou 0 ((nI (pk - 1)).toInt64))) rfl dL_undo_7 (fun H locs hP hD hS => ?_)
  refine lv_goto (tgt := 14) hx hb dL_undo_8 (by decide) ?_
  refine lv_iconst (v := 0) hx hb dL_undo_14 (by decide) ?_
  refine W.widen (k := 1) (n := 6) (Nat.le_of_ble_eq_true rfl) (Nat.le_of_ble_eq_true rfl) ?_
  exact W.iret (v := 0) hx hb hr (fun t9 ht hW => ⟨⟨_, (), rfl, (by first | (rw [if_pos (by assumption)]; done) | (rw [if_neg (fun h9 => Bool.noConfusion (Eq.trans (Eq.symm h9) (by assumption)))]; done)), ⟨by rw [ht]; exact hP, va_K.moved hW.alike hK, hD⟩⟩, hS.F ht⟩) hS.2.2 dL_undo_15 hlocks

set_option maxHeartbeats 4000000 in
set_option maxRecDepth 100000 in
theorem m_L_undo_1 (l9 : Launch) (hl9 : l9.stackTraces = false) (D : va_G) (k : Nat → ClassId) (ks kv kf : Nat → Nat) (ka kw : Nat) (sz : Nat) (now : Nat) (o bf pa pn pk sv tr tx li ll ac ci ch : Nat) (iz : Bool) (er fl : Int32)  (out : Nat) (ou : Nat → Int64) (h0 : pk = 0) : Met l9 yL_undo wsL_undo ({ frames := 7, cells := 1, slots := 6, locals := 103 }) (LPc ks kv kf ka kw D k [.ref o, .ref out] (bRO k o now bf pa pn pk sv iz tr tx er fl li ll ac ci ch ++ bL1 k out ou) sz) (WI D k (bRO k o now bf pa pn pk sv iz tr tx er fl li ll ac ci ch ++ bL1 k out ou) 1 (va_A (bRO k o now bf pa pn pk sv iz tr tx er fl li ll ac ci ch ++ bL1 k out ou) sz)) 1 6 (va_A (bRO k o now bf pa pn pk sv iz tr tx er fl li ll ac ci ch ++ bL1 k out ou) sz) := by
  refine lMet (y := yL_undo) (cc := cL_undo) (maxL := 3) (ret := (some .int)) (hh := [(0, 8, 11, 15)]) (Qc := fun A => WI D k (bRO k o now bf pa pn pk sv iz tr tx er fl li ll ac ci ch ++ bL1 k out ou) 1 A) [.ref o, .ref out] (by decide) rfl (Nat.le_of_ble_eq_true rfl) ?_
  intro p9 e9 s9 m9 bl9 me9 c9 ls A H hF hr hlocks htab hP hK hN hXN hNC hZ hKC hD hA hS hl
  have hl : lv_has ls 3 [(0, .ref o), (1, .ref out)] := hl
  obtain ⟨hx, hb, hml, hown, hts⟩ := id hF
  refine lv_aload_n hx hb dL_undo_0 rfl (lv_at hl 1 rfl) ?_
  refine lv_iconst (v := 0) hx hb dL_undo_1 (by decide) ?_
  refine lv_aload_n hx hb dL_undo_2 rfl (lv_at hl 0 rfl) ?_
  have hq9 := mp_of (ws := bRO k o now bf pa pn pk sv iz tr tx er fl li ll ac ci ch ++ bL1 k out ou) (wc := bRO k o now bf pa pn pk sv iz tr tx er fl li ll ac ci ch) (is := [0]) rfl
  have hFc := va_free (wc := bRO k o now bf pa pn pk sv iz tr tx er fl li ll ac ci ch) hD hS hA [0] hq9
  refine vx_calli (vx_runV (As := []) (rest := [.int 0, .ref out]) hF (x_X12_undo l9 hl9 D k H.size now o bf pa pn pk sv tr tx li ll ac ci ch iz er fl h0) (cwV 0 hts gL_undo_X12_undo rfl rfl rfl (by decide +kernel) ⟨Nat.le_of_ble_eq_true rfl, Nat.le_of_ble_eq_true rfl⟩) (xPreV hK hN hXN hZ hS hFc hP hD [0] (fm_of hq9) (by decide) hq9 0 10 rfl rfl) rfl rfl hl.1 rfl (lv_room (Nat.le_of_ble_eq_true rfl)) dL_undo_3 ⟨Nat.le_of_ble_eq_true rfl, Nat.le_of_ble_eq_true rfl⟩) hS (fun q _ h => hFc q h) hFc (fun q _ h => hFc q h) (fun E9 ce9 q9 u9 t9 H1 locs ht hvm _ hbx hz1 hk1 hS hce hcv hcl => ?_) (fun r u9 t9 H1 locs _ _ hp _ _ _ _ => hp.elim)
  obtain ⟨rfl, hbx⟩ := hbx
  obtain ⟨hP, hD⟩ := wjoin9 (u := ()) (wr := bL1 k out ou) (wf := bRO k o now bf pa pn pk sv iz tr tx er fl li ll ac ci ch ++ bL1 k out ou) hP hD [0] [1] [1, 0] hq9 rfl (by decide) (by decide) hk1 hFc hbx ht rfl (by decide)
  refine vx_catch (own := RL) (name := "java/lang/IllegalStateException") (E := "java/lang/IllegalStateException") hown [] ⟨0, 8, 11, 15⟩ [] (htab.trans rfl) (fun z hz => by simp only [List.not_mem_nil] at hz) rfl (by decide) (hts (.classLink RL 15 "java/lang/IllegalStateException") (by decide +kernel)) (va_Nw.use (xnL_tables (.castable "java/lang/IllegalStateException" "java/lang/IllegalStateException") (by decide)) (hXN.1 (.castable "java/lang/IllegalStateException" "java/lang/IllegalStateException") (by decide))) hce hcv hcl ?_
  clear hbx hk1 hz1 hvm hFc hce hcv hcl ht hq9
  clear t9
  generalize H1 = H at hP hS ⊢
  refine W.eq (g2 := F0 m9 11 ls [.ref q9]) rfl ?_
  refine lv_astore_n (lv' := [(2, .ref q9), (0, .ref o), (1, .ref out)]) hx hb dL_undo_11 rfl hl (by decide) rfl (fun ls hl => ?_)
  refine lv_iconst (v := 1) hx hb dL_undo_12 (by decide) ?_
  refine W.widen (k := 1) (n := 6) (Nat.le_of_ble_eq_true rfl) (Nat.le_of_ble_eq_true rfl) ?_
  exact W.iret (v := 1) hx hb hr (fun t9 ht hW => ⟨⟨_, (), rfl, (by first | (rw [if_pos (by assumption)]; done) | (rw [if_neg (fun h9 => Bool.noConfusion (Eq.trans (Eq.symm h9) (by assumption)))]; done)), ⟨by rw [ht]; exact hP, va_K.moved hW.alike hK, hD⟩⟩, hS.F ht⟩) hS.2.2 dL_undo_13 hlocks

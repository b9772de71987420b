/-! The law's wrappers: weightOf, layerOf, isRejected, circleSize. -/
set_option maxHeartbeats 4000000 in
set_option maxRecDepth 100000 in
theorem m_L_weightOf_ok (l9 : Launch) (hl9 : l9.stackTraces = false) (D : va_G) (k : Nat → ClassId) (ks kv kf : Nat → Nat) (ka kw : Nat) (sz : Nat) (o bf pa pn pk sv tr tx li ll ac ci ch : Nat) (iz : Bool) (er fl : Int32) (qs qc qr ql : Nat → Nat) (lim sh sc : Int32) (fr : Nat → UInt32) (n : Nat) (w ly t a : Nat → Int32) (fx : Nat → UInt32) (x : Int32) (out : Nat) (ou : Nat → Int64) (hn : n ≤ 10) (hxn : inC n x = true) : Met l9 yL_weightOf wsL_weightOf ({ frames := 3, cells := 1, slots := 6, locals := 63 }) (LPc ks kv kf ka kw D k [.ref o, .int x, .ref out] (bRO k o (qs 0) bf pa pn pk sv iz tr tx er fl li ll ac ci ch ++ bSt k qs qc qr ql lim sh sc fr ++ bClaims k qc n w ly t a fx ++ bL1 k out ou) sz) (WI D k (bRO k o (qs 0) bf pa pn pk sv iz tr tx er fl li ll ac ci ch ++ bSt k qs qc qr ql lim sh sc fr ++ bClaims k qc n w ly t a fx ++ bL1 k out (vp_updL ou 0 ((w x.toNatClampNeg).toInt64))) 0 (va_A (bRO k o (qs 0) bf pa pn pk sv iz tr tx er fl li ll ac ci ch ++ bSt k qs qc qr ql lim sh sc fr ++ bClaims k qc n w ly t a fx ++ bL1 k out ou) sz)) 1 6 (va_A (bRO k o (qs 0) bf pa pn pk sv iz tr tx er fl li ll ac ci ch ++ bSt k qs qc qr ql lim sh sc fr ++ bClaims k qc n w ly t a fx ++ bL1 k out ou) sz) := by
  refine lMet (y := yL_weightOf) (cc := cL_weightOf) (maxL := 4) (ret := (some .int)) (hh := [(0, 9, 12, 21)]) (Qc := fun A => WI D k (bRO k o (qs 0) bf pa pn pk sv iz tr tx er fl li ll ac ci ch ++ bSt k qs qc qr ql lim sh sc fr ++ bClaims k qc n w ly t a fx ++ bL1 k out (vp_updL ou 0 ((w x.toNatClampNeg).toInt64))) 0 A) [.ref o, .int x, .ref out] (by decide) rfl (Nat.le_of_ble_eq_true rfl) ?_
  intro p9 e9 s9 m9 bl9 me9 c9 ls A H hF hr hlocks htab hP hK hN hXN hNC hZ hKC hD hA hS hl
  have hl : lv_has ls 4 [(0, .ref o), (1, .int x), (2, .ref out)] := hl
  obtain ⟨hx, hb, hml, hown, hts⟩ := id hF
  refine lv_aload_n hx hb dL_weightOf_0 rfl (lv_at hl 2 rfl) ?_
  refine lv_iconst (v := 0) hx hb dL_weightOf_1 (by decide) ?_
  refine lv_aload_n hx hb dL_weightOf_2 rfl (lv_at hl 0 rfl) ?_
  refine lv_iload_n hx hb dL_weightOf_3 rfl (lv_at hl 1 rfl) ?_
  have hq9 := mp_of (ws := bRO k o (qs 0) bf pa pn pk sv iz tr tx er fl li ll ac ci ch ++ bSt k qs qc qr ql lim sh sc fr ++ bClaims k qc n w ly t a fx ++ bL1 k out ou) (wc := bRO k o (qs 0) bf pa pn pk sv iz tr tx er fl li ll ac ci ch ++ bSt k qs qc qr ql lim sh sc fr ++ bClaims k qc n w ly t a fx) (is := [0, 1, 2, 3, 4, 5, 6, 7, 8]) rfl
  have hFc := va_free (wc := bRO k o (qs 0) bf pa pn pk sv iz tr tx er fl li ll ac ci ch ++ bSt k qs qc qr ql lim sh sc fr ++ bClaims k qc n w ly t a fx) hD hS hA [0, 1, 2, 3, 4, 5, 6, 7, 8] hq9
  refine va_calli (va_runV (As := [.int x]) (rest := [.int 0, .ref out]) hF (m_X12_weightOf l9 D k H.size o bf pa pn pk sv tr tx li ll ac ci ch iz er fl qs qc qr ql lim sh sc fr n w ly t a fx x hn hxn) (cwV 1 hts gL_weightOf_X12_weightOf rfl rfl rfl (by decide +kernel) ⟨Nat.le_of_ble_eq_true rfl, Nat.le_of_ble_eq_true rfl⟩) (wPreV hK hN hP hD [0, 1, 2, 3, 4, 5, 6, 7, 8] (fm_of hq9) (by decide) hq9 0 10 rfl rfl) rfl rfl hl.1 rfl (lv_room (Nat.le_of_ble_eq_true rfl)) dL_weightOf_4 ⟨Nat.zero_le _, Nat.zero_le _⟩) hS (fun q _ h => hFc q h) hFc (fun r u9 t9 H1 locs ht hvm hw hB hz1 hk1 hS => ?_)
  obtain ⟨hP, hD⟩ := wjoin9 (wr := bL1 k out ou) (wf := bRO k o (qs 0) bf pa pn pk sv iz tr tx er fl li ll ac ci ch ++ bSt k qs qc qr ql lim sh sc fr ++ bClaims k qc n w ly t a fx ++ bL1 k out ou) hP hD [0, 1, 2, 3, 4, 5, 6, 7, 8] [9] [1, 2, 3, 4, 5, 6, 7, 8, 9, 0] hq9 rfl (by decide) (by decide) hk1 hFc hB ht rfl (by decide)
  subst hw
  clear hB hk1 hz1 hvm hFc hq9
  clear ht
  clear t9
  generalize H1 = H at hP hS ⊢
  refine lv_i2l hx hb dL_weightOf_7 rfl ?_
  refine la_st hx hb hK hP hD hS 9 rfl 0 (by omega) (by decide) (bRO k o (qs 0) bf pa pn pk sv iz tr tx er fl li ll ac ci ch ++ bSt k qs qc qr ql lim sh sc fr ++ bClaims k qc n w ly t a fx ++ bL1 k out (vp_updL ou 0 ((w x.toNatClampNeg).toInt64))) rfl dL_weightOf_8 (fun H locs hP hD hS => ?_)
  refine lv_goto (tgt := 15) hx hb dL_weightOf_9 (by decide) ?_
  refine lv_iconst (v := 0) hx hb dL_weightOf_15 (by decide) ?_
  refine W.widen (k := 1) (n := 6) (Nat.le_of_ble_eq_true rfl) (Nat.le_of_ble_eq_true rfl) ?_
  exact W.iret (v := 0) hx hb hr (fun t9 ht hW => ⟨⟨_, (), rfl, (by first | (rw [if_pos (by assumption)]; done) | (rw [if_neg (fun h9 => Bool.noConfusion (Eq.trans (Eq.symm h9) (by assumption)))]; done)), ⟨by rw [ht]; exact hP, va_K.moved hW.alike hK, hD⟩⟩, hS.F ht⟩) hS.2.2 dL_weightOf_16 hlocks

set_option maxHeartbeats 4000000 in
set_option maxRecDepth 100000 in
theorem m_L_weightOf_1 (l9 : Launch) (hl9 : l9.stackTraces = false) (D : va_G) (k : Nat → ClassId) (ks kv kf : Nat → Nat) (ka kw : Nat) (sz : Nat) (o bf pa pn pk sv tr tx li ll ac ci ch : Nat) (iz : Bool) (er fl : Int32) (qs qc qr ql : Nat → Nat) (lim sh sc : Int32) (fr : Nat → UInt32) (n : Nat) (w ly t a : Nat → Int32) (fx : Nat → UInt32) (x : Int32) (out : Nat) (ou : Nat → Int64) (hxn : inC n x = false) : Met l9 yL_weightOf wsL_weightOf ({ frames := 8, cells := 1, slots := 6, locals := 124 }) (LPc ks kv kf ka kw D k [.ref o, .int x, .ref out] (bRO k o (qs 0) bf pa pn pk sv iz tr tx er fl li ll ac ci ch ++ bSt k qs qc qr ql lim sh sc fr ++ bClaims k qc n w ly t a fx ++ bL1 k out ou) sz) (WI D k (bRO k o (qs 0) bf pa pn pk sv iz tr tx er fl li ll ac ci ch ++ bSt k qs qc qr ql lim sh sc fr ++ bClaims k qc n w ly t a fx ++ bL1 k out ou) 1 (va_A (bRO k o (qs 0) bf pa pn pk sv iz tr tx er fl li ll ac ci ch ++ bSt k qs qc qr ql lim sh sc fr ++ bClaims k qc n w ly t a fx ++ bL1 k out ou) sz)) 1 6 (va_A (bRO k o (qs 0) bf pa pn pk sv iz tr tx er fl li ll ac ci ch ++ bSt k qs qc qr ql lim sh sc fr ++ bClaims k qc n w ly t a fx ++ bL1 k out ou) sz) := by
  refine lMet (y := yL_weightOf) (cc := cL_weightOf) (maxL := 4) (ret := (some .int)) (hh := [(0, 9, 12, 21)]) (Qc := fun A => WI D k (bRO k o (qs 0) bf pa pn pk sv iz tr tx er fl li ll ac ci ch ++ bSt k qs qc qr ql lim sh sc fr ++ bClaims k qc n w ly t a fx ++ bL1 k out ou) 1 A) [.ref o, .int x, .ref out] (by decide) rfl (Nat.le_of_ble_eq_true rfl) ?_
  intro p9 e9 s9 m9 bl9 me9 c9 ls A H hF hr hlocks htab hP hK hN hXN hNC hZ hKC hD hA hS hl
  have hl : lv_has ls 4 [(0, .ref o), (1, .int x), (2, .ref out)] := hl
  obtain ⟨hx, hb, hml, hown, hts⟩ := id hF
  refine lv_aload_n hx hb dL_weightOf_0 rfl (lv_at hl 2 rfl) ?_
  refine lv_iconst (v := 0) hx hb dL_weightOf_1 (by decide) ?_
  refine lv_aload_n hx hb dL_weightOf_2 rfl (lv_at hl 0 rfl) ?_
  refine lv_iload_n hx hb dL_weightOf_3 rfl (lv_at hl 1 rfl) ?_
  have hq9 := mp_of (ws := bRO k o (qs 0) bf pa pn pk sv iz tr tx er fl li ll ac ci ch ++ bSt k qs qc qr ql lim sh sc fr ++ bClaims k qc n w ly t a fx ++ bL1 k out ou) (wc := bRO k o (qs 0) bf pa pn pk sv iz tr tx er fl li ll ac ci ch ++ bSt k qs qc qr ql lim sh sc fr ++ bClaims k qc n w ly t a fx) (is := [0, 1, 2, 3, 4, 5, 6, 7, 8]) rfl
  have hFc := va_free (wc := bRO k o (qs 0) bf pa pn pk sv iz tr tx er fl li ll ac ci ch ++ bSt k qs qc qr ql lim sh sc fr ++ bClaims k qc n w ly t a fx) hD hS hA [0, 1, 2, 3, 4, 5, 6, 7, 8] hq9
  refine vx_calli (vx_runV (As := [.int x]) (rest := [.int 0, .ref out]) hF (x_X12_weightOf l9 hl9 D k H.size o bf pa pn pk sv tr tx li ll ac ci ch iz er fl qs qc qr ql lim sh sc fr n w ly t a fx x hxn) (cwV 1 hts gL_weightOf_X12_weightOf rfl rfl rfl (by decide +kernel) ⟨Nat.le_of_ble_eq_true rfl, Nat.le_of_ble_eq_true rfl⟩) (xPreV hK hN hXN hZ hS hFc hP hD [0, 1, 2, 3, 4, 5, 6, 7, 8] (fm_of hq9) (by decide) hq9 0 10 rfl rfl) rfl rfl hl.1 rfl (lv_room (Nat.le_of_ble_eq_true rfl)) dL_weightOf_4 ⟨Nat.le_of_ble_eq_true rfl, Nat.le_of_ble_eq_true rfl⟩) hS (fun q _ h => hFc q h) hFc (fun q _ h => hFc q h) (fun E9 ce9 q9 u9 t9 H1 locs ht hvm _ hbx hz1 hk1 hS hce hcv hcl => ?_) (fun r u9 t9 H1 locs _ _ hp _ _ _ _ => hp.elim)
  obtain ⟨rfl, hbx⟩ := hbx
  obtain ⟨hP, hD⟩ := wjoin9 (u := ()) (wr := bL1 k out ou) (wf := bRO k o (qs 0) bf pa pn pk sv iz tr tx er fl li ll ac ci ch ++ bSt k qs qc qr ql lim sh sc fr ++ bClaims k qc n w ly t a fx ++ bL1 k out ou) hP hD [0, 1, 2, 3, 4, 5, 6, 7, 8] [9] [1, 2, 3, 4, 5, 6, 7, 8, 9, 0] hq9 rfl (by decide) (by decide) hk1 hFc hbx ht rfl (by decide)
  refine vx_catch (own := RL) (name := "java/lang/IndexOutOfBoundsException") (E := "java/lang/IndexOutOfBoundsException") hown [] ⟨0, 9, 12, 21⟩ [] (htab.trans rfl) (fun z hz => by simp only [List.not_mem_nil] at hz) rfl (by decide) (hts (.classLink RL 21 "java/lang/IndexOutOfBoundsException") (by decide +kernel)) (va_Nw.use (xnL_tables (.castable "java/lang/IndexOutOfBoundsException" "java/lang/IndexOutOfBoundsException") (by decide)) (hXN.1 (.castable "java/lang/IndexOutOfBoundsException" "java/lang/IndexOutOfBoundsException") (by decide))) hce hcv hcl ?_
  clear hbx hk1 hz1 hvm hFc hce hcv hcl ht hq9
  clear t9
  generalize H1 = H at hP hS ⊢
  refine W.eq (g2 := F0 m9 12 ls [.ref q9]) rfl ?_
  refine lv_astore_n (lv' := [(3, .ref q9), (0, .ref o), (1, .int x), (2, .ref out)]) hx hb dL_weightOf_12 rfl hl (by decide) rfl (fun ls hl => ?_)
  refine lv_iconst (v := 1) hx hb dL_weightOf_13 (by decide) ?_
  refine W.widen (k := 1) (n := 6) (Nat.le_of_ble_eq_true rfl) (Nat.le_of_ble_eq_true rfl) ?_
  exact W.iret (v := 1) hx hb hr (fun t9 ht hW => ⟨⟨_, (), rfl, (by first | (rw [if_pos (by assumption)]; done) | (rw [if_neg (fun h9 => Bool.noConfusion (Eq.trans (Eq.symm h9) (by assumption)))]; done)), ⟨by rw [ht]; exact hP, va_K.moved hW.alike hK, hD⟩⟩, hS.F ht⟩) hS.2.2 dL_weightOf_14 hlocks

set_option maxHeartbeats 4000000 in
set_option maxRecDepth 100000 in
theorem m_L_layerOf_ok (l9 : Launch) (hl9 : l9.stackTraces = false) (D : va_G) (k : Nat → ClassId) (ks kv kf : Nat → Nat) (ka kw : Nat) (sz : Nat) (o bf pa pn pk sv tr tx li ll ac ci ch : Nat) (iz : Bool) (er fl : Int32) (qs qc qr ql : Nat → Nat) (lim sh sc : Int32) (fr : Nat → UInt32) (n : Nat) (w ly t a : Nat → Int32) (fx : Nat → UInt32) (x : Int32) (out : Nat) (ou : Nat → Int64) (hn : n ≤ 10) (hxn : inC n x = true) : Met l9 yL_layerOf wsL_layerOf ({ frames := 3, cells := 1, slots := 6, locals := 63 }) (LPc ks kv kf ka kw D k [.ref o, .int x, .ref out] (bRO k o (qs 0) bf pa pn pk sv iz tr tx er fl li ll ac ci ch ++ bSt k qs qc qr ql lim sh sc fr ++ bClaims k qc n w ly t a fx ++ bL1 k out ou) sz) (WI D k (bRO k o (qs 0) bf pa pn pk sv iz tr tx er fl li ll ac ci ch ++ bSt k qs qc qr ql lim sh sc fr ++ bClaims k qc n w ly t a fx ++ bL1 k out (vp_updL ou 0 ((ly x.toNatClampNeg).toInt64))) 0 (va_A (bRO k o (qs 0) bf pa pn pk sv iz tr tx er fl li ll ac ci ch ++ bSt k qs qc qr ql lim sh sc fr ++ bClaims k qc n w ly t a fx ++ bL1 k out ou) sz)) 1 6 (va_A (bRO k o (qs 0) bf pa pn pk sv iz tr tx er fl li ll ac ci ch ++ bSt k qs qc qr ql lim sh sc fr ++ bClaims k qc n w ly t a fx ++ bL1 k out ou) sz) := by
  refine lMet (y := yL_layerOf) (cc := cL_layerOf) (maxL := 4) (ret := (some .int)) (hh := [(0, 9, 12, 21)]) (Qc := fun A => WI D k (bRO k o (qs 0) bf pa pn pk sv iz tr tx er fl li ll ac ci ch ++ bSt k qs qc qr ql lim sh sc fr ++ bClaims k qc n w ly t a fx ++ bL1 k out (vp_updL ou 0 ((ly x.toNatClampNeg).toInt64))) 0 A) [.ref o, .int x, .ref out] (by decide) rfl (Nat.le_of_ble_eq_true rfl) ?_
  intro p9 e9 s9 m9 bl9 me9 c9 ls A H hF hr hlocks htab hP hK hN hXN hNC hZ hKC hD hA hS hl
  have hl : lv_has ls 4 [(0, .ref o), (1, .int x), (2, .ref out)] := hl
  obtain ⟨hx, hb, hml, hown, hts⟩ := id hF
  refine lv_aload_n hx hb dL_layerOf_0 rfl (lv_at hl 2 rfl) ?_
  refine lv_iconst (v := 0) hx hb dL_layerOf_1 (by decide) ?_
  refine lv_aload_n hx hb dL_layerOf_2 rfl (lv_at hl 0 rfl) ?_
  refine lv_iload_n hx hb dL_layerOf_3 rfl (lv_at hl 1 rfl) ?_
  have hq9 := mp_of (ws := bRO k o (qs 0) bf pa pn pk sv iz tr tx er fl li ll ac ci ch ++ bSt k qs qc qr ql lim sh sc fr ++ bClaims k qc n w ly t a fx ++ bL1 k out ou) (wc := bRO k o (qs 0) bf pa pn pk sv iz tr tx er fl li ll ac ci ch ++ bSt k qs qc qr ql lim sh sc fr ++ bClaims k qc n w ly t a fx) (is := [0, 1, 2, 3, 4, 5, 6, 7, 8]) rfl
  have hFc := va_free (wc := bRO k o (qs 0) bf pa pn pk sv iz tr tx er fl li ll ac ci ch ++ bSt k qs qc qr ql lim sh sc fr ++ bClaims k qc n w ly t a fx) hD hS hA [0, 1, 2, 3, 4, 5, 6, 7, 8] hq9
  refine va_calli (va_runV (As := [.int x]) (rest := [.int 0, .ref out]) hF (m_X12_layerOf l9 D k H.size o bf pa pn pk sv tr tx li ll ac ci ch iz er fl qs qc qr ql lim sh sc fr n w ly t a fx x hn hxn) (cwV 1 hts gL_layerOf_X12_layerOf rfl rfl rfl (by decide +kernel) ⟨Nat.le_of_ble_eq_true rfl, Nat.le_of_ble_eq_true rfl⟩) (wPreV hK hN hP hD [0, 1, 2, 3, 4, 5, 6, 7, 8] (fm_of hq9) (by decide) hq9 0 10 rfl rfl) rfl rfl hl.1 rfl (lv_room (Nat.le_of_ble_eq_true rfl)) dL_layerOf_4 ⟨Nat.zero_le _, Nat.zero_le _⟩) hS (fun q _ h => hFc q h) hFc (fun r u9 t9 H1 locs ht hvm hw hB hz1 hk1 hS => ?_)
  obtain ⟨hP, hD⟩ := wjoin9 (wr := bL1 k out ou) (wf := bRO k o (qs 0) bf pa pn pk sv iz tr tx er fl li ll ac ci ch ++ bSt k qs qc qr ql lim sh sc fr ++ bClaims k qc n w ly t a fx ++ bL1 k out ou) hP hD [0, 1, 2, 3, 4, 5, 6, 7, 8] [9] [1, 2, 3, 4, 5, 6, 7, 8, 9, 0] hq9 rfl (by decide) (by decide) hk1 hFc hB ht rfl (by decide)
  subst hw
  clear hB hk1 hz1 hvm hFc hq9
  clear ht
  clear t9
  generalize H1 = H at hP hS ⊢
  refine lv_i2l hx hb dL_layerOf_7 rfl ?_
  refine la_st hx hb hK hP hD hS 9 rfl 0 (by omega) (by decide) (bRO k o (qs 0) bf pa pn pk sv iz tr tx er fl li ll ac ci ch ++ bSt k qs qc qr ql lim sh sc fr ++ bClaims k qc n w ly t a fx ++ bL1 k out (vp_updL ou 0 ((ly x.toNatClampNeg).toInt64))) rfl dL_layerOf_8 (fun H locs hP hD hS => ?_)
  refine lv_goto (tgt := 15) hx hb dL_layerOf_9 (by decide) ?_
  refine lv_iconst (v := 0) hx hb dL_layerOf_15 (by decide) ?_
  refine W.widen (k := 1) (n := 6) (Nat.le_of_ble_eq_true rfl) (Nat.le_of_ble_eq_true rfl) ?_
  exact W.iret (v := 0) hx hb hr (fun t9 ht hW => ⟨⟨_, (), rfl, (by first | (rw [if_pos (by assumption)]; done) | (rw [if_neg (fun h9 => Bool.noConfusion (Eq.trans (Eq.symm h9) (by assumption)))]; done)), ⟨by rw [ht]; exact hP, va_K.moved hW.alike hK, hD⟩⟩, hS.F ht⟩) hS.2.2 dL_layerOf_16 hlocks

set_option maxHeartbeats 4000000 in
set_option maxRecDepth 100000 in
theorem m_L_layerOf_1 (l9 : Launch) (hl9 : l9.stackTraces = false) (D : va_G) (k : Nat → ClassId) (ks kv kf : Nat → Nat) (ka kw : Nat) (sz : Nat) (o bf pa pn pk sv tr tx li ll ac ci ch : Nat) (iz : Bool) (er fl : Int32) (qs qc qr ql : Nat → Nat) (lim sh sc : Int32) (fr : Nat → UInt32) (n : Nat) (w ly t a : Nat → Int32) (fx : Nat → UInt32) (x : Int32) (out : Nat) (ou : Nat → Int64) (hxn : inC n x = false) : Met l9 yL_layerOf wsL_layerOf ({ frames := 8, cells := 1, slots := 6, locals := 124 }) (LPc ks kv kf ka kw D k [.ref o, .int x, .ref out] (bRO k o (qs 0) bf pa pn pk sv iz tr tx er fl li ll ac ci ch ++ bSt k qs qc qr ql lim sh sc fr ++ bClaims k qc n w ly t a fx ++ bL1 k out ou) sz) (WI D k (bRO k o (qs 0) bf pa pn pk sv iz tr tx er fl li ll ac ci ch ++ bSt k qs qc qr ql lim sh sc fr ++ bClaims k qc n w ly t a fx ++ bL1 k out ou) 1 (va_A (bRO k o (qs 0) bf pa pn pk sv iz tr tx er fl li ll ac ci ch ++ bSt k qs qc qr ql lim sh sc fr ++ bClaims k qc n w ly t a fx ++ bL1 k out ou) sz)) 1 6 (va_A (bRO k o (qs 0) bf pa pn pk sv iz tr tx er fl li ll ac ci ch ++ bSt k qs qc qr ql lim sh sc fr ++ bClaims k qc n w ly t a fx ++ bL1 k out ou) sz) := by
  refine lMet (y := yL_layerOf) (cc := cL_layerOf) (maxL := 4) (ret := (some .int)) (hh := [(0, 9, 12, 21)]) (Qc := fun A => WI D k (bRO k o (qs 0) bf pa pn pk sv iz tr tx er fl li ll ac ci ch ++ bSt k qs qc qr ql lim sh sc fr ++ bClaims k qc n w ly t a fx ++ bL1 k out ou) 1 A) [.ref o, .int x, .ref out] (by decide) rfl (Nat.le_of_ble_eq_true rfl) ?_
  intro p9 e9 s9 m9 bl9 me9 c9 ls A H hF hr hlocks htab hP hK hN hXN hNC hZ hKC hD hA hS hl
  have hl : lv_has ls 4 [(0, .ref o), (1, .int x), (2, .ref out)] := hl
  obtain ⟨hx, hb, hml, hown, hts⟩ := id hF
  refine lv_aload_n hx hb dL_layerOf_0 rfl (lv_at hl 2 rfl) ?_
  refine lv_iconst (v := 0) hx hb dL_layerOf_1 (by decide) ?_
  refine lv_aload_n hx hb dL_layerOf_2 rfl (lv_at hl 0 rfl) ?_
  refine lv_iload_n hx hb dL_layerOf_3 rfl (lv_at hl 1 rfl) ?_
  have hq9 := mp_of (ws := bRO k o (qs 0) bf pa pn pk sv iz tr tx er fl li ll ac ci ch ++ bSt k qs qc qr ql lim sh sc fr ++ bClaims k qc n w ly t a fx ++ bL1 k out ou) (wc := bRO k o (qs 0) bf pa pn pk sv iz tr tx er fl li ll ac ci ch ++ bSt k qs qc qr ql lim sh sc fr ++ bClaims k qc n w ly t a fx) (is := [0, 1, 2, 3, 4, 5, 6, 7, 8]) rfl
  have hFc := va_free (wc := bRO k o (qs 0) bf pa pn pk sv iz tr tx er fl li ll ac ci ch ++ bSt k qs qc qr ql lim sh sc fr ++ bClaims k qc n w ly t a fx) hD hS hA [0, 1, 2, 3, 4, 5, 6, 7, 8] hq9
  refine vx_calli (vx_runV (As := [.int x]) (rest := [.int 0, .ref out]) hF (x_X12_layerOf l9 hl9 D k H.size o bf pa pn pk sv tr tx li ll ac ci ch iz er fl qs qc qr ql lim sh sc fr n w ly t a fx x hxn) (cwV 1 hts gL_layerOf_X12_layerOf rfl rfl rfl (by decide +kernel) ⟨Nat.le_of_ble_eq_true rfl, Nat.le_of_ble_eq_true rfl⟩) (xPreV hK hN hXN hZ hS hFc hP hD [0, 1, 2, 3, 4, 5, 6, 7, 8] (fm_of hq9) (by decide) hq9 0 10 rfl rfl) rfl rfl hl.1 rfl (lv_room (Nat.le_of_ble_eq_true rfl)) dL_layerOf_4 ⟨Nat.le_of_ble_eq_true rfl, Nat.le_of_ble_eq_true rfl⟩) hS (fun q _ h => hFc q h) hFc (fun q _ h => hFc q h) (fun E9 ce9 q9 u9 t9 H1 locs ht hvm _ hbx hz1 hk1 hS hce hcv hcl => ?_) (fun r u9 t9 H1 locs _ _ hp _ _ _ _ => hp.elim)
  obtain ⟨rfl, hbx⟩ := hbx
  obtain ⟨hP, hD⟩ := wjoin9 (u := ()) (wr := bL1 k out ou) (wf := bRO k o (qs 0) bf pa pn pk sv iz tr tx er fl li ll ac ci ch ++ bSt k qs qc qr ql lim sh sc fr ++ bClaims k qc n w ly t a fx ++ bL1 k out ou) hP hD [0, 1, 2, 3, 4, 5, 6, 7, 8] [9] [1, 2, 3, 4, 5, 6, 7, 8, 9, 0] hq9 rfl (by decide) (by decide) hk1 hFc hbx ht rfl (by decide)
  refine vx_catch (own := RL) (name := "java/lang/IndexOutOfBoundsException") (E := "java/lang/IndexOutOfBoundsException") hown [] ⟨0, 9, 12, 21⟩ [] (htab.trans rfl) (fun z hz => by simp only [List.not_mem_nil] at hz) rfl (by decide) (hts (.classLink RL 21 "java/lang/IndexOutOfBoundsException") (by decide +kernel)) (va_Nw.use (xnL_tables (.castable "java/lang/IndexOutOfBoundsException" "java/lang/IndexOutOfBoundsException") (by decide)) (hXN.1 (.castable "java/lang/IndexOutOfBoundsException" "java/lang/IndexOutOfBoundsException") (by decide))) hce hcv hcl ?_
  clear hbx hk1 hz1 hvm hFc hce hcv hcl ht hq9
  clear t9
  generalize H1 = H at hP hS ⊢
  refine W.eq (g2 := F0 m9 12 ls [.ref q9]) rfl ?_
  refine lv_astore_n (lv' := [(3, .ref q9), (0, .ref o), (1, .int x), (2, .ref out)]) hx hb dL_layerOf_12 rfl hl (by decide) rfl (fun ls hl => ?_)
  refine lv_iconst (v := 1) hx hb dL_layerOf_13 (by decide) ?_
  refine W.widen (k := 1) (n := 6) (Nat.le_of_ble_eq_true rfl) (Nat.le_of_ble_eq_true rfl) ?_
  exact W.iret (v := 1) hx hb hr (fun t9 ht hW => ⟨⟨_, (), rfl, (by first | (rw [if_pos (by assumption)]; done) | (rw [if_neg (fun h9 => Bool.noConfusion (Eq.trans (Eq.symm h9) (by assumption)))]; done)), ⟨by rw [ht]; exact hP, va_K.moved hW.alike hK, hD⟩⟩, hS.F ht⟩) hS.2.2 dL_layerOf_14 hlocks

set_option maxHeartbeats 4000000 in
set_option maxRecDepth 100000 in
theorem m_L_isRejected_ok (l9 : Launch) (hl9 : l9.stackTraces = false) (D : va_G) (k : Nat → ClassId) (ks kv kf : Nat → Nat) (ka kw : Nat) (sz : Nat) (o bf pa pn pk sv tr tx li ll ac ci ch : Nat) (iz : Bool) (er fl : Int32) (qs qc qr ql : Nat → Nat) (lim sh sc : Int32) (fr : Nat → UInt32) (n : Nat) (w ly t a : Nat → Int32) (fx : Nat → UInt32) (x : Int32) (out : Nat) (ou : Nat → Int64) (hn : n ≤ 10) (hxn : inC n x = true) : Met l9 yL_isRejected wsL_isRejected ({ frames := 8, cells := 1, slots := 6, locals := 172 }) (LPc ks kv kf ka kw D k [.ref o, .int x, .ref out] (bRO k o (qs 0) bf pa pn pk sv iz tr tx er fl li ll ac ci ch ++ bSt k qs qc qr ql lim sh sc fr ++ bClaims k qc n w ly t a fx ++ bL1 k out ou) sz) (WI D k (bRO k o (qs 0) bf pa pn pk sv iz tr tx er fl li ll ac ci ch ++ bSt k qs qc qr ql lim sh sc fr ++ bClaims k qc n w ly t a fx ++ bL1 k out (vp_updL ou 0 (if tb (orS n t (accS n t a)) x.toNatClampNeg = true then 1 else 0))) 0 (va_A (bRO k o (qs 0) bf pa pn pk sv iz tr tx er fl li ll ac ci ch ++ bSt k qs qc qr ql lim sh sc fr ++ bClaims k qc n w ly t a fx ++ bL1 k out ou) sz)) 1 6 (va_A (bRO k o (qs 0) bf pa pn pk sv iz tr tx er fl li ll ac ci ch ++ bSt k qs qc qr ql lim sh sc fr ++ bClaims k qc n w ly t a fx ++ bL1 k out ou) sz) := by
  refine lMet (y := yL_isRejected) (cc := cL_isRejected) (maxL := 4) (ret := (some .int)) (hh := [(0, 16, 19, 21)]) (Qc := fun A => WI D k (bRO k o (qs 0) bf pa pn pk sv iz tr tx er fl li ll ac ci ch ++ bSt k qs qc qr ql lim sh sc fr ++ bClaims k qc n w ly t a fx ++ bL1 k out (vp_updL ou 0 (if tb (orS n t (accS n t a)) x.toNatClampNeg = true then 1 else 0))) 0 A) [.ref o, .int x, .ref out] (by decide) rfl (Nat.le_of_ble_eq_true rfl) ?_
  intro p9 e9 s9 m9 bl9 me9 c9 ls A H hF hr hlocks htab hP hK hN hXN hNC hZ hKC hD hA hS hl
  have hl : lv_has ls 4 [(0, .ref o), (1, .int x), (2, .ref out)] := hl
  obtain ⟨hx, hb, hml, hown, hts⟩ := id hF
  refine lv_aload_n hx hb dL_isRejected_0 rfl (lv_at hl 2 rfl) ?_
  refine lv_iconst (v := 0) hx hb dL_isRejected_1 (by decide) ?_
  refine lv_aload_n hx hb dL_isRejected_2 rfl (lv_at hl 0 rfl) ?_
  refine lv_iload_n hx hb dL_isRejected_3 rfl (lv_at hl 1 rfl) ?_
  have hq9 := mp_of (ws := bRO k o (qs 0) bf pa pn pk sv iz tr tx er fl li ll ac ci ch ++ bSt k qs qc qr ql lim sh sc fr ++ bClaims k qc n w ly t a fx ++ bL1 k out ou) (wc := bRO k o (qs 0) bf pa pn pk sv iz tr tx er fl li ll ac ci ch ++ bSt k qs qc qr ql lim sh sc fr ++ bClaims k qc n w ly t a fx) (is := [0, 1, 2, 3, 4, 5, 6, 7, 8]) rfl
  have hFc := va_free (wc := bRO k o (qs 0) bf pa pn pk sv iz tr tx er fl li ll ac ci ch ++ bSt k qs qc qr ql lim sh sc fr ++ bClaims k qc n w ly t a fx) hD hS hA [0, 1, 2, 3, 4, 5, 6, 7, 8] hq9
  refine va_calli (va_runV (As := [.int x]) (rest := [.int 0, .ref out]) hF (m_X12_isRejected l9 D k H.size o bf pa pn pk sv tr tx li ll ac ci ch iz er fl qs qc qr ql lim sh sc fr n w ly t a fx x hn hxn) (cwV 1 hts gL_isRejected_X12_isRejected rfl rfl rfl (by decide +kernel) ⟨Nat.le_of_ble_eq_true rfl, Nat.le_of_ble_eq_true rfl⟩) (wPreV hK hN hP hD [0, 1, 2, 3, 4, 5, 6, 7, 8] (fm_of hq9) (by decide) hq9 0 10 rfl rfl) rfl rfl hl.1 rfl (lv_room (Nat.le_of_ble_eq_true rfl)) dL_isRejected_4 ⟨Nat.zero_le _, Nat.zero_le _⟩) hS (fun q _ h => hFc q h) hFc (fun r u9 t9 H1 locs ht hvm hw hB hz1 hk1 hS => ?_)
  obtain ⟨hP, hD⟩ := wjoin9 (wr := bL1 k out ou) (wf := bRO k o (qs 0) bf pa pn pk sv iz tr tx er fl li ll ac ci ch ++ bSt k qs qc qr ql lim sh sc fr ++ bClaims k qc n w ly t a fx ++ bL1 k out ou) hP hD [0, 1, 2, 3, 4, 5, 6, 7, 8] [9] [1, 2, 3, 4, 5, 6, 7, 8, 9, 0] hq9 rfl (by decide) (by decide) hk1 hFc hB ht rfl (by decide)
  subst hw
  clear hB hk1 hz1 hvm hFc hq9
  clear ht
  clear t9
  generalize H1 = H at hP hS ⊢
  refine lv_if_eq (tgt := 14) hx hb dL_isRejected_7 (by decide) (fun c_1 => ?_) (fun c_1 => ?_)
  · skip
    have c_1 : (tb (orS n t (accS n t a)) x.toNatClampNeg) = false := bI_0 c_1
    refine lv_lconst (v := 0) hx hb dL_isRejected_14 (by decide) ?_
    refine la_st hx hb hK hP hD hS 9 rfl 0 (by omega) (by decide) (bRO k o (qs 0) bf pa pn pk sv iz tr tx er fl li ll ac ci ch ++ bSt k qs qc qr ql lim sh sc fr ++ bClaims k qc n w ly t a fx ++ bL1 k out (vp_updL ou 0 0)) rfl dL_isRejected_15 (fun H locs hP hD hS => ?_)
    refine lv_goto (tgt := 22) hx hb dL_isRejected_16 (by decide) ?_
    refine lv_iconst (v := 0) hx hb dL_isRejected_22 (by decide) ?_
    have e_2 : (vp_updL ou 0 0 : Nat → Int64) = vp_updL ou 0 (if tb (orS n t (accS n t a)) x.toNatClampNeg = true then 1 else 0) := by first | (with_reducible rfl) | (first | (rw [if_pos (by assumption)]; done) | (rw [if_neg (fun h9 => Bool.noConfusion (Eq.trans (Eq.symm h9) (by assumption)))]; done))
    have hP := Eq.mp (congrArg (fun z9 => va_P D vwCl (bRO k o (qs 0) bf pa pn pk sv iz tr tx er fl li ll ac ci ch ++ bSt k qs qc qr ql lim sh sc fr ++ bClaims k qc n w ly t a fx ++ bL1 k out z9) H) e_2) hP
    have hD := Eq.mp (congrArg (fun z9 => va_D A (bRO k o (qs 0) bf pa pn pk sv iz tr tx er fl li ll ac ci ch ++ bSt k qs qc qr ql lim sh sc fr ++ bClaims k qc n w ly t a fx ++ bL1 k out z9)) e_2) hD
    refine W.widen (k := 1) (n := 6) (Nat.le_of_ble_eq_true rfl) (Nat.le_of_ble_eq_true rfl) ?_
    exact W.iret (v := 0) hx hb hr (fun t9 ht hW => ⟨⟨_, (), rfl, (by first | (rw [if_pos (by assumption)]; done) | (rw [if_neg (fun h9 => Bool.noConfusion (Eq.trans (Eq.symm h9) (by assumption)))]; done)), ⟨by rw [ht]; exact hP, va_K.moved hW.alike hK, hD⟩⟩, hS.F ht⟩) hS.2.2 dL_isRejected_23 hlocks
  · skip
    have c_1 : (tb (orS n t (accS n t a)) x.toNatClampNeg) = true := bI_1 c_1
    refine lv_lconst (v := 1) hx hb dL_isRejected_10 (by decide) ?_
    refine lv_goto (tgt := 15) hx hb dL_isRejected_11 (by decide) ?_
    refine la_st hx hb hK hP hD hS 9 rfl 0 (by omega) (by decide) (bRO k o (qs 0) bf pa pn pk sv iz tr tx er fl li ll ac ci ch ++ bSt k qs qc qr ql lim sh sc fr ++ bClaims k qc n w ly t a fx ++ bL1 k out (vp_updL ou 0 1)) rfl dL_isRejected_15 (fun H locs hP hD hS => ?_)
    refine lv_goto (tgt := 22) hx hb dL_isRejected_16 (by decide) ?_
    refine lv_iconst (v := 0) hx hb dL_isRejected_22 (by decide) ?_
    have e_3 : (vp_updL ou 0 1 : Nat → Int64) = vp_updL ou 0 (if tb (orS n t (accS n t a)) x.toNatClampNeg = true then 1 else 0) := by first | (with_reducible rfl) | (first | (rw [if_pos (by assumption)]; done) | (rw [if_neg (fun h9 => Bool.noConfusion (Eq.trans (Eq.symm h9) (by assumption)))]; done))
    have hP := Eq.mp (congrArg (fun z9 => va_P D vwCl (bRO k o (qs 0) bf pa pn pk sv iz tr tx er fl li ll ac ci ch ++ bSt k qs qc qr ql lim sh sc fr ++ bClaims k qc n w ly t a fx ++ bL1 k out z9) H) e_3) hP
    have hD := Eq.mp (congrArg (fun z9 => va_D A (bRO k o (qs 0) bf pa pn pk sv iz tr tx er fl li ll ac ci ch ++ bSt k qs qc qr ql lim sh sc fr ++ bClaims k qc n w ly t a fx ++ bL1 k out z9)) e_3) hD
    refine W.widen (k := 1) (n := 6) (Nat.le_of_ble_eq_true rfl) (Nat.le_of_ble_eq_true rfl) ?_
    exact W.iret (v := 0) hx hb hr (fun t9 ht hW => ⟨⟨_, (), rfl, (by first | (rw [if_pos (by assumption)]; done) | (rw [if_neg (fun h9 => Bool.noConfusion (Eq.trans (Eq.symm h9) (by assumption)))]; done)), ⟨by rw [ht]; exact hP, va_K.moved hW.alike hK, hD⟩⟩, hS.F ht⟩) hS.2.2 dL_isRejected_23 hlocks

set_option maxHeartbeats 4000000 in
set_option maxRecDepth 100000 in
theorem m_L_isRejected_1 (l9 : Launch) (hl9 : l9.stackTraces = false) (D : va_G) (k : Nat → ClassId) (ks kv kf : Nat → Nat) (ka kw : Nat) (sz : Nat) (o bf pa pn pk sv tr tx li ll ac ci ch : Nat) (iz : Bool) (er fl : Int32) (qs qc qr ql : Nat → Nat) (lim sh sc : Int32) (fr : Nat → UInt32) (n : Nat) (w ly t a : Nat → Int32) (fx : Nat → UInt32) (x : Int32) (out : Nat) (ou : Nat → Int64) (hxn : inC n x = false) : Met l9 yL_isRejected wsL_isRejected ({ frames := 8, cells := 1, slots := 6, locals := 124 }) (LPc ks kv kf ka kw D k [.ref o, .int x, .ref out] (bRO k o (qs 0) bf pa pn pk sv iz tr tx er fl li ll ac ci ch ++ bSt k qs qc qr ql lim sh sc fr ++ bClaims k qc n w ly t a fx ++ bL1 k out ou) sz) (WI D k (bRO k o (qs 0) bf pa pn pk sv iz tr tx er fl li ll ac ci ch ++ bSt k qs qc qr ql lim sh sc fr ++ bClaims k qc n w ly t a fx ++ bL1 k out ou) 1 (va_A (bRO k o (qs 0) bf pa pn pk sv iz tr tx er fl li ll ac ci ch ++ bSt k qs qc qr ql lim sh sc fr ++ bClaims k qc n w ly t a fx ++ bL1 k out ou) sz)) 1 6 (va_A (bRO k o (qs 0) bf pa pn pk sv iz tr tx er fl li ll ac ci ch ++ bSt k qs qc qr ql lim sh sc fr ++ bClaims k qc n w ly t a fx ++ bL1 k out ou) sz) := by
  refine lMet (y := yL_isRejected) (cc := cL_isRejected) (maxL := 4) (ret := (some .int)) (hh := [(0, 16, 19, 21)]) (Qc := fun A => WI D k (bRO k o (qs 0) bf pa pn pk sv iz tr tx er fl li ll ac ci ch ++ bSt k qs qc qr ql lim sh sc fr ++ bClaims k qc n w ly t a fx ++ bL1 k out ou) 1 A) [.ref o, .int x, .ref out] (by decide) rfl (Nat.le_of_ble_eq_true rfl) ?_
  intro p9 e9 s9 m9 bl9 me9 c9 ls A H hF hr hlocks htab hP hK hN hXN hNC hZ hKC hD hA hS hl
  have hl : lv_has ls 4 [(0, .ref o), (1, .int x), (2, .ref out)] := hl
  obtain ⟨hx, hb, hml, hown, hts⟩ := id hF
  refine lv_aload_n hx hb dL_isRejected_0 rfl (lv_at hl 2 rfl) ?_
  refine lv_iconst (v := 0) hx hb dL_isRejected_1 (by decide) ?_
  refine lv_aload_n hx hb dL_isRejected_2 rfl (lv_at hl 0 rfl) ?_
  refine lv_iload_n hx hb dL_isRejected_3 rfl (lv_at hl 1 rfl) ?_
  have hq9 := mp_of (ws := bRO k o (qs 0) bf pa pn pk sv iz tr tx er fl li ll ac ci ch ++ bSt k qs qc qr ql lim sh sc fr ++ bClaims k qc n w ly t a fx ++ bL1 k out ou) (wc := bRO k o (qs 0) bf pa pn pk sv iz tr tx er fl li ll ac ci ch ++ bSt k qs qc qr ql lim sh sc fr ++ bClaims k qc n w ly t a fx) (is := [0, 1, 2, 3, 4, 5, 6, 7, 8]) rfl
  have hFc := va_free (wc := bRO k o (qs 0) bf pa pn pk sv iz tr tx er fl li ll ac ci ch ++ bSt k qs qc qr ql lim sh sc fr ++ bClaims k qc n w ly t a fx) hD hS hA [0, 1, 2, 3, 4, 5, 6, 7, 8] hq9
  refine vx_calli (vx_runV (As := [.int x]) (rest := [.int 0, .ref out]) hF (x_X12_isRejected l9 hl9 D k H.size o bf pa pn pk sv tr tx li ll ac ci ch iz er fl qs qc qr ql lim sh sc fr n w ly t a fx x hxn) (cwV 1 hts gL_isRejected_X12_isRejected rfl rfl rfl (by decide +kernel) ⟨Nat.le_of_ble_eq_true rfl, Nat.le_of_ble_eq_true rfl⟩) (xPreV hK hN hXN hZ hS hFc hP hD [0, 1, 2, 3, 4, 5, 6, 7, 8] (fm_of hq9) (by decide) hq9 0 10 rfl rfl) rfl rfl hl.1 rfl (lv_room (Nat.le_of_ble_eq_true rfl)) dL_isRejected_4 ⟨Nat.le_of_ble_eq_true rfl, Nat.le_of_ble_eq_true rfl⟩) hS (fun q _ h => hFc q h) hFc (fun q _ h => hFc q h) (fun E9 ce9 q9 u9 t9 H1 locs ht hvm _ hbx hz1 hk1 hS hce hcv hcl => ?_) (fun r u9 t9 H1 locs _ _ hp _ _ _ _ => hp.elim)
  obtain ⟨rfl, hbx⟩ := hbx
  obtain ⟨hP, hD⟩ := wjoin9 (u := ()) (wr := bL1 k out ou) (wf := bRO k o (qs 0) bf pa pn pk sv iz tr tx er fl li ll ac ci ch ++ bSt k qs qc qr ql lim sh sc fr ++ bClaims k qc n w ly t a fx ++ bL1 k out ou) hP hD [0, 1, 2, 3, 4, 5, 6, 7, 8] [9] [1, 2, 3, 4, 5, 6, 7, 8, 9, 0] hq9 rfl (by decide) (by decide) hk1 hFc hbx ht rfl (by decide)
  refine vx_catch (own := RL) (name := "java/lang/IndexOutOfBoundsException") (E := "java/lang/IndexOutOfBoundsException") hown [] ⟨0, 16, 19, 21⟩ [] (htab.trans rfl) (fun z hz => by simp only [List.not_mem_nil] at hz) rfl (by decide) (hts (.classLink RL 21 "java/lang/IndexOutOfBoundsException") (by decide +kernel)) (va_Nw.use (xnL_tables (.castable "java/lang/IndexOutOfBoundsException" "java/lang/IndexOutOfBoundsException") (by decide)) (hXN.1 (.castable "java/lang/IndexOutOfBoundsException" "java/lang/IndexOutOfBoundsException") (by decide))) hce hcv hcl ?_
  clear hbx hk1 hz1 hvm hFc hce hcv hcl ht hq9
  clear t9
  generalize H1 = H at hP hS ⊢
  refine W.eq (g2 := F0 m9 19 ls [.ref q9]) rfl ?_
  refine lv_astore_n (lv' := [(3, .ref q9), (0, .ref o), (1, .int x), (2, .ref out)]) hx hb dL_isRejected_19 rfl hl (by decide) rfl (fun ls hl => ?_)
  refine lv_iconst (v := 1) hx hb dL_isRejected_20 (by decide) ?_
  refine W.widen (k := 1) (n := 6) (Nat.le_of_ble_eq_true rfl) (Nat.le_of_ble_eq_true rfl) ?_
  exact W.iret (v := 1) hx hb hr (fun t9 ht hW => ⟨⟨_, (), rfl, (by first | (rw [if_pos (by assumption)]; done) | (rw [if_neg (fun h9 => Bool.noConfusion (Eq.trans (Eq.symm h9) (by assumption)))]; done)), ⟨by rw [ht]; exact hP, va_K.moved hW.alike hK, hD⟩⟩, hS.F ht⟩) hS.2.2 dL_isRejected_21 hlocks

set_option maxHeartbeats 4000000 in
set_option maxRecDepth 100000 in
theorem m_L_circleSize_ok (l9 : Launch) (hl9 : l9.stackTraces = false) (D : va_G) (k : Nat → ClassId) (ks kv kf : Nat → Nat) (ka kw : Nat) (sz : Nat) (o bf pa pn pk sv tr tx li ll ac ci ch : Nat) (iz : Bool) (er fl : Int32) (qs qc qr ql : Nat → Nat) (lim sh sc : Int32) (fr : Nat → UInt32) (n : Nat) (w ly t a : Nat → Int32) (fx : Nat → UInt32) (x : Int32) (out : Nat) (ou : Nat → Int64) (hn : n ≤ 10) (hxn : inC n x = true) (hlw : lowB (arS n t a x.toNatClampNeg)) : Met l9 yL_circleSize wsL_circleSize ({ frames := 6, cells := 1, slots := 6, locals := 132 }) (LPc ks kv kf ka kw D k [.ref o, .int x, .ref out] (bRO k o (qs 0) bf pa pn pk sv iz tr tx er fl li ll ac ci ch ++ bSt k qs qc qr ql lim sh sc fr ++ bClaims k qc n w ly t a fx ++ bL1 k out ou) sz) (WI D k (bRO k o (qs 0) bf pa pn pk sv iz tr tx er fl li ll ac ci ch ++ bSt k qs qc qr ql lim sh sc fr ++ bClaims k qc n w ly t a fx ++ bL1 k out (vp_updL ou 0 ((nI (cn 10 (arS n t a x.toNatClampNeg))).toInt64))) 0 (va_A (bRO k o (qs 0) bf pa pn pk sv iz tr tx er fl li ll ac ci ch ++ bSt k qs qc qr ql lim sh sc fr ++ bClaims k qc n w ly t a fx ++ bL1 k out ou) sz)) 1 6 (va_A (bRO k o (qs 0) bf pa pn pk sv iz tr tx er fl li ll ac ci ch ++ bSt k qs qc qr ql lim sh sc fr ++ bClaims k qc n w ly t a fx ++ bL1 k out ou) sz) := by
  refine lMet (y := yL_circleSize) (cc := cL_circleSize) (maxL := 4) (ret := (some .int)) (hh := [(0, 9, 12, 21)]) (Qc := fun A => WI D k (bRO k o (qs 0) bf pa pn pk sv iz tr tx er fl li ll ac ci ch ++ bSt k qs qc qr ql lim sh sc fr ++ bClaims k qc n w ly t a fx ++ bL1 k out (vp_updL ou 0 ((nI (cn 10 (arS n t a x.toNatClampNeg))).toInt64))) 0 A) [.ref o, .int x, .ref out] (by decide) rfl (Nat.le_of_ble_eq_true rfl) ?_
  intro p9 e9 s9 m9 bl9 me9 c9 ls A H hF hr hlocks htab hP hK hN hXN hNC hZ hKC hD hA hS hl
  have hl : lv_has ls 4 [(0, .ref o), (1, .int x), (2, .ref out)] := hl
  obtain ⟨hx, hb, hml, hown, hts⟩ := id hF
  refine lv_aload_n hx hb dL_circleSize_0 rfl (lv_at hl 2 rfl) ?_
  refine lv_iconst (v := 0) hx hb dL_circleSize_1 (by decide) ?_
  refine lv_aload_n hx hb dL_circleSize_2 rfl (lv_at hl 0 rfl) ?_
  refine lv_iload_n hx hb dL_circleSize_3 rfl (lv_at hl 1 rfl) ?_
  have hq9 := mp_of (ws := bRO k o (qs 0) bf pa pn pk sv iz tr tx er fl li ll ac ci ch ++ bSt k qs qc qr ql lim sh sc fr ++ bClaims k qc n w ly t a fx ++ bL1 k out ou) (wc := bRO k o (qs 0) bf pa pn pk sv iz tr tx er fl li ll ac ci ch ++ bSt k qs qc qr ql lim sh sc fr ++ bClaims k qc n w ly t a fx) (is := [0, 1, 2, 3, 4, 5, 6, 7, 8]) rfl
  have hFc := va_free (wc := bRO k o (qs 0) bf pa pn pk sv iz tr tx er fl li ll ac ci ch ++ bSt k qs qc qr ql lim sh sc fr ++ bClaims k qc n w ly t a fx) hD hS hA [0, 1, 2, 3, 4, 5, 6, 7, 8] hq9
  refine va_calli (va_runV (As := [.int x]) (rest := [.int 0, .ref out]) hF (m_X12_circleSize l9 D k H.size o bf pa pn pk sv tr tx li ll ac ci ch iz er fl qs qc qr ql lim sh sc fr n w ly t a fx x hn hxn hlw) (cwV 1 hts gL_circleSize_X12_circleSize rfl rfl rfl (by decide +kernel) ⟨Nat.le_of_ble_eq_true rfl, Nat.le_of_ble_eq_true rfl⟩) (wPreV hK hN hP hD [0, 1, 2, 3, 4, 5, 6, 7, 8] (fm_of hq9) (by decide) hq9 0 10 rfl rfl) rfl rfl hl.1 rfl (lv_room (Nat.le_of_ble_eq_true rfl)) dL_circleSize_4 ⟨Nat.zero_le _, Nat.zero_le _⟩) hS (fun q _ h => hFc q h) hFc (fun r u9 t9 H1 locs ht hvm hw hB hz1 hk1 hS => ?_)
  obtain ⟨hP, hD⟩ := wjoin9 (wr := bL1 k out ou) (wf := bRO k o (qs 0) bf pa pn pk sv iz tr tx er fl li ll ac ci ch ++ bSt k qs qc qr ql lim sh sc fr ++ bClaims k qc n w ly t a fx ++ bL1 k out ou) hP hD [0, 1, 2, 3, 4, 5, 6, 7, 8] [9] [1, 2, 3, 4, 5, 6, 7, 8, 9, 0] hq9 rfl (by decide) (by decide) hk1 hFc hB ht rfl (by decide)
  subst hw
  clear hB hk1 hz1 hvm hFc hq9
  clear ht
  clear t9
  generalize H1 = H at hP hS ⊢
  refine lv_i2l hx hb dL_circleSize_7 rfl ?_
  refine la_st hx hb hK hP hD hS 9 rfl 0 (by omega) (by decide) (bRO k o (qs 0) bf pa pn pk sv iz tr tx er fl li ll ac ci ch ++ bSt k qs qc qr ql lim sh sc fr ++ bClaims k qc n w ly t a fx ++ bL1 k out (vp_updL ou 0 ((nI (cn 10 (arS n t a x.toNatClampNeg))).toInt64))) rfl dL_circleSize_8 (fun H locs hP hD hS => ?_)
  refine lv_goto (tgt := 15) hx hb dL_circleSize_9 (by decide) ?_
  refine lv_iconst (v := 0) hx hb dL_circleSize_15 (by decide) ?_
  refine W.widen (k := 1) (n := 6) (Nat.le_of_ble_eq_true rfl) (Nat.le_of_ble_eq_true rfl) ?_
  exact W.iret (v := 0) hx hb hr (fun t9 ht hW => ⟨⟨_, (), rfl, (by first | (rw [if_pos (by assumption)]; done) | (rw [if_neg (fun h9 => Bool.noConfusion (Eq.trans (Eq.symm h9) (by assumption)))]; done)), ⟨by rw [ht]; exact hP, va_K.moved hW.alike hK, hD⟩⟩, hS.F ht⟩) hS.2.2 dL_circleSize_16 hlocks

set_option maxHeartbeats 4000000 in
set_option maxRecDepth 100000 in
theorem m_L_circleSize_1 (l9 : Launch) (hl9 : l9.stackTraces = false) (D : va_G) (k : Nat → ClassId) (ks kv kf : Nat → Nat) (ka kw : Nat) (sz : Nat) (o bf pa pn pk sv tr tx li ll ac ci ch : Nat) (iz : Bool) (er fl : Int32) (qs qc qr ql : Nat → Nat) (lim sh sc : Int32) (fr : Nat → UInt32) (n : Nat) (w ly t a : Nat → Int32) (fx : Nat → UInt32) (x : Int32) (out : Nat) (ou : Nat → Int64) (hxn : inC n x = false) : Met l9 yL_circleSize wsL_circleSize ({ frames := 8, cells := 1, slots := 6, locals := 124 }) (LPc ks kv kf ka kw D k [.ref o, .int x, .ref out] (bRO k o (qs 0) bf pa pn pk sv iz tr tx er fl li ll ac ci ch ++ bSt k qs qc qr ql lim sh sc fr ++ bClaims k qc n w ly t a fx ++ bL1 k out ou) sz) (WI D k (bRO k o (qs 0) bf pa pn pk sv iz tr tx er fl li ll ac ci ch ++ bSt k qs qc qr ql lim sh sc fr ++ bClaims k qc n w ly t a fx ++ bL1 k out ou) 1 (va_A (bRO k o (qs 0) bf pa pn pk sv iz tr tx er fl li ll ac ci ch ++ bSt k qs qc qr ql lim sh sc fr ++ bClaims k qc n w ly t a fx ++ bL1 k out ou) sz)) 1 6 (va_A (bRO k o (qs 0) bf pa pn pk sv iz tr tx er fl li ll ac ci ch ++ bSt k qs qc qr ql lim sh sc fr ++ bClaims k qc n w ly t a fx ++ bL1 k out ou) sz) := by
  refine lMet (y := yL_circleSize) (cc := cL_circleSize) (maxL := 4) (ret := (some .int)) (hh := [(0, 9, 12, 21)]) (Qc := fun A => WI D k (bRO k o (qs 0) bf pa pn pk sv iz tr tx er fl li ll ac ci ch ++ bSt k qs qc qr ql lim sh sc fr ++ bClaims k qc n w ly t a fx ++ bL1 k out ou) 1 A) [.ref o, .int x, .ref out] (by decide) rfl (Nat.le_of_ble_eq_true rfl) ?_
  intro p9 e9 s9 m9 bl9 me9 c9 ls A H hF hr hlocks htab hP hK hN hXN hNC hZ hKC hD hA hS hl
  have hl : lv_has ls 4 [(0, .ref o), (1, .int x), (2, .ref out)] := hl
  obtain ⟨hx, hb, hml, hown, hts⟩ := id hF
  refine lv_aload_n hx hb dL_circleSize_0 rfl (lv_at hl 2 rfl) ?_
  refine lv_iconst (v := 0) hx hb dL_circleSize_1 (by decide) ?_
  refine lv_aload_n hx hb dL_circleSize_2 rfl (lv_at hl 0 rfl) ?_
  refine lv_iload_n hx hb dL_circleSize_3 rfl (lv_at hl 1 rfl) ?_
  have hq9 := mp_of (ws := bRO k o (qs 0) bf pa pn pk sv iz tr tx er fl li ll ac ci ch ++ bSt k qs qc qr ql lim sh sc fr ++ bClaims k qc n w ly t a fx ++ bL1 k out ou) (wc := bRO k o (qs 0) bf pa pn pk sv iz tr tx er fl li ll ac ci ch ++ bSt k qs qc qr ql lim sh sc fr ++ bClaims k qc n w ly t a fx) (is := [0, 1, 2, 3, 4, 5, 6, 7, 8]) rfl
  have hFc := va_free (wc := bRO k o (qs 0) bf pa pn pk sv iz tr tx er fl li ll ac ci ch ++ bSt k qs qc qr ql lim sh sc fr ++ bClaims k qc n w ly t a fx) hD hS hA [0, 1, 2, 3, 4, 5, 6, 7, 8] hq9
  refine vx_calli (vx_runV (As := [.int x]) (rest := [.int 0, .ref out]) hF (x_X12_circleSize l9 hl9 D k H.size o bf pa pn pk sv tr tx li ll ac ci ch iz er fl qs qc qr ql lim sh sc fr n w ly t a fx x hxn) (cwV 1 hts gL_circleSize_X12_circleSize rfl rfl rfl (by decide +kernel) ⟨Nat.le_of_ble_eq_true rfl, Nat.le_of_ble_eq_true rfl⟩) (xPreV hK hN hXN hZ hS hFc hP hD [0, 1, 2, 3, 4, 5, 6, 7, 8] (fm_of hq9) (by decide) hq9 0 10 rfl rfl) rfl rfl hl.1 rfl (lv_room (Nat.le_of_ble_eq_true rfl)) dL_circleSize_4 ⟨Nat.le_of_ble_eq_true rfl, Nat.le_of_ble_eq_true rfl⟩) hS (fun q _ h => hFc q h) hFc (fun q _ h => hFc q h) (fun E9 ce9 q9 u9 t9 H1 locs ht hvm _ hbx hz1 hk1 hS hce hcv hcl => ?_) (fun r u9 t9 H1 locs _ _ hp _ _ _ _ => hp.elim)
  obtain ⟨rfl, hbx⟩ := hbx
  obtain ⟨hP, hD⟩ := wjoin9 (u := ()) (wr := bL1 k out ou) (wf := bRO k o (qs 0) bf pa pn pk sv iz tr tx er fl li ll ac ci ch ++ bSt k qs qc qr ql lim sh sc fr ++ bClaims k qc n w ly t a fx ++ bL1 k out ou) hP hD [0, 1, 2, 3, 4, 5, 6, 7, 8] [9] [1, 2, 3, 4, 5, 6, 7, 8, 9, 0] hq9 rfl (by decide) (by decide) hk1 hFc hbx ht rfl (by decide)
  refine vx_catch (own := RL) (name := "java/lang/IndexOutOfBoundsException") (E := "java/lang/IndexOutOfBoundsException") hown [] ⟨0, 9, 12, 21⟩ [] (htab.trans rfl) (fun z hz => by simp only [List.not_mem_nil] at hz) rfl (by decide) (hts (.classLink RL 21 "java/lang/IndexOutOfBoundsException") (by decide +kernel)) (va_Nw.use (xnL_tables (.castable "java/lang/IndexOutOfBoundsException" "java/lang/IndexOutOfBoundsException") (by decide)) (hXN.1 (.castable "java/lang/IndexOutOfBoundsException" "java/lang/IndexOutOfBoundsException") (by decide))) hce hcv hcl ?_
  clear hbx hk1 hz1 hvm hFc hce hcv hcl ht hq9
  clear t9
  generalize H1 = H at hP hS ⊢
  refine W.eq (g2 := F0 m9 12 ls [.ref q9]) rfl ?_
  refine lv_astore_n (lv' := [(3, .ref q9), (0, .ref o), (1, .int x), (2, .ref out)]) hx hb dL_circleSize_12 rfl hl (by decide) rfl (fun ls hl => ?_)
  refine lv_iconst (v := 1) hx hb dL_circleSize_13 (by decide) ?_
  refine W.widen (k := 1) (n := 6) (Nat.le_of_ble_eq_true rfl) (Nat.le_of_ble_eq_true rfl) ?_
  exact W.iret (v := 1) hx hb hr (fun t9 ht hW => ⟨⟨_, (), rfl, (by first | (rw [if_pos (by assumption)]; done) | (rw [if_neg (fun h9 => Bool.noConfusion (Eq.trans (Eq.symm h9) (by assumption)))]; done)), ⟨by rw [ht]; exact hP, va_K.moved hW.alike hK, hD⟩⟩, hS.F ht⟩) hS.2.2 dL_circleSize_14 hlocks

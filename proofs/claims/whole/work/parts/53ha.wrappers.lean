/-! The law's wrappers: addClaim, setAttack, setLayer, weightOf, layerOf, isRejected, circleSize, fluxBits, describeClaim, attacks, isPosition, chains, chainsBySteps, setRack. -/
set_option maxHeartbeats 4000000 in
set_option maxRecDepth 100000 in
theorem m_L_addClaim_ok (l9 : Launch) (hl9 : l9.stackTraces = false) (D : va_G) (k : Nat → ClassId) (ks kv kf : Nat → Nat) (ka kw : Nat) (sz : Nat) (o bf pa pn pk sv tr tx li ll ac ci ch : Nat) (iz : Bool) (er fl : Int32) (g : Nat → Nat) (qs qc qr ql : Nat → Nat) (lim sh sc : Int32) (fr : Nat → UInt32) (n : Nat) (w ly t a : Nat → Int32) (fx : Nat → UInt32) (kd rk : Nat → Int32) (lsh lk : Nat → Int32) (lc lx : Nat) (qs2 qc2 qr2 ql2 : Nat → Nat) (lim2 sh2 sc2 : Int32) (fr2 : Nat → UInt32) (n2 : Nat) (w2 ly2 t2 a2 : Nat → Int32) (fx2 : Nat → UInt32) (kd2 rk2 : Nat → Int32) (lsh2 lk2 : Nat → Int32) (lc2 lx2 : Nat) (x : Int32) (out : Nat) (ou : Nat → Int64) (hkd : chOk kd 4) (hrk : chOk rk 12) (hlk : chOk lk 16) (hpn : pn < 8) (hpk : pk ≤ 8) (hn : n ≤ 10) (hok : ¬ (opEnter n w x).1 < 0) : Met l9 yL_addClaim wsL_addClaim ({ frames := 4, cells := 1, slots := 6, locals := 123 }) (LPc ks kv kf ka kw D k [.ref o, .int x, .ref out] (bRO k o (qs 0) (qs2 0) pa pn pk sv iz tr tx er fl li ll ac ci ch ++ bPA k pa g ++ bSt k qs qc qr ql lim sh sc fr ++ bClaims k qc n w ly t a fx ++ bRacks k qr kd rk ++ bLog k ql lsh lk lc lx ++ bSt k qs2 qc2 qr2 ql2 lim2 sh2 sc2 fr2 ++ bClaims k qc2 n2 w2 ly2 t2 a2 fx2 ++ bRacks k qr2 kd2 rk2 ++ bLog k ql2 lsh2 lk2 lc2 lx2 ++ bL1 k out ou) sz) (WI D k (bRO k o (qs 0) (g pn) pa ((pn + 1) % 8) (min (pk + 1) 8) sv iz tr tx er fl li ll ac ci ch ++ bPA k pa (upP g pn (qs2 0)) ++ bSt k qs qc qr ql lim sh sc fr ++ bClaims k qc ((opEnter n w x).2.1) ((opEnter n w x).2.2) ly t a fx ++ bRacks k qr kd rk ++ bLog k ql lsh lk lc lx ++ bSt k qs2 qc2 qr2 ql2 lim sh sc fr2 ++ bClaims k qc2 n w ly t a fx ++ bRacks k qr2 kd rk ++ bLog k ql2 lsh lk lc lx ++ bL1 k out (vp_updL ou 0 (((opEnter n w x).1).toInt64))) 0 (va_A (bRO k o (qs 0) (qs2 0) pa pn pk sv iz tr tx er fl li ll ac ci ch ++ bPA k pa g ++ bSt k qs qc qr ql lim sh sc fr ++ bClaims k qc n w ly t a fx ++ bRacks k qr kd rk ++ bLog k ql lsh lk lc lx ++ bSt k qs2 qc2 qr2 ql2 lim2 sh2 sc2 fr2 ++ bClaims k qc2 n2 w2 ly2 t2 a2 fx2 ++ bRacks k qr2 kd2 rk2 ++ bLog k ql2 lsh2 lk2 lc2 lx2 ++ bL1 k out ou) sz)) 1 6 (va_A (bRO k o (qs 0) (qs2 0) pa pn pk sv iz tr tx er fl li ll ac ci ch ++ bPA k pa g ++ bSt k qs qc qr ql lim sh sc fr ++ bClaims k qc n w ly t a fx ++ bRacks k qr kd rk ++ bLog k ql lsh lk lc lx ++ bSt k qs2 qc2 qr2 ql2 lim2 sh2 sc2 fr2 ++ bClaims k qc2 n2 w2 ly2 t2 a2 fx2 ++ bRacks k qr2 kd2 rk2 ++ bLog k ql2 lsh2 lk2 lc2 lx2 ++ bL1 k out ou) sz) := by
  refine lMet (y := yL_addClaim) (cc := cL_addClaim) (maxL := 4) (ret := (some .int)) (hh := [(0, 9, 12, 13), (0, 9, 15, 15)]) (Qc := fun A => WI D k (bRO k o (qs 0) (g pn) pa ((pn + 1) % 8) (min (pk + 1) 8) sv iz tr tx er fl li ll ac ci ch ++ bPA k pa (upP g pn (qs2 0)) ++ bSt k qs qc qr ql lim sh sc fr ++ bClaims k qc ((opEnter n w x).2.1) ((opEnter n w x).2.2) ly t a fx ++ bRacks k qr kd rk ++ bLog k ql lsh lk lc lx ++ bSt k qs2 qc2 qr2 ql2 lim sh sc fr2 ++ bClaims k qc2 n w ly t a fx ++ bRacks k qr2 kd rk ++ bLog k ql2 lsh lk lc lx ++ bL1 k out (vp_updL ou 0 (((opEnter n w x).1).toInt64))) 0 A) [.ref o, .int x, .ref out] (by decide) rfl (Nat.le_of_ble_eq_true rfl) ?_
  intro p9 e9 s9 m9 bl9 me9 c9 ls A H hF hr hlocks htab hP hK hN hXN hNC hZ hKC hD hA hS hl
  have hl : lv_has ls 4 [(0, .ref o), (1, .int x), (2, .ref out)] := hl
  obtain ⟨hx, hb, hml, hown, hts⟩ := id hF
  refine lv_aload_n hx hb dL_addClaim_0 rfl (lv_at hl 2 rfl) ?_
  refine lv_iconst (v := 0) hx hb dL_addClaim_1 (by decide) ?_
  refine lv_aload_n hx hb dL_addClaim_2 rfl (lv_at hl 0 rfl) ?_
  refine lv_iload_n hx hb dL_addClaim_3 rfl (lv_at hl 1 rfl) ?_
  have hFc := l_free (wc := bRO k o (qs 0) (qs2 0) pa pn pk sv iz tr tx er fl li ll ac ci ch ++ bPA k pa g ++ bSt k qs qc qr ql lim sh sc fr ++ bClaims k qc n w ly t a fx ++ bRacks k qr kd rk ++ bLog k ql lsh lk lc lx ++ bSt k qs2 qc2 qr2 ql2 lim2 sh2 sc2 fr2 ++ bClaims k qc2 n2 w2 ly2 t2 a2 fx2 ++ bRacks k qr2 kd2 rk2 ++ bLog k ql2 lsh2 lk2 lc2 lx2) (wr := bL1 k out ou) hD hS hA
  refine va_calli (va_runV (As := [.int x]) (rest := [.int 0, .ref out]) hF (m_X12_addClaim l9 D k H.size o bf pa pn pk sv tr tx li ll ac ci ch iz er fl g qs qc qr ql lim sh sc fr n w ly t a fx kd rk lsh lk lc lx qs2 qc2 qr2 ql2 lim2 sh2 sc2 fr2 n2 w2 ly2 t2 a2 fx2 kd2 rk2 lsh2 lk2 lc2 lx2 x hkd hrk hlk hpn hpk hn hok) (cwV 1 hts gL_addClaim_X12_addClaim rfl rfl rfl (by decide +kernel) ⟨Nat.le_of_ble_eq_true rfl, Nat.le_of_ble_eq_true rfl⟩) (l_preV hK hN (l_P1 (wr := bL1 k out ou) hP) (l_D1 (wr := bL1 k out ou) hD) (ci := 10) rfl rfl) rfl rfl hl.1 rfl (lv_room (Nat.le_of_ble_eq_true rfl)) dL_addClaim_4 ⟨Nat.zero_le _, Nat.zero_le _⟩) hS (fun q _ h => hFc q h) hFc (fun r u9 t9 H1 locs ht hvm hw hB hz1 hk1 hS => ?_)
  obtain ⟨hP, hD⟩ := l_join (wr := bL1 k out ou) hP hD hk1 hFc hB ht
  subst hw
  clear hB hk1 hz1 hvm hFc
  clear ht
  clear t9
  generalize H1 = H at hP hS ⊢
  refine lv_i2l hx hb dL_addClaim_7 rfl ?_
  refine la_st hx hb hK hP hD hS 30 rfl 0 (by omega) (by decide) (bRO k o (qs 0) (g pn) pa ((pn + 1) % 8) (min (pk + 1) 8) sv iz tr tx er fl li ll ac ci ch ++ bPA k pa (upP g pn (qs2 0)) ++ bSt k qs qc qr ql lim sh sc fr ++ bClaims k qc ((opEnter n w x).2.1) ((opEnter n w x).2.2) ly t a fx ++ bRacks k qr kd rk ++ bLog k ql lsh lk lc lx ++ bSt k qs2 qc2 qr2 ql2 lim sh sc fr2 ++ bClaims k qc2 n w ly t a fx ++ bRacks k qr2 kd rk ++ bLog k ql2 lsh lk lc lx ++ bL1 k out (vp_updL ou 0 (((opEnter n w x).1).toInt64))) rfl dL_addClaim_8 (fun H locs hP hD hS => ?_)
  refine lv_goto (tgt := 18) hx hb dL_addClaim_9 (by decide) ?_
  refine lv_iconst (v := 0) hx hb dL_addClaim_18 (by decide) ?_
  refine W.widen (k := 1) (n := 6) (Nat.le_of_ble_eq_true rfl) (Nat.le_of_ble_eq_true rfl) ?_
  exact W.iret (v := 0) hx hb hr (fun t9 ht hW => ⟨⟨_, (), rfl, (by first | (with_reducible exact rfl) | (rw [if_pos (by assumption)]; done) | (rw [if_neg (ne_true_of_eq_false (by assumption))]; done)), ⟨by rw [ht]; exact hP, va_K.moved hW.alike hK, hD⟩⟩, hS.F ht⟩) hS.2.2 dL_addClaim_19 hlocks

set_option maxHeartbeats 4000000 in
set_option maxRecDepth 100000 in
theorem m_L_addClaim_1 (l9 : Launch) (hl9 : l9.stackTraces = false) (D : va_G) (k : Nat → ClassId) (ks kv kf : Nat → Nat) (ka kw : Nat) (sz : Nat) (o bf pa pn pk sv tr tx li ll ac ci ch : Nat) (iz : Bool) (er fl : Int32) (g : Nat → Nat) (qs qc qr ql : Nat → Nat) (lim sh sc : Int32) (fr : Nat → UInt32) (n : Nat) (w ly t a : Nat → Int32) (fx : Nat → UInt32) (kd rk : Nat → Int32) (lsh lk : Nat → Int32) (lc lx : Nat) (qs2 qc2 qr2 ql2 : Nat → Nat) (lim2 sh2 sc2 : Int32) (fr2 : Nat → UInt32) (n2 : Nat) (w2 ly2 t2 a2 : Nat → Int32) (fx2 : Nat → UInt32) (kd2 rk2 : Nat → Int32) (lsh2 lk2 : Nat → Int32) (lc2 lx2 : Nat) (x : Int32) (out : Nat) (ou : Nat → Int64) (hkd : chOk kd 4) (hrk : chOk rk 12) (hlk : chOk lk 16) (hn : n ≤ 10) (he : opEnter n w x = (-2, n, w)) : Met l9 yL_addClaim wsL_addClaim ({ frames := 9, cells := 1, slots := 6, locals := 145 }) (LPc ks kv kf ka kw D k [.ref o, .int x, .ref out] (bRO k o (qs 0) (qs2 0) pa pn pk sv iz tr tx er fl li ll ac ci ch ++ bPA k pa g ++ bSt k qs qc qr ql lim sh sc fr ++ bClaims k qc n w ly t a fx ++ bRacks k qr kd rk ++ bLog k ql lsh lk lc lx ++ bSt k qs2 qc2 qr2 ql2 lim2 sh2 sc2 fr2 ++ bClaims k qc2 n2 w2 ly2 t2 a2 fx2 ++ bRacks k qr2 kd2 rk2 ++ bLog k ql2 lsh2 lk2 lc2 lx2 ++ bL1 k out ou) sz) (WI D k (bRO k o (qs 0) (qs2 0) pa pn pk sv iz tr tx er fl li ll ac ci ch ++ bPA k pa g ++ bSt k qs qc qr ql lim sh sc fr ++ bClaims k qc n w ly t a fx ++ bRacks k qr kd rk ++ bLog k ql lsh lk lc lx ++ bSt k qs2 qc2 qr2 ql2 lim sh sc fr2 ++ bClaims k qc2 n w ly t a fx ++ bRacks k qr2 kd rk ++ bLog k ql2 lsh lk lc lx ++ bL1 k out ou) 1 (va_A (bRO k o (qs 0) (qs2 0) pa pn pk sv iz tr tx er fl li ll ac ci ch ++ bPA k pa g ++ bSt k qs qc qr ql lim sh sc fr ++ bClaims k qc n w ly t a fx ++ bRacks k qr kd rk ++ bLog k ql lsh lk lc lx ++ bSt k qs2 qc2 qr2 ql2 lim2 sh2 sc2 fr2 ++ bClaims k qc2 n2 w2 ly2 t2 a2 fx2 ++ bRacks k qr2 kd2 rk2 ++ bLog k ql2 lsh2 lk2 lc2 lx2 ++ bL1 k out ou) sz)) 1 6 (va_A (bRO k o (qs 0) (qs2 0) pa pn pk sv iz tr tx er fl li ll ac ci ch ++ bPA k pa g ++ bSt k qs qc qr ql lim sh sc fr ++ bClaims k qc n w ly t a fx ++ bRacks k qr kd rk ++ bLog k ql lsh lk lc lx ++ bSt k qs2 qc2 qr2 ql2 lim2 sh2 sc2 fr2 ++ bClaims k qc2 n2 w2 ly2 t2 a2 fx2 ++ bRacks k qr2 kd2 rk2 ++ bLog k ql2 lsh2 lk2 lc2 lx2 ++ bL1 k out ou) sz) := by
  refine lMet (y := yL_addClaim) (cc := cL_addClaim) (maxL := 4) (ret := (some .int)) (hh := [(0, 9, 12, 13), (0, 9, 15, 15)]) (Qc := fun A => WI D k (bRO k o (qs 0) (qs2 0) pa pn pk sv iz tr tx er fl li ll ac ci ch ++ bPA k pa g ++ bSt k qs qc qr ql lim sh sc fr ++ bClaims k qc n w ly t a fx ++ bRacks k qr kd rk ++ bLog k ql lsh lk lc lx ++ bSt k qs2 qc2 qr2 ql2 lim sh sc fr2 ++ bClaims k qc2 n w ly t a fx ++ bRacks k qr2 kd rk ++ bLog k ql2 lsh lk lc lx ++ bL1 k out ou) 1 A) [.ref o, .int x, .ref out] (by decide) rfl (Nat.le_of_ble_eq_true rfl) ?_
  intro p9 e9 s9 m9 bl9 me9 c9 ls A H hF hr hlocks htab hP hK hN hXN hNC hZ hKC hD hA hS hl
  have hl : lv_has ls 4 [(0, .ref o), (1, .int x), (2, .ref out)] := hl
  obtain ⟨hx, hb, hml, hown, hts⟩ := id hF
  refine lv_aload_n hx hb dL_addClaim_0 rfl (lv_at hl 2 rfl) ?_
  refine lv_iconst (v := 0) hx hb dL_addClaim_1 (by decide) ?_
  refine lv_aload_n hx hb dL_addClaim_2 rfl (lv_at hl 0 rfl) ?_
  refine lv_iload_n hx hb dL_addClaim_3 rfl (lv_at hl 1 rfl) ?_
  have hFc := l_free (wc := bRO k o (qs 0) (qs2 0) pa pn pk sv iz tr tx er fl li ll ac ci ch ++ bPA k pa g ++ bSt k qs qc qr ql lim sh sc fr ++ bClaims k qc n w ly t a fx ++ bRacks k qr kd rk ++ bLog k ql lsh lk lc lx ++ bSt k qs2 qc2 qr2 ql2 lim2 sh2 sc2 fr2 ++ bClaims k qc2 n2 w2 ly2 t2 a2 fx2 ++ bRacks k qr2 kd2 rk2 ++ bLog k ql2 lsh2 lk2 lc2 lx2) (wr := bL1 k out ou) hD hS hA
  refine vx_calli (vx_runV (As := [.int x]) (rest := [.int 0, .ref out]) hF (x_X12_addClaim_2 l9 hl9 D k H.size o bf pa pn pk sv tr tx li ll ac ci ch iz er fl g qs qc qr ql lim sh sc fr n w ly t a fx kd rk lsh lk lc lx qs2 qc2 qr2 ql2 lim2 sh2 sc2 fr2 n2 w2 ly2 t2 a2 fx2 kd2 rk2 lsh2 lk2 lc2 lx2 x hkd hrk hlk hn he) (cwV 1 hts gL_addClaim_X12_addClaim rfl rfl rfl (by decide +kernel) ⟨Nat.le_of_ble_eq_true rfl, Nat.le_of_ble_eq_true rfl⟩) (l_preX hK hN hXN hZ hS hFc (l_P1 (wr := bL1 k out ou) hP) (l_D1 (wr := bL1 k out ou) hD) (ci := 10) rfl rfl) rfl rfl hl.1 rfl (lv_room (Nat.le_of_ble_eq_true rfl)) dL_addClaim_4 ⟨Nat.le_of_ble_eq_true rfl, Nat.le_of_ble_eq_true rfl⟩) hS (fun q _ h => hFc q h) hFc (fun q _ h => hFc q h) (fun E9 ce9 q9 u9 t9 H1 locs ht hvm _ hbx hz1 hk1 hS hce hcv hcl => ?_) (fun r u9 t9 H1 locs _ _ hp _ _ _ _ => hp.elim)
  obtain ⟨rfl, hbx⟩ := hbx
  obtain ⟨hP, hD⟩ := l_join (u := ()) (wr := bL1 k out ou) hP hD hk1 hFc hbx ht
  refine vx_catch (own := RL) (name := "java/lang/IllegalArgumentException") (E := "java/lang/IllegalArgumentException") hown [] ⟨0, 9, 12, 13⟩ [⟨0, 9, 15, 15⟩] (htab.trans rfl) (fun z hz => by simp only [List.not_mem_nil] at hz) rfl (by decide) (hts (.classLink RL 13 "java/lang/IllegalArgumentException") (by decide +kernel)) (va_Nw.use (xnL_tables (.castable "java/lang/IllegalArgumentException" "java/lang/IllegalArgumentException") (by decide)) (hXN.1 (.castable "java/lang/IllegalArgumentException" "java/lang/IllegalArgumentException") (by decide))) hce hcv hcl ?_
  clear hbx hk1 hz1 hvm hFc hce hcv hcl ht
  clear t9
  generalize H1 = H at hP hS ⊢
  refine W.eq (g2 := F0 m9 12 ls [.ref q9]) rfl ?_
  refine lv_astore_n (lv' := [(3, .ref q9), (0, .ref o), (1, .int x), (2, .ref out)]) hx hb dL_addClaim_12 rfl hl (by decide) rfl (fun ls hl => ?_)
  refine lv_iconst (v := 1) hx hb dL_addClaim_13 (by decide) ?_
  refine W.widen (k := 1) (n := 6) (Nat.le_of_ble_eq_true rfl) (Nat.le_of_ble_eq_true rfl) ?_
  exact W.iret (v := 1) hx hb hr (fun t9 ht hW => ⟨⟨_, (), rfl, (by first | (with_reducible exact rfl) | (rw [if_pos (by assumption)]; done) | (rw [if_neg (ne_true_of_eq_false (by assumption))]; done)), ⟨by rw [ht]; exact hP, va_K.moved hW.alike hK, hD⟩⟩, hS.F ht⟩) hS.2.2 dL_addClaim_14 hlocks

set_option maxHeartbeats 4000000 in
set_option maxRecDepth 100000 in
theorem m_L_addClaim_2 (l9 : Launch) (hl9 : l9.stackTraces = false) (D : va_G) (k : Nat → ClassId) (ks kv kf : Nat → Nat) (ka kw : Nat) (sz : Nat) (o bf pa pn pk sv tr tx li ll ac ci ch : Nat) (iz : Bool) (er fl : Int32) (g : Nat → Nat) (qs qc qr ql : Nat → Nat) (lim sh sc : Int32) (fr : Nat → UInt32) (n : Nat) (w ly t a : Nat → Int32) (fx : Nat → UInt32) (kd rk : Nat → Int32) (lsh lk : Nat → Int32) (lc lx : Nat) (qs2 qc2 qr2 ql2 : Nat → Nat) (lim2 sh2 sc2 : Int32) (fr2 : Nat → UInt32) (n2 : Nat) (w2 ly2 t2 a2 : Nat → Int32) (fx2 : Nat → UInt32) (kd2 rk2 : Nat → Int32) (lsh2 lk2 : Nat → Int32) (lc2 lx2 : Nat) (x : Int32) (out : Nat) (ou : Nat → Int64) (hkd : chOk kd 4) (hrk : chOk rk 12) (hlk : chOk lk 16) (hn : n ≤ 10) (he : opEnter n w x = (-3, n, w)) : Met l9 yL_addClaim wsL_addClaim ({ frames := 9, cells := 1, slots := 6, locals := 145 }) (LPc ks kv kf ka kw D k [.ref o, .int x, .ref out] (bRO k o (qs 0) (qs2 0) pa pn pk sv iz tr tx er fl li ll ac ci ch ++ bPA k pa g ++ bSt k qs qc qr ql lim sh sc fr ++ bClaims k qc n w ly t a fx ++ bRacks k qr kd rk ++ bLog k ql lsh lk lc lx ++ bSt k qs2 qc2 qr2 ql2 lim2 sh2 sc2 fr2 ++ bClaims k qc2 n2 w2 ly2 t2 a2 fx2 ++ bRacks k qr2 kd2 rk2 ++ bLog k ql2 lsh2 lk2 lc2 lx2 ++ bL1 k out ou) sz) (WI D k (bRO k o (qs 0) (qs2 0) pa pn pk sv iz tr tx er fl li ll ac ci ch ++ bPA k pa g ++ bSt k qs qc qr ql lim sh sc fr ++ bClaims k qc n w ly t a fx ++ bRacks k qr kd rk ++ bLog k ql lsh lk lc lx ++ bSt k qs2 qc2 qr2 ql2 lim sh sc fr2 ++ bClaims k qc2 n w ly t a fx ++ bRacks k qr2 kd rk ++ bLog k ql2 lsh lk lc lx ++ bL1 k out ou) 2 (va_A (bRO k o (qs 0) (qs2 0) pa pn pk sv iz tr tx er fl li ll ac ci ch ++ bPA k pa g ++ bSt k qs qc qr ql lim sh sc fr ++ bClaims k qc n w ly t a fx ++ bRacks k qr kd rk ++ bLog k ql lsh lk lc lx ++ bSt k qs2 qc2 qr2 ql2 lim2 sh2 sc2 fr2 ++ bClaims k qc2 n2 w2 ly2 t2 a2 fx2 ++ bRacks k qr2 kd2 rk2 ++ bLog k ql2 lsh2 lk2 lc2 lx2 ++ bL1 k out ou) sz)) 1 6 (va_A (bRO k o (qs 0) (qs2 0) pa pn pk sv iz tr tx er fl li ll ac ci ch ++ bPA k pa g ++ bSt k qs qc qr ql lim sh sc fr ++ bClaims k qc n w ly t a fx ++ bRacks k qr kd rk ++ bLog k ql lsh lk lc lx ++ bSt k qs2 qc2 qr2 ql2 lim2 sh2 sc2 fr2 ++ bClaims k qc2 n2 w2 ly2 t2 a2 fx2 ++ bRacks k qr2 kd2 rk2 ++ bLog k ql2 lsh2 lk2 lc2 lx2 ++ bL1 k out ou) sz) := by
  refine lMet (y := yL_addClaim) (cc := cL_addClaim) (maxL := 4) (ret := (some .int)) (hh := [(0, 9, 12, 13), (0, 9, 15, 15)]) (Qc := fun A => WI D k (bRO k o (qs 0) (qs2 0) pa pn pk sv iz tr tx er fl li ll ac ci ch ++ bPA k pa g ++ bSt k qs qc qr ql lim sh sc fr ++ bClaims k qc n w ly t a fx ++ bRacks k qr kd rk ++ bLog k ql lsh lk lc lx ++ bSt k qs2 qc2 qr2 ql2 lim sh sc fr2 ++ bClaims k qc2 n w ly t a fx ++ bRacks k qr2 kd rk ++ bLog k ql2 lsh lk lc lx ++ bL1 k out ou) 2 A) [.ref o, .int x, .ref out] (by decide) rfl (Nat.le_of_ble_eq_true rfl) ?_
  intro p9 e9 s9 m9 bl9 me9 c9 ls A H hF hr hlocks htab hP hK hN hXN hNC hZ hKC hD hA hS hl
  have hl : lv_has ls 4 [(0, .ref o), (1, .int x), (2, .ref out)] := hl
  obtain ⟨hx, hb, hml, hown, hts⟩ := id hF
  refine lv_aload_n hx hb dL_addClaim_0 rfl (lv_at hl 2 rfl) ?_
  refine lv_iconst (v := 0) hx hb dL_addClaim_1 (by decide) ?_
  refine lv_aload_n hx hb dL_addClaim_2 rfl (lv_at hl 0 rfl) ?_
  refine lv_iload_n hx hb dL_addClaim_3 rfl (lv_at hl 1 rfl) ?_
  have hFc := l_free (wc := bRO k o (qs 0) (qs2 0) pa pn pk sv iz tr tx er fl li ll ac ci ch ++ bPA k pa g ++ bSt k qs qc qr ql lim sh sc fr ++ bClaims k qc n w ly t a fx ++ bRacks k qr kd rk ++ bLog k ql lsh lk lc lx ++ bSt k qs2 qc2 qr2 ql2 lim2 sh2 sc2 fr2 ++ bClaims k qc2 n2 w2 ly2 t2 a2 fx2 ++ bRacks k qr2 kd2 rk2 ++ bLog k ql2 lsh2 lk2 lc2 lx2) (wr := bL1 k out ou) hD hS hA
  refine vx_calli (vx_runV (As := [.int x]) (rest := [.int 0, .ref out]) hF (x_X12_addClaim_3 l9 hl9 D k H.size o bf pa pn pk sv tr tx li ll ac ci ch iz er fl g qs qc qr ql lim sh sc fr n w ly t a fx kd rk lsh lk lc lx qs2 qc2 qr2 ql2 lim2 sh2 sc2 fr2 n2 w2 ly2 t2 a2 fx2 kd2 rk2 lsh2 lk2 lc2 lx2 x hkd hrk hlk hn he) (cwV 1 hts gL_addClaim_X12_addClaim rfl rfl rfl (by decide +kernel) ⟨Nat.le_of_ble_eq_true rfl, Nat.le_of_ble_eq_true rfl⟩) (l_preX hK hN hXN hZ hS hFc (l_P1 (wr := bL1 k out ou) hP) (l_D1 (wr := bL1 k out ou) hD) (ci := 10) rfl rfl) rfl rfl hl.1 rfl (lv_room (Nat.le_of_ble_eq_true rfl)) dL_addClaim_4 ⟨Nat.le_of_ble_eq_true rfl, Nat.le_of_ble_eq_true rfl⟩) hS (fun q _ h => hFc q h) hFc (fun q _ h => hFc q h) (fun E9 ce9 q9 u9 t9 H1 locs ht hvm _ hbx hz1 hk1 hS hce hcv hcl => ?_) (fun r u9 t9 H1 locs _ _ hp _ _ _ _ => hp.elim)
  obtain ⟨rfl, hbx⟩ := hbx
  obtain ⟨hP, hD⟩ := l_join (u := ()) (wr := bL1 k out ou) hP hD hk1 hFc hbx ht
  refine vx_catch (own := RL) (name := "java/lang/IllegalStateException") (E := "java/lang/IllegalStateException") hown [⟨0, 9, 12, 13⟩] ⟨0, 9, 15, 15⟩ [] (htab.trans rfl) (fun z hz => by simp only [List.mem_cons, List.not_mem_nil, or_false] at hz; rcases hz with hz <;> subst hz <;> first | exact Or.inr ⟨by decide, "java/lang/IllegalArgumentException", hts (.classLink RL 13 "java/lang/IllegalArgumentException") (by decide +kernel), hNC ("java/lang/IllegalStateException", "java/lang/IllegalArgumentException") (by decide)⟩) rfl (by decide) (hts (.classLink RL 15 "java/lang/IllegalStateException") (by decide +kernel)) (va_Nw.use (xnL_tables (.castable "java/lang/IllegalStateException" "java/lang/IllegalStateException") (by decide)) (hXN.1 (.castable "java/lang/IllegalStateException" "java/lang/IllegalStateException") (by decide))) hce hcv hcl ?_
  clear hbx hk1 hz1 hvm hFc hce hcv hcl ht
  clear t9
  generalize H1 = H at hP hS ⊢
  refine W.eq (g2 := F0 m9 15 ls [.ref q9]) rfl ?_
  refine lv_astore_n (lv' := [(3, .ref q9), (0, .ref o), (1, .int x), (2, .ref out)]) hx hb dL_addClaim_15 rfl hl (by decide) rfl (fun ls hl => ?_)
  refine lv_iconst (v := 2) hx hb dL_addClaim_16 (by decide) ?_
  refine W.widen (k := 1) (n := 6) (Nat.le_of_ble_eq_true rfl) (Nat.le_of_ble_eq_true rfl) ?_
  exact W.iret (v := 2) hx hb hr (fun t9 ht hW => ⟨⟨_, (), rfl, (by first | (with_reducible exact rfl) | (rw [if_pos (by assumption)]; done) | (rw [if_neg (ne_true_of_eq_false (by assumption))]; done)), ⟨by rw [ht]; exact hP, va_K.moved hW.alike hK, hD⟩⟩, hS.F ht⟩) hS.2.2 dL_addClaim_17 hlocks

set_option maxHeartbeats 4000000 in
set_option maxRecDepth 100000 in
theorem m_L_setAttack_ok (l9 : Launch) (hl9 : l9.stackTraces = false) (D : va_G) (k : Nat → ClassId) (ks kv kf : Nat → Nat) (ka kw : Nat) (sz : Nat) (o bf pa pn pk sv tr tx li ll ac ci ch : Nat) (iz : Bool) (er fl : Int32) (g : Nat → Nat) (qs qc qr ql : Nat → Nat) (lim sh sc : Int32) (fr : Nat → UInt32) (n : Nat) (w ly t a : Nat → Int32) (fx : Nat → UInt32) (kd rk : Nat → Int32) (lsh lk : Nat → Int32) (lc lx : Nat) (qs2 qc2 qr2 ql2 : Nat → Nat) (lim2 sh2 sc2 : Int32) (fr2 : Nat → UInt32) (n2 : Nat) (w2 ly2 t2 a2 : Nat → Int32) (fx2 : Nat → UInt32) (kd2 rk2 : Nat → Int32) (lsh2 lk2 : Nat → Int32) (lc2 lx2 : Nat) (x y : Int32) (b : Bool) (out : Nat) (ou : Nat → Int64) (hkd : chOk kd 4) (hrk : chOk rk 12) (hlk : chOk lk 16) (hpn : pn < 8) (hpk : pk ≤ 8) (hn : n ≤ 10) (hok : ¬ (opDirect n t a x y b).1 < 0) : Met l9 yL_setAttack wsL_setAttack ({ frames := 4, cells := 1, slots := 6, locals := 125 }) (LPc ks kv kf ka kw D k [.ref o, .int x, .int y, .int (bI b), .ref out] (bRO k o (qs 0) (qs2 0) pa pn pk sv iz tr tx er fl li ll ac ci ch ++ bPA k pa g ++ bSt k qs qc qr ql lim sh sc fr ++ bClaims k qc n w ly t a fx ++ bRacks k qr kd rk ++ bLog k ql lsh lk lc lx ++ bSt k qs2 qc2 qr2 ql2 lim2 sh2 sc2 fr2 ++ bClaims k qc2 n2 w2 ly2 t2 a2 fx2 ++ bRacks k qr2 kd2 rk2 ++ bLog k ql2 lsh2 lk2 lc2 lx2 ++ bL1 k out ou) sz) (WI D k (bRO k o (qs 0) (g pn) pa ((pn + 1) % 8) (min (pk + 1) 8) sv iz tr tx er fl li ll ac ci ch ++ bPA k pa (upP g pn (qs2 0)) ++ bSt k qs qc qr ql lim sh sc fr ++ bClaims k qc n w ly ((opDirect n t a x y b).2.1) ((opDirect n t a x y b).2.2) fx ++ bRacks k qr kd rk ++ bLog k ql lsh lk lc lx ++ bSt k qs2 qc2 qr2 ql2 lim sh sc fr2 ++ bClaims k qc2 n w ly t a fx ++ bRacks k qr2 kd rk ++ bLog k ql2 lsh lk lc lx ++ bL1 k out (vp_updL ou 0 (if decide ((opDirect n t a x y b).1 = 1) = true then 1 else 0))) 0 (va_A (bRO k o (qs 0) (qs2 0) pa pn pk sv iz tr tx er fl li ll ac ci ch ++ bPA k pa g ++ bSt k qs qc qr ql lim sh sc fr ++ bClaims k qc n w ly t a fx ++ bRacks k qr kd rk ++ bLog k ql lsh lk lc lx ++ bSt k qs2 qc2 qr2 ql2 lim2 sh2 sc2 fr2 ++ bClaims k qc2 n2 w2 ly2 t2 a2 fx2 ++ bRacks k qr2 kd2 rk2 ++ bLog k ql2 lsh2 lk2 lc2 lx2 ++ bL1 k out ou) sz)) 1 6 (va_A (bRO k o (qs 0) (qs2 0) pa pn pk sv iz tr tx er fl li ll ac ci ch ++ bPA k pa g ++ bSt k qs qc qr ql lim sh sc fr ++ bClaims k qc n w ly t a fx ++ bRacks k qr kd rk ++ bLog k ql lsh lk lc lx ++ bSt k qs2 qc2 qr2 ql2 lim2 sh2 sc2 fr2 ++ bClaims k qc2 n2 w2 ly2 t2 a2 fx2 ++ bRacks k qr2 kd2 rk2 ++ bLog k ql2 lsh2 lk2 lc2 lx2 ++ bL1 k out ou) sz) := by
  refine lMet (y := yL_setAttack) (cc := cL_setAttack) (maxL := 6) (ret := (some .int)) (hh := [(0, 19, 22, 21)]) (Qc := fun A => WI D k (bRO k o (qs 0) (g pn) pa ((pn + 1) % 8) (min (pk + 1) 8) sv iz tr tx er fl li ll ac ci ch ++ bPA k pa (upP g pn (qs2 0)) ++ bSt k qs qc qr ql lim sh sc fr ++ bClaims k qc n w ly ((opDirect n t a x y b).2.1) ((opDirect n t a x y b).2.2) fx ++ bRacks k qr kd rk ++ bLog k ql lsh lk lc lx ++ bSt k qs2 qc2 qr2 ql2 lim sh sc fr2 ++ bClaims k qc2 n w ly t a fx ++ bRacks k qr2 kd rk ++ bLog k ql2 lsh lk lc lx ++ bL1 k out (vp_updL ou 0 (if decide ((opDirect n t a x y b).1 = 1) = true then 1 else 0))) 0 A) [.ref o, .int x, .int y, .int (bI b), .ref out] (by decide) rfl (Nat.le_of_ble_eq_true rfl) ?_
  intro p9 e9 s9 m9 bl9 me9 c9 ls A H hF hr hlocks htab hP hK hN hXN hNC hZ hKC hD hA hS hl
  have hl : lv_has ls 6 [(0, .ref o), (1, .int x), (2, .int y), (3, .int (bI b)), (4, .ref out)] := hl
  obtain ⟨hx, hb, hml, hown, hts⟩ := id hF
  refine lv_aload hx hb dL_setAttack_0 (lv_at hl 4 rfl) ?_
  refine lv_iconst (v := 0) hx hb dL_setAttack_2 (by decide) ?_
  refine lv_aload_n hx hb dL_setAttack_3 rfl (lv_at hl 0 rfl) ?_
  refine lv_iload_n hx hb dL_setAttack_4 rfl (lv_at hl 1 rfl) ?_
  refine lv_iload_n hx hb dL_setAttack_5 rfl (lv_at hl 2 rfl) ?_
  refine lv_iload_n hx hb dL_setAttack_6 rfl (lv_at hl 3 rfl) ?_
  have hFc := l_free (wc := bRO k o (qs 0) (qs2 0) pa pn pk sv iz tr tx er fl li ll ac ci ch ++ bPA k pa g ++ bSt k qs qc qr ql lim sh sc fr ++ bClaims k qc n w ly t a fx ++ bRacks k qr kd rk ++ bLog k ql lsh lk lc lx ++ bSt k qs2 qc2 qr2 ql2 lim2 sh2 sc2 fr2 ++ bClaims k qc2 n2 w2 ly2 t2 a2 fx2 ++ bRacks k qr2 kd2 rk2 ++ bLog k ql2 lsh2 lk2 lc2 lx2) (wr := bL1 k out ou) hD hS hA
  refine va_calli (va_runV (As := [.int x, .int y, .int (bI b)]) (rest := [.int 0, .ref out]) hF (m_X12_setAttack l9 D k H.size o bf pa pn pk sv tr tx li ll ac ci ch iz er fl g qs qc qr ql lim sh sc fr n w ly t a fx kd rk lsh lk lc lx qs2 qc2 qr2 ql2 lim2 sh2 sc2 fr2 n2 w2 ly2 t2 a2 fx2 kd2 rk2 lsh2 lk2 lc2 lx2 x y b hkd hrk hlk hpn hpk hn hok) (cwV 3 hts gL_setAttack_X12_setAttack rfl rfl rfl (by decide +kernel) ⟨Nat.le_of_ble_eq_true rfl, Nat.le_of_ble_eq_true rfl⟩) (l_preV hK hN (l_P1 (wr := bL1 k out ou) hP) (l_D1 (wr := bL1 k out ou) hD) (ci := 10) rfl rfl) rfl rfl hl.1 rfl (lv_room (Nat.le_of_ble_eq_true rfl)) dL_setAttack_7 ⟨Nat.zero_le _, Nat.zero_le _⟩) hS (fun q _ h => hFc q h) hFc (fun r u9 t9 H1 locs ht hvm hw hB hz1 hk1 hS => ?_)
  obtain ⟨hP, hD⟩ := l_join (wr := bL1 k out ou) hP hD hk1 hFc hB ht
  subst hw
  clear hB hk1 hz1 hvm hFc
  clear ht
  clear t9
  generalize H1 = H at hP hS ⊢
  refine lv_if_eq (tgt := 17) hx hb dL_setAttack_10 (by decide) (fun c_1 => ?_) (fun c_1 => ?_)
  · skip
    have c_1 : (decide ((opDirect n t a x y b).1 = 1)) = false := bI_0 c_1
    refine lv_lconst (v := 0) hx hb dL_setAttack_17 (by decide) ?_
    refine la_st hx hb hK hP hD hS 30 rfl 0 (by omega) (by decide) (bRO k o (qs 0) (g pn) pa ((pn + 1) % 8) (min (pk + 1) 8) sv iz tr tx er fl li ll ac ci ch ++ bPA k pa (upP g pn (qs2 0)) ++ bSt k qs qc qr ql lim sh sc fr ++ bClaims k qc n w ly ((opDirect n t a x y b).2.1) ((opDirect n t a x y b).2.2) fx ++ bRacks k qr kd rk ++ bLog k ql lsh lk lc lx ++ bSt k qs2 qc2 qr2 ql2 lim sh sc fr2 ++ bClaims k qc2 n w ly t a fx ++ bRacks k qr2 kd rk ++ bLog k ql2 lsh lk lc lx ++ bL1 k out (vp_updL ou 0 0)) rfl dL_setAttack_18 (fun H locs hP hD hS => ?_)
    refine lv_goto (tgt := 26) hx hb dL_setAttack_19 (by decide) ?_
    refine lv_iconst (v := 0) hx hb dL_setAttack_26 (by decide) ?_
    have e_2 : (vp_updL ou 0 0 : Nat → Int64) = vp_updL ou 0 (if decide ((opDirect n t a x y b).1 = 1) = true then 1 else 0) := by first | (with_reducible rfl) | (first | (with_reducible exact rfl) | (rw [if_pos (by assumption)]; done) | (rw [if_neg (ne_true_of_eq_false (by assumption))]; done))
    have hP := Eq.mp (congrArg (fun z9 => va_P D vwCl (bRO k o (qs 0) (g pn) pa ((pn + 1) % 8) (min (pk + 1) 8) sv iz tr tx er fl li ll ac ci ch ++ bPA k pa (upP g pn (qs2 0)) ++ bSt k qs qc qr ql lim sh sc fr ++ bClaims k qc n w ly ((opDirect n t a x y b).2.1) ((opDirect n t a x y b).2.2) fx ++ bRacks k qr kd rk ++ bLog k ql lsh lk lc lx ++ bSt k qs2 qc2 qr2 ql2 lim sh sc fr2 ++ bClaims k qc2 n w ly t a fx ++ bRacks k qr2 kd rk ++ bLog k ql2 lsh lk lc lx ++ bL1 k out z9) H) e_2) hP
    have hD := Eq.mp (congrArg (fun z9 => va_D A (bRO k o (qs 0) (g pn) pa ((pn + 1) % 8) (min (pk + 1) 8) sv iz tr tx er fl li ll ac ci ch ++ bPA k pa (upP g pn (qs2 0)) ++ bSt k qs qc qr ql lim sh sc fr ++ bClaims k qc n w ly ((opDirect n t a x y b).2.1) ((opDirect n t a x y b).2.2) fx ++ bRacks k qr kd rk ++ bLog k ql lsh lk lc lx ++ bSt k qs2 qc2 qr2 ql2 lim sh sc fr2 ++ bClaims k qc2 n w ly t a fx ++ bRacks k qr2 kd rk ++ bLog k ql2 lsh lk lc lx ++ bL1 k out z9)) e_2) hD
    refine W.widen (k := 1) (n := 6) (Nat.le_of_ble_eq_true rfl) (Nat.le_of_ble_eq_true rfl) ?_
    exact W.iret (v := 0) hx hb hr (fun t9 ht hW => ⟨⟨_, (), rfl, (by first | (with_reducible exact rfl) | (rw [if_pos (by assumption)]; done) | (rw [if_neg (ne_true_of_eq_false (by assumption))]; done)), ⟨by rw [ht]; exact hP, va_K.moved hW.alike hK, hD⟩⟩, hS.F ht⟩) hS.2.2 dL_setAttack_27 hlocks
  · skip
    have c_1 : (decide ((opDirect n t a x y b).1 = 1)) = true := bI_1 c_1
    refine lv_lconst (v := 1) hx hb dL_setAttack_13 (by decide) ?_
    refine lv_goto (tgt := 18) hx hb dL_setAttack_14 (by decide) ?_
    refine la_st hx hb hK hP hD hS 30 rfl 0 (by omega) (by decide) (bRO k o (qs 0) (g pn) pa ((pn + 1) % 8) (min (pk + 1) 8) sv iz tr tx er fl li ll ac ci ch ++ bPA k pa (upP g pn (qs2 0)) ++ bSt k qs qc qr ql lim sh sc fr ++ bClaims k qc n w ly ((opDirect n t a x y b).2.1) ((opDirect n t a x y b).2.2) fx ++ bRacks k qr kd rk ++ bLog k ql lsh lk lc lx ++ bSt k qs2 qc2 qr2 ql2 lim sh sc fr2 ++ bClaims k qc2 n w ly t a fx ++ bRacks k qr2 kd rk ++ bLog k ql2 lsh lk lc lx ++ bL1 k out (vp_updL ou 0 1)) rfl dL_setAttack_18 (fun H locs hP hD hS => ?_)
    refine lv_goto (tgt := 26) hx hb dL_setAttack_19 (by decide) ?_
    refine lv_iconst (v := 0) hx hb dL_setAttack_26 (by decide) ?_
    have e_3 : (vp_updL ou 0 1 : Nat → Int64) = vp_updL ou 0 (if decide ((opDirect n t a x y b).1 = 1) = true then 1 else 0) := by first | (with_reducible rfl) | (first | (with_reducible exact rfl) | (rw [if_pos (by assumption)]; done) | (rw [if_neg (ne_true_of_eq_false (by assumption))]; done))
    have hP := Eq.mp (congrArg (fun z9 => va_P D vwCl (bRO k o (qs 0) (g pn) pa ((pn + 1) % 8) (min (pk + 1) 8) sv iz tr tx er fl li ll ac ci ch ++ bPA k pa (upP g pn (qs2 0)) ++ bSt k qs qc qr ql lim sh sc fr ++ bClaims k qc n w ly ((opDirect n t a x y b).2.1) ((opDirect n t a x y b).2.2) fx ++ bRacks k qr kd rk ++ bLog k ql lsh lk lc lx ++ bSt k qs2 qc2 qr2 ql2 lim sh sc fr2 ++ bClaims k qc2 n w ly t a fx ++ bRacks k qr2 kd rk ++ bLog k ql2 lsh lk lc lx ++ bL1 k out z9) H) e_3) hP
    have hD := Eq.mp (congrArg (fun z9 => va_D A (bRO k o (qs 0) (g pn) pa ((pn + 1) % 8) (min (pk + 1) 8) sv iz tr tx er fl li ll ac ci ch ++ bPA k pa (upP g pn (qs2 0)) ++ bSt k qs qc qr ql lim sh sc fr ++ bClaims k qc n w ly ((opDirect n t a x y b).2.1) ((opDirect n t a x y b).2.2) fx ++ bRacks k qr kd rk ++ bLog k ql lsh lk lc lx ++ bSt k qs2 qc2 qr2 ql2 lim sh sc fr2 ++ bClaims k qc2 n w ly t a fx ++ bRacks k qr2 kd rk ++ bLog k ql2 lsh lk lc lx ++ bL1 k out z9)) e_3) hD
    refine W.widen (k := 1) (n := 6) (Nat.le_of_ble_eq_true rfl) (Nat.le_of_ble_eq_true rfl) ?_
    exact W.iret (v := 0) hx hb hr (fun t9 ht hW => ⟨⟨_, (), rfl, (by first | (with_reducible exact rfl) | (rw [if_pos (by assumption)]; done) | (rw [if_neg (ne_true_of_eq_false (by assumption))]; done)), ⟨by rw [ht]; exact hP, va_K.moved hW.alike hK, hD⟩⟩, hS.F ht⟩) hS.2.2 dL_setAttack_27 hlocks

set_option maxHeartbeats 4000000 in
set_option maxRecDepth 100000 in
theorem m_L_setAttack_1 (l9 : Launch) (hl9 : l9.stackTraces = false) (D : va_G) (k : Nat → ClassId) (ks kv kf : Nat → Nat) (ka kw : Nat) (sz : Nat) (o bf pa pn pk sv tr tx li ll ac ci ch : Nat) (iz : Bool) (er fl : Int32) (g : Nat → Nat) (qs qc qr ql : Nat → Nat) (lim sh sc : Int32) (fr : Nat → UInt32) (n : Nat) (w ly t a : Nat → Int32) (fx : Nat → UInt32) (kd rk : Nat → Int32) (lsh lk : Nat → Int32) (lc lx : Nat) (qs2 qc2 qr2 ql2 : Nat → Nat) (lim2 sh2 sc2 : Int32) (fr2 : Nat → UInt32) (n2 : Nat) (w2 ly2 t2 a2 : Nat → Int32) (fx2 : Nat → UInt32) (kd2 rk2 : Nat → Int32) (lsh2 lk2 : Nat → Int32) (lc2 lx2 : Nat) (x y : Int32) (b : Bool) (out : Nat) (ou : Nat → Int64) (hkd : chOk kd 4) (hrk : chOk rk 12) (hlk : chOk lk 16) (hn : n ≤ 10) (he : opDirect n t a x y b = (-1, t, a)) : Met l9 yL_setAttack wsL_setAttack ({ frames := 9, cells := 1, slots := 6, locals := 147 }) (LPc ks kv kf ka kw D k [.ref o, .int x, .int y, .int (bI b), .ref out] (bRO k o (qs 0) (qs2 0) pa pn pk sv iz tr tx er fl li ll ac ci ch ++ bPA k pa g ++ bSt k qs qc qr ql lim sh sc fr ++ bClaims k qc n w ly t a fx ++ bRacks k qr kd rk ++ bLog k ql lsh lk lc lx ++ bSt k qs2 qc2 qr2 ql2 lim2 sh2 sc2 fr2 ++ bClaims k qc2 n2 w2 ly2 t2 a2 fx2 ++ bRacks k qr2 kd2 rk2 ++ bLog k ql2 lsh2 lk2 lc2 lx2 ++ bL1 k out ou) sz) (WI D k (bRO k o (qs 0) (qs2 0) pa pn pk sv iz tr tx er fl li ll ac ci ch ++ bPA k pa g ++ bSt k qs qc qr ql lim sh sc fr ++ bClaims k qc n w ly t a fx ++ bRacks k qr kd rk ++ bLog k ql lsh lk lc lx ++ bSt k qs2 qc2 qr2 ql2 lim sh sc fr2 ++ bClaims k qc2 n w ly t a fx ++ bRacks k qr2 kd rk ++ bLog k ql2 lsh lk lc lx ++ bL1 k out ou) 1 (va_A (bRO k o (qs 0) (qs2 0) pa pn pk sv iz tr tx er fl li ll ac ci ch ++ bPA k pa g ++ bSt k qs qc qr ql lim sh sc fr ++ bClaims k qc n w ly t a fx ++ bRacks k qr kd rk ++ bLog k ql lsh lk lc lx ++ bSt k qs2 qc2 qr2 ql2 lim2 sh2 sc2 fr2 ++ bClaims k qc2 n2 w2 ly2 t2 a2 fx2 ++ bRacks k qr2 kd2 rk2 ++ bLog k ql2 lsh2 lk2 lc2 lx2 ++ bL1 k out ou) sz)) 1 6 (va_A (bRO k o (qs 0) (qs2 0) pa pn pk sv iz tr tx er fl li ll ac ci ch ++ bPA k pa g ++ bSt k qs qc qr ql lim sh sc fr ++ bClaims k qc n w ly t a fx ++ bRacks k qr kd rk ++ bLog k ql lsh lk lc lx ++ bSt k qs2 qc2 qr2 ql2 lim2 sh2 sc2 fr2 ++ bClaims k qc2 n2 w2 ly2 t2 a2 fx2 ++ bRacks k qr2 kd2 rk2 ++ bLog k ql2 lsh2 lk2 lc2 lx2 ++ bL1 k out ou) sz) := by
  refine lMet (y := yL_setAttack) (cc := cL_setAttack) (maxL := 6) (ret := (some .int)) (hh := [(0, 19, 22, 21)]) (Qc := fun A => WI D k (bRO k o (qs 0) (qs2 0) pa pn pk sv iz tr tx er fl li ll ac ci ch ++ bPA k pa g ++ bSt k qs qc qr ql lim sh sc fr ++ bClaims k qc n w ly t a fx ++ bRacks k qr kd rk ++ bLog k ql lsh lk lc lx ++ bSt k qs2 qc2 qr2 ql2 lim sh sc fr2 ++ bClaims k qc2 n w ly t a fx ++ bRacks k qr2 kd rk ++ bLog k ql2 lsh lk lc lx ++ bL1 k out ou) 1 A) [.ref o, .int x, .int y, .int (bI b), .ref out] (by decide) rfl (Nat.le_of_ble_eq_true rfl) ?_
  intro p9 e9 s9 m9 bl9 me9 c9 ls A H hF hr hlocks htab hP hK hN hXN hNC hZ hKC hD hA hS hl
  have hl : lv_has ls 6 [(0, .ref o), (1, .int x), (2, .int y), (3, .int (bI b)), (4, .ref out)] := hl
  obtain ⟨hx, hb, hml, hown, hts⟩ := id hF
  refine lv_aload hx hb dL_setAttack_0 (lv_at hl 4 rfl) ?_
  refine lv_iconst (v := 0) hx hb dL_setAttack_2 (by decide) ?_
  refine lv_aload_n hx hb dL_setAttack_3 rfl (lv_at hl 0 rfl) ?_
  refine lv_iload_n hx hb dL_setAttack_4 rfl (lv_at hl 1 rfl) ?_
  refine lv_iload_n hx hb dL_setAttack_5 rfl (lv_at hl 2 rfl) ?_
  refine lv_iload_n hx hb dL_setAttack_6 rfl (lv_at hl 3 rfl) ?_
  have hFc := l_free (wc := bRO k o (qs 0) (qs2 0) pa pn pk sv iz tr tx er fl li ll ac ci ch ++ bPA k pa g ++ bSt k qs qc qr ql lim sh sc fr ++ bClaims k qc n w ly t a fx ++ bRacks k qr kd rk ++ bLog k ql lsh lk lc lx ++ bSt k qs2 qc2 qr2 ql2 lim2 sh2 sc2 fr2 ++ bClaims k qc2 n2 w2 ly2 t2 a2 fx2 ++ bRacks k qr2 kd2 rk2 ++ bLog k ql2 lsh2 lk2 lc2 lx2) (wr := bL1 k out ou) hD hS hA
  refine vx_calli (vx_runV (As := [.int x, .int y, .int (bI b)]) (rest := [.int 0, .ref out]) hF (x_X12_setAttack_1 l9 hl9 D k H.size o bf pa pn pk sv tr tx li ll ac ci ch iz er fl g qs qc qr ql lim sh sc fr n w ly t a fx kd rk lsh lk lc lx qs2 qc2 qr2 ql2 lim2 sh2 sc2 fr2 n2 w2 ly2 t2 a2 fx2 kd2 rk2 lsh2 lk2 lc2 lx2 x y b hkd hrk hlk hn he) (cwV 3 hts gL_setAttack_X12_setAttack rfl rfl rfl (by decide +kernel) ⟨Nat.le_of_ble_eq_true rfl, Nat.le_of_ble_eq_true rfl⟩) (l_preX hK hN hXN hZ hS hFc (l_P1 (wr := bL1 k out ou) hP) (l_D1 (wr := bL1 k out ou) hD) (ci := 10) rfl rfl) rfl rfl hl.1 rfl (lv_room (Nat.le_of_ble_eq_true rfl)) dL_setAttack_7 ⟨Nat.le_of_ble_eq_true rfl, Nat.le_of_ble_eq_true rfl⟩) hS (fun q _ h => hFc q h) hFc (fun q _ h => hFc q h) (fun E9 ce9 q9 u9 t9 H1 locs ht hvm _ hbx hz1 hk1 hS hce hcv hcl => ?_) (fun r u9 t9 H1 locs _ _ hp _ _ _ _ => hp.elim)
  obtain ⟨rfl, hbx⟩ := hbx
  obtain ⟨hP, hD⟩ := l_join (u := ()) (wr := bL1 k out ou) hP hD hk1 hFc hbx ht
  refine vx_catch (own := RL) (name := "java/lang/IndexOutOfBoundsException") (E := "java/lang/IndexOutOfBoundsException") hown [] ⟨0, 19, 22, 21⟩ [] (htab.trans rfl) (fun z hz => by simp only [List.not_mem_nil] at hz) rfl (by decide) (hts (.classLink RL 21 "java/lang/IndexOutOfBoundsException") (by decide +kernel)) (va_Nw.use (xnL_tables (.castable "java/lang/IndexOutOfBoundsException" "java/lang/IndexOutOfBoundsException") (by decide)) (hXN.1 (.castable "java/lang/IndexOutOfBoundsException" "java/lang/IndexOutOfBoundsException") (by decide))) hce hcv hcl ?_
  clear hbx hk1 hz1 hvm hFc hce hcv hcl ht
  clear t9
  generalize H1 = H at hP hS ⊢
  refine W.eq (g2 := F0 m9 22 ls [.ref q9]) rfl ?_
  refine lv_astore (lv' := [(5, .ref q9), (0, .ref o), (1, .int x), (2, .int y), (3, .int (bI b)), (4, .ref out)]) hx hb dL_setAttack_22 hl (by decide) rfl (fun ls hl => ?_)
  refine lv_iconst (v := 1) hx hb dL_setAttack_24 (by decide) ?_
  refine W.widen (k := 1) (n := 6) (Nat.le_of_ble_eq_true rfl) (Nat.le_of_ble_eq_true rfl) ?_
  exact W.iret (v := 1) hx hb hr (fun t9 ht hW => ⟨⟨_, (), rfl, (by first | (with_reducible exact rfl) | (rw [if_pos (by assumption)]; done) | (rw [if_neg (ne_true_of_eq_false (by assumption))]; done)), ⟨by rw [ht]; exact hP, va_K.moved hW.alike hK, hD⟩⟩, hS.F ht⟩) hS.2.2 dL_setAttack_25 hlocks

set_option maxHeartbeats 4000000 in
set_option maxRecDepth 100000 in
theorem m_L_setLayer_ok (l9 : Launch) (hl9 : l9.stackTraces = false) (D : va_G) (k : Nat → ClassId) (ks kv kf : Nat → Nat) (ka kw : Nat) (sz : Nat) (o bf pa pn pk sv tr tx li ll ac ci ch : Nat) (iz : Bool) (er fl : Int32) (g : Nat → Nat) (qs qc qr ql : Nat → Nat) (lim sh sc : Int32) (fr : Nat → UInt32) (n : Nat) (w ly t a : Nat → Int32) (fx : Nat → UInt32) (kd rk : Nat → Int32) (lsh lk : Nat → Int32) (lc lx : Nat) (qs2 qc2 qr2 ql2 : Nat → Nat) (lim2 sh2 sc2 : Int32) (fr2 : Nat → UInt32) (n2 : Nat) (w2 ly2 t2 a2 : Nat → Int32) (fx2 : Nat → UInt32) (kd2 rk2 : Nat → Int32) (lsh2 lk2 : Nat → Int32) (lc2 lx2 : Nat) (x y : Int32) (out : Nat) (ou : Nat → Int64) (hkd : chOk kd 4) (hrk : chOk rk 12) (hlk : chOk lk 16) (hpn : pn < 8) (hpk : pk ≤ 8) (hn : n ≤ 10) (hok : ¬ (opMove n ly x y).1 < 0) : Met l9 yL_setLayer wsL_setLayer ({ frames := 4, cells := 1, slots := 6, locals := 124 }) (LPc ks kv kf ka kw D k [.ref o, .int x, .int y, .ref out] (bRO k o (qs 0) (qs2 0) pa pn pk sv iz tr tx er fl li ll ac ci ch ++ bPA k pa g ++ bSt k qs qc qr ql lim sh sc fr ++ bClaims k qc n w ly t a fx ++ bRacks k qr kd rk ++ bLog k ql lsh lk lc lx ++ bSt k qs2 qc2 qr2 ql2 lim2 sh2 sc2 fr2 ++ bClaims k qc2 n2 w2 ly2 t2 a2 fx2 ++ bRacks k qr2 kd2 rk2 ++ bLog k ql2 lsh2 lk2 lc2 lx2 ++ bL1 k out ou) sz) (WI D k (bRO k o (qs 0) (g pn) pa ((pn + 1) % 8) (min (pk + 1) 8) sv iz tr tx er fl li ll ac ci ch ++ bPA k pa (upP g pn (qs2 0)) ++ bSt k qs qc qr ql lim sh sc fr ++ bClaims k qc n w ((opMove n ly x y).2) t a fx ++ bRacks k qr kd rk ++ bLog k ql lsh lk lc lx ++ bSt k qs2 qc2 qr2 ql2 lim sh sc fr2 ++ bClaims k qc2 n w ly t a fx ++ bRacks k qr2 kd rk ++ bLog k ql2 lsh lk lc lx ++ bL1 k out (vp_updL ou 0 (((opMove n ly x y).1).toInt64))) 0 (va_A (bRO k o (qs 0) (qs2 0) pa pn pk sv iz tr tx er fl li ll ac ci ch ++ bPA k pa g ++ bSt k qs qc qr ql lim sh sc fr ++ bClaims k qc n w ly t a fx ++ bRacks k qr kd rk ++ bLog k ql lsh lk lc lx ++ bSt k qs2 qc2 qr2 ql2 lim2 sh2 sc2 fr2 ++ bClaims k qc2 n2 w2 ly2 t2 a2 fx2 ++ bRacks k qr2 kd2 rk2 ++ bLog k ql2 lsh2 lk2 lc2 lx2 ++ bL1 k out ou) sz)) 1 6 (va_A (bRO k o (qs 0) (qs2 0) pa pn pk sv iz tr tx er fl li ll ac ci ch ++ bPA k pa g ++ bSt k qs qc qr ql lim sh sc fr ++ bClaims k qc n w ly t a fx ++ bRacks k qr kd rk ++ bLog k ql lsh lk lc lx ++ bSt k qs2 qc2 qr2 ql2 lim2 sh2 sc2 fr2 ++ bClaims k qc2 n2 w2 ly2 t2 a2 fx2 ++ bRacks k qr2 kd2 rk2 ++ bLog k ql2 lsh2 lk2 lc2 lx2 ++ bL1 k out ou) sz) := by
  refine lMet (y := yL_setLayer) (cc := cL_setLayer) (maxL := 5) (ret := (some .int)) (hh := [(0, 10, 13, 21)]) (Qc := fun A => WI D k (bRO k o (qs 0) (g pn) pa ((pn + 1) % 8) (min (pk + 1) 8) sv iz tr tx er fl li ll ac ci ch ++ bPA k pa (upP g pn (qs2 0)) ++ bSt k qs qc qr ql lim sh sc fr ++ bClaims k qc n w ((opMove n ly x y).2) t a fx ++ bRacks k qr kd rk ++ bLog k ql lsh lk lc lx ++ bSt k qs2 qc2 qr2 ql2 lim sh sc fr2 ++ bClaims k qc2 n w ly t a fx ++ bRacks k qr2 kd rk ++ bLog k ql2 lsh lk lc lx ++ bL1 k out (vp_updL ou 0 (((opMove n ly x y).1).toInt64))) 0 A) [.ref o, .int x, .int y, .ref out] (by decide) rfl (Nat.le_of_ble_eq_true rfl) ?_
  intro p9 e9 s9 m9 bl9 me9 c9 ls A H hF hr hlocks htab hP hK hN hXN hNC hZ hKC hD hA hS hl
  have hl : lv_has ls 5 [(0, .ref o), (1, .int x), (2, .int y), (3, .ref out)] := hl
  obtain ⟨hx, hb, hml, hown, hts⟩ := id hF
  refine lv_aload_n hx hb dL_setLayer_0 rfl (lv_at hl 3 rfl) ?_
  refine lv_iconst (v := 0) hx hb dL_setLayer_1 (by decide) ?_
  refine lv_aload_n hx hb dL_setLayer_2 rfl (lv_at hl 0 rfl) ?_
  refine lv_iload_n hx hb dL_setLayer_3 rfl (lv_at hl 1 rfl) ?_
  refine lv_iload_n hx hb dL_setLayer_4 rfl (lv_at hl 2 rfl) ?_
  have hFc := l_free (wc := bRO k o (qs 0) (qs2 0) pa pn pk sv iz tr tx er fl li ll ac ci ch ++ bPA k pa g ++ bSt k qs qc qr ql lim sh sc fr ++ bClaims k qc n w ly t a fx ++ bRacks k qr kd rk ++ bLog k ql lsh lk lc lx ++ bSt k qs2 qc2 qr2 ql2 lim2 sh2 sc2 fr2 ++ bClaims k qc2 n2 w2 ly2 t2 a2 fx2 ++ bRacks k qr2 kd2 rk2 ++ bLog k ql2 lsh2 lk2 lc2 lx2) (wr := bL1 k out ou) hD hS hA
  refine va_calli (va_runV (As := [.int x, .int y]) (rest := [.int 0, .ref out]) hF (m_X12_setLayer l9 D k H.size o bf pa pn pk sv tr tx li ll ac ci ch iz er fl g qs qc qr ql lim sh sc fr n w ly t a fx kd rk lsh lk lc lx qs2 qc2 qr2 ql2 lim2 sh2 sc2 fr2 n2 w2 ly2 t2 a2 fx2 kd2 rk2 lsh2 lk2 lc2 lx2 x y hkd hrk hlk hpn hpk hn hok) (cwV 2 hts gL_setLayer_X12_setLayer rfl rfl rfl (by decide +kernel) ⟨Nat.le_of_ble_eq_true rfl, Nat.le_of_ble_eq_true rfl⟩) (l_preV hK hN (l_P1 (wr := bL1 k out ou) hP) (l_D1 (wr := bL1 k out ou) hD) (ci := 10) rfl rfl) rfl rfl hl.1 rfl (lv_room (Nat.le_of_ble_eq_true rfl)) dL_setLayer_5 ⟨Nat.zero_le _, Nat.zero_le _⟩) hS (fun q _ h => hFc q h) hFc (fun r u9 t9 H1 locs ht hvm hw hB hz1 hk1 hS => ?_)
  obtain ⟨hP, hD⟩ := l_join (wr := bL1 k out ou) hP hD hk1 hFc hB ht
  subst hw
  clear hB hk1 hz1 hvm hFc
  clear ht
  clear t9
  generalize H1 = H at hP hS ⊢
  refine lv_i2l hx hb dL_setLayer_8 rfl ?_
  refine la_st hx hb hK hP hD hS 30 rfl 0 (by omega) (by decide) (bRO k o (qs 0) (g pn) pa ((pn + 1) % 8) (min (pk + 1) 8) sv iz tr tx er fl li ll ac ci ch ++ bPA k pa (upP g pn (qs2 0)) ++ bSt k qs qc qr ql lim sh sc fr ++ bClaims k qc n w ((opMove n ly x y).2) t a fx ++ bRacks k qr kd rk ++ bLog k ql lsh lk lc lx ++ bSt k qs2 qc2 qr2 ql2 lim sh sc fr2 ++ bClaims k qc2 n w ly t a fx ++ bRacks k qr2 kd rk ++ bLog k ql2 lsh lk lc lx ++ bL1 k out (vp_updL ou 0 (((opMove n ly x y).1).toInt64))) rfl dL_setLayer_9 (fun H locs hP hD hS => ?_)
  refine lv_goto (tgt := 17) hx hb dL_setLayer_10 (by decide) ?_
  refine lv_iconst (v := 0) hx hb dL_setLayer_17 (by decide) ?_
  refine W.widen (k := 1) (n := 6) (Nat.le_of_ble_eq_true rfl) (Nat.le_of_ble_eq_true rfl) ?_
  exact W.iret (v := 0) hx hb hr (fun t9 ht hW => ⟨⟨_, (), rfl, (by first | (with_reducible exact rfl) | (rw [if_pos (by assumption)]; done) | (rw [if_neg (ne_true_of_eq_false (by assumption))]; done)), ⟨by rw [ht]; exact hP, va_K.moved hW.alike hK, hD⟩⟩, hS.F ht⟩) hS.2.2 dL_setLayer_18 hlocks

set_option maxHeartbeats 4000000 in
set_option maxRecDepth 100000 in
theorem m_L_setLayer_1 (l9 : Launch) (hl9 : l9.stackTraces = false) (D : va_G) (k : Nat → ClassId) (ks kv kf : Nat → Nat) (ka kw : Nat) (sz : Nat) (o bf pa pn pk sv tr tx li ll ac ci ch : Nat) (iz : Bool) (er fl : Int32) (g : Nat → Nat) (qs qc qr ql : Nat → Nat) (lim sh sc : Int32) (fr : Nat → UInt32) (n : Nat) (w ly t a : Nat → Int32) (fx : Nat → UInt32) (kd rk : Nat → Int32) (lsh lk : Nat → Int32) (lc lx : Nat) (qs2 qc2 qr2 ql2 : Nat → Nat) (lim2 sh2 sc2 : Int32) (fr2 : Nat → UInt32) (n2 : Nat) (w2 ly2 t2 a2 : Nat → Int32) (fx2 : Nat → UInt32) (kd2 rk2 : Nat → Int32) (lsh2 lk2 : Nat → Int32) (lc2 lx2 : Nat) (x y : Int32) (out : Nat) (ou : Nat → Int64) (hkd : chOk kd 4) (hrk : chOk rk 12) (hlk : chOk lk 16) (hn : n ≤ 10) (he : opMove n ly x y = (-1, ly)) : Met l9 yL_setLayer wsL_setLayer ({ frames := 9, cells := 1, slots := 6, locals := 146 }) (LPc ks kv kf ka kw D k [.ref o, .int x, .int y, .ref out] (bRO k o (qs 0) (qs2 0) pa pn pk sv iz tr tx er fl li ll ac ci ch ++ bPA k pa g ++ bSt k qs qc qr ql lim sh sc fr ++ bClaims k qc n w ly t a fx ++ bRacks k qr kd rk ++ bLog k ql lsh lk lc lx ++ bSt k qs2 qc2 qr2 ql2 lim2 sh2 sc2 fr2 ++ bClaims k qc2 n2 w2 ly2 t2 a2 fx2 ++ bRacks k qr2 kd2 rk2 ++ bLog k ql2 lsh2 lk2 lc2 lx2 ++ bL1 k out ou) sz) (WI D k (bRO k o (qs 0) (qs2 0) pa pn pk sv iz tr tx er fl li ll ac ci ch ++ bPA k pa g ++ bSt k qs qc qr ql lim sh sc fr ++ bClaims k qc n w ly t a fx ++ bRacks k qr kd rk ++ bLog k ql lsh lk lc lx ++ bSt k qs2 qc2 qr2 ql2 lim sh sc fr2 ++ bClaims k qc2 n w ly t a fx ++ bRacks k qr2 kd rk ++ bLog k ql2 lsh lk lc lx ++ bL1 k out ou) 1 (va_A (bRO k o (qs 0) (qs2 0) pa pn pk sv iz tr tx er fl li ll ac ci ch ++ bPA k pa g ++ bSt k qs qc qr ql lim sh sc fr ++ bClaims k qc n w ly t a fx ++ bRacks k qr kd rk ++ bLog k ql lsh lk lc lx ++ bSt k qs2 qc2 qr2 ql2 lim2 sh2 sc2 fr2 ++ bClaims k qc2 n2 w2 ly2 t2 a2 fx2 ++ bRacks k qr2 kd2 rk2 ++ bLog k ql2 lsh2 lk2 lc2 lx2 ++ bL1 k out ou) sz)) 1 6 (va_A (bRO k o (qs 0) (qs2 0) pa pn pk sv iz tr tx er fl li ll ac ci ch ++ bPA k pa g ++ bSt k qs qc qr ql lim sh sc fr ++ bClaims k qc n w ly t a fx ++ bRacks k qr kd rk ++ bLog k ql lsh lk lc lx ++ bSt k qs2 qc2 qr2 ql2 lim2 sh2 sc2 fr2 ++ bClaims k qc2 n2 w2 ly2 t2 a2 fx2 ++ bRacks k qr2 kd2 rk2 ++ bLog k ql2 lsh2 lk2 lc2 lx2 ++ bL1 k out ou) sz) := by
  refine lMet (y := yL_setLayer) (cc := cL_setLayer) (maxL := 5) (ret := (some .int)) (hh := [(0, 10, 13, 21)]) (Qc := fun A => WI D k (bRO k o (qs 0) (qs2 0) pa pn pk sv iz tr tx er fl li ll ac ci ch ++ bPA k pa g ++ bSt k qs qc qr ql lim sh sc fr ++ bClaims k qc n w ly t a fx ++ bRacks k qr kd rk ++ bLog k ql lsh lk lc lx ++ bSt k qs2 qc2 qr2 ql2 lim sh sc fr2 ++ bClaims k qc2 n w ly t a fx ++ bRacks k qr2 kd rk ++ bLog k ql2 lsh lk lc lx ++ bL1 k out ou) 1 A) [.ref o, .int x, .int y, .ref out] (by decide) rfl (Nat.le_of_ble_eq_true rfl) ?_
  intro p9 e9 s9 m9 bl9 me9 c9 ls A H hF hr hlocks htab hP hK hN hXN hNC hZ hKC hD hA hS hl
  have hl : lv_has ls 5 [(0, .ref o), (1, .int x), (2, .int y), (3, .ref out)] := hl
  obtain ⟨hx, hb, hml, hown, hts⟩ := id hF
  refine lv_aload_n hx hb dL_setLayer_0 rfl (lv_at hl 3 rfl) ?_
  refine lv_iconst (v := 0) hx hb dL_setLayer_1 (by decide) ?_
  refine lv_aload_n hx hb dL_setLayer_2 rfl (lv_at hl 0 rfl) ?_
  refine lv_iload_n hx hb dL_setLayer_3 rfl (lv_at hl 1 rfl) ?_
  refine lv_iload_n hx hb dL_setLayer_4 rfl (lv_at hl 2 rfl) ?_
  have hFc := l_free (wc := bRO k o (qs 0) (qs2 0) pa pn pk sv iz tr tx er fl li ll ac ci ch ++ bPA k pa g ++ bSt k qs qc qr ql lim sh sc fr ++ bClaims k qc n w ly t a fx ++ bRacks k qr kd rk ++ bLog k ql lsh lk lc lx ++ bSt k qs2 qc2 qr2 ql2 lim2 sh2 sc2 fr2 ++ bClaims k qc2 n2 w2 ly2 t2 a2 fx2 ++ bRacks k qr2 kd2 rk2 ++ bLog k ql2 lsh2 lk2 lc2 lx2) (wr := bL1 k out ou) hD hS hA
  refine vx_calli (vx_runV (As := [.int x, .int y]) (rest := [.int 0, .ref out]) hF (x_X12_setLayer_1 l9 hl9 D k H.size o bf pa pn pk sv tr tx li ll ac ci ch iz er fl g qs qc qr ql lim sh sc fr n w ly t a fx kd rk lsh lk lc lx qs2 qc2 qr2 ql2 lim2 sh2 sc2 fr2 n2 w2 ly2 t2 a2 fx2 kd2 rk2 lsh2 lk2 lc2 lx2 x y hkd hrk hlk hn he) (cwV 2 hts gL_setLayer_X12_setLayer rfl rfl rfl (by decide +kernel) ⟨Nat.le_of_ble_eq_true rfl, Nat.le_of_ble_eq_true rfl⟩) (l_preX hK hN hXN hZ hS hFc (l_P1 (wr := bL1 k out ou) hP) (l_D1 (wr := bL1 k out ou) hD) (ci := 10) rfl rfl) rfl rfl hl.1 rfl (lv_room (Nat.le_of_ble_eq_true rfl)) dL_setLayer_5 ⟨Nat.le_of_ble_eq_true rfl, Nat.le_of_ble_eq_true rfl⟩) hS (fun q _ h => hFc q h) hFc (fun q _ h => hFc q h) (fun E9 ce9 q9 u9 t9 H1 locs ht hvm _ hbx hz1 hk1 hS hce hcv hcl => ?_) (fun r u9 t9 H1 locs _ _ hp _ _ _ _ => hp.elim)
  obtain ⟨rfl, hbx⟩ := hbx
  obtain ⟨hP, hD⟩ := l_join (u := ()) (wr := bL1 k out ou) hP hD hk1 hFc hbx ht
  refine vx_catch (own := RL) (name := "java/lang/IndexOutOfBoundsException") (E := "java/lang/IndexOutOfBoundsException") hown [] ⟨0, 10, 13, 21⟩ [] (htab.trans rfl) (fun z hz => by simp only [List.not_mem_nil] at hz) rfl (by decide) (hts (.classLink RL 21 "java/lang/IndexOutOfBoundsException") (by decide +kernel)) (va_Nw.use (xnL_tables (.castable "java/lang/IndexOutOfBoundsException" "java/lang/IndexOutOfBoundsException") (by decide)) (hXN.1 (.castable "java/lang/IndexOutOfBoundsException" "java/lang/IndexOutOfBoundsException") (by decide))) hce hcv hcl ?_
  clear hbx hk1 hz1 hvm hFc hce hcv hcl ht
  clear t9
  generalize H1 = H at hP hS ⊢
  refine W.eq (g2 := F0 m9 13 ls [.ref q9]) rfl ?_
  refine lv_astore (lv' := [(4, .ref q9), (0, .ref o), (1, .int x), (2, .int y), (3, .ref out)]) hx hb dL_setLayer_13 hl (by decide) rfl (fun ls hl => ?_)
  refine lv_iconst (v := 1) hx hb dL_setLayer_15 (by decide) ?_
  refine W.widen (k := 1) (n := 6) (Nat.le_of_ble_eq_true rfl) (Nat.le_of_ble_eq_true rfl) ?_
  exact W.iret (v := 1) hx hb hr (fun t9 ht hW => ⟨⟨_, (), rfl, (by first | (with_reducible exact rfl) | (rw [if_pos (by assumption)]; done) | (rw [if_neg (ne_true_of_eq_false (by assumption))]; done)), ⟨by rw [ht]; exact hP, va_K.moved hW.alike hK, hD⟩⟩, hS.F ht⟩) hS.2.2 dL_setLayer_16 hlocks

set_option maxHeartbeats 4000000 in
set_option maxRecDepth 100000 in
theorem m_L_weightOf_ok (l9 : Launch) (hl9 : l9.stackTraces = false) (D : va_G) (k : Nat → ClassId) (ks kv kf : Nat → Nat) (ka kw : Nat) (sz : Nat) (o bf pa pn pk sv tr tx li ll ac ci ch : Nat) (iz : Bool) (er fl : Int32) (qs qc qr ql : Nat → Nat) (lim sh sc : Int32) (fr : Nat → UInt32) (n : Nat) (w ly t a : Nat → Int32) (fx : Nat → UInt32) (x : Int32) (out : Nat) (ou : Nat → Int64) (hn : n ≤ 10) (hxn : inC n x = true) : Met l9 yL_weightOf wsL_weightOf ({ frames := 3, cells := 1, slots := 6, locals := 63 }) (LPc ks kv kf ka kw D k [.ref o, .int x, .ref out] (bRO k o (qs 0) bf pa pn pk sv iz tr tx er fl li ll ac ci ch ++ bSt k qs qc qr ql lim sh sc fr ++ bClaims k qc n w ly t a fx ++ bL1 k out ou) sz) (WI D k (bRO k o (qs 0) bf pa pn pk sv iz tr tx er fl li ll ac ci ch ++ bSt k qs qc qr ql lim sh sc fr ++ bClaims k qc n w ly t a fx ++ bL1 k out (vp_updL ou 0 ((w x.toNatClampNeg).toInt64))) 0 (va_A (bRO k o (qs 0) bf pa pn pk sv iz tr tx er fl li ll ac ci ch ++ bSt k qs qc qr ql lim sh sc fr ++ bClaims k qc n w ly t a fx ++ bL1 k out ou) sz)) 1 6 (va_A (bRO k o (qs 0) bf pa pn pk sv iz tr tx er fl li ll ac ci ch ++ bSt k qs qc qr ql lim sh sc fr ++ bClaims k qc n w ly t a fx ++ bL1 k out ou) sz) := by
  refine lMet (y := yL_weightOf) (cc := cL_weightOf) (maxL := 4) (ret := (some .int)) (hh := [(0, 9, 12, 21)]) (Qc := fun A => WI D k (bRO k o (qs 0) bf pa pn pk sv iz tr tx er fl li ll ac ci ch ++ bSt k qs qc qr ql lim sh sc fr ++ bClaims k qc n w ly t a fx ++ bL1 k out (vp_updL ou 0 ((w x.toNatClampNeg).toInt64))) 0 A) [.ref o, .int x, .ref out] (by decide) rfl (Nat.le_of_ble_eq_true rfl) ?_
  intro p9 e9 s9 m9 bl9 me9 c9 ls A H hF hr hlocks htab hP hK hN hXN hNC hZ hKC hD hA hS hl
  have hl : lv_has ls 4 [(0, .ref o), (1, .int x), (2, .ref out)] := hl
  obtain ⟨hx, hb, hml, hown, hts⟩ := id hF
  refine lv_aload_n hx hb dL_weightOf_0 rfl (lv_at hl 2 rfl) ?_
  refine lv_iconst (v := 0) hx hb dL_weightOf_1 (by decide) ?_
  refine lv_aload_n hx hb dL_weightOf_2 rfl (lv_at hl 0 rfl) ?_
  refine lv_iload_n hx hb dL_weightOf_3 rfl (lv_at hl 1 rfl) ?_
  have hFc := l_free (wc := bRO k o (qs 0) bf pa pn pk sv iz tr tx er fl li ll ac ci ch ++ bSt k qs qc qr ql lim sh sc fr ++ bClaims k qc n w ly t a fx) (wr := bL1 k out ou) hD hS hA
  refine va_calli (va_runV (As := [.int x]) (rest := [.int 0, .ref out]) hF (m_X12_weightOf l9 D k H.size o bf pa pn pk sv tr tx li ll ac ci ch iz er fl qs qc qr ql lim sh sc fr n w ly t a fx x hn hxn) (cwV 1 hts gL_weightOf_X12_weightOf rfl rfl rfl (by decide +kernel) ⟨Nat.le_of_ble_eq_true rfl, Nat.le_of_ble_eq_true rfl⟩) (l_preV hK hN (l_P1 (wr := bL1 k out ou) hP) (l_D1 (wr := bL1 k out ou) hD) (ci := 10) rfl rfl) rfl rfl hl.1 rfl (lv_room (Nat.le_of_ble_eq_true rfl)) dL_weightOf_4 ⟨Nat.zero_le _, Nat.zero_le _⟩) hS (fun q _ h => hFc q h) hFc (fun r u9 t9 H1 locs ht hvm hw hB hz1 hk1 hS => ?_)
  obtain ⟨hP, hD⟩ := l_join (wr := bL1 k out ou) hP hD hk1 hFc hB ht
  subst hw
  clear hB hk1 hz1 hvm hFc
  clear ht
  clear t9
  generalize H1 = H at hP hS ⊢
  refine lv_i2l hx hb dL_weightOf_7 rfl ?_
  refine la_st hx hb hK hP hD hS 9 rfl 0 (by omega) (by decide) (bRO k o (qs 0) bf pa pn pk sv iz tr tx er fl li ll ac ci ch ++ bSt k qs qc qr ql lim sh sc fr ++ bClaims k qc n w ly t a fx ++ bL1 k out (vp_updL ou 0 ((w x.toNatClampNeg).toInt64))) rfl dL_weightOf_8 (fun H locs hP hD hS => ?_)
  refine lv_goto (tgt := 15) hx hb dL_weightOf_9 (by decide) ?_
  refine lv_iconst (v := 0) hx hb dL_weightOf_15 (by decide) ?_
  refine W.widen (k := 1) (n := 6) (Nat.le_of_ble_eq_true rfl) (Nat.le_of_ble_eq_true rfl) ?_
  exact W.iret (v := 0) hx hb hr (fun t9 ht hW => ⟨⟨_, (), rfl, (by first | (with_reducible exact rfl) | (rw [if_pos (by assumption)]; done) | (rw [if_neg (ne_true_of_eq_false (by assumption))]; done)), ⟨by rw [ht]; exact hP, va_K.moved hW.alike hK, hD⟩⟩, hS.F ht⟩) hS.2.2 dL_weightOf_16 hlocks

set_option maxHeartbeats 4000000 in
set_option maxRecDepth 100000 in
theorem m_L_weightOf_1 (l9 : Launch) (hl9 : l9.stackTraces = false) (D : va_G) (k : Nat → ClassId) (ks kv kf : Nat → Nat) (ka kw : Nat) (sz : Nat) (o bf pa pn pk sv tr tx li ll ac ci ch : Nat) (iz : Bool) (er fl : Int32) (qs qc qr ql : Nat → Nat) (lim sh sc : Int32) (fr : Nat → UInt32) (n : Nat) (w ly t a : Nat → Int32) (fx : Nat → UInt32) (x : Int32) (out : Nat) (ou : Nat → Int64) (hxn : inC n x = false) : Met l9 yL_weightOf wsL_weightOf ({ frames := 8, cells := 1, slots := 6, locals := 124 }) (LPc ks kv kf ka kw D k [.ref o, .int x, .ref out] (bRO k o (qs 0) bf pa pn pk sv iz tr tx er fl li ll ac ci ch ++ bSt k qs qc qr ql lim sh sc fr ++ bClaims k qc n w ly t a fx ++ bL1 k out ou) sz) (WI D k (bRO k o (qs 0) bf pa pn pk sv iz tr tx er fl li ll ac ci ch ++ bSt k qs qc qr ql lim sh sc fr ++ bClaims k qc n w ly t a fx ++ bL1 k out ou) 1 (va_A (bRO k o (qs 0) bf pa pn pk sv iz tr tx er fl li ll ac ci ch ++ bSt k qs qc qr ql lim sh sc fr ++ bClaims k qc n w ly t a fx ++ bL1 k out ou) sz)) 1 6 (va_A (bRO k o (qs 0) bf pa pn pk sv iz tr tx er fl li ll ac ci ch ++ bSt k qs qc qr ql lim sh sc fr ++ bClaims k qc n w ly t a fx ++ bL1 k out ou) sz) := by
  refine lMet (y := yL_weightOf) (cc := cL_weightOf) (maxL := 4) (ret := (some .int)) (hh := [(0, 9, 12, 21)]) (Qc := fun A => WI D k (bRO k o (qs 0) bf pa pn pk sv iz tr tx er fl li ll ac ci ch ++ bSt k qs qc qr ql lim sh sc fr ++ bClaims k qc n w ly t a fx ++ bL1 k out ou) 1 A) [.ref o, .int x, .ref out] (by decide) rfl (Nat.le_of_ble_eq_true rfl) ?_
  intro p9 e9 s9 m9 bl9 me9 c9 ls A H hF hr hlocks htab hP hK hN hXN hNC hZ hKC hD hA hS hl
  have hl : lv_has ls 4 [(0, .ref o), (1, .int x), (2, .ref out)] := hl
  obtain ⟨hx, hb, hml, hown, hts⟩ := id hF
  refine lv_aload_n hx hb dL_weightOf_0 rfl (lv_at hl 2 rfl) ?_
  refine lv_iconst (v := 0) hx hb dL_weightOf_1 (by decide) ?_
  refine lv_aload_n hx hb dL_weightOf_2 rfl (lv_at hl 0 rfl) ?_
  refine lv_iload_n hx hb dL_weightOf_3 rfl (lv_at hl 1 rfl) ?_
  have hFc := l_free (wc := bRO k o (qs 0) bf pa pn pk sv iz tr tx er fl li ll ac ci ch ++ bSt k qs qc qr ql lim sh sc fr ++ bClaims k qc n w ly t a fx) (wr := bL1 k out ou) hD hS hA
  refine vx_calli (vx_runV (As := [.int x]) (rest := [.int 0, .ref out]) hF (x_X12_weightOf l9 hl9 D k H.size o bf pa pn pk sv tr tx li ll ac ci ch iz er fl qs qc qr ql lim sh sc fr n w ly t a fx x hxn) (cwV 1 hts gL_weightOf_X12_weightOf rfl rfl rfl (by decide +kernel) ⟨Nat.le_of_ble_eq_true rfl, Nat.le_of_ble_eq_true rfl⟩) (l_preX hK hN hXN hZ hS hFc (l_P1 (wr := bL1 k out ou) hP) (l_D1 (wr := bL1 k out ou) hD) (ci := 10) rfl rfl) rfl rfl hl.1 rfl (lv_room (Nat.le_of_ble_eq_true rfl)) dL_weightOf_4 ⟨Nat.le_of_ble_eq_true rfl, Nat.le_of_ble_eq_true rfl⟩) hS (fun q _ h => hFc q h) hFc (fun q _ h => hFc q h) (fun E9 ce9 q9 u9 t9 H1 locs ht hvm _ hbx hz1 hk1 hS hce hcv hcl => ?_) (fun r u9 t9 H1 locs _ _ hp _ _ _ _ => hp.elim)
  obtain ⟨rfl, hbx⟩ := hbx
  obtain ⟨hP, hD⟩ := l_join (u := ()) (wr := bL1 k out ou) hP hD hk1 hFc hbx ht
  refine vx_catch (own := RL) (name := "java/lang/IndexOutOfBoundsException") (E := "java/lang/IndexOutOfBoundsException") hown [] ⟨0, 9, 12, 21⟩ [] (htab.trans rfl) (fun z hz => by simp only [List.not_mem_nil] at hz) rfl (by decide) (hts (.classLink RL 21 "java/lang/IndexOutOfBoundsException") (by decide +kernel)) (va_Nw.use (xnL_tables (.castable "java/lang/IndexOutOfBoundsException" "java/lang/IndexOutOfBoundsException") (by decide)) (hXN.1 (.castable "java/lang/IndexOutOfBoundsException" "java/lang/IndexOutOfBoundsException") (by decide))) hce hcv hcl ?_
  clear hbx hk1 hz1 hvm hFc hce hcv hcl ht
  clear t9
  generalize H1 = H at hP hS ⊢
  refine W.eq (g2 := F0 m9 12 ls [.ref q9]) rfl ?_
  refine lv_astore_n (lv' := [(3, .ref q9), (0, .ref o), (1, .int x), (2, .ref out)]) hx hb dL_weightOf_12 rfl hl (by decide) rfl (fun ls hl => ?_)
  refine lv_iconst (v := 1) hx hb dL_weightOf_13 (by decide) ?_
  refine W.widen (k := 1) (n := 6) (Nat.le_of_ble_eq_true rfl) (Nat.le_of_ble_eq_true rfl) ?_
  exact W.iret (v := 1) hx hb hr (fun t9 ht hW => ⟨⟨_, (), rfl, (by first | (with_reducible exact rfl) | (rw [if_pos (by assumption)]; done) | (rw [if_neg (ne_true_of_eq_false (by assumption))]; done)), ⟨by rw [ht]; exact hP, va_K.moved hW.alike hK, hD⟩⟩, hS.F ht⟩) hS.2.2 dL_weightOf_14 hlocks

set_option maxHeartbeats 4000000 in
set_option maxRecDepth 100000 in
theorem m_L_layerOf_ok (l9 : Launch) (hl9 : l9.stackTraces = false) (D : va_G) (k : Nat → ClassId) (ks kv kf : Nat → Nat) (ka kw : Nat) (sz : Nat) (o bf pa pn pk sv tr tx li ll ac ci ch : Nat) (iz : Bool) (er fl : Int32) (qs qc qr ql : Nat → Nat) (lim sh sc : Int32) (fr : Nat → UInt32) (n : Nat) (w ly t a : Nat → Int32) (fx : Nat → UInt32) (x : Int32) (out : Nat) (ou : Nat → Int64) (hn : n ≤ 10) (hxn : inC n x = true) : Met l9 yL_layerOf wsL_layerOf ({ frames := 3, cells := 1, slots := 6, locals := 63 }) (LPc ks kv kf ka kw D k [.ref o, .int x, .ref out] (bRO k o (qs 0) bf pa pn pk sv iz tr tx er fl li ll ac ci ch ++ bSt k qs qc qr ql lim sh sc fr ++ bClaims k qc n w ly t a fx ++ bL1 k out ou) sz) (WI D k (bRO k o (qs 0) bf pa pn pk sv iz tr tx er fl li ll ac ci ch ++ bSt k qs qc qr ql lim sh sc fr ++ bClaims k qc n w ly t a fx ++ bL1 k out (vp_updL ou 0 ((ly x.toNatClampNeg).toInt64))) 0 (va_A (bRO k o (qs 0) bf pa pn pk sv iz tr tx er fl li ll ac ci ch ++ bSt k qs qc qr ql lim sh sc fr ++ bClaims k qc n w ly t a fx ++ bL1 k out ou) sz)) 1 6 (va_A (bRO k o (qs 0) bf pa pn pk sv iz tr tx er fl li ll ac ci ch ++ bSt k qs qc qr ql lim sh sc fr ++ bClaims k qc n w ly t a fx ++ bL1 k out ou) sz) := by
  refine lMet (y := yL_layerOf) (cc := cL_layerOf) (maxL := 4) (ret := (some .int)) (hh := [(0, 9, 12, 21)]) (Qc := fun A => WI D k (bRO k o (qs 0) bf pa pn pk sv iz tr tx er fl li ll ac ci ch ++ bSt k qs qc qr ql lim sh sc fr ++ bClaims k qc n w ly t a fx ++ bL1 k out (vp_updL ou 0 ((ly x.toNatClampNeg).toInt64))) 0 A) [.ref o, .int x, .ref out] (by decide) rfl (Nat.le_of_ble_eq_true rfl) ?_
  intro p9 e9 s9 m9 bl9 me9 c9 ls A H hF hr hlocks htab hP hK hN hXN hNC hZ hKC hD hA hS hl
  have hl : lv_has ls 4 [(0, .ref o), (1, .int x), (2, .ref out)] := hl
  obtain ⟨hx, hb, hml, hown, hts⟩ := id hF
  refine lv_aload_n hx hb dL_layerOf_0 rfl (lv_at hl 2 rfl) ?_
  refine lv_iconst (v := 0) hx hb dL_layerOf_1 (by decide) ?_
  refine lv_aload_n hx hb dL_layerOf_2 rfl (lv_at hl 0 rfl) ?_
  refine lv_iload_n hx hb dL_layerOf_3 rfl (lv_at hl 1 rfl) ?_
  have hFc := l_free (wc := bRO k o (qs 0) bf pa pn pk sv iz tr tx er fl li ll ac ci ch ++ bSt k qs qc qr ql lim sh sc fr ++ bClaims k qc n w ly t a fx) (wr := bL1 k out ou) hD hS hA
  refine va_calli (va_runV (As := [.int x]) (rest := [.int 0, .ref out]) hF (m_X12_layerOf l9 D k H.size o bf pa pn pk sv tr tx li ll ac ci ch iz er fl qs qc qr ql lim sh sc fr n w ly t a fx x hn hxn) (cwV 1 hts gL_layerOf_X12_layerOf rfl rfl rfl (by decide +kernel) ⟨Nat.le_of_ble_eq_true rfl, Nat.le_of_ble_eq_true rfl⟩) (l_preV hK hN (l_P1 (wr := bL1 k out ou) hP) (l_D1 (wr := bL1 k out ou) hD) (ci := 10) rfl rfl) rfl rfl hl.1 rfl (lv_room (Nat.le_of_ble_eq_true rfl)) dL_layerOf_4 ⟨Nat.zero_le _, Nat.zero_le _⟩) hS (fun q _ h => hFc q h) hFc (fun r u9 t9 H1 locs ht hvm hw hB hz1 hk1 hS => ?_)
  obtain ⟨hP, hD⟩ := l_join (wr := bL1 k out ou) hP hD hk1 hFc hB ht
  subst hw
  clear hB hk1 hz1 hvm hFc
  clear ht
  clear t9
  generalize H1 = H at hP hS ⊢
  refine lv_i2l hx hb dL_layerOf_7 rfl ?_
  refine la_st hx hb hK hP hD hS 9 rfl 0 (by omega) (by decide) (bRO k o (qs 0) bf pa pn pk sv iz tr tx er fl li ll ac ci ch ++ bSt k qs qc qr ql lim sh sc fr ++ bClaims k qc n w ly t a fx ++ bL1 k out (vp_updL ou 0 ((ly x.toNatClampNeg).toInt64))) rfl dL_layerOf_8 (fun H locs hP hD hS => ?_)
  refine lv_goto (tgt := 15) hx hb dL_layerOf_9 (by decide) ?_
  refine lv_iconst (v := 0) hx hb dL_layerOf_15 (by decide) ?_
  refine W.widen (k := 1) (n := 6) (Nat.le_of_ble_eq_true rfl) (Nat.le_of_ble_eq_true rfl) ?_
  exact W.iret (v := 0) hx hb hr (fun t9 ht hW => ⟨⟨_, (), rfl, (by first | (with_reducible exact rfl) | (rw [if_pos (by assumption)]; done) | (rw [if_neg (ne_true_of_eq_false (by assumption))]; done)), ⟨by rw [ht]; exact hP, va_K.moved hW.alike hK, hD⟩⟩, hS.F ht⟩) hS.2.2 dL_layerOf_16 hlocks

set_option maxHeartbeats 4000000 in
set_option maxRecDepth 100000 in
theorem m_L_layerOf_1 (l9 : Launch) (hl9 : l9.stackTraces = false) (D : va_G) (k : Nat → ClassId) (ks kv kf : Nat → Nat) (ka kw : Nat) (sz : Nat) (o bf pa pn pk sv tr tx li ll ac ci ch : Nat) (iz : Bool) (er fl : Int32) (qs qc qr ql : Nat → Nat) (lim sh sc : Int32) (fr : Nat → UInt32) (n : Nat) (w ly t a : Nat → Int32) (fx : Nat → UInt32) (x : Int32) (out : Nat) (ou : Nat → Int64) (hxn : inC n x = false) : Met l9 yL_layerOf wsL_layerOf ({ frames := 8, cells := 1, slots := 6, locals := 124 }) (LPc ks kv kf ka kw D k [.ref o, .int x, .ref out] (bRO k o (qs 0) bf pa pn pk sv iz tr tx er fl li ll ac ci ch ++ bSt k qs qc qr ql lim sh sc fr ++ bClaims k qc n w ly t a fx ++ bL1 k out ou) sz) (WI D k (bRO k o (qs 0) bf pa pn pk sv iz tr tx er fl li ll ac ci ch ++ bSt k qs qc qr ql lim sh sc fr ++ bClaims k qc n w ly t a fx ++ bL1 k out ou) 1 (va_A (bRO k o (qs 0) bf pa pn pk sv iz tr tx er fl li ll ac ci ch ++ bSt k qs qc qr ql lim sh sc fr ++ bClaims k qc n w ly t a fx ++ bL1 k out ou) sz)) 1 6 (va_A (bRO k o (qs 0) bf pa pn pk sv iz tr tx er fl li ll ac ci ch ++ bSt k qs qc qr ql lim sh sc fr ++ bClaims k qc n w ly t a fx ++ bL1 k out ou) sz) := by
  refine lMet (y := yL_layerOf) (cc := cL_layerOf) (maxL := 4) (ret := (some .int)) (hh := [(0, 9, 12, 21)]) (Qc := fun A => WI D k (bRO k o (qs 0) bf pa pn pk sv iz tr tx er fl li ll ac ci ch ++ bSt k qs qc qr ql lim sh sc fr ++ bClaims k qc n w ly t a fx ++ bL1 k out ou) 1 A) [.ref o, .int x, .ref out] (by decide) rfl (Nat.le_of_ble_eq_true rfl) ?_
  intro p9 e9 s9 m9 bl9 me9 c9 ls A H hF hr hlocks htab hP hK hN hXN hNC hZ hKC hD hA hS hl
  have hl : lv_has ls 4 [(0, .ref o), (1, .int x), (2, .ref out)] := hl
  obtain ⟨hx, hb, hml, hown, hts⟩ := id hF
  refine lv_aload_n hx hb dL_layerOf_0 rfl (lv_at hl 2 rfl) ?_
  refine lv_iconst (v := 0) hx hb dL_layerOf_1 (by decide) ?_
  refine lv_aload_n hx hb dL_layerOf_2 rfl (lv_at hl 0 rfl) ?_
  refine lv_iload_n hx hb dL_layerOf_3 rfl (lv_at hl 1 rfl) ?_
  have hFc := l_free (wc := bRO k o (qs 0) bf pa pn pk sv iz tr tx er fl li ll ac ci ch ++ bSt k qs qc qr ql lim sh sc fr ++ bClaims k qc n w ly t a fx) (wr := bL1 k out ou) hD hS hA
  refine vx_calli (vx_runV (As := [.int x]) (rest := [.int 0, .ref out]) hF (x_X12_layerOf l9 hl9 D k H.size o bf pa pn pk sv tr tx li ll ac ci ch iz er fl qs qc qr ql lim sh sc fr n w ly t a fx x hxn) (cwV 1 hts gL_layerOf_X12_layerOf rfl rfl rfl (by decide +kernel) ⟨Nat.le_of_ble_eq_true rfl, Nat.le_of_ble_eq_true rfl⟩) (l_preX hK hN hXN hZ hS hFc (l_P1 (wr := bL1 k out ou) hP) (l_D1 (wr := bL1 k out ou) hD) (ci := 10) rfl rfl) rfl rfl hl.1 rfl (lv_room (Nat.le_of_ble_eq_true rfl)) dL_layerOf_4 ⟨Nat.le_of_ble_eq_true rfl, Nat.le_of_ble_eq_true rfl⟩) hS (fun q _ h => hFc q h) hFc (fun q _ h => hFc q h) (fun E9 ce9 q9 u9 t9 H1 locs ht hvm _ hbx hz1 hk1 hS hce hcv hcl => ?_) (fun r u9 t9 H1 locs _ _ hp _ _ _ _ => hp.elim)
  obtain ⟨rfl, hbx⟩ := hbx
  obtain ⟨hP, hD⟩ := l_join (u := ()) (wr := bL1 k out ou) hP hD hk1 hFc hbx ht
  refine vx_catch (own := RL) (name := "java/lang/IndexOutOfBoundsException") (E := "java/lang/IndexOutOfBoundsException") hown [] ⟨0, 9, 12, 21⟩ [] (htab.trans rfl) (fun z hz => by simp only [List.not_mem_nil] at hz) rfl (by decide) (hts (.classLink RL 21 "java/lang/IndexOutOfBoundsException") (by decide +kernel)) (va_Nw.use (xnL_tables (.castable "java/lang/IndexOutOfBoundsException" "java/lang/IndexOutOfBoundsException") (by decide)) (hXN.1 (.castable "java/lang/IndexOutOfBoundsException" "java/lang/IndexOutOfBoundsException") (by decide))) hce hcv hcl ?_
  clear hbx hk1 hz1 hvm hFc hce hcv hcl ht
  clear t9
  generalize H1 = H at hP hS ⊢
  refine W.eq (g2 := F0 m9 12 ls [.ref q9]) rfl ?_
  refine lv_astore_n (lv' := [(3, .ref q9), (0, .ref o), (1, .int x), (2, .ref out)]) hx hb dL_layerOf_12 rfl hl (by decide) rfl (fun ls hl => ?_)
  refine lv_iconst (v := 1) hx hb dL_layerOf_13 (by decide) ?_
  refine W.widen (k := 1) (n := 6) (Nat.le_of_ble_eq_true rfl) (Nat.le_of_ble_eq_true rfl) ?_
  exact W.iret (v := 1) hx hb hr (fun t9 ht hW => ⟨⟨_, (), rfl, (by first | (with_reducible exact rfl) | (rw [if_pos (by assumption)]; done) | (rw [if_neg (ne_true_of_eq_false (by assumption))]; done)), ⟨by rw [ht]; exact hP, va_K.moved hW.alike hK, hD⟩⟩, hS.F ht⟩) hS.2.2 dL_layerOf_14 hlocks

set_option maxHeartbeats 4000000 in
set_option maxRecDepth 100000 in
theorem m_L_isRejected_ok (l9 : Launch) (hl9 : l9.stackTraces = false) (D : va_G) (k : Nat → ClassId) (ks kv kf : Nat → Nat) (ka kw : Nat) (sz : Nat) (o bf pa pn pk sv tr tx li ll ac ci ch : Nat) (iz : Bool) (er fl : Int32) (qs qc qr ql : Nat → Nat) (lim sh sc : Int32) (fr : Nat → UInt32) (n : Nat) (w ly t a : Nat → Int32) (fx : Nat → UInt32) (x : Int32) (out : Nat) (ou : Nat → Int64) (hn : n ≤ 10) (hxn : inC n x = true) : Met l9 yL_isRejected wsL_isRejected ({ frames := 7, cells := 1, slots := 6, locals := 152 }) (LPc ks kv kf ka kw D k [.ref o, .int x, .ref out] (bRO k o (qs 0) bf pa pn pk sv iz tr tx er fl li ll ac ci ch ++ bSt k qs qc qr ql lim sh sc fr ++ bClaims k qc n w ly t a fx ++ bL1 k out ou) sz) (WI D k (bRO k o (qs 0) bf pa pn pk sv iz tr tx er fl li ll ac ci ch ++ bSt k qs qc qr ql lim sh sc fr ++ bClaims k qc n w ly t a fx ++ bL1 k out (vp_updL ou 0 (if tb (orS n t (accS n t a)) x.toNatClampNeg = true then 1 else 0))) 0 (va_A (bRO k o (qs 0) bf pa pn pk sv iz tr tx er fl li ll ac ci ch ++ bSt k qs qc qr ql lim sh sc fr ++ bClaims k qc n w ly t a fx ++ bL1 k out ou) sz)) 1 6 (va_A (bRO k o (qs 0) bf pa pn pk sv iz tr tx er fl li ll ac ci ch ++ bSt k qs qc qr ql lim sh sc fr ++ bClaims k qc n w ly t a fx ++ bL1 k out ou) sz) := by
  refine lMet (y := yL_isRejected) (cc := cL_isRejected) (maxL := 4) (ret := (some .int)) (hh := [(0, 16, 19, 21)]) (Qc := fun A => WI D k (bRO k o (qs 0) bf pa pn pk sv iz tr tx er fl li ll ac ci ch ++ bSt k qs qc qr ql lim sh sc fr ++ bClaims k qc n w ly t a fx ++ bL1 k out (vp_updL ou 0 (if tb (orS n t (accS n t a)) x.toNatClampNeg = true then 1 else 0))) 0 A) [.ref o, .int x, .ref out] (by decide) rfl (Nat.le_of_ble_eq_true rfl) ?_
  intro p9 e9 s9 m9 bl9 me9 c9 ls A H hF hr hlocks htab hP hK hN hXN hNC hZ hKC hD hA hS hl
  have hl : lv_has ls 4 [(0, .ref o), (1, .int x), (2, .ref out)] := hl
  obtain ⟨hx, hb, hml, hown, hts⟩ := id hF
  refine lv_aload_n hx hb dL_isRejected_0 rfl (lv_at hl 2 rfl) ?_
  refine lv_iconst (v := 0) hx hb dL_isRejected_1 (by decide) ?_
  refine lv_aload_n hx hb dL_isRejected_2 rfl (lv_at hl 0 rfl) ?_
  refine lv_iload_n hx hb dL_isRejected_3 rfl (lv_at hl 1 rfl) ?_
  have hFc := l_free (wc := bRO k o (qs 0) bf pa pn pk sv iz tr tx er fl li ll ac ci ch ++ bSt k qs qc qr ql lim sh sc fr ++ bClaims k qc n w ly t a fx) (wr := bL1 k out ou) hD hS hA
  refine va_calli (va_runV (As := [.int x]) (rest := [.int 0, .ref out]) hF (m_X12_isRejected l9 D k H.size o bf pa pn pk sv tr tx li ll ac ci ch iz er fl qs qc qr ql lim sh sc fr n w ly t a fx x hn hxn) (cwV 1 hts gL_isRejected_X12_isRejected rfl rfl rfl (by decide +kernel) ⟨Nat.le_of_ble_eq_true rfl, Nat.le_of_ble_eq_true rfl⟩) (l_preV hK hN (l_P1 (wr := bL1 k out ou) hP) (l_D1 (wr := bL1 k out ou) hD) (ci := 10) rfl rfl) rfl rfl hl.1 rfl (lv_room (Nat.le_of_ble_eq_true rfl)) dL_isRejected_4 ⟨Nat.zero_le _, Nat.zero_le _⟩) hS (fun q _ h => hFc q h) hFc (fun r u9 t9 H1 locs ht hvm hw hB hz1 hk1 hS => ?_)
  obtain ⟨hP, hD⟩ := l_join (wr := bL1 k out ou) hP hD hk1 hFc hB ht
  subst hw
  clear hB hk1 hz1 hvm hFc
  clear ht
  clear t9
  generalize H1 = H at hP hS ⊢
  refine lv_if_eq (tgt := 14) hx hb dL_isRejected_7 (by decide) (fun c_1 => ?_) (fun c_1 => ?_)
  · skip
    have c_1 : (tb (orS n t (accS n t a)) x.toNatClampNeg) = false := bI_0 c_1
    refine lv_lconst (v := 0) hx hb dL_isRejected_14 (by decide) ?_
    refine la_st hx hb hK hP hD hS 9 rfl 0 (by omega) (by decide) (bRO k o (qs 0) bf pa pn pk sv iz tr tx er fl li ll ac ci ch ++ bSt k qs qc qr ql lim sh sc fr ++ bClaims k qc n w ly t a fx ++ bL1 k out (vp_updL ou 0 0)) rfl dL_isRejected_15 (fun H locs hP hD hS => ?_)
    refine lv_goto (tgt := 22) hx hb dL_isRejected_16 (by decide) ?_
    refine lv_iconst (v := 0) hx hb dL_isRejected_22 (by decide) ?_
    have e_2 : (vp_updL ou 0 0 : Nat → Int64) = vp_updL ou 0 (if tb (orS n t (accS n t a)) x.toNatClampNeg = true then 1 else 0) := by first | (with_reducible rfl) | (first | (with_reducible exact rfl) | (rw [if_pos (by assumption)]; done) | (rw [if_neg (ne_true_of_eq_false (by assumption))]; done))
    have hP := Eq.mp (congrArg (fun z9 => va_P D vwCl (bRO k o (qs 0) bf pa pn pk sv iz tr tx er fl li ll ac ci ch ++ bSt k qs qc qr ql lim sh sc fr ++ bClaims k qc n w ly t a fx ++ bL1 k out z9) H) e_2) hP
    have hD := Eq.mp (congrArg (fun z9 => va_D A (bRO k o (qs 0) bf pa pn pk sv iz tr tx er fl li ll ac ci ch ++ bSt k qs qc qr ql lim sh sc fr ++ bClaims k qc n w ly t a fx ++ bL1 k out z9)) e_2) hD
    refine W.widen (k := 1) (n := 6) (Nat.le_of_ble_eq_true rfl) (Nat.le_of_ble_eq_true rfl) ?_
    exact W.iret (v := 0) hx hb hr (fun t9 ht hW => ⟨⟨_, (), rfl, (by first | (with_reducible exact rfl) | (rw [if_pos (by assumption)]; done) | (rw [if_neg (ne_true_of_eq_false (by assumption))]; done)), ⟨by rw [ht]; exact hP, va_K.moved hW.alike hK, hD⟩⟩, hS.F ht⟩) hS.2.2 dL_isRejected_23 hlocks
  · skip
    have c_1 : (tb (orS n t (accS n t a)) x.toNatClampNeg) = true := bI_1 c_1
    refine lv_lconst (v := 1) hx hb dL_isRejected_10 (by decide) ?_
    refine lv_goto (tgt := 15) hx hb dL_isRejected_11 (by decide) ?_
    refine la_st hx hb hK hP hD hS 9 rfl 0 (by omega) (by decide) (bRO k o (qs 0) bf pa pn pk sv iz tr tx er fl li ll ac ci ch ++ bSt k qs qc qr ql lim sh sc fr ++ bClaims k qc n w ly t a fx ++ bL1 k out (vp_updL ou 0 1)) rfl dL_isRejected_15 (fun H locs hP hD hS => ?_)
    refine lv_goto (tgt := 22) hx hb dL_isRejected_16 (by decide) ?_
    refine lv_iconst (v := 0) hx hb dL_isRejected_22 (by decide) ?_
    have e_3 : (vp_updL ou 0 1 : Nat → Int64) = vp_updL ou 0 (if tb (orS n t (accS n t a)) x.toNatClampNeg = true then 1 else 0) := by first | (with_reducible rfl) | (first | (with_reducible exact rfl) | (rw [if_pos (by assumption)]; done) | (rw [if_neg (ne_true_of_eq_false (by assumption))]; done))
    have hP := Eq.mp (congrArg (fun z9 => va_P D vwCl (bRO k o (qs 0) bf pa pn pk sv iz tr tx er fl li ll ac ci ch ++ bSt k qs qc qr ql lim sh sc fr ++ bClaims k qc n w ly t a fx ++ bL1 k out z9) H) e_3) hP
    have hD := Eq.mp (congrArg (fun z9 => va_D A (bRO k o (qs 0) bf pa pn pk sv iz tr tx er fl li ll ac ci ch ++ bSt k qs qc qr ql lim sh sc fr ++ bClaims k qc n w ly t a fx ++ bL1 k out z9)) e_3) hD
    refine W.widen (k := 1) (n := 6) (Nat.le_of_ble_eq_true rfl) (Nat.le_of_ble_eq_true rfl) ?_
    exact W.iret (v := 0) hx hb hr (fun t9 ht hW => ⟨⟨_, (), rfl, (by first | (with_reducible exact rfl) | (rw [if_pos (by assumption)]; done) | (rw [if_neg (ne_true_of_eq_false (by assumption))]; done)), ⟨by rw [ht]; exact hP, va_K.moved hW.alike hK, hD⟩⟩, hS.F ht⟩) hS.2.2 dL_isRejected_23 hlocks

set_option maxHeartbeats 4000000 in
set_option maxRecDepth 100000 in
theorem m_L_isRejected_1 (l9 : Launch) (hl9 : l9.stackTraces = false) (D : va_G) (k : Nat → ClassId) (ks kv kf : Nat → Nat) (ka kw : Nat) (sz : Nat) (o bf pa pn pk sv tr tx li ll ac ci ch : Nat) (iz : Bool) (er fl : Int32) (qs qc qr ql : Nat → Nat) (lim sh sc : Int32) (fr : Nat → UInt32) (n : Nat) (w ly t a : Nat → Int32) (fx : Nat → UInt32) (x : Int32) (out : Nat) (ou : Nat → Int64) (hxn : inC n x = false) : Met l9 yL_isRejected wsL_isRejected ({ frames := 8, cells := 1, slots := 6, locals := 124 }) (LPc ks kv kf ka kw D k [.ref o, .int x, .ref out] (bRO k o (qs 0) bf pa pn pk sv iz tr tx er fl li ll ac ci ch ++ bSt k qs qc qr ql lim sh sc fr ++ bClaims k qc n w ly t a fx ++ bL1 k out ou) sz) (WI D k (bRO k o (qs 0) bf pa pn pk sv iz tr tx er fl li ll ac ci ch ++ bSt k qs qc qr ql lim sh sc fr ++ bClaims k qc n w ly t a fx ++ bL1 k out ou) 1 (va_A (bRO k o (qs 0) bf pa pn pk sv iz tr tx er fl li ll ac ci ch ++ bSt k qs qc qr ql lim sh sc fr ++ bClaims k qc n w ly t a fx ++ bL1 k out ou) sz)) 1 6 (va_A (bRO k o (qs 0) bf pa pn pk sv iz tr tx er fl li ll ac ci ch ++ bSt k qs qc qr ql lim sh sc fr ++ bClaims k qc n w ly t a fx ++ bL1 k out ou) sz) := by
  refine lMet (y := yL_isRejected) (cc := cL_isRejected) (maxL := 4) (ret := (some .int)) (hh := [(0, 16, 19, 21)]) (Qc := fun A => WI D k (bRO k o (qs 0) bf pa pn pk sv iz tr tx er fl li ll ac ci ch ++ bSt k qs qc qr ql lim sh sc fr ++ bClaims k qc n w ly t a fx ++ bL1 k out ou) 1 A) [.ref o, .int x, .ref out] (by decide) rfl (Nat.le_of_ble_eq_true rfl) ?_
  intro p9 e9 s9 m9 bl9 me9 c9 ls A H hF hr hlocks htab hP hK hN hXN hNC hZ hKC hD hA hS hl
  have hl : lv_has ls 4 [(0, .ref o), (1, .int x), (2, .ref out)] := hl
  obtain ⟨hx, hb, hml, hown, hts⟩ := id hF
  refine lv_aload_n hx hb dL_isRejected_0 rfl (lv_at hl 2 rfl) ?_
  refine lv_iconst (v := 0) hx hb dL_isRejected_1 (by decide) ?_
  refine lv_aload_n hx hb dL_isRejected_2 rfl (lv_at hl 0 rfl) ?_
  refine lv_iload_n hx hb dL_isRejected_3 rfl (lv_at hl 1 rfl) ?_
  have hFc := l_free (wc := bRO k o (qs 0) bf pa pn pk sv iz tr tx er fl li ll ac ci ch ++ bSt k qs qc qr ql lim sh sc fr ++ bClaims k qc n w ly t a fx) (wr := bL1 k out ou) hD hS hA
  refine vx_calli (vx_runV (As := [.int x]) (rest := [.int 0, .ref out]) hF (x_X12_isRejected l9 hl9 D k H.size o bf pa pn pk sv tr tx li ll ac ci ch iz er fl qs qc qr ql lim sh sc fr n w ly t a fx x hxn) (cwV 1 hts gL_isRejected_X12_isRejected rfl rfl rfl (by decide +kernel) ⟨Nat.le_of_ble_eq_true rfl, Nat.le_of_ble_eq_true rfl⟩) (l_preX hK hN hXN hZ hS hFc (l_P1 (wr := bL1 k out ou) hP) (l_D1 (wr := bL1 k out ou) hD) (ci := 10) rfl rfl) rfl rfl hl.1 rfl (lv_room (Nat.le_of_ble_eq_true rfl)) dL_isRejected_4 ⟨Nat.le_of_ble_eq_true rfl, Nat.le_of_ble_eq_true rfl⟩) hS (fun q _ h => hFc q h) hFc (fun q _ h => hFc q h) (fun E9 ce9 q9 u9 t9 H1 locs ht hvm _ hbx hz1 hk1 hS hce hcv hcl => ?_) (fun r u9 t9 H1 locs _ _ hp _ _ _ _ => hp.elim)
  obtain ⟨rfl, hbx⟩ := hbx
  obtain ⟨hP, hD⟩ := l_join (u := ()) (wr := bL1 k out ou) hP hD hk1 hFc hbx ht
  refine vx_catch (own := RL) (name := "java/lang/IndexOutOfBoundsException") (E := "java/lang/IndexOutOfBoundsException") hown [] ⟨0, 16, 19, 21⟩ [] (htab.trans rfl) (fun z hz => by simp only [List.not_mem_nil] at hz) rfl (by decide) (hts (.classLink RL 21 "java/lang/IndexOutOfBoundsException") (by decide +kernel)) (va_Nw.use (xnL_tables (.castable "java/lang/IndexOutOfBoundsException" "java/lang/IndexOutOfBoundsException") (by decide)) (hXN.1 (.castable "java/lang/IndexOutOfBoundsException" "java/lang/IndexOutOfBoundsException") (by decide))) hce hcv hcl ?_
  clear hbx hk1 hz1 hvm hFc hce hcv hcl ht
  clear t9
  generalize H1 = H at hP hS ⊢
  refine W.eq (g2 := F0 m9 19 ls [.ref q9]) rfl ?_
  refine lv_astore_n (lv' := [(3, .ref q9), (0, .ref o), (1, .int x), (2, .ref out)]) hx hb dL_isRejected_19 rfl hl (by decide) rfl (fun ls hl => ?_)
  refine lv_iconst (v := 1) hx hb dL_isRejected_20 (by decide) ?_
  refine W.widen (k := 1) (n := 6) (Nat.le_of_ble_eq_true rfl) (Nat.le_of_ble_eq_true rfl) ?_
  exact W.iret (v := 1) hx hb hr (fun t9 ht hW => ⟨⟨_, (), rfl, (by first | (with_reducible exact rfl) | (rw [if_pos (by assumption)]; done) | (rw [if_neg (ne_true_of_eq_false (by assumption))]; done)), ⟨by rw [ht]; exact hP, va_K.moved hW.alike hK, hD⟩⟩, hS.F ht⟩) hS.2.2 dL_isRejected_21 hlocks

set_option maxHeartbeats 4000000 in
set_option maxRecDepth 100000 in
theorem m_L_circleSize_ok (l9 : Launch) (hl9 : l9.stackTraces = false) (D : va_G) (k : Nat → ClassId) (ks kv kf : Nat → Nat) (ka kw : Nat) (sz : Nat) (o bf pa pn pk sv tr tx li ll ac ci ch : Nat) (iz : Bool) (er fl : Int32) (qs qc qr ql : Nat → Nat) (lim sh sc : Int32) (fr : Nat → UInt32) (n : Nat) (w ly t a : Nat → Int32) (fx : Nat → UInt32) (x : Int32) (out : Nat) (ou : Nat → Int64) (hn : n ≤ 10) (hxn : inC n x = true) (hlw : lowB (arS n t a x.toNatClampNeg)) : Met l9 yL_circleSize wsL_circleSize ({ frames := 5, cells := 1, slots := 6, locals := 112 }) (LPc ks kv kf ka kw D k [.ref o, .int x, .ref out] (bRO k o (qs 0) bf pa pn pk sv iz tr tx er fl li ll ac ci ch ++ bSt k qs qc qr ql lim sh sc fr ++ bClaims k qc n w ly t a fx ++ bL1 k out ou) sz) (WI D k (bRO k o (qs 0) bf pa pn pk sv iz tr tx er fl li ll ac ci ch ++ bSt k qs qc qr ql lim sh sc fr ++ bClaims k qc n w ly t a fx ++ bL1 k out (vp_updL ou 0 ((nI (cn 10 (arS n t a x.toNatClampNeg))).toInt64))) 0 (va_A (bRO k o (qs 0) bf pa pn pk sv iz tr tx er fl li ll ac ci ch ++ bSt k qs qc qr ql lim sh sc fr ++ bClaims k qc n w ly t a fx ++ bL1 k out ou) sz)) 1 6 (va_A (bRO k o (qs 0) bf pa pn pk sv iz tr tx er fl li ll ac ci ch ++ bSt k qs qc qr ql lim sh sc fr ++ bClaims k qc n w ly t a fx ++ bL1 k out ou) sz) := by
  refine lMet (y := yL_circleSize) (cc := cL_circleSize) (maxL := 4) (ret := (some .int)) (hh := [(0, 9, 12, 21)]) (Qc := fun A => WI D k (bRO k o (qs 0) bf pa pn pk sv iz tr tx er fl li ll ac ci ch ++ bSt k qs qc qr ql lim sh sc fr ++ bClaims k qc n w ly t a fx ++ bL1 k out (vp_updL ou 0 ((nI (cn 10 (arS n t a x.toNatClampNeg))).toInt64))) 0 A) [.ref o, .int x, .ref out] (by decide) rfl (Nat.le_of_ble_eq_true rfl) ?_
  intro p9 e9 s9 m9 bl9 me9 c9 ls A H hF hr hlocks htab hP hK hN hXN hNC hZ hKC hD hA hS hl
  have hl : lv_has ls 4 [(0, .ref o), (1, .int x), (2, .ref out)] := hl
  obtain ⟨hx, hb, hml, hown, hts⟩ := id hF
  refine lv_aload_n hx hb dL_circleSize_0 rfl (lv_at hl 2 rfl) ?_
  refine lv_iconst (v := 0) hx hb dL_circleSize_1 (by decide) ?_
  refine lv_aload_n hx hb dL_circleSize_2 rfl (lv_at hl 0 rfl) ?_
  refine lv_iload_n hx hb dL_circleSize_3 rfl (lv_at hl 1 rfl) ?_
  have hFc := l_free (wc := bRO k o (qs 0) bf pa pn pk sv iz tr tx er fl li ll ac ci ch ++ bSt k qs qc qr ql lim sh sc fr ++ bClaims k qc n w ly t a fx) (wr := bL1 k out ou) hD hS hA
  refine va_calli (va_runV (As := [.int x]) (rest := [.int 0, .ref out]) hF (m_X12_circleSize l9 D k H.size o bf pa pn pk sv tr tx li ll ac ci ch iz er fl qs qc qr ql lim sh sc fr n w ly t a fx x hn hxn hlw) (cwV 1 hts gL_circleSize_X12_circleSize rfl rfl rfl (by decide +kernel) ⟨Nat.le_of_ble_eq_true rfl, Nat.le_of_ble_eq_true rfl⟩) (l_preV hK hN (l_P1 (wr := bL1 k out ou) hP) (l_D1 (wr := bL1 k out ou) hD) (ci := 10) rfl rfl) rfl rfl hl.1 rfl (lv_room (Nat.le_of_ble_eq_true rfl)) dL_circleSize_4 ⟨Nat.zero_le _, Nat.zero_le _⟩) hS (fun q _ h => hFc q h) hFc (fun r u9 t9 H1 locs ht hvm hw hB hz1 hk1 hS => ?_)
  obtain ⟨hP, hD⟩ := l_join (wr := bL1 k out ou) hP hD hk1 hFc hB ht
  subst hw
  clear hB hk1 hz1 hvm hFc
  clear ht
  clear t9
  generalize H1 = H at hP hS ⊢
  refine lv_i2l hx hb dL_circleSize_7 rfl ?_
  refine la_st hx hb hK hP hD hS 9 rfl 0 (by omega) (by decide) (bRO k o (qs 0) bf pa pn pk sv iz tr tx er fl li ll ac ci ch ++ bSt k qs qc qr ql lim sh sc fr ++ bClaims k qc n w ly t a fx ++ bL1 k out (vp_updL ou 0 ((nI (cn 10 (arS n t a x.toNatClampNeg))).toInt64))) rfl dL_circleSize_8 (fun H locs hP hD hS => ?_)
  refine lv_goto (tgt := 15) hx hb dL_circleSize_9 (by decide) ?_
  refine lv_iconst (v := 0) hx hb dL_circleSize_15 (by decide) ?_
  refine W.widen (k := 1) (n := 6) (Nat.le_of_ble_eq_true rfl) (Nat.le_of_ble_eq_true rfl) ?_
  exact W.iret (v := 0) hx hb hr (fun t9 ht hW => ⟨⟨_, (), rfl, (by first | (with_reducible exact rfl) | (rw [if_pos (by assumption)]; done) | (rw [if_neg (ne_true_of_eq_false (by assumption))]; done)), ⟨by rw [ht]; exact hP, va_K.moved hW.alike hK, hD⟩⟩, hS.F ht⟩) hS.2.2 dL_circleSize_16 hlocks

set_option maxHeartbeats 4000000 in
set_option maxRecDepth 100000 in
theorem m_L_circleSize_1 (l9 : Launch) (hl9 : l9.stackTraces = false) (D : va_G) (k : Nat → ClassId) (ks kv kf : Nat → Nat) (ka kw : Nat) (sz : Nat) (o bf pa pn pk sv tr tx li ll ac ci ch : Nat) (iz : Bool) (er fl : Int32) (qs qc qr ql : Nat → Nat) (lim sh sc : Int32) (fr : Nat → UInt32) (n : Nat) (w ly t a : Nat → Int32) (fx : Nat → UInt32) (x : Int32) (out : Nat) (ou : Nat → Int64) (hxn : inC n x = false) : Met l9 yL_circleSize wsL_circleSize ({ frames := 8, cells := 1, slots := 6, locals := 124 }) (LPc ks kv kf ka kw D k [.ref o, .int x, .ref out] (bRO k o (qs 0) bf pa pn pk sv iz tr tx er fl li ll ac ci ch ++ bSt k qs qc qr ql lim sh sc fr ++ bClaims k qc n w ly t a fx ++ bL1 k out ou) sz) (WI D k (bRO k o (qs 0) bf pa pn pk sv iz tr tx er fl li ll ac ci ch ++ bSt k qs qc qr ql lim sh sc fr ++ bClaims k qc n w ly t a fx ++ bL1 k out ou) 1 (va_A (bRO k o (qs 0) bf pa pn pk sv iz tr tx er fl li ll ac ci ch ++ bSt k qs qc qr ql lim sh sc fr ++ bClaims k qc n w ly t a fx ++ bL1 k out ou) sz)) 1 6 (va_A (bRO k o (qs 0) bf pa pn pk sv iz tr tx er fl li ll ac ci ch ++ bSt k qs qc qr ql lim sh sc fr ++ bClaims k qc n w ly t a fx ++ bL1 k out ou) sz) := by
  refine lMet (y := yL_circleSize) (cc := cL_circleSize) (maxL := 4) (ret := (some .int)) (hh := [(0, 9, 12, 21)]) (Qc := fun A => WI D k (bRO k o (qs 0) bf pa pn pk sv iz tr tx er fl li ll ac ci ch ++ bSt k qs qc qr ql lim sh sc fr ++ bClaims k qc n w ly t a fx ++ bL1 k out ou) 1 A) [.ref o, .int x, .ref out] (by decide) rfl (Nat.le_of_ble_eq_true rfl) ?_
  intro p9 e9 s9 m9 bl9 me9 c9 ls A H hF hr hlocks htab hP hK hN hXN hNC hZ hKC hD hA hS hl
  have hl : lv_has ls 4 [(0, .ref o), (1, .int x), (2, .ref out)] := hl
  obtain ⟨hx, hb, hml, hown, hts⟩ := id hF
  refine lv_aload_n hx hb dL_circleSize_0 rfl (lv_at hl 2 rfl) ?_
  refine lv_iconst (v := 0) hx hb dL_circleSize_1 (by decide) ?_
  refine lv_aload_n hx hb dL_circleSize_2 rfl (lv_at hl 0 rfl) ?_
  refine lv_iload_n hx hb dL_circleSize_3 rfl (lv_at hl 1 rfl) ?_
  have hFc := l_free (wc := bRO k o (qs 0) bf pa pn pk sv iz tr tx er fl li ll ac ci ch ++ bSt k qs qc qr ql lim sh sc fr ++ bClaims k qc n w ly t a fx) (wr := bL1 k out ou) hD hS hA
  refine vx_calli (vx_runV (As := [.int x]) (rest := [.int 0, .ref out]) hF (x_X12_circleSize l9 hl9 D k H.size o bf pa pn pk sv tr tx li ll ac ci ch iz er fl qs qc qr ql lim sh sc fr n w ly t a fx x hxn) (cwV 1 hts gL_circleSize_X12_circleSize rfl rfl rfl (by decide +kernel) ⟨Nat.le_of_ble_eq_true rfl, Nat.le_of_ble_eq_true rfl⟩) (l_preX hK hN hXN hZ hS hFc (l_P1 (wr := bL1 k out ou) hP) (l_D1 (wr := bL1 k out ou) hD) (ci := 10) rfl rfl) rfl rfl hl.1 rfl (lv_room (Nat.le_of_ble_eq_true rfl)) dL_circleSize_4 ⟨Nat.le_of_ble_eq_true rfl, Nat.le_of_ble_eq_true rfl⟩) hS (fun q _ h => hFc q h) hFc (fun q _ h => hFc q h) (fun E9 ce9 q9 u9 t9 H1 locs ht hvm _ hbx hz1 hk1 hS hce hcv hcl => ?_) (fun r u9 t9 H1 locs _ _ hp _ _ _ _ => hp.elim)
  obtain ⟨rfl, hbx⟩ := hbx
  obtain ⟨hP, hD⟩ := l_join (u := ()) (wr := bL1 k out ou) hP hD hk1 hFc hbx ht
  refine vx_catch (own := RL) (name := "java/lang/IndexOutOfBoundsException") (E := "java/lang/IndexOutOfBoundsException") hown [] ⟨0, 9, 12, 21⟩ [] (htab.trans rfl) (fun z hz => by simp only [List.not_mem_nil] at hz) rfl (by decide) (hts (.classLink RL 21 "java/lang/IndexOutOfBoundsException") (by decide +kernel)) (va_Nw.use (xnL_tables (.castable "java/lang/IndexOutOfBoundsException" "java/lang/IndexOutOfBoundsException") (by decide)) (hXN.1 (.castable "java/lang/IndexOutOfBoundsException" "java/lang/IndexOutOfBoundsException") (by decide))) hce hcv hcl ?_
  clear hbx hk1 hz1 hvm hFc hce hcv hcl ht
  clear t9
  generalize H1 = H at hP hS ⊢
  refine W.eq (g2 := F0 m9 12 ls [.ref q9]) rfl ?_
  refine lv_astore_n (lv' := [(3, .ref q9), (0, .ref o), (1, .int x), (2, .ref out)]) hx hb dL_circleSize_12 rfl hl (by decide) rfl (fun ls hl => ?_)
  refine lv_iconst (v := 1) hx hb dL_circleSize_13 (by decide) ?_
  refine W.widen (k := 1) (n := 6) (Nat.le_of_ble_eq_true rfl) (Nat.le_of_ble_eq_true rfl) ?_
  exact W.iret (v := 1) hx hb hr (fun t9 ht hW => ⟨⟨_, (), rfl, (by first | (with_reducible exact rfl) | (rw [if_pos (by assumption)]; done) | (rw [if_neg (ne_true_of_eq_false (by assumption))]; done)), ⟨by rw [ht]; exact hP, va_K.moved hW.alike hK, hD⟩⟩, hS.F ht⟩) hS.2.2 dL_circleSize_14 hlocks

set_option maxHeartbeats 4000000 in
set_option maxRecDepth 100000 in
theorem m_L_fluxBits_ok (l9 : Launch) (hl9 : l9.stackTraces = false) (D : va_G) (k : Nat → ClassId) (ks kv kf : Nat → Nat) (ka kw : Nat) (sz : Nat) (o bf pa pn pk sv tr tx li ll ac ci ch : Nat) (iz : Bool) (er fl : Int32) (qs qc qr ql : Nat → Nat) (lim sh sc : Int32) (fr : Nat → UInt32) (n : Nat) (w ly t a : Nat → Int32) (fx : Nat → UInt32) (x : Int32) (out : Nat) (ou : Nat → Int64) (hn : n ≤ 10) (hf : ∀ c, c < n → okF (fx c)) (hxn : inC n x = true) : Met l9 yL_fluxBits wsL_fluxBits ({ frames := 4, cells := 1, slots := 6, locals := 84 }) (LPc ks kv kf ka kw D k [.ref o, .int x, .ref out] (bRO k o (qs 0) bf pa pn pk sv iz tr tx er fl li ll ac ci ch ++ bSt k qs qc qr ql lim sh sc fr ++ bClaims k qc n w ly t a fx ++ bL1 k out ou) sz) (WI D k (bRO k o (qs 0) bf pa pn pk sv iz tr tx er fl li ll ac ci ch ++ bSt k qs qc qr ql lim sh sc fr ++ bClaims k qc n w ly t a fx ++ bL1 k out (vp_updL ou 0 ((bfS (fx x.toNatClampNeg)).toInt64))) 0 (va_A (bRO k o (qs 0) bf pa pn pk sv iz tr tx er fl li ll ac ci ch ++ bSt k qs qc qr ql lim sh sc fr ++ bClaims k qc n w ly t a fx ++ bL1 k out ou) sz)) 1 6 (va_A (bRO k o (qs 0) bf pa pn pk sv iz tr tx er fl li ll ac ci ch ++ bSt k qs qc qr ql lim sh sc fr ++ bClaims k qc n w ly t a fx ++ bL1 k out ou) sz) := by
  refine lMet (y := yL_fluxBits) (cc := cL_fluxBits) (maxL := 4) (ret := (some .int)) (hh := [(0, 9, 12, 21)]) (Qc := fun A => WI D k (bRO k o (qs 0) bf pa pn pk sv iz tr tx er fl li ll ac ci ch ++ bSt k qs qc qr ql lim sh sc fr ++ bClaims k qc n w ly t a fx ++ bL1 k out (vp_updL ou 0 ((bfS (fx x.toNatClampNeg)).toInt64))) 0 A) [.ref o, .int x, .ref out] (by decide) rfl (Nat.le_of_ble_eq_true rfl) ?_
  intro p9 e9 s9 m9 bl9 me9 c9 ls A H hF hr hlocks htab hP hK hN hXN hNC hZ hKC hD hA hS hl
  have hl : lv_has ls 4 [(0, .ref o), (1, .int x), (2, .ref out)] := hl
  obtain ⟨hx, hb, hml, hown, hts⟩ := id hF
  refine lv_aload_n hx hb dL_fluxBits_0 rfl (lv_at hl 2 rfl) ?_
  refine lv_iconst (v := 0) hx hb dL_fluxBits_1 (by decide) ?_
  refine lv_aload_n hx hb dL_fluxBits_2 rfl (lv_at hl 0 rfl) ?_
  refine lv_iload_n hx hb dL_fluxBits_3 rfl (lv_at hl 1 rfl) ?_
  have hFc := l_free (wc := bRO k o (qs 0) bf pa pn pk sv iz tr tx er fl li ll ac ci ch ++ bSt k qs qc qr ql lim sh sc fr ++ bClaims k qc n w ly t a fx) (wr := bL1 k out ou) hD hS hA
  refine va_calli (va_runV (As := [.int x]) (rest := [.int 0, .ref out]) hF (m_X12_fluxBits l9 D k H.size o bf pa pn pk sv tr tx li ll ac ci ch iz er fl qs qc qr ql lim sh sc fr n w ly t a fx x hn hf hxn) (cwV 1 hts gL_fluxBits_X12_fluxBits rfl rfl rfl (by decide +kernel) ⟨Nat.le_of_ble_eq_true rfl, Nat.le_of_ble_eq_true rfl⟩) (l_preV hK hN (l_P1 (wr := bL1 k out ou) hP) (l_D1 (wr := bL1 k out ou) hD) (ci := 10) rfl rfl) rfl rfl hl.1 rfl (lv_room (Nat.le_of_ble_eq_true rfl)) dL_fluxBits_4 ⟨Nat.zero_le _, Nat.zero_le _⟩) hS (fun q _ h => hFc q h) hFc (fun r u9 t9 H1 locs ht hvm hw hB hz1 hk1 hS => ?_)
  obtain ⟨hP, hD⟩ := l_join (wr := bL1 k out ou) hP hD hk1 hFc hB ht
  subst hw
  clear hB hk1 hz1 hvm hFc
  clear ht
  clear t9
  generalize H1 = H at hP hS ⊢
  refine lv_i2l hx hb dL_fluxBits_7 rfl ?_
  refine la_st hx hb hK hP hD hS 9 rfl 0 (by omega) (by decide) (bRO k o (qs 0) bf pa pn pk sv iz tr tx er fl li ll ac ci ch ++ bSt k qs qc qr ql lim sh sc fr ++ bClaims k qc n w ly t a fx ++ bL1 k out (vp_updL ou 0 ((bfS (fx x.toNatClampNeg)).toInt64))) rfl dL_fluxBits_8 (fun H locs hP hD hS => ?_)
  refine lv_goto (tgt := 15) hx hb dL_fluxBits_9 (by decide) ?_
  refine lv_iconst (v := 0) hx hb dL_fluxBits_15 (by decide) ?_
  refine W.widen (k := 1) (n := 6) (Nat.le_of_ble_eq_true rfl) (Nat.le_of_ble_eq_true rfl) ?_
  exact W.iret (v := 0) hx hb hr (fun t9 ht hW => ⟨⟨_, (), rfl, (by first | (with_reducible exact rfl) | (rw [if_pos (by assumption)]; done) | (rw [if_neg (ne_true_of_eq_false (by assumption))]; done)), ⟨by rw [ht]; exact hP, va_K.moved hW.alike hK, hD⟩⟩, hS.F ht⟩) hS.2.2 dL_fluxBits_16 hlocks

set_option maxHeartbeats 4000000 in
set_option maxRecDepth 100000 in
theorem m_L_fluxBits_1 (l9 : Launch) (hl9 : l9.stackTraces = false) (D : va_G) (k : Nat → ClassId) (ks kv kf : Nat → Nat) (ka kw : Nat) (sz : Nat) (o bf pa pn pk sv tr tx li ll ac ci ch : Nat) (iz : Bool) (er fl : Int32) (qs qc qr ql : Nat → Nat) (lim sh sc : Int32) (fr : Nat → UInt32) (n : Nat) (w ly t a : Nat → Int32) (fx : Nat → UInt32) (x : Int32) (out : Nat) (ou : Nat → Int64) (hxn : inC n x = false) : Met l9 yL_fluxBits wsL_fluxBits ({ frames := 9, cells := 1, slots := 6, locals := 145 }) (LPc ks kv kf ka kw D k [.ref o, .int x, .ref out] (bRO k o (qs 0) bf pa pn pk sv iz tr tx er fl li ll ac ci ch ++ bSt k qs qc qr ql lim sh sc fr ++ bClaims k qc n w ly t a fx ++ bL1 k out ou) sz) (WI D k (bRO k o (qs 0) bf pa pn pk sv iz tr tx er fl li ll ac ci ch ++ bSt k qs qc qr ql lim sh sc fr ++ bClaims k qc n w ly t a fx ++ bL1 k out ou) 1 (va_A (bRO k o (qs 0) bf pa pn pk sv iz tr tx er fl li ll ac ci ch ++ bSt k qs qc qr ql lim sh sc fr ++ bClaims k qc n w ly t a fx ++ bL1 k out ou) sz)) 1 6 (va_A (bRO k o (qs 0) bf pa pn pk sv iz tr tx er fl li ll ac ci ch ++ bSt k qs qc qr ql lim sh sc fr ++ bClaims k qc n w ly t a fx ++ bL1 k out ou) sz) := by
  refine lMet (y := yL_fluxBits) (cc := cL_fluxBits) (maxL := 4) (ret := (some .int)) (hh := [(0, 9, 12, 21)]) (Qc := fun A => WI D k (bRO k o (qs 0) bf pa pn pk sv iz tr tx er fl li ll ac ci ch ++ bSt k qs qc qr ql lim sh sc fr ++ bClaims k qc n w ly t a fx ++ bL1 k out ou) 1 A) [.ref o, .int x, .ref out] (by decide) rfl (Nat.le_of_ble_eq_true rfl) ?_
  intro p9 e9 s9 m9 bl9 me9 c9 ls A H hF hr hlocks htab hP hK hN hXN hNC hZ hKC hD hA hS hl
  have hl : lv_has ls 4 [(0, .ref o), (1, .int x), (2, .ref out)] := hl
  obtain ⟨hx, hb, hml, hown, hts⟩ := id hF
  refine lv_aload_n hx hb dL_fluxBits_0 rfl (lv_at hl 2 rfl) ?_
  refine lv_iconst (v := 0) hx hb dL_fluxBits_1 (by decide) ?_
  refine lv_aload_n hx hb dL_fluxBits_2 rfl (lv_at hl 0 rfl) ?_
  refine lv_iload_n hx hb dL_fluxBits_3 rfl (lv_at hl 1 rfl) ?_
  have hFc := l_free (wc := bRO k o (qs 0) bf pa pn pk sv iz tr tx er fl li ll ac ci ch ++ bSt k qs qc qr ql lim sh sc fr ++ bClaims k qc n w ly t a fx) (wr := bL1 k out ou) hD hS hA
  refine vx_calli (vx_runV (As := [.int x]) (rest := [.int 0, .ref out]) hF (x_X12_fluxBits l9 hl9 D k H.size o bf pa pn pk sv tr tx li ll ac ci ch iz er fl qs qc qr ql lim sh sc fr n w ly t a fx x hxn) (cwV 1 hts gL_fluxBits_X12_fluxBits rfl rfl rfl (by decide +kernel) ⟨Nat.le_of_ble_eq_true rfl, Nat.le_of_ble_eq_true rfl⟩) (l_preX hK hN hXN hZ hS hFc (l_P1 (wr := bL1 k out ou) hP) (l_D1 (wr := bL1 k out ou) hD) (ci := 10) rfl rfl) rfl rfl hl.1 rfl (lv_room (Nat.le_of_ble_eq_true rfl)) dL_fluxBits_4 ⟨Nat.le_of_ble_eq_true rfl, Nat.le_of_ble_eq_true rfl⟩) hS (fun q _ h => hFc q h) hFc (fun q _ h => hFc q h) (fun E9 ce9 q9 u9 t9 H1 locs ht hvm _ hbx hz1 hk1 hS hce hcv hcl => ?_) (fun r u9 t9 H1 locs _ _ hp _ _ _ _ => hp.elim)
  obtain ⟨rfl, hbx⟩ := hbx
  obtain ⟨hP, hD⟩ := l_join (u := ()) (wr := bL1 k out ou) hP hD hk1 hFc hbx ht
  refine vx_catch (own := RL) (name := "java/lang/IndexOutOfBoundsException") (E := "java/lang/IndexOutOfBoundsException") hown [] ⟨0, 9, 12, 21⟩ [] (htab.trans rfl) (fun z hz => by simp only [List.not_mem_nil] at hz) rfl (by decide) (hts (.classLink RL 21 "java/lang/IndexOutOfBoundsException") (by decide +kernel)) (va_Nw.use (xnL_tables (.castable "java/lang/IndexOutOfBoundsException" "java/lang/IndexOutOfBoundsException") (by decide)) (hXN.1 (.castable "java/lang/IndexOutOfBoundsException" "java/lang/IndexOutOfBoundsException") (by decide))) hce hcv hcl ?_
  clear hbx hk1 hz1 hvm hFc hce hcv hcl ht
  clear t9
  generalize H1 = H at hP hS ⊢
  refine W.eq (g2 := F0 m9 12 ls [.ref q9]) rfl ?_
  refine lv_astore_n (lv' := [(3, .ref q9), (0, .ref o), (1, .int x), (2, .ref out)]) hx hb dL_fluxBits_12 rfl hl (by decide) rfl (fun ls hl => ?_)
  refine lv_iconst (v := 1) hx hb dL_fluxBits_13 (by decide) ?_
  refine W.widen (k := 1) (n := 6) (Nat.le_of_ble_eq_true rfl) (Nat.le_of_ble_eq_true rfl) ?_
  exact W.iret (v := 1) hx hb hr (fun t9 ht hW => ⟨⟨_, (), rfl, (by first | (with_reducible exact rfl) | (rw [if_pos (by assumption)]; done) | (rw [if_neg (ne_true_of_eq_false (by assumption))]; done)), ⟨by rw [ht]; exact hP, va_K.moved hW.alike hK, hD⟩⟩, hS.F ht⟩) hS.2.2 dL_fluxBits_14 hlocks

set_option maxHeartbeats 4000000 in
set_option maxRecDepth 100000 in
theorem m_L_describeClaim_ok (l9 : Launch) (hl9 : l9.stackTraces = false) (D : va_G) (k : Nat → ClassId) (ks kv kf : Nat → Nat) (ka kw : Nat) (sz : Nat) (o bf pa pn pk sv tr tx li ll ac ci ch : Nat) (iz : Bool) (er fl : Int32) (qs qc qr ql : Nat → Nat) (lim sh sc : Int32) (fr : Nat → UInt32) (n : Nat) (w ly t a : Nat → Int32) (fx : Nat → UInt32) (x : Int32) (le : Nat → Int32) (out : Nat) (ou : Nat → Int64) (hn : n ≤ 10) (hxn : inC n x = true) : Met l9 yL_describeClaim wsL_describeClaim ({ frames := 8, cells := 1, slots := 6, locals := 174 }) (LPc ks kv kf ka kw D k [.ref o, .int x, .ref out] (bRO k o (qs 0) bf pa pn pk sv iz tr tx er fl li ll ac ci ch ++ bSt k qs qc qr ql lim sh sc fr ++ bClaims k qc n w ly t a fx ++ bC19 k li le ++ bL1 k out ou) sz) (WI D k (bRO k o (qs 0) bf pa pn pk sv iz tr tx er fl li ((dcC n t a le x.toNatClampNeg n).2) ac ci ch ++ bSt k qs qc qr ql lim sh sc fr ++ bClaims k qc n w ly t a fx ++ bC19 k li ((dcC n t a le x.toNatClampNeg n).1) ++ bL1 k out (vp_updL ou 0 ((nI (dcC n t a le x.toNatClampNeg n).2).toInt64))) 0 (va_A (bRO k o (qs 0) bf pa pn pk sv iz tr tx er fl li ll ac ci ch ++ bSt k qs qc qr ql lim sh sc fr ++ bClaims k qc n w ly t a fx ++ bC19 k li le ++ bL1 k out ou) sz)) 1 6 (va_A (bRO k o (qs 0) bf pa pn pk sv iz tr tx er fl li ll ac ci ch ++ bSt k qs qc qr ql lim sh sc fr ++ bClaims k qc n w ly t a fx ++ bC19 k li le ++ bL1 k out ou) sz) := by
  refine lMet (y := yL_describeClaim) (cc := cL_describeClaim) (maxL := 4) (ret := (some .int)) (hh := [(0, 9, 12, 21)]) (Qc := fun A => WI D k (bRO k o (qs 0) bf pa pn pk sv iz tr tx er fl li ((dcC n t a le x.toNatClampNeg n).2) ac ci ch ++ bSt k qs qc qr ql lim sh sc fr ++ bClaims k qc n w ly t a fx ++ bC19 k li ((dcC n t a le x.toNatClampNeg n).1) ++ bL1 k out (vp_updL ou 0 ((nI (dcC n t a le x.toNatClampNeg n).2).toInt64))) 0 A) [.ref o, .int x, .ref out] (by decide) rfl (Nat.le_of_ble_eq_true rfl) ?_
  intro p9 e9 s9 m9 bl9 me9 c9 ls A H hF hr hlocks htab hP hK hN hXN hNC hZ hKC hD hA hS hl
  have hl : lv_has ls 4 [(0, .ref o), (1, .int x), (2, .ref out)] := hl
  obtain ⟨hx, hb, hml, hown, hts⟩ := id hF
  refine lv_aload_n hx hb dL_describeClaim_0 rfl (lv_at hl 2 rfl) ?_
  refine lv_iconst (v := 0) hx hb dL_describeClaim_1 (by decide) ?_
  refine lv_aload_n hx hb dL_describeClaim_2 rfl (lv_at hl 0 rfl) ?_
  refine lv_iload_n hx hb dL_describeClaim_3 rfl (lv_at hl 1 rfl) ?_
  have hFc := l_free (wc := bRO k o (qs 0) bf pa pn pk sv iz tr tx er fl li ll ac ci ch ++ bSt k qs qc qr ql lim sh sc fr ++ bClaims k qc n w ly t a fx ++ bC19 k li le) (wr := bL1 k out ou) hD hS hA
  refine va_calli (va_runV (As := [.int x]) (rest := [.int 0, .ref out]) hF (m_X12_describeClaim l9 D k H.size o bf pa pn pk sv tr tx li ll ac ci ch iz er fl qs qc qr ql lim sh sc fr n w ly t a fx x le hn hxn) (cwV 1 hts gL_describeClaim_X12_describeClaim rfl rfl rfl (by decide +kernel) ⟨Nat.le_of_ble_eq_true rfl, Nat.le_of_ble_eq_true rfl⟩) (l_preV hK hN (l_P1 (wr := bL1 k out ou) hP) (l_D1 (wr := bL1 k out ou) hD) (ci := 10) rfl rfl) rfl rfl hl.1 rfl (lv_room (Nat.le_of_ble_eq_true rfl)) dL_describeClaim_4 ⟨Nat.zero_le _, Nat.zero_le _⟩) hS (fun q _ h => hFc q h) hFc (fun r u9 t9 H1 locs ht hvm hw hB hz1 hk1 hS => ?_)
  obtain ⟨hP, hD⟩ := l_join (wr := bL1 k out ou) hP hD hk1 hFc hB ht
  subst hw
  clear hB hk1 hz1 hvm hFc
  clear ht
  clear t9
  generalize H1 = H at hP hS ⊢
  refine lv_i2l hx hb dL_describeClaim_7 rfl ?_
  refine la_st hx hb hK hP hD hS 10 rfl 0 (by omega) (by decide) (bRO k o (qs 0) bf pa pn pk sv iz tr tx er fl li ((dcC n t a le x.toNatClampNeg n).2) ac ci ch ++ bSt k qs qc qr ql lim sh sc fr ++ bClaims k qc n w ly t a fx ++ bC19 k li ((dcC n t a le x.toNatClampNeg n).1) ++ bL1 k out (vp_updL ou 0 ((nI (dcC n t a le x.toNatClampNeg n).2).toInt64))) rfl dL_describeClaim_8 (fun H locs hP hD hS => ?_)
  refine lv_goto (tgt := 15) hx hb dL_describeClaim_9 (by decide) ?_
  refine lv_iconst (v := 0) hx hb dL_describeClaim_15 (by decide) ?_
  refine W.widen (k := 1) (n := 6) (Nat.le_of_ble_eq_true rfl) (Nat.le_of_ble_eq_true rfl) ?_
  exact W.iret (v := 0) hx hb hr (fun t9 ht hW => ⟨⟨_, (), rfl, (by first | (with_reducible exact rfl) | (rw [if_pos (by assumption)]; done) | (rw [if_neg (ne_true_of_eq_false (by assumption))]; done)), ⟨by rw [ht]; exact hP, va_K.moved hW.alike hK, hD⟩⟩, hS.F ht⟩) hS.2.2 dL_describeClaim_16 hlocks

set_option maxHeartbeats 4000000 in
set_option maxRecDepth 100000 in
theorem m_L_describeClaim_1 (l9 : Launch) (hl9 : l9.stackTraces = false) (D : va_G) (k : Nat → ClassId) (ks kv kf : Nat → Nat) (ka kw : Nat) (sz : Nat) (o bf pa pn pk sv tr tx li ll ac ci ch : Nat) (iz : Bool) (er fl : Int32) (qs qc qr ql : Nat → Nat) (lim sh sc : Int32) (fr : Nat → UInt32) (n : Nat) (w ly t a : Nat → Int32) (fx : Nat → UInt32) (x : Int32) (out : Nat) (ou : Nat → Int64) (hxn : inC n x = false) : Met l9 yL_describeClaim wsL_describeClaim ({ frames := 8, cells := 1, slots := 6, locals := 125 }) (LPc ks kv kf ka kw D k [.ref o, .int x, .ref out] (bRO k o (qs 0) bf pa pn pk sv iz tr tx er fl li ll ac ci ch ++ bSt k qs qc qr ql lim sh sc fr ++ bClaims k qc n w ly t a fx ++ bL1 k out ou) sz) (WI D k (bRO k o (qs 0) bf pa pn pk sv iz tr tx er fl li ll ac ci ch ++ bSt k qs qc qr ql lim sh sc fr ++ bClaims k qc n w ly t a fx ++ bL1 k out ou) 1 (va_A (bRO k o (qs 0) bf pa pn pk sv iz tr tx er fl li ll ac ci ch ++ bSt k qs qc qr ql lim sh sc fr ++ bClaims k qc n w ly t a fx ++ bL1 k out ou) sz)) 1 6 (va_A (bRO k o (qs 0) bf pa pn pk sv iz tr tx er fl li ll ac ci ch ++ bSt k qs qc qr ql lim sh sc fr ++ bClaims k qc n w ly t a fx ++ bL1 k out ou) sz) := by
  refine lMet (y := yL_describeClaim) (cc := cL_describeClaim) (maxL := 4) (ret := (some .int)) (hh := [(0, 9, 12, 21)]) (Qc := fun A => WI D k (bRO k o (qs 0) bf pa pn pk sv iz tr tx er fl li ll ac ci ch ++ bSt k qs qc qr ql lim sh sc fr ++ bClaims k qc n w ly t a fx ++ bL1 k out ou) 1 A) [.ref o, .int x, .ref out] (by decide) rfl (Nat.le_of_ble_eq_true rfl) ?_
  intro p9 e9 s9 m9 bl9 me9 c9 ls A H hF hr hlocks htab hP hK hN hXN hNC hZ hKC hD hA hS hl
  have hl : lv_has ls 4 [(0, .ref o), (1, .int x), (2, .ref out)] := hl
  obtain ⟨hx, hb, hml, hown, hts⟩ := id hF
  refine lv_aload_n hx hb dL_describeClaim_0 rfl (lv_at hl 2 rfl) ?_
  refine lv_iconst (v := 0) hx hb dL_describeClaim_1 (by decide) ?_
  refine lv_aload_n hx hb dL_describeClaim_2 rfl (lv_at hl 0 rfl) ?_
  refine lv_iload_n hx hb dL_describeClaim_3 rfl (lv_at hl 1 rfl) ?_
  have hFc := l_free (wc := bRO k o (qs 0) bf pa pn pk sv iz tr tx er fl li ll ac ci ch ++ bSt k qs qc qr ql lim sh sc fr ++ bClaims k qc n w ly t a fx) (wr := bL1 k out ou) hD hS hA
  refine vx_calli (vx_runV (As := [.int x]) (rest := [.int 0, .ref out]) hF (x_X12_describeClaim l9 hl9 D k H.size o bf pa pn pk sv tr tx li ll ac ci ch iz er fl qs qc qr ql lim sh sc fr n w ly t a fx x hxn) (cwV 1 hts gL_describeClaim_X12_describeClaim rfl rfl rfl (by decide +kernel) ⟨Nat.le_of_ble_eq_true rfl, Nat.le_of_ble_eq_true rfl⟩) (l_preX hK hN hXN hZ hS hFc (l_P1 (wr := bL1 k out ou) hP) (l_D1 (wr := bL1 k out ou) hD) (ci := 10) rfl rfl) rfl rfl hl.1 rfl (lv_room (Nat.le_of_ble_eq_true rfl)) dL_describeClaim_4 ⟨Nat.le_of_ble_eq_true rfl, Nat.le_of_ble_eq_true rfl⟩) hS (fun q _ h => hFc q h) hFc (fun q _ h => hFc q h) (fun E9 ce9 q9 u9 t9 H1 locs ht hvm _ hbx hz1 hk1 hS hce hcv hcl => ?_) (fun r u9 t9 H1 locs _ _ hp _ _ _ _ => hp.elim)
  obtain ⟨rfl, hbx⟩ := hbx
  obtain ⟨hP, hD⟩ := l_join (u := ()) (wr := bL1 k out ou) hP hD hk1 hFc hbx ht
  refine vx_catch (own := RL) (name := "java/lang/IndexOutOfBoundsException") (E := "java/lang/IndexOutOfBoundsException") hown [] ⟨0, 9, 12, 21⟩ [] (htab.trans rfl) (fun z hz => by simp only [List.not_mem_nil] at hz) rfl (by decide) (hts (.classLink RL 21 "java/lang/IndexOutOfBoundsException") (by decide +kernel)) (va_Nw.use (xnL_tables (.castable "java/lang/IndexOutOfBoundsException" "java/lang/IndexOutOfBoundsException") (by decide)) (hXN.1 (.castable "java/lang/IndexOutOfBoundsException" "java/lang/IndexOutOfBoundsException") (by decide))) hce hcv hcl ?_
  clear hbx hk1 hz1 hvm hFc hce hcv hcl ht
  clear t9
  generalize H1 = H at hP hS ⊢
  refine W.eq (g2 := F0 m9 12 ls [.ref q9]) rfl ?_
  refine lv_astore_n (lv' := [(3, .ref q9), (0, .ref o), (1, .int x), (2, .ref out)]) hx hb dL_describeClaim_12 rfl hl (by decide) rfl (fun ls hl => ?_)
  refine lv_iconst (v := 1) hx hb dL_describeClaim_13 (by decide) ?_
  refine W.widen (k := 1) (n := 6) (Nat.le_of_ble_eq_true rfl) (Nat.le_of_ble_eq_true rfl) ?_
  exact W.iret (v := 1) hx hb hr (fun t9 ht hW => ⟨⟨_, (), rfl, (by first | (with_reducible exact rfl) | (rw [if_pos (by assumption)]; done) | (rw [if_neg (ne_true_of_eq_false (by assumption))]; done)), ⟨by rw [ht]; exact hP, va_K.moved hW.alike hK, hD⟩⟩, hS.F ht⟩) hS.2.2 dL_describeClaim_14 hlocks

set_option maxHeartbeats 4000000 in
set_option maxRecDepth 100000 in
theorem m_L_attacks_ok (l9 : Launch) (hl9 : l9.stackTraces = false) (D : va_G) (k : Nat → ClassId) (ks kv kf : Nat → Nat) (ka kw : Nat) (sz : Nat) (o bf pa pn pk sv tr tx li ll ac ci ch : Nat) (iz : Bool) (er fl : Int32) (qs qc qr ql : Nat → Nat) (lim sh sc : Int32) (fr : Nat → UInt32) (n : Nat) (w ly t a : Nat → Int32) (fx : Nat → UInt32) (x y : Int32) (out : Nat) (ou : Nat → Int64) (hn : n ≤ 10) (hxn : inC n x = true) (hiy : inC n y = true) : Met l9 yL_attacks wsL_attacks ({ frames := 3, cells := 1, slots := 6, locals := 64 }) (LPc ks kv kf ka kw D k [.ref o, .int x, .int y, .ref out] (bRO k o (qs 0) bf pa pn pk sv iz tr tx er fl li ll ac ci ch ++ bSt k qs qc qr ql lim sh sc fr ++ bClaims k qc n w ly t a fx ++ bL1 k out ou) sz) (WI D k (bRO k o (qs 0) bf pa pn pk sv iz tr tx er fl li ll ac ci ch ++ bSt k qs qc qr ql lim sh sc fr ++ bClaims k qc n w ly t a fx ++ bL1 k out (vp_updL ou 0 (if tb (t x.toNatClampNeg) y.toNatClampNeg = true then 1 else 0))) 0 (va_A (bRO k o (qs 0) bf pa pn pk sv iz tr tx er fl li ll ac ci ch ++ bSt k qs qc qr ql lim sh sc fr ++ bClaims k qc n w ly t a fx ++ bL1 k out ou) sz)) 1 6 (va_A (bRO k o (qs 0) bf pa pn pk sv iz tr tx er fl li ll ac ci ch ++ bSt k qs qc qr ql lim sh sc fr ++ bClaims k qc n w ly t a fx ++ bL1 k out ou) sz) := by
  refine lMet (y := yL_attacks) (cc := cL_attacks) (maxL := 5) (ret := (some .int)) (hh := [(0, 17, 20, 21)]) (Qc := fun A => WI D k (bRO k o (qs 0) bf pa pn pk sv iz tr tx er fl li ll ac ci ch ++ bSt k qs qc qr ql lim sh sc fr ++ bClaims k qc n w ly t a fx ++ bL1 k out (vp_updL ou 0 (if tb (t x.toNatClampNeg) y.toNatClampNeg = true then 1 else 0))) 0 A) [.ref o, .int x, .int y, .ref out] (by decide) rfl (Nat.le_of_ble_eq_true rfl) ?_
  intro p9 e9 s9 m9 bl9 me9 c9 ls A H hF hr hlocks htab hP hK hN hXN hNC hZ hKC hD hA hS hl
  have hl : lv_has ls 5 [(0, .ref o), (1, .int x), (2, .int y), (3, .ref out)] := hl
  obtain ⟨hx, hb, hml, hown, hts⟩ := id hF
  refine lv_aload_n hx hb dL_attacks_0 rfl (lv_at hl 3 rfl) ?_
  refine lv_iconst (v := 0) hx hb dL_attacks_1 (by decide) ?_
  refine lv_aload_n hx hb dL_attacks_2 rfl (lv_at hl 0 rfl) ?_
  refine lv_iload_n hx hb dL_attacks_3 rfl (lv_at hl 1 rfl) ?_
  refine lv_iload_n hx hb dL_attacks_4 rfl (lv_at hl 2 rfl) ?_
  have hFc := l_free (wc := bRO k o (qs 0) bf pa pn pk sv iz tr tx er fl li ll ac ci ch ++ bSt k qs qc qr ql lim sh sc fr ++ bClaims k qc n w ly t a fx) (wr := bL1 k out ou) hD hS hA
  refine va_calli (va_runV (As := [.int x, .int y]) (rest := [.int 0, .ref out]) hF (m_X12_attacks l9 D k H.size o bf pa pn pk sv tr tx li ll ac ci ch iz er fl qs qc qr ql lim sh sc fr n w ly t a fx x y hn hxn hiy) (cwV 2 hts gL_attacks_X12_attacks rfl rfl rfl (by decide +kernel) ⟨Nat.le_of_ble_eq_true rfl, Nat.le_of_ble_eq_true rfl⟩) (l_preV hK hN (l_P1 (wr := bL1 k out ou) hP) (l_D1 (wr := bL1 k out ou) hD) (ci := 10) rfl rfl) rfl rfl hl.1 rfl (lv_room (Nat.le_of_ble_eq_true rfl)) dL_attacks_5 ⟨Nat.zero_le _, Nat.zero_le _⟩) hS (fun q _ h => hFc q h) hFc (fun r u9 t9 H1 locs ht hvm hw hB hz1 hk1 hS => ?_)
  obtain ⟨hP, hD⟩ := l_join (wr := bL1 k out ou) hP hD hk1 hFc hB ht
  subst hw
  clear hB hk1 hz1 hvm hFc
  clear ht
  clear t9
  generalize H1 = H at hP hS ⊢
  refine lv_if_eq (tgt := 15) hx hb dL_attacks_8 (by decide) (fun c_1 => ?_) (fun c_1 => ?_)
  · skip
    have c_1 : (tb (t x.toNatClampNeg) y.toNatClampNeg) = false := bI_0 c_1
    refine lv_lconst (v := 0) hx hb dL_attacks_15 (by decide) ?_
    refine la_st hx hb hK hP hD hS 9 rfl 0 (by omega) (by decide) (bRO k o (qs 0) bf pa pn pk sv iz tr tx er fl li ll ac ci ch ++ bSt k qs qc qr ql lim sh sc fr ++ bClaims k qc n w ly t a fx ++ bL1 k out (vp_updL ou 0 0)) rfl dL_attacks_16 (fun H locs hP hD hS => ?_)
    refine lv_goto (tgt := 24) hx hb dL_attacks_17 (by decide) ?_
    refine lv_iconst (v := 0) hx hb dL_attacks_24 (by decide) ?_
    have e_2 : (vp_updL ou 0 0 : Nat → Int64) = vp_updL ou 0 (if tb (t x.toNatClampNeg) y.toNatClampNeg = true then 1 else 0) := by first | (with_reducible rfl) | (first | (with_reducible exact rfl) | (rw [if_pos (by assumption)]; done) | (rw [if_neg (ne_true_of_eq_false (by assumption))]; done))
    have hP := Eq.mp (congrArg (fun z9 => va_P D vwCl (bRO k o (qs 0) bf pa pn pk sv iz tr tx er fl li ll ac ci ch ++ bSt k qs qc qr ql lim sh sc fr ++ bClaims k qc n w ly t a fx ++ bL1 k out z9) H) e_2) hP
    have hD := Eq.mp (congrArg (fun z9 => va_D A (bRO k o (qs 0) bf pa pn pk sv iz tr tx er fl li ll ac ci ch ++ bSt k qs qc qr ql lim sh sc fr ++ bClaims k qc n w ly t a fx ++ bL1 k out z9)) e_2) hD
    refine W.widen (k := 1) (n := 6) (Nat.le_of_ble_eq_true rfl) (Nat.le_of_ble_eq_true rfl) ?_
    exact W.iret (v := 0) hx hb hr (fun t9 ht hW => ⟨⟨_, (), rfl, (by first | (with_reducible exact rfl) | (rw [if_pos (by assumption)]; done) | (rw [if_neg (ne_true_of_eq_false (by assumption))]; done)), ⟨by rw [ht]; exact hP, va_K.moved hW.alike hK, hD⟩⟩, hS.F ht⟩) hS.2.2 dL_attacks_25 hlocks
  · skip
    have c_1 : (tb (t x.toNatClampNeg) y.toNatClampNeg) = true := bI_1 c_1
    refine lv_lconst (v := 1) hx hb dL_attacks_11 (by decide) ?_
    refine lv_goto (tgt := 16) hx hb dL_attacks_12 (by decide) ?_
    refine la_st hx hb hK hP hD hS 9 rfl 0 (by omega) (by decide) (bRO k o (qs 0) bf pa pn pk sv iz tr tx er fl li ll ac ci ch ++ bSt k qs qc qr ql lim sh sc fr ++ bClaims k qc n w ly t a fx ++ bL1 k out (vp_updL ou 0 1)) rfl dL_attacks_16 (fun H locs hP hD hS => ?_)
    refine lv_goto (tgt := 24) hx hb dL_attacks_17 (by decide) ?_
    refine lv_iconst (v := 0) hx hb dL_attacks_24 (by decide) ?_
    have e_3 : (vp_updL ou 0 1 : Nat → Int64) = vp_updL ou 0 (if tb (t x.toNatClampNeg) y.toNatClampNeg = true then 1 else 0) := by first | (with_reducible rfl) | (first | (with_reducible exact rfl) | (rw [if_pos (by assumption)]; done) | (rw [if_neg (ne_true_of_eq_false (by assumption))]; done))
    have hP := Eq.mp (congrArg (fun z9 => va_P D vwCl (bRO k o (qs 0) bf pa pn pk sv iz tr tx er fl li ll ac ci ch ++ bSt k qs qc qr ql lim sh sc fr ++ bClaims k qc n w ly t a fx ++ bL1 k out z9) H) e_3) hP
    have hD := Eq.mp (congrArg (fun z9 => va_D A (bRO k o (qs 0) bf pa pn pk sv iz tr tx er fl li ll ac ci ch ++ bSt k qs qc qr ql lim sh sc fr ++ bClaims k qc n w ly t a fx ++ bL1 k out z9)) e_3) hD
    refine W.widen (k := 1) (n := 6) (Nat.le_of_ble_eq_true rfl) (Nat.le_of_ble_eq_true rfl) ?_
    exact W.iret (v := 0) hx hb hr (fun t9 ht hW => ⟨⟨_, (), rfl, (by first | (with_reducible exact rfl) | (rw [if_pos (by assumption)]; done) | (rw [if_neg (ne_true_of_eq_false (by assumption))]; done)), ⟨by rw [ht]; exact hP, va_K.moved hW.alike hK, hD⟩⟩, hS.F ht⟩) hS.2.2 dL_attacks_25 hlocks

set_option maxHeartbeats 4000000 in
set_option maxRecDepth 100000 in
theorem m_L_attacks_1a (l9 : Launch) (hl9 : l9.stackTraces = false) (D : va_G) (k : Nat → ClassId) (ks kv kf : Nat → Nat) (ka kw : Nat) (sz : Nat) (o bf pa pn pk sv tr tx li ll ac ci ch : Nat) (iz : Bool) (er fl : Int32) (qs qc qr ql : Nat → Nat) (lim sh sc : Int32) (fr : Nat → UInt32) (n : Nat) (w ly t a : Nat → Int32) (fx : Nat → UInt32) (x y : Int32) (out : Nat) (ou : Nat → Int64) (hxn : inC n x = false) : Met l9 yL_attacks wsL_attacks ({ frames := 8, cells := 1, slots := 6, locals := 125 }) (LPc ks kv kf ka kw D k [.ref o, .int x, .int y, .ref out] (bRO k o (qs 0) bf pa pn pk sv iz tr tx er fl li ll ac ci ch ++ bSt k qs qc qr ql lim sh sc fr ++ bClaims k qc n w ly t a fx ++ bL1 k out ou) sz) (WI D k (bRO k o (qs 0) bf pa pn pk sv iz tr tx er fl li ll ac ci ch ++ bSt k qs qc qr ql lim sh sc fr ++ bClaims k qc n w ly t a fx ++ bL1 k out ou) 1 (va_A (bRO k o (qs 0) bf pa pn pk sv iz tr tx er fl li ll ac ci ch ++ bSt k qs qc qr ql lim sh sc fr ++ bClaims k qc n w ly t a fx ++ bL1 k out ou) sz)) 1 6 (va_A (bRO k o (qs 0) bf pa pn pk sv iz tr tx er fl li ll ac ci ch ++ bSt k qs qc qr ql lim sh sc fr ++ bClaims k qc n w ly t a fx ++ bL1 k out ou) sz) := by
  refine lMet (y := yL_attacks) (cc := cL_attacks) (maxL := 5) (ret := (some .int)) (hh := [(0, 17, 20, 21)]) (Qc := fun A => WI D k (bRO k o (qs 0) bf pa pn pk sv iz tr tx er fl li ll ac ci ch ++ bSt k qs qc qr ql lim sh sc fr ++ bClaims k qc n w ly t a fx ++ bL1 k out ou) 1 A) [.ref o, .int x, .int y, .ref out] (by decide) rfl (Nat.le_of_ble_eq_true rfl) ?_
  intro p9 e9 s9 m9 bl9 me9 c9 ls A H hF hr hlocks htab hP hK hN hXN hNC hZ hKC hD hA hS hl
  have hl : lv_has ls 5 [(0, .ref o), (1, .int x), (2, .int y), (3, .ref out)] := hl
  obtain ⟨hx, hb, hml, hown, hts⟩ := id hF
  refine lv_aload_n hx hb dL_attacks_0 rfl (lv_at hl 3 rfl) ?_
  refine lv_iconst (v := 0) hx hb dL_attacks_1 (by decide) ?_
  refine lv_aload_n hx hb dL_attacks_2 rfl (lv_at hl 0 rfl) ?_
  refine lv_iload_n hx hb dL_attacks_3 rfl (lv_at hl 1 rfl) ?_
  refine lv_iload_n hx hb dL_attacks_4 rfl (lv_at hl 2 rfl) ?_
  have hFc := l_free (wc := bRO k o (qs 0) bf pa pn pk sv iz tr tx er fl li ll ac ci ch ++ bSt k qs qc qr ql lim sh sc fr ++ bClaims k qc n w ly t a fx) (wr := bL1 k out ou) hD hS hA
  refine vx_calli (vx_runV (As := [.int x, .int y]) (rest := [.int 0, .ref out]) hF (x_X12_attacks_a l9 hl9 D k H.size o bf pa pn pk sv tr tx li ll ac ci ch iz er fl qs qc qr ql lim sh sc fr n w ly t a fx x y hxn) (cwV 2 hts gL_attacks_X12_attacks rfl rfl rfl (by decide +kernel) ⟨Nat.le_of_ble_eq_true rfl, Nat.le_of_ble_eq_true rfl⟩) (l_preX hK hN hXN hZ hS hFc (l_P1 (wr := bL1 k out ou) hP) (l_D1 (wr := bL1 k out ou) hD) (ci := 10) rfl rfl) rfl rfl hl.1 rfl (lv_room (Nat.le_of_ble_eq_true rfl)) dL_attacks_5 ⟨Nat.le_of_ble_eq_true rfl, Nat.le_of_ble_eq_true rfl⟩) hS (fun q _ h => hFc q h) hFc (fun q _ h => hFc q h) (fun E9 ce9 q9 u9 t9 H1 locs ht hvm _ hbx hz1 hk1 hS hce hcv hcl => ?_) (fun r u9 t9 H1 locs _ _ hp _ _ _ _ => hp.elim)
  obtain ⟨rfl, hbx⟩ := hbx
  obtain ⟨hP, hD⟩ := l_join (u := ()) (wr := bL1 k out ou) hP hD hk1 hFc hbx ht
  refine vx_catch (own := RL) (name := "java/lang/IndexOutOfBoundsException") (E := "java/lang/IndexOutOfBoundsException") hown [] ⟨0, 17, 20, 21⟩ [] (htab.trans rfl) (fun z hz => by simp only [List.not_mem_nil] at hz) rfl (by decide) (hts (.classLink RL 21 "java/lang/IndexOutOfBoundsException") (by decide +kernel)) (va_Nw.use (xnL_tables (.castable "java/lang/IndexOutOfBoundsException" "java/lang/IndexOutOfBoundsException") (by decide)) (hXN.1 (.castable "java/lang/IndexOutOfBoundsException" "java/lang/IndexOutOfBoundsException") (by decide))) hce hcv hcl ?_
  clear hbx hk1 hz1 hvm hFc hce hcv hcl ht
  clear t9
  generalize H1 = H at hP hS ⊢
  refine W.eq (g2 := F0 m9 20 ls [.ref q9]) rfl ?_
  refine lv_astore (lv' := [(4, .ref q9), (0, .ref o), (1, .int x), (2, .int y), (3, .ref out)]) hx hb dL_attacks_20 hl (by decide) rfl (fun ls hl => ?_)
  refine lv_iconst (v := 1) hx hb dL_attacks_22 (by decide) ?_
  refine W.widen (k := 1) (n := 6) (Nat.le_of_ble_eq_true rfl) (Nat.le_of_ble_eq_true rfl) ?_
  exact W.iret (v := 1) hx hb hr (fun t9 ht hW => ⟨⟨_, (), rfl, (by first | (with_reducible exact rfl) | (rw [if_pos (by assumption)]; done) | (rw [if_neg (ne_true_of_eq_false (by assumption))]; done)), ⟨by rw [ht]; exact hP, va_K.moved hW.alike hK, hD⟩⟩, hS.F ht⟩) hS.2.2 dL_attacks_23 hlocks

set_option maxHeartbeats 4000000 in
set_option maxRecDepth 100000 in
theorem m_L_attacks_1b (l9 : Launch) (hl9 : l9.stackTraces = false) (D : va_G) (k : Nat → ClassId) (ks kv kf : Nat → Nat) (ka kw : Nat) (sz : Nat) (o bf pa pn pk sv tr tx li ll ac ci ch : Nat) (iz : Bool) (er fl : Int32) (qs qc qr ql : Nat → Nat) (lim sh sc : Int32) (fr : Nat → UInt32) (n : Nat) (w ly t a : Nat → Int32) (fx : Nat → UInt32) (x y : Int32) (out : Nat) (ou : Nat → Int64) (hix : inC n x = true) (hxn : inC n y = false) : Met l9 yL_attacks wsL_attacks ({ frames := 8, cells := 1, slots := 6, locals := 125 }) (LPc ks kv kf ka kw D k [.ref o, .int x, .int y, .ref out] (bRO k o (qs 0) bf pa pn pk sv iz tr tx er fl li ll ac ci ch ++ bSt k qs qc qr ql lim sh sc fr ++ bClaims k qc n w ly t a fx ++ bL1 k out ou) sz) (WI D k (bRO k o (qs 0) bf pa pn pk sv iz tr tx er fl li ll ac ci ch ++ bSt k qs qc qr ql lim sh sc fr ++ bClaims k qc n w ly t a fx ++ bL1 k out ou) 1 (va_A (bRO k o (qs 0) bf pa pn pk sv iz tr tx er fl li ll ac ci ch ++ bSt k qs qc qr ql lim sh sc fr ++ bClaims k qc n w ly t a fx ++ bL1 k out ou) sz)) 1 6 (va_A (bRO k o (qs 0) bf pa pn pk sv iz tr tx er fl li ll ac ci ch ++ bSt k qs qc qr ql lim sh sc fr ++ bClaims k qc n w ly t a fx ++ bL1 k out ou) sz) := by
  refine lMet (y := yL_attacks) (cc := cL_attacks) (maxL := 5) (ret := (some .int)) (hh := [(0, 17, 20, 21)]) (Qc := fun A => WI D k (bRO k o (qs 0) bf pa pn pk sv iz tr tx er fl li ll ac ci ch ++ bSt k qs qc qr ql lim sh sc fr ++ bClaims k qc n w ly t a fx ++ bL1 k out ou) 1 A) [.ref o, .int x, .int y, .ref out] (by decide) rfl (Nat.le_of_ble_eq_true rfl) ?_
  intro p9 e9 s9 m9 bl9 me9 c9 ls A H hF hr hlocks htab hP hK hN hXN hNC hZ hKC hD hA hS hl
  have hl : lv_has ls 5 [(0, .ref o), (1, .int x), (2, .int y), (3, .ref out)] := hl
  obtain ⟨hx, hb, hml, hown, hts⟩ := id hF
  refine lv_aload_n hx hb dL_attacks_0 rfl (lv_at hl 3 rfl) ?_
  refine lv_iconst (v := 0) hx hb dL_attacks_1 (by decide) ?_
  refine lv_aload_n hx hb dL_attacks_2 rfl (lv_at hl 0 rfl) ?_
  refine lv_iload_n hx hb dL_attacks_3 rfl (lv_at hl 1 rfl) ?_
  refine lv_iload_n hx hb dL_attacks_4 rfl (lv_at hl 2 rfl) ?_
  have hFc := l_free (wc := bRO k o (qs 0) bf pa pn pk sv iz tr tx er fl li ll ac ci ch ++ bSt k qs qc qr ql lim sh sc fr ++ bClaims k qc n w ly t a fx) (wr := bL1 k out ou) hD hS hA
  refine vx_calli (vx_runV (As := [.int x, .int y]) (rest := [.int 0, .ref out]) hF (x_X12_attacks_b l9 hl9 D k H.size o bf pa pn pk sv tr tx li ll ac ci ch iz er fl qs qc qr ql lim sh sc fr n w ly t a fx x y hix hxn) (cwV 2 hts gL_attacks_X12_attacks rfl rfl rfl (by decide +kernel) ⟨Nat.le_of_ble_eq_true rfl, Nat.le_of_ble_eq_true rfl⟩) (l_preX hK hN hXN hZ hS hFc (l_P1 (wr := bL1 k out ou) hP) (l_D1 (wr := bL1 k out ou) hD) (ci := 10) rfl rfl) rfl rfl hl.1 rfl (lv_room (Nat.le_of_ble_eq_true rfl)) dL_attacks_5 ⟨Nat.le_of_ble_eq_true rfl, Nat.le_of_ble_eq_true rfl⟩) hS (fun q _ h => hFc q h) hFc (fun q _ h => hFc q h) (fun E9 ce9 q9 u9 t9 H1 locs ht hvm _ hbx hz1 hk1 hS hce hcv hcl => ?_) (fun r u9 t9 H1 locs _ _ hp _ _ _ _ => hp.elim)
  obtain ⟨rfl, hbx⟩ := hbx
  obtain ⟨hP, hD⟩ := l_join (u := ()) (wr := bL1 k out ou) hP hD hk1 hFc hbx ht
  refine vx_catch (own := RL) (name := "java/lang/IndexOutOfBoundsException") (E := "java/lang/IndexOutOfBoundsException") hown [] ⟨0, 17, 20, 21⟩ [] (htab.trans rfl) (fun z hz => by simp only [List.not_mem_nil] at hz) rfl (by decide) (hts (.classLink RL 21 "java/lang/IndexOutOfBoundsException") (by decide +kernel)) (va_Nw.use (xnL_tables (.castable "java/lang/IndexOutOfBoundsException" "java/lang/IndexOutOfBoundsException") (by decide)) (hXN.1 (.castable "java/lang/IndexOutOfBoundsException" "java/lang/IndexOutOfBoundsException") (by decide))) hce hcv hcl ?_
  clear hbx hk1 hz1 hvm hFc hce hcv hcl ht
  clear t9
  generalize H1 = H at hP hS ⊢
  refine W.eq (g2 := F0 m9 20 ls [.ref q9]) rfl ?_
  refine lv_astore (lv' := [(4, .ref q9), (0, .ref o), (1, .int x), (2, .int y), (3, .ref out)]) hx hb dL_attacks_20 hl (by decide) rfl (fun ls hl => ?_)
  refine lv_iconst (v := 1) hx hb dL_attacks_22 (by decide) ?_
  refine W.widen (k := 1) (n := 6) (Nat.le_of_ble_eq_true rfl) (Nat.le_of_ble_eq_true rfl) ?_
  exact W.iret (v := 1) hx hb hr (fun t9 ht hW => ⟨⟨_, (), rfl, (by first | (with_reducible exact rfl) | (rw [if_pos (by assumption)]; done) | (rw [if_neg (ne_true_of_eq_false (by assumption))]; done)), ⟨by rw [ht]; exact hP, va_K.moved hW.alike hK, hD⟩⟩, hS.F ht⟩) hS.2.2 dL_attacks_23 hlocks

set_option maxHeartbeats 4000000 in
set_option maxRecDepth 100000 in
theorem m_L_isPosition_ok (l9 : Launch) (hl9 : l9.stackTraces = false) (D : va_G) (k : Nat → ClassId) (ks kv kf : Nat → Nat) (ka kw : Nat) (sz : Nat) (o bf pa pn pk sv tr tx li ll ac ci ch : Nat) (iz : Bool) (er fl : Int32) (qs qc qr ql : Nat → Nat) (lim sh sc : Int32) (fr : Nat → UInt32) (n : Nat) (w ly t a : Nat → Int32) (fx : Nat → UInt32) (x : Int32) (out : Nat) (ou : Nat → Int64) (hn : n ≤ 10) (hxn : ¬ (x < 0 ∨ nI (pw n - 1) < x)) : Met l9 yL_isPosition wsL_isPosition ({ frames := 4, cells := 1, slots := 6, locals := 87 }) (LPc ks kv kf ka kw D k [.ref o, .int x, .ref out] (bRO k o (qs 0) bf pa pn pk sv iz tr tx er fl li ll ac ci ch ++ bSt k qs qc qr ql lim sh sc fr ++ bClaims k qc n w ly t a fx ++ bL1 k out ou) sz) (WI D k (bRO k o (qs 0) bf pa pn pk sv iz tr tx er fl li ll ac ci ch ++ bSt k qs qc qr ql lim sh sc fr ++ bClaims k qc n w ly t a fx ++ bL1 k out (vp_updL ou 0 (if hld n t a x = true then 1 else 0))) 0 (va_A (bRO k o (qs 0) bf pa pn pk sv iz tr tx er fl li ll ac ci ch ++ bSt k qs qc qr ql lim sh sc fr ++ bClaims k qc n w ly t a fx ++ bL1 k out ou) sz)) 1 6 (va_A (bRO k o (qs 0) bf pa pn pk sv iz tr tx er fl li ll ac ci ch ++ bSt k qs qc qr ql lim sh sc fr ++ bClaims k qc n w ly t a fx ++ bL1 k out ou) sz) := by
  refine lMet (y := yL_isPosition) (cc := cL_isPosition) (maxL := 4) (ret := (some .int)) (hh := [(0, 16, 19, 13)]) (Qc := fun A => WI D k (bRO k o (qs 0) bf pa pn pk sv iz tr tx er fl li ll ac ci ch ++ bSt k qs qc qr ql lim sh sc fr ++ bClaims k qc n w ly t a fx ++ bL1 k out (vp_updL ou 0 (if hld n t a x = true then 1 else 0))) 0 A) [.ref o, .int x, .ref out] (by decide) rfl (Nat.le_of_ble_eq_true rfl) ?_
  intro p9 e9 s9 m9 bl9 me9 c9 ls A H hF hr hlocks htab hP hK hN hXN hNC hZ hKC hD hA hS hl
  have hl : lv_has ls 4 [(0, .ref o), (1, .int x), (2, .ref out)] := hl
  obtain ⟨hx, hb, hml, hown, hts⟩ := id hF
  refine lv_aload_n hx hb dL_isPosition_0 rfl (lv_at hl 2 rfl) ?_
  refine lv_iconst (v := 0) hx hb dL_isPosition_1 (by decide) ?_
  refine lv_aload_n hx hb dL_isPosition_2 rfl (lv_at hl 0 rfl) ?_
  refine lv_iload_n hx hb dL_isPosition_3 rfl (lv_at hl 1 rfl) ?_
  have hFc := l_free (wc := bRO k o (qs 0) bf pa pn pk sv iz tr tx er fl li ll ac ci ch ++ bSt k qs qc qr ql lim sh sc fr ++ bClaims k qc n w ly t a fx) (wr := bL1 k out ou) hD hS hA
  refine va_calli (va_runV (As := [.int x]) (rest := [.int 0, .ref out]) hF (m_X12_isPosition l9 D k H.size o bf pa pn pk sv tr tx li ll ac ci ch iz er fl qs qc qr ql lim sh sc fr n w ly t a fx x hn hxn) (cwV 1 hts gL_isPosition_X12_isPosition rfl rfl rfl (by decide +kernel) ⟨Nat.le_of_ble_eq_true rfl, Nat.le_of_ble_eq_true rfl⟩) (l_preV hK hN (l_P1 (wr := bL1 k out ou) hP) (l_D1 (wr := bL1 k out ou) hD) (ci := 10) rfl rfl) rfl rfl hl.1 rfl (lv_room (Nat.le_of_ble_eq_true rfl)) dL_isPosition_4 ⟨Nat.zero_le _, Nat.zero_le _⟩) hS (fun q _ h => hFc q h) hFc (fun r u9 t9 H1 locs ht hvm hw hB hz1 hk1 hS => ?_)
  obtain ⟨hP, hD⟩ := l_join (wr := bL1 k out ou) hP hD hk1 hFc hB ht
  subst hw
  clear hB hk1 hz1 hvm hFc
  clear ht
  clear t9
  generalize H1 = H at hP hS ⊢
  refine lv_if_eq (tgt := 14) hx hb dL_isPosition_7 (by decide) (fun c_1 => ?_) (fun c_1 => ?_)
  · skip
    have c_1 : (hld n t a x) = false := bI_0 c_1
    refine lv_lconst (v := 0) hx hb dL_isPosition_14 (by decide) ?_
    refine la_st hx hb hK hP hD hS 9 rfl 0 (by omega) (by decide) (bRO k o (qs 0) bf pa pn pk sv iz tr tx er fl li ll ac ci ch ++ bSt k qs qc qr ql lim sh sc fr ++ bClaims k qc n w ly t a fx ++ bL1 k out (vp_updL ou 0 0)) rfl dL_isPosition_15 (fun H locs hP hD hS => ?_)
    refine lv_goto (tgt := 22) hx hb dL_isPosition_16 (by decide) ?_
    refine lv_iconst (v := 0) hx hb dL_isPosition_22 (by decide) ?_
    have e_2 : (vp_updL ou 0 0 : Nat → Int64) = vp_updL ou 0 (if hld n t a x = true then 1 else 0) := by first | (with_reducible rfl) | (first | (with_reducible exact rfl) | (rw [if_pos (by assumption)]; done) | (rw [if_neg (ne_true_of_eq_false (by assumption))]; done))
    have hP := Eq.mp (congrArg (fun z9 => va_P D vwCl (bRO k o (qs 0) bf pa pn pk sv iz tr tx er fl li ll ac ci ch ++ bSt k qs qc qr ql lim sh sc fr ++ bClaims k qc n w ly t a fx ++ bL1 k out z9) H) e_2) hP
    have hD := Eq.mp (congrArg (fun z9 => va_D A (bRO k o (qs 0) bf pa pn pk sv iz tr tx er fl li ll ac ci ch ++ bSt k qs qc qr ql lim sh sc fr ++ bClaims k qc n w ly t a fx ++ bL1 k out z9)) e_2) hD
    refine W.widen (k := 1) (n := 6) (Nat.le_of_ble_eq_true rfl) (Nat.le_of_ble_eq_true rfl) ?_
    exact W.iret (v := 0) hx hb hr (fun t9 ht hW => ⟨⟨_, (), rfl, (by first | (with_reducible exact rfl) | (rw [if_pos (by assumption)]; done) | (rw [if_neg (ne_true_of_eq_false (by assumption))]; done)), ⟨by rw [ht]; exact hP, va_K.moved hW.alike hK, hD⟩⟩, hS.F ht⟩) hS.2.2 dL_isPosition_23 hlocks
  · skip
    have c_1 : (hld n t a x) = true := bI_1 c_1
    refine lv_lconst (v := 1) hx hb dL_isPosition_10 (by decide) ?_
    refine lv_goto (tgt := 15) hx hb dL_isPosition_11 (by decide) ?_
    refine la_st hx hb hK hP hD hS 9 rfl 0 (by omega) (by decide) (bRO k o (qs 0) bf pa pn pk sv iz tr tx er fl li ll ac ci ch ++ bSt k qs qc qr ql lim sh sc fr ++ bClaims k qc n w ly t a fx ++ bL1 k out (vp_updL ou 0 1)) rfl dL_isPosition_15 (fun H locs hP hD hS => ?_)
    refine lv_goto (tgt := 22) hx hb dL_isPosition_16 (by decide) ?_
    refine lv_iconst (v := 0) hx hb dL_isPosition_22 (by decide) ?_
    have e_3 : (vp_updL ou 0 1 : Nat → Int64) = vp_updL ou 0 (if hld n t a x = true then 1 else 0) := by first | (with_reducible rfl) | (first | (with_reducible exact rfl) | (rw [if_pos (by assumption)]; done) | (rw [if_neg (ne_true_of_eq_false (by assumption))]; done))
    have hP := Eq.mp (congrArg (fun z9 => va_P D vwCl (bRO k o (qs 0) bf pa pn pk sv iz tr tx er fl li ll ac ci ch ++ bSt k qs qc qr ql lim sh sc fr ++ bClaims k qc n w ly t a fx ++ bL1 k out z9) H) e_3) hP
    have hD := Eq.mp (congrArg (fun z9 => va_D A (bRO k o (qs 0) bf pa pn pk sv iz tr tx er fl li ll ac ci ch ++ bSt k qs qc qr ql lim sh sc fr ++ bClaims k qc n w ly t a fx ++ bL1 k out z9)) e_3) hD
    refine W.widen (k := 1) (n := 6) (Nat.le_of_ble_eq_true rfl) (Nat.le_of_ble_eq_true rfl) ?_
    exact W.iret (v := 0) hx hb hr (fun t9 ht hW => ⟨⟨_, (), rfl, (by first | (with_reducible exact rfl) | (rw [if_pos (by assumption)]; done) | (rw [if_neg (ne_true_of_eq_false (by assumption))]; done)), ⟨by rw [ht]; exact hP, va_K.moved hW.alike hK, hD⟩⟩, hS.F ht⟩) hS.2.2 dL_isPosition_23 hlocks

set_option maxHeartbeats 4000000 in
set_option maxRecDepth 100000 in
theorem m_L_isPosition_1 (l9 : Launch) (hl9 : l9.stackTraces = false) (D : va_G) (k : Nat → ClassId) (ks kv kf : Nat → Nat) (ka kw : Nat) (sz : Nat) (o bf pa pn pk sv tr tx li ll ac ci ch : Nat) (iz : Bool) (er fl : Int32) (qs qc qr ql : Nat → Nat) (lim sh sc : Int32) (fr : Nat → UInt32) (n : Nat) (w ly t a : Nat → Int32) (fx : Nat → UInt32) (x : Int32) (out : Nat) (ou : Nat → Int64) (hn : n ≤ 10) (hxn : x < 0 ∨ nI (pw n - 1) < x) : Met l9 yL_isPosition wsL_isPosition ({ frames := 7, cells := 1, slots := 6, locals := 103 }) (LPc ks kv kf ka kw D k [.ref o, .int x, .ref out] (bRO k o (qs 0) bf pa pn pk sv iz tr tx er fl li ll ac ci ch ++ bSt k qs qc qr ql lim sh sc fr ++ bClaims k qc n w ly t a fx ++ bL1 k out ou) sz) (WI D k (bRO k o (qs 0) bf pa pn pk sv iz tr tx er fl li ll ac ci ch ++ bSt k qs qc qr ql lim sh sc fr ++ bClaims k qc n w ly t a fx ++ bL1 k out ou) 1 (va_A (bRO k o (qs 0) bf pa pn pk sv iz tr tx er fl li ll ac ci ch ++ bSt k qs qc qr ql lim sh sc fr ++ bClaims k qc n w ly t a fx ++ bL1 k out ou) sz)) 1 6 (va_A (bRO k o (qs 0) bf pa pn pk sv iz tr tx er fl li ll ac ci ch ++ bSt k qs qc qr ql lim sh sc fr ++ bClaims k qc n w ly t a fx ++ bL1 k out ou) sz) := by
  refine lMet (y := yL_isPosition) (cc := cL_isPosition) (maxL := 4) (ret := (some .int)) (hh := [(0, 16, 19, 13)]) (Qc := fun A => WI D k (bRO k o (qs 0) bf pa pn pk sv iz tr tx er fl li ll ac ci ch ++ bSt k qs qc qr ql lim sh sc fr ++ bClaims k qc n w ly t a fx ++ bL1 k out ou) 1 A) [.ref o, .int x, .ref out] (by decide) rfl (Nat.le_of_ble_eq_true rfl) ?_
  intro p9 e9 s9 m9 bl9 me9 c9 ls A H hF hr hlocks htab hP hK hN hXN hNC hZ hKC hD hA hS hl
  have hl : lv_has ls 4 [(0, .ref o), (1, .int x), (2, .ref out)] := hl
  obtain ⟨hx, hb, hml, hown, hts⟩ := id hF
  refine lv_aload_n hx hb dL_isPosition_0 rfl (lv_at hl 2 rfl) ?_
  refine lv_iconst (v := 0) hx hb dL_isPosition_1 (by decide) ?_
  refine lv_aload_n hx hb dL_isPosition_2 rfl (lv_at hl 0 rfl) ?_
  refine lv_iload_n hx hb dL_isPosition_3 rfl (lv_at hl 1 rfl) ?_
  have hFc := l_free (wc := bRO k o (qs 0) bf pa pn pk sv iz tr tx er fl li ll ac ci ch ++ bSt k qs qc qr ql lim sh sc fr ++ bClaims k qc n w ly t a fx) (wr := bL1 k out ou) hD hS hA
  refine vx_calli (vx_runV (As := [.int x]) (rest := [.int 0, .ref out]) hF (x_X12_isPosition l9 hl9 D k H.size o bf pa pn pk sv tr tx li ll ac ci ch iz er fl qs qc qr ql lim sh sc fr n w ly t a fx x hn hxn) (cwV 1 hts gL_isPosition_X12_isPosition rfl rfl rfl (by decide +kernel) ⟨Nat.le_of_ble_eq_true rfl, Nat.le_of_ble_eq_true rfl⟩) (l_preX hK hN hXN hZ hS hFc (l_P1 (wr := bL1 k out ou) hP) (l_D1 (wr := bL1 k out ou) hD) (ci := 10) rfl rfl) rfl rfl hl.1 rfl (lv_room (Nat.le_of_ble_eq_true rfl)) dL_isPosition_4 ⟨Nat.le_of_ble_eq_true rfl, Nat.le_of_ble_eq_true rfl⟩) hS (fun q _ h => hFc q h) hFc (fun q _ h => hFc q h) (fun E9 ce9 q9 u9 t9 H1 locs ht hvm _ hbx hz1 hk1 hS hce hcv hcl => ?_) (fun r u9 t9 H1 locs _ _ hp _ _ _ _ => hp.elim)
  obtain ⟨rfl, hbx⟩ := hbx
  obtain ⟨hP, hD⟩ := l_join (u := ()) (wr := bL1 k out ou) hP hD hk1 hFc hbx ht
  refine vx_catch (own := RL) (name := "java/lang/IllegalArgumentException") (E := "java/lang/IllegalArgumentException") hown [] ⟨0, 16, 19, 13⟩ [] (htab.trans rfl) (fun z hz => by simp only [List.not_mem_nil] at hz) rfl (by decide) (hts (.classLink RL 13 "java/lang/IllegalArgumentException") (by decide +kernel)) (va_Nw.use (xnL_tables (.castable "java/lang/IllegalArgumentException" "java/lang/IllegalArgumentException") (by decide)) (hXN.1 (.castable "java/lang/IllegalArgumentException" "java/lang/IllegalArgumentException") (by decide))) hce hcv hcl ?_
  clear hbx hk1 hz1 hvm hFc hce hcv hcl ht
  clear t9
  generalize H1 = H at hP hS ⊢
  refine W.eq (g2 := F0 m9 19 ls [.ref q9]) rfl ?_
  refine lv_astore_n (lv' := [(3, .ref q9), (0, .ref o), (1, .int x), (2, .ref out)]) hx hb dL_isPosition_19 rfl hl (by decide) rfl (fun ls hl => ?_)
  refine lv_iconst (v := 1) hx hb dL_isPosition_20 (by decide) ?_
  refine W.widen (k := 1) (n := 6) (Nat.le_of_ble_eq_true rfl) (Nat.le_of_ble_eq_true rfl) ?_
  exact W.iret (v := 1) hx hb hr (fun t9 ht hW => ⟨⟨_, (), rfl, (by first | (with_reducible exact rfl) | (rw [if_pos (by assumption)]; done) | (rw [if_neg (ne_true_of_eq_false (by assumption))]; done)), ⟨by rw [ht]; exact hP, va_K.moved hW.alike hK, hD⟩⟩, hS.F ht⟩) hS.2.2 dL_isPosition_21 hlocks

set_option maxHeartbeats 4000000 in
set_option maxRecDepth 100000 in
theorem m_L_chains_ok (l9 : Launch) (hl9 : l9.stackTraces = false) (D : va_G) (k : Nat → ClassId) (ks kv kf : Nat → Nat) (ka kw : Nat) (sz : Nat) (o bf pa pn pk sv tr tx li ll ac ci : Nat) (iz : Bool) (er fl : Int32) (qs qc qr ql : Nat → Nat) (lim sh sc : Int32) (fr : Nat → UInt32) (n : Nat) (w ly t a : Nat → Int32) (fx : Nat → UInt32) (co gm gs rw nt : Nat) (mg sg : Nat → Nat) (M S : Nat → Nat → Int64) (F O : Nat → Int64) (x y le : Int32) (out : Nat) (ou : Nat → Int64) (hn : n ≤ 10) (hix : inC n x = true) (hiy : inC n y = true) (hil : rg 0 le 999 = true) : Met l9 yL_chains wsL_chains ({ frames := 4, cells := 1, slots := 6, locals := 97 }) (LPc ks kv kf ka kw D k [.ref o, .int x, .int y, .int le, .ref out] (bRO k o (qs 0) bf pa pn pk sv iz tr tx er fl li ll ac ci co ++ bSt k qs qc qr ql lim sh sc fr ++ bClaims k qc n w ly t a fx ++ bCh k co gm gs rw nt ++ bGL k gm mg ++ bGL k gs sg ++ bGr k mg M ++ bGr k sg S ++ bL10 k rw F ++ bL10 k nt O ++ bL1 k out ou) sz) (WI D k (bRO k o (qs 0) bf pa pn pk sv iz tr tx er fl li ll ac ci co ++ bSt k qs qc qr ql lim sh sc fr ++ bClaims k qc n w ly t a fx ++ bCh k co ((bsT n le (bs0 n t x (gm, gs, rw, nt, mg, sg, M, S, F, O)) 10).1) ((bsT n le (bs0 n t x (gm, gs, rw, nt, mg, sg, M, S, F, O)) 10).2.1) ((bsT n le (bs0 n t x (gm, gs, rw, nt, mg, sg, M, S, F, O)) 10).2.2.1) ((bsT n le (bs0 n t x (gm, gs, rw, nt, mg, sg, M, S, F, O)) 10).2.2.2.1) ++ bGL k ((bsT n le (bs0 n t x (gm, gs, rw, nt, mg, sg, M, S, F, O)) 10).1) ((bsT n le (bs0 n t x (gm, gs, rw, nt, mg, sg, M, S, F, O)) 10).2.2.2.2.1) ++ bGL k ((bsT n le (bs0 n t x (gm, gs, rw, nt, mg, sg, M, S, F, O)) 10).2.1) ((bsT n le (bs0 n t x (gm, gs, rw, nt, mg, sg, M, S, F, O)) 10).2.2.2.2.2.1) ++ bGr k ((bsT n le (bs0 n t x (gm, gs, rw, nt, mg, sg, M, S, F, O)) 10).2.2.2.2.1) ((bsT n le (bs0 n t x (gm, gs, rw, nt, mg, sg, M, S, F, O)) 10).2.2.2.2.2.2.1) ++ bGr k ((bsT n le (bs0 n t x (gm, gs, rw, nt, mg, sg, M, S, F, O)) 10).2.2.2.2.2.1) ((bsT n le (bs0 n t x (gm, gs, rw, nt, mg, sg, M, S, F, O)) 10).2.2.2.2.2.2.2.1) ++ bL10 k ((bsT n le (bs0 n t x (gm, gs, rw, nt, mg, sg, M, S, F, O)) 10).2.2.1) ((bsT n le (bs0 n t x (gm, gs, rw, nt, mg, sg, M, S, F, O)) 10).2.2.2.2.2.2.2.2.1) ++ bL10 k ((bsT n le (bs0 n t x (gm, gs, rw, nt, mg, sg, M, S, F, O)) 10).2.2.2.1) ((bsT n le (bs0 n t x (gm, gs, rw, nt, mg, sg, M, S, F, O)) 10).2.2.2.2.2.2.2.2.2) ++ bL1 k out (vp_updL ou 0 ((((bsT n le (bs0 n t x (gm, gs, rw, nt, mg, sg, M, S, F, O)) 10).2.2.2.2.2.2.2.2.1 y.toNatClampNeg).toInt32).toInt64))) 0 (va_A (bRO k o (qs 0) bf pa pn pk sv iz tr tx er fl li ll ac ci co ++ bSt k qs qc qr ql lim sh sc fr ++ bClaims k qc n w ly t a fx ++ bCh k co gm gs rw nt ++ bGL k gm mg ++ bGL k gs sg ++ bGr k mg M ++ bGr k sg S ++ bL10 k rw F ++ bL10 k nt O ++ bL1 k out ou) sz)) 1 6 (va_A (bRO k o (qs 0) bf pa pn pk sv iz tr tx er fl li ll ac ci co ++ bSt k qs qc qr ql lim sh sc fr ++ bClaims k qc n w ly t a fx ++ bCh k co gm gs rw nt ++ bGL k gm mg ++ bGL k gs sg ++ bGr k mg M ++ bGr k sg S ++ bL10 k rw F ++ bL10 k nt O ++ bL1 k out ou) sz) := by
  refine lMet (y := yL_chains) (cc := cL_chains) (maxL := 6) (ret := (some .int)) (hh := [(0, 12, 15, 21), (0, 12, 19, 13)]) (Qc := fun A => WI D k (bRO k o (qs 0) bf pa pn pk sv iz tr tx er fl li ll ac ci co ++ bSt k qs qc qr ql lim sh sc fr ++ bClaims k qc n w ly t a fx ++ bCh k co ((bsT n le (bs0 n t x (gm, gs, rw, nt, mg, sg, M, S, F, O)) 10).1) ((bsT n le (bs0 n t x (gm, gs, rw, nt, mg, sg, M, S, F, O)) 10).2.1) ((bsT n le (bs0 n t x (gm, gs, rw, nt, mg, sg, M, S, F, O)) 10).2.2.1) ((bsT n le (bs0 n t x (gm, gs, rw, nt, mg, sg, M, S, F, O)) 10).2.2.2.1) ++ bGL k ((bsT n le (bs0 n t x (gm, gs, rw, nt, mg, sg, M, S, F, O)) 10).1) ((bsT n le (bs0 n t x (gm, gs, rw, nt, mg, sg, M, S, F, O)) 10).2.2.2.2.1) ++ bGL k ((bsT n le (bs0 n t x (gm, gs, rw, nt, mg, sg, M, S, F, O)) 10).2.1) ((bsT n le (bs0 n t x (gm, gs, rw, nt, mg, sg, M, S, F, O)) 10).2.2.2.2.2.1) ++ bGr k ((bsT n le (bs0 n t x (gm, gs, rw, nt, mg, sg, M, S, F, O)) 10).2.2.2.2.1) ((bsT n le (bs0 n t x (gm, gs, rw, nt, mg, sg, M, S, F, O)) 10).2.2.2.2.2.2.1) ++ bGr k ((bsT n le (bs0 n t x (gm, gs, rw, nt, mg, sg, M, S, F, O)) 10).2.2.2.2.2.1) ((bsT n le (bs0 n t x (gm, gs, rw, nt, mg, sg, M, S, F, O)) 10).2.2.2.2.2.2.2.1) ++ bL10 k ((bsT n le (bs0 n t x (gm, gs, rw, nt, mg, sg, M, S, F, O)) 10).2.2.1) ((bsT n le (bs0 n t x (gm, gs, rw, nt, mg, sg, M, S, F, O)) 10).2.2.2.2.2.2.2.2.1) ++ bL10 k ((bsT n le (bs0 n t x (gm, gs, rw, nt, mg, sg, M, S, F, O)) 10).2.2.2.1) ((bsT n le (bs0 n t x (gm, gs, rw, nt, mg, sg, M, S, F, O)) 10).2.2.2.2.2.2.2.2.2) ++ bL1 k out (vp_updL ou 0 ((((bsT n le (bs0 n t x (gm, gs, rw, nt, mg, sg, M, S, F, O)) 10).2.2.2.2.2.2.2.2.1 y.toNatClampNeg).toInt32).toInt64))) 0 A) [.ref o, .int x, .int y, .int le, .ref out] (by decide) rfl (Nat.le_of_ble_eq_true rfl) ?_
  intro p9 e9 s9 m9 bl9 me9 c9 ls A H hF hr hlocks htab hP hK hN hXN hNC hZ hKC hD hA hS hl
  have hl : lv_has ls 6 [(0, .ref o), (1, .int x), (2, .int y), (3, .int le), (4, .ref out)] := hl
  obtain ⟨hx, hb, hml, hown, hts⟩ := id hF
  refine lv_aload hx hb dL_chains_0 (lv_at hl 4 rfl) ?_
  refine lv_iconst (v := 0) hx hb dL_chains_2 (by decide) ?_
  refine lv_aload_n hx hb dL_chains_3 rfl (lv_at hl 0 rfl) ?_
  refine lv_iload_n hx hb dL_chains_4 rfl (lv_at hl 1 rfl) ?_
  refine lv_iload_n hx hb dL_chains_5 rfl (lv_at hl 2 rfl) ?_
  refine lv_iload_n hx hb dL_chains_6 rfl (lv_at hl 3 rfl) ?_
  have hFc := l_free (wc := bRO k o (qs 0) bf pa pn pk sv iz tr tx er fl li ll ac ci co ++ bSt k qs qc qr ql lim sh sc fr ++ bClaims k qc n w ly t a fx ++ bCh k co gm gs rw nt ++ bGL k gm mg ++ bGL k gs sg ++ bGr k mg M ++ bGr k sg S ++ bL10 k rw F ++ bL10 k nt O) (wr := bL1 k out ou) hD hS hA
  refine va_calli (va_runV (As := [.int x, .int y, .int le]) (rest := [.int 0, .ref out]) hF (m_X12_chains l9 D k H.size o bf pa pn pk sv tr tx li ll ac ci iz er fl qs qc qr ql lim sh sc fr n w ly t a fx co gm gs rw nt mg sg M S F O x y le hn hix hiy hil) (cwV 3 hts gL_chains_X12_chains rfl rfl rfl (by decide +kernel) ⟨Nat.le_of_ble_eq_true rfl, Nat.le_of_ble_eq_true rfl⟩) (l_preV hK hN (l_P1 (wr := bL1 k out ou) hP) (l_D1 (wr := bL1 k out ou) hD) (ci := 10) rfl rfl) rfl rfl hl.1 rfl (lv_room (Nat.le_of_ble_eq_true rfl)) dL_chains_7 ⟨Nat.zero_le _, Nat.zero_le _⟩) hS (fun q _ h => hFc q h) hFc (fun r u9 t9 H1 locs ht hvm hw hB hz1 hk1 hS => ?_)
  obtain ⟨hP, hD⟩ := l_join (wr := bL1 k out ou) hP hD hk1 hFc hB ht
  subst hw
  clear hB hk1 hz1 hvm hFc
  clear ht
  clear t9
  generalize H1 = H at hP hS ⊢
  refine lv_i2l hx hb dL_chains_10 rfl ?_
  refine la_st hx hb hK hP hD hS 34 rfl 0 (by omega) (by decide) (bRO k o (qs 0) bf pa pn pk sv iz tr tx er fl li ll ac ci co ++ bSt k qs qc qr ql lim sh sc fr ++ bClaims k qc n w ly t a fx ++ bCh k co ((bsT n le (bs0 n t x (gm, gs, rw, nt, mg, sg, M, S, F, O)) 10).1) ((bsT n le (bs0 n t x (gm, gs, rw, nt, mg, sg, M, S, F, O)) 10).2.1) ((bsT n le (bs0 n t x (gm, gs, rw, nt, mg, sg, M, S, F, O)) 10).2.2.1) ((bsT n le (bs0 n t x (gm, gs, rw, nt, mg, sg, M, S, F, O)) 10).2.2.2.1) ++ bGL k ((bsT n le (bs0 n t x (gm, gs, rw, nt, mg, sg, M, S, F, O)) 10).1) ((bsT n le (bs0 n t x (gm, gs, rw, nt, mg, sg, M, S, F, O)) 10).2.2.2.2.1) ++ bGL k ((bsT n le (bs0 n t x (gm, gs, rw, nt, mg, sg, M, S, F, O)) 10).2.1) ((bsT n le (bs0 n t x (gm, gs, rw, nt, mg, sg, M, S, F, O)) 10).2.2.2.2.2.1) ++ bGr k ((bsT n le (bs0 n t x (gm, gs, rw, nt, mg, sg, M, S, F, O)) 10).2.2.2.2.1) ((bsT n le (bs0 n t x (gm, gs, rw, nt, mg, sg, M, S, F, O)) 10).2.2.2.2.2.2.1) ++ bGr k ((bsT n le (bs0 n t x (gm, gs, rw, nt, mg, sg, M, S, F, O)) 10).2.2.2.2.2.1) ((bsT n le (bs0 n t x (gm, gs, rw, nt, mg, sg, M, S, F, O)) 10).2.2.2.2.2.2.2.1) ++ bL10 k ((bsT n le (bs0 n t x (gm, gs, rw, nt, mg, sg, M, S, F, O)) 10).2.2.1) ((bsT n le (bs0 n t x (gm, gs, rw, nt, mg, sg, M, S, F, O)) 10).2.2.2.2.2.2.2.2.1) ++ bL10 k ((bsT n le (bs0 n t x (gm, gs, rw, nt, mg, sg, M, S, F, O)) 10).2.2.2.1) ((bsT n le (bs0 n t x (gm, gs, rw, nt, mg, sg, M, S, F, O)) 10).2.2.2.2.2.2.2.2.2) ++ bL1 k out (vp_updL ou 0 ((((bsT n le (bs0 n t x (gm, gs, rw, nt, mg, sg, M, S, F, O)) 10).2.2.2.2.2.2.2.2.1 y.toNatClampNeg).toInt32).toInt64))) rfl dL_chains_11 (fun H locs hP hD hS => ?_)
  refine lv_goto (tgt := 23) hx hb dL_chains_12 (by decide) ?_
  refine lv_iconst (v := 0) hx hb dL_chains_23 (by decide) ?_
  refine W.widen (k := 1) (n := 6) (Nat.le_of_ble_eq_true rfl) (Nat.le_of_ble_eq_true rfl) ?_
  exact W.iret (v := 0) hx hb hr (fun t9 ht hW => ⟨⟨_, (), rfl, (by first | (with_reducible exact rfl) | (rw [if_pos (by assumption)]; done) | (rw [if_neg (ne_true_of_eq_false (by assumption))]; done)), ⟨by rw [ht]; exact hP, va_K.moved hW.alike hK, hD⟩⟩, hS.F ht⟩) hS.2.2 dL_chains_24 hlocks

set_option maxHeartbeats 4000000 in
set_option maxRecDepth 100000 in
theorem m_L_chains_1a (l9 : Launch) (hl9 : l9.stackTraces = false) (D : va_G) (k : Nat → ClassId) (ks kv kf : Nat → Nat) (ka kw : Nat) (sz : Nat) (o bf pa pn pk sv tr tx li ll ac ci ch : Nat) (iz : Bool) (er fl : Int32) (qs qc qr ql : Nat → Nat) (lim sh sc : Int32) (fr : Nat → UInt32) (n : Nat) (w ly t a : Nat → Int32) (fx : Nat → UInt32) (x y le : Int32) (out : Nat) (ou : Nat → Int64) (hxn : inC n x = false) : Met l9 yL_chains wsL_chains ({ frames := 9, cells := 1, slots := 6, locals := 149 }) (LPc ks kv kf ka kw D k [.ref o, .int x, .int y, .int le, .ref out] (bRO k o (qs 0) bf pa pn pk sv iz tr tx er fl li ll ac ci ch ++ bSt k qs qc qr ql lim sh sc fr ++ bClaims k qc n w ly t a fx ++ bL1 k out ou) sz) (WI D k (bRO k o (qs 0) bf pa pn pk sv iz tr tx er fl li ll ac ci ch ++ bSt k qs qc qr ql lim sh sc fr ++ bClaims k qc n w ly t a fx ++ bL1 k out ou) 1 (va_A (bRO k o (qs 0) bf pa pn pk sv iz tr tx er fl li ll ac ci ch ++ bSt k qs qc qr ql lim sh sc fr ++ bClaims k qc n w ly t a fx ++ bL1 k out ou) sz)) 1 6 (va_A (bRO k o (qs 0) bf pa pn pk sv iz tr tx er fl li ll ac ci ch ++ bSt k qs qc qr ql lim sh sc fr ++ bClaims k qc n w ly t a fx ++ bL1 k out ou) sz) := by
  refine lMet (y := yL_chains) (cc := cL_chains) (maxL := 6) (ret := (some .int)) (hh := [(0, 12, 15, 21), (0, 12, 19, 13)]) (Qc := fun A => WI D k (bRO k o (qs 0) bf pa pn pk sv iz tr tx er fl li ll ac ci ch ++ bSt k qs qc qr ql lim sh sc fr ++ bClaims k qc n w ly t a fx ++ bL1 k out ou) 1 A) [.ref o, .int x, .int y, .int le, .ref out] (by decide) rfl (Nat.le_of_ble_eq_true rfl) ?_
  intro p9 e9 s9 m9 bl9 me9 c9 ls A H hF hr hlocks htab hP hK hN hXN hNC hZ hKC hD hA hS hl
  have hl : lv_has ls 6 [(0, .ref o), (1, .int x), (2, .int y), (3, .int le), (4, .ref out)] := hl
  obtain ⟨hx, hb, hml, hown, hts⟩ := id hF
  refine lv_aload hx hb dL_chains_0 (lv_at hl 4 rfl) ?_
  refine lv_iconst (v := 0) hx hb dL_chains_2 (by decide) ?_
  refine lv_aload_n hx hb dL_chains_3 rfl (lv_at hl 0 rfl) ?_
  refine lv_iload_n hx hb dL_chains_4 rfl (lv_at hl 1 rfl) ?_
  refine lv_iload_n hx hb dL_chains_5 rfl (lv_at hl 2 rfl) ?_
  refine lv_iload_n hx hb dL_chains_6 rfl (lv_at hl 3 rfl) ?_
  have hFc := l_free (wc := bRO k o (qs 0) bf pa pn pk sv iz tr tx er fl li ll ac ci ch ++ bSt k qs qc qr ql lim sh sc fr ++ bClaims k qc n w ly t a fx) (wr := bL1 k out ou) hD hS hA
  refine vx_calli (vx_runV (As := [.int x, .int y, .int le]) (rest := [.int 0, .ref out]) hF (x_X12_chains_a l9 hl9 D k H.size o bf pa pn pk sv tr tx li ll ac ci ch iz er fl qs qc qr ql lim sh sc fr n w ly t a fx x y le hxn) (cwV 3 hts gL_chains_X12_chains rfl rfl rfl (by decide +kernel) ⟨Nat.le_of_ble_eq_true rfl, Nat.le_of_ble_eq_true rfl⟩) (l_preX hK hN hXN hZ hS hFc (l_P1 (wr := bL1 k out ou) hP) (l_D1 (wr := bL1 k out ou) hD) (ci := 10) rfl rfl) rfl rfl hl.1 rfl (lv_room (Nat.le_of_ble_eq_true rfl)) dL_chains_7 ⟨Nat.le_of_ble_eq_true rfl, Nat.le_of_ble_eq_true rfl⟩) hS (fun q _ h => hFc q h) hFc (fun q _ h => hFc q h) (fun E9 ce9 q9 u9 t9 H1 locs ht hvm _ hbx hz1 hk1 hS hce hcv hcl => ?_) (fun r u9 t9 H1 locs _ _ hp _ _ _ _ => hp.elim)
  obtain ⟨rfl, hbx⟩ := hbx
  obtain ⟨hP, hD⟩ := l_join (u := ()) (wr := bL1 k out ou) hP hD hk1 hFc hbx ht
  refine vx_catch (own := RL) (name := "java/lang/IndexOutOfBoundsException") (E := "java/lang/IndexOutOfBoundsException") hown [] ⟨0, 12, 15, 21⟩ [⟨0, 12, 19, 13⟩] (htab.trans rfl) (fun z hz => by simp only [List.not_mem_nil] at hz) rfl (by decide) (hts (.classLink RL 21 "java/lang/IndexOutOfBoundsException") (by decide +kernel)) (va_Nw.use (xnL_tables (.castable "java/lang/IndexOutOfBoundsException" "java/lang/IndexOutOfBoundsException") (by decide)) (hXN.1 (.castable "java/lang/IndexOutOfBoundsException" "java/lang/IndexOutOfBoundsException") (by decide))) hce hcv hcl ?_
  clear hbx hk1 hz1 hvm hFc hce hcv hcl ht
  clear t9
  generalize H1 = H at hP hS ⊢
  refine W.eq (g2 := F0 m9 15 ls [.ref q9]) rfl ?_
  refine lv_astore (lv' := [(5, .ref q9), (0, .ref o), (1, .int x), (2, .int y), (3, .int le), (4, .ref out)]) hx hb dL_chains_15 hl (by decide) rfl (fun ls hl => ?_)
  refine lv_iconst (v := 1) hx hb dL_chains_17 (by decide) ?_
  refine W.widen (k := 1) (n := 6) (Nat.le_of_ble_eq_true rfl) (Nat.le_of_ble_eq_true rfl) ?_
  exact W.iret (v := 1) hx hb hr (fun t9 ht hW => ⟨⟨_, (), rfl, (by first | (with_reducible exact rfl) | (rw [if_pos (by assumption)]; done) | (rw [if_neg (ne_true_of_eq_false (by assumption))]; done)), ⟨by rw [ht]; exact hP, va_K.moved hW.alike hK, hD⟩⟩, hS.F ht⟩) hS.2.2 dL_chains_18 hlocks

set_option maxHeartbeats 4000000 in
set_option maxRecDepth 100000 in
theorem m_L_chains_1b (l9 : Launch) (hl9 : l9.stackTraces = false) (D : va_G) (k : Nat → ClassId) (ks kv kf : Nat → Nat) (ka kw : Nat) (sz : Nat) (o bf pa pn pk sv tr tx li ll ac ci ch : Nat) (iz : Bool) (er fl : Int32) (qs qc qr ql : Nat → Nat) (lim sh sc : Int32) (fr : Nat → UInt32) (n : Nat) (w ly t a : Nat → Int32) (fx : Nat → UInt32) (x y le : Int32) (out : Nat) (ou : Nat → Int64) (hix : inC n x = true) (hxn : inC n y = false) : Met l9 yL_chains wsL_chains ({ frames := 9, cells := 1, slots := 6, locals := 149 }) (LPc ks kv kf ka kw D k [.ref o, .int x, .int y, .int le, .ref out] (bRO k o (qs 0) bf pa pn pk sv iz tr tx er fl li ll ac ci ch ++ bSt k qs qc qr ql lim sh sc fr ++ bClaims k qc n w ly t a fx ++ bL1 k out ou) sz) (WI D k (bRO k o (qs 0) bf pa pn pk sv iz tr tx er fl li ll ac ci ch ++ bSt k qs qc qr ql lim sh sc fr ++ bClaims k qc n w ly t a fx ++ bL1 k out ou) 1 (va_A (bRO k o (qs 0) bf pa pn pk sv iz tr tx er fl li ll ac ci ch ++ bSt k qs qc qr ql lim sh sc fr ++ bClaims k qc n w ly t a fx ++ bL1 k out ou) sz)) 1 6 (va_A (bRO k o (qs 0) bf pa pn pk sv iz tr tx er fl li ll ac ci ch ++ bSt k qs qc qr ql lim sh sc fr ++ bClaims k qc n w ly t a fx ++ bL1 k out ou) sz) := by
  refine lMet (y := yL_chains) (cc := cL_chains) (maxL := 6) (ret := (some .int)) (hh := [(0, 12, 15, 21), (0, 12, 19, 13)]) (Qc := fun A => WI D k (bRO k o (qs 0) bf pa pn pk sv iz tr tx er fl li ll ac ci ch ++ bSt k qs qc qr ql lim sh sc fr ++ bClaims k qc n w ly t a fx ++ bL1 k out ou) 1 A) [.ref o, .int x, .int y, .int le, .ref out] (by decide) rfl (Nat.le_of_ble_eq_true rfl) ?_
  intro p9 e9 s9 m9 bl9 me9 c9 ls A H hF hr hlocks htab hP hK hN hXN hNC hZ hKC hD hA hS hl
  have hl : lv_has ls 6 [(0, .ref o), (1, .int x), (2, .int y), (3, .int le), (4, .ref out)] := hl
  obtain ⟨hx, hb, hml, hown, hts⟩ := id hF
  refine lv_aload hx hb dL_chains_0 (lv_at hl 4 rfl) ?_
  refine lv_iconst (v := 0) hx hb dL_chains_2 (by decide) ?_
  refine lv_aload_n hx hb dL_chains_3 rfl (lv_at hl 0 rfl) ?_
  refine lv_iload_n hx hb dL_chains_4 rfl (lv_at hl 1 rfl) ?_
  refine lv_iload_n hx hb dL_chains_5 rfl (lv_at hl 2 rfl) ?_
  refine lv_iload_n hx hb dL_chains_6 rfl (lv_at hl 3 rfl) ?_
  have hFc := l_free (wc := bRO k o (qs 0) bf pa pn pk sv iz tr tx er fl li ll ac ci ch ++ bSt k qs qc qr ql lim sh sc fr ++ bClaims k qc n w ly t a fx) (wr := bL1 k out ou) hD hS hA
  refine vx_calli (vx_runV (As := [.int x, .int y, .int le]) (rest := [.int 0, .ref out]) hF (x_X12_chains_b l9 hl9 D k H.size o bf pa pn pk sv tr tx li ll ac ci ch iz er fl qs qc qr ql lim sh sc fr n w ly t a fx x y le hix hxn) (cwV 3 hts gL_chains_X12_chains rfl rfl rfl (by decide +kernel) ⟨Nat.le_of_ble_eq_true rfl, Nat.le_of_ble_eq_true rfl⟩) (l_preX hK hN hXN hZ hS hFc (l_P1 (wr := bL1 k out ou) hP) (l_D1 (wr := bL1 k out ou) hD) (ci := 10) rfl rfl) rfl rfl hl.1 rfl (lv_room (Nat.le_of_ble_eq_true rfl)) dL_chains_7 ⟨Nat.le_of_ble_eq_true rfl, Nat.le_of_ble_eq_true rfl⟩) hS (fun q _ h => hFc q h) hFc (fun q _ h => hFc q h) (fun E9 ce9 q9 u9 t9 H1 locs ht hvm _ hbx hz1 hk1 hS hce hcv hcl => ?_) (fun r u9 t9 H1 locs _ _ hp _ _ _ _ => hp.elim)
  obtain ⟨rfl, hbx⟩ := hbx
  obtain ⟨hP, hD⟩ := l_join (u := ()) (wr := bL1 k out ou) hP hD hk1 hFc hbx ht
  refine vx_catch (own := RL) (name := "java/lang/IndexOutOfBoundsException") (E := "java/lang/IndexOutOfBoundsException") hown [] ⟨0, 12, 15, 21⟩ [⟨0, 12, 19, 13⟩] (htab.trans rfl) (fun z hz => by simp only [List.not_mem_nil] at hz) rfl (by decide) (hts (.classLink RL 21 "java/lang/IndexOutOfBoundsException") (by decide +kernel)) (va_Nw.use (xnL_tables (.castable "java/lang/IndexOutOfBoundsException" "java/lang/IndexOutOfBoundsException") (by decide)) (hXN.1 (.castable "java/lang/IndexOutOfBoundsException" "java/lang/IndexOutOfBoundsException") (by decide))) hce hcv hcl ?_
  clear hbx hk1 hz1 hvm hFc hce hcv hcl ht
  clear t9
  generalize H1 = H at hP hS ⊢
  refine W.eq (g2 := F0 m9 15 ls [.ref q9]) rfl ?_
  refine lv_astore (lv' := [(5, .ref q9), (0, .ref o), (1, .int x), (2, .int y), (3, .int le), (4, .ref out)]) hx hb dL_chains_15 hl (by decide) rfl (fun ls hl => ?_)
  refine lv_iconst (v := 1) hx hb dL_chains_17 (by decide) ?_
  refine W.widen (k := 1) (n := 6) (Nat.le_of_ble_eq_true rfl) (Nat.le_of_ble_eq_true rfl) ?_
  exact W.iret (v := 1) hx hb hr (fun t9 ht hW => ⟨⟨_, (), rfl, (by first | (with_reducible exact rfl) | (rw [if_pos (by assumption)]; done) | (rw [if_neg (ne_true_of_eq_false (by assumption))]; done)), ⟨by rw [ht]; exact hP, va_K.moved hW.alike hK, hD⟩⟩, hS.F ht⟩) hS.2.2 dL_chains_18 hlocks

set_option maxHeartbeats 4000000 in
set_option maxRecDepth 100000 in
theorem m_L_chains_2 (l9 : Launch) (hl9 : l9.stackTraces = false) (D : va_G) (k : Nat → ClassId) (ks kv kf : Nat → Nat) (ka kw : Nat) (sz : Nat) (o bf pa pn pk sv tr tx li ll ac ci ch : Nat) (iz : Bool) (er fl : Int32) (qs qc qr ql : Nat → Nat) (lim sh sc : Int32) (fr : Nat → UInt32) (n : Nat) (w ly t a : Nat → Int32) (fx : Nat → UInt32) (x y le : Int32) (out : Nat) (ou : Nat → Int64) (hix : inC n x = true) (hiy : inC n y = true) (hil : rg 0 le 999 = false) : Met l9 yL_chains wsL_chains ({ frames := 8, cells := 1, slots := 6, locals := 128 }) (LPc ks kv kf ka kw D k [.ref o, .int x, .int y, .int le, .ref out] (bRO k o (qs 0) bf pa pn pk sv iz tr tx er fl li ll ac ci ch ++ bSt k qs qc qr ql lim sh sc fr ++ bClaims k qc n w ly t a fx ++ bL1 k out ou) sz) (WI D k (bRO k o (qs 0) bf pa pn pk sv iz tr tx er fl li ll ac ci ch ++ bSt k qs qc qr ql lim sh sc fr ++ bClaims k qc n w ly t a fx ++ bL1 k out ou) 2 (va_A (bRO k o (qs 0) bf pa pn pk sv iz tr tx er fl li ll ac ci ch ++ bSt k qs qc qr ql lim sh sc fr ++ bClaims k qc n w ly t a fx ++ bL1 k out ou) sz)) 1 6 (va_A (bRO k o (qs 0) bf pa pn pk sv iz tr tx er fl li ll ac ci ch ++ bSt k qs qc qr ql lim sh sc fr ++ bClaims k qc n w ly t a fx ++ bL1 k out ou) sz) := by
  refine lMet (y := yL_chains) (cc := cL_chains) (maxL := 6) (ret := (some .int)) (hh := [(0, 12, 15, 21), (0, 12, 19, 13)]) (Qc := fun A => WI D k (bRO k o (qs 0) bf pa pn pk sv iz tr tx er fl li ll ac ci ch ++ bSt k qs qc qr ql lim sh sc fr ++ bClaims k qc n w ly t a fx ++ bL1 k out ou) 2 A) [.ref o, .int x, .int y, .int le, .ref out] (by decide) rfl (Nat.le_of_ble_eq_true rfl) ?_
  intro p9 e9 s9 m9 bl9 me9 c9 ls A H hF hr hlocks htab hP hK hN hXN hNC hZ hKC hD hA hS hl
  have hl : lv_has ls 6 [(0, .ref o), (1, .int x), (2, .int y), (3, .int le), (4, .ref out)] := hl
  obtain ⟨hx, hb, hml, hown, hts⟩ := id hF
  refine lv_aload hx hb dL_chains_0 (lv_at hl 4 rfl) ?_
  refine lv_iconst (v := 0) hx hb dL_chains_2 (by decide) ?_
  refine lv_aload_n hx hb dL_chains_3 rfl (lv_at hl 0 rfl) ?_
  refine lv_iload_n hx hb dL_chains_4 rfl (lv_at hl 1 rfl) ?_
  refine lv_iload_n hx hb dL_chains_5 rfl (lv_at hl 2 rfl) ?_
  refine lv_iload_n hx hb dL_chains_6 rfl (lv_at hl 3 rfl) ?_
  have hFc := l_free (wc := bRO k o (qs 0) bf pa pn pk sv iz tr tx er fl li ll ac ci ch ++ bSt k qs qc qr ql lim sh sc fr ++ bClaims k qc n w ly t a fx) (wr := bL1 k out ou) hD hS hA
  refine vx_calli (vx_runV (As := [.int x, .int y, .int le]) (rest := [.int 0, .ref out]) hF (x_X12_chains_c l9 hl9 D k H.size o bf pa pn pk sv tr tx li ll ac ci ch iz er fl qs qc qr ql lim sh sc fr n w ly t a fx x y le hix hiy hil) (cwV 3 hts gL_chains_X12_chains rfl rfl rfl (by decide +kernel) ⟨Nat.le_of_ble_eq_true rfl, Nat.le_of_ble_eq_true rfl⟩) (l_preX hK hN hXN hZ hS hFc (l_P1 (wr := bL1 k out ou) hP) (l_D1 (wr := bL1 k out ou) hD) (ci := 10) rfl rfl) rfl rfl hl.1 rfl (lv_room (Nat.le_of_ble_eq_true rfl)) dL_chains_7 ⟨Nat.le_of_ble_eq_true rfl, Nat.le_of_ble_eq_true rfl⟩) hS (fun q _ h => hFc q h) hFc (fun q _ h => hFc q h) (fun E9 ce9 q9 u9 t9 H1 locs ht hvm _ hbx hz1 hk1 hS hce hcv hcl => ?_) (fun r u9 t9 H1 locs _ _ hp _ _ _ _ => hp.elim)
  obtain ⟨rfl, hbx⟩ := hbx
  obtain ⟨hP, hD⟩ := l_join (u := ()) (wr := bL1 k out ou) hP hD hk1 hFc hbx ht
  refine vx_catch (own := RL) (name := "java/lang/IllegalArgumentException") (E := "java/lang/IllegalArgumentException") hown [⟨0, 12, 15, 21⟩] ⟨0, 12, 19, 13⟩ [] (htab.trans rfl) (fun z hz => by simp only [List.mem_cons, List.not_mem_nil, or_false] at hz; rcases hz with hz <;> subst hz <;> first | exact Or.inr ⟨by decide, "java/lang/IndexOutOfBoundsException", hts (.classLink RL 21 "java/lang/IndexOutOfBoundsException") (by decide +kernel), hNC ("java/lang/IllegalArgumentException", "java/lang/IndexOutOfBoundsException") (by decide)⟩) rfl (by decide) (hts (.classLink RL 13 "java/lang/IllegalArgumentException") (by decide +kernel)) (va_Nw.use (xnL_tables (.castable "java/lang/IllegalArgumentException" "java/lang/IllegalArgumentException") (by decide)) (hXN.1 (.castable "java/lang/IllegalArgumentException" "java/lang/IllegalArgumentException") (by decide))) hce hcv hcl ?_
  clear hbx hk1 hz1 hvm hFc hce hcv hcl ht
  clear t9
  generalize H1 = H at hP hS ⊢
  refine W.eq (g2 := F0 m9 19 ls [.ref q9]) rfl ?_
  refine lv_astore (lv' := [(5, .ref q9), (0, .ref o), (1, .int x), (2, .int y), (3, .int le), (4, .ref out)]) hx hb dL_chains_19 hl (by decide) rfl (fun ls hl => ?_)
  refine lv_iconst (v := 2) hx hb dL_chains_21 (by decide) ?_
  refine W.widen (k := 1) (n := 6) (Nat.le_of_ble_eq_true rfl) (Nat.le_of_ble_eq_true rfl) ?_
  exact W.iret (v := 2) hx hb hr (fun t9 ht hW => ⟨⟨_, (), rfl, (by first | (with_reducible exact rfl) | (rw [if_pos (by assumption)]; done) | (rw [if_neg (ne_true_of_eq_false (by assumption))]; done)), ⟨by rw [ht]; exact hP, va_K.moved hW.alike hK, hD⟩⟩, hS.F ht⟩) hS.2.2 dL_chains_22 hlocks

set_option maxHeartbeats 4000000 in
set_option maxRecDepth 100000 in
theorem m_L_chainsBySteps_ok (l9 : Launch) (hl9 : l9.stackTraces = false) (D : va_G) (k : Nat → ClassId) (ks kv kf : Nat → Nat) (ka kw : Nat) (sz : Nat) (o bf pa pn pk sv tr tx li ll ac ci : Nat) (iz : Bool) (er fl : Int32) (qs qc qr ql : Nat → Nat) (lim sh sc : Int32) (fr : Nat → UInt32) (n : Nat) (w ly t a : Nat → Int32) (fx : Nat → UInt32) (co gm gs rw nt : Nat) (mg sg : Nat → Nat) (M S : Nat → Nat → Int64) (F O : Nat → Int64) (x y le : Int32) (out : Nat) (ou : Nat → Int64) (hn : n ≤ 10) (hix : inC n x = true) (hiy : inC n y = true) (hil : rg 0 le 999 = true) : Met l9 yL_chainsBySteps wsL_chainsBySteps ({ frames := 4, cells := 1, slots := 6, locals := 95 }) (LPc ks kv kf ka kw D k [.ref o, .int x, .int y, .int le, .ref out] (bRO k o (qs 0) bf pa pn pk sv iz tr tx er fl li ll ac ci co ++ bSt k qs qc qr ql lim sh sc fr ++ bClaims k qc n w ly t a fx ++ bCh k co gm gs rw nt ++ bGL k gm mg ++ bGL k gs sg ++ bGr k mg M ++ bGr k sg S ++ bL10 k rw F ++ bL10 k nt O ++ bL1 k out ou) sz) (WI D k (bRO k o (qs 0) bf pa pn pk sv iz tr tx er fl li ll ac ci co ++ bSt k qs qc qr ql lim sh sc fr ++ bClaims k qc n w ly t a fx ++ bCh k co ((itN n a (by0 n x (gm, gs, rw, nt, mg, sg, M, S, F, O)) le.toNatClampNeg).1) ((itN n a (by0 n x (gm, gs, rw, nt, mg, sg, M, S, F, O)) le.toNatClampNeg).2.1) ((itN n a (by0 n x (gm, gs, rw, nt, mg, sg, M, S, F, O)) le.toNatClampNeg).2.2.1) ((itN n a (by0 n x (gm, gs, rw, nt, mg, sg, M, S, F, O)) le.toNatClampNeg).2.2.2.1) ++ bGL k ((itN n a (by0 n x (gm, gs, rw, nt, mg, sg, M, S, F, O)) le.toNatClampNeg).1) ((itN n a (by0 n x (gm, gs, rw, nt, mg, sg, M, S, F, O)) le.toNatClampNeg).2.2.2.2.1) ++ bGL k ((itN n a (by0 n x (gm, gs, rw, nt, mg, sg, M, S, F, O)) le.toNatClampNeg).2.1) ((itN n a (by0 n x (gm, gs, rw, nt, mg, sg, M, S, F, O)) le.toNatClampNeg).2.2.2.2.2.1) ++ bGr k ((itN n a (by0 n x (gm, gs, rw, nt, mg, sg, M, S, F, O)) le.toNatClampNeg).2.2.2.2.1) ((itN n a (by0 n x (gm, gs, rw, nt, mg, sg, M, S, F, O)) le.toNatClampNeg).2.2.2.2.2.2.1) ++ bGr k ((itN n a (by0 n x (gm, gs, rw, nt, mg, sg, M, S, F, O)) le.toNatClampNeg).2.2.2.2.2.1) ((itN n a (by0 n x (gm, gs, rw, nt, mg, sg, M, S, F, O)) le.toNatClampNeg).2.2.2.2.2.2.2.1) ++ bL10 k ((itN n a (by0 n x (gm, gs, rw, nt, mg, sg, M, S, F, O)) le.toNatClampNeg).2.2.1) ((itN n a (by0 n x (gm, gs, rw, nt, mg, sg, M, S, F, O)) le.toNatClampNeg).2.2.2.2.2.2.2.2.1) ++ bL10 k ((itN n a (by0 n x (gm, gs, rw, nt, mg, sg, M, S, F, O)) le.toNatClampNeg).2.2.2.1) ((itN n a (by0 n x (gm, gs, rw, nt, mg, sg, M, S, F, O)) le.toNatClampNeg).2.2.2.2.2.2.2.2.2) ++ bL1 k out (vp_updL ou 0 ((((itN n a (by0 n x (gm, gs, rw, nt, mg, sg, M, S, F, O)) le.toNatClampNeg).2.2.2.2.2.2.2.2.1 y.toNatClampNeg).toInt32).toInt64))) 0 (va_A (bRO k o (qs 0) bf pa pn pk sv iz tr tx er fl li ll ac ci co ++ bSt k qs qc qr ql lim sh sc fr ++ bClaims k qc n w ly t a fx ++ bCh k co gm gs rw nt ++ bGL k gm mg ++ bGL k gs sg ++ bGr k mg M ++ bGr k sg S ++ bL10 k rw F ++ bL10 k nt O ++ bL1 k out ou) sz)) 1 6 (va_A (bRO k o (qs 0) bf pa pn pk sv iz tr tx er fl li ll ac ci co ++ bSt k qs qc qr ql lim sh sc fr ++ bClaims k qc n w ly t a fx ++ bCh k co gm gs rw nt ++ bGL k gm mg ++ bGL k gs sg ++ bGr k mg M ++ bGr k sg S ++ bL10 k rw F ++ bL10 k nt O ++ bL1 k out ou) sz) := by
  refine lMet (y := yL_chainsBySteps) (cc := cL_chainsBySteps) (maxL := 6) (ret := (some .int)) (hh := [(0, 12, 15, 21), (0, 12, 19, 13)]) (Qc := fun A => WI D k (bRO k o (qs 0) bf pa pn pk sv iz tr tx er fl li ll ac ci co ++ bSt k qs qc qr ql lim sh sc fr ++ bClaims k qc n w ly t a fx ++ bCh k co ((itN n a (by0 n x (gm, gs, rw, nt, mg, sg, M, S, F, O)) le.toNatClampNeg).1) ((itN n a (by0 n x (gm, gs, rw, nt, mg, sg, M, S, F, O)) le.toNatClampNeg).2.1) ((itN n a (by0 n x (gm, gs, rw, nt, mg, sg, M, S, F, O)) le.toNatClampNeg).2.2.1) ((itN n a (by0 n x (gm, gs, rw, nt, mg, sg, M, S, F, O)) le.toNatClampNeg).2.2.2.1) ++ bGL k ((itN n a (by0 n x (gm, gs, rw, nt, mg, sg, M, S, F, O)) le.toNatClampNeg).1) ((itN n a (by0 n x (gm, gs, rw, nt, mg, sg, M, S, F, O)) le.toNatClampNeg).2.2.2.2.1) ++ bGL k ((itN n a (by0 n x (gm, gs, rw, nt, mg, sg, M, S, F, O)) le.toNatClampNeg).2.1) ((itN n a (by0 n x (gm, gs, rw, nt, mg, sg, M, S, F, O)) le.toNatClampNeg).2.2.2.2.2.1) ++ bGr k ((itN n a (by0 n x (gm, gs, rw, nt, mg, sg, M, S, F, O)) le.toNatClampNeg).2.2.2.2.1) ((itN n a (by0 n x (gm, gs, rw, nt, mg, sg, M, S, F, O)) le.toNatClampNeg).2.2.2.2.2.2.1) ++ bGr k ((itN n a (by0 n x (gm, gs, rw, nt, mg, sg, M, S, F, O)) le.toNatClampNeg).2.2.2.2.2.1) ((itN n a (by0 n x (gm, gs, rw, nt, mg, sg, M, S, F, O)) le.toNatClampNeg).2.2.2.2.2.2.2.1) ++ bL10 k ((itN n a (by0 n x (gm, gs, rw, nt, mg, sg, M, S, F, O)) le.toNatClampNeg).2.2.1) ((itN n a (by0 n x (gm, gs, rw, nt, mg, sg, M, S, F, O)) le.toNatClampNeg).2.2.2.2.2.2.2.2.1) ++ bL10 k ((itN n a (by0 n x (gm, gs, rw, nt, mg, sg, M, S, F, O)) le.toNatClampNeg).2.2.2.1) ((itN n a (by0 n x (gm, gs, rw, nt, mg, sg, M, S, F, O)) le.toNatClampNeg).2.2.2.2.2.2.2.2.2) ++ bL1 k out (vp_updL ou 0 ((((itN n a (by0 n x (gm, gs, rw, nt, mg, sg, M, S, F, O)) le.toNatClampNeg).2.2.2.2.2.2.2.2.1 y.toNatClampNeg).toInt32).toInt64))) 0 A) [.ref o, .int x, .int y, .int le, .ref out] (by decide) rfl (Nat.le_of_ble_eq_true rfl) ?_
  intro p9 e9 s9 m9 bl9 me9 c9 ls A H hF hr hlocks htab hP hK hN hXN hNC hZ hKC hD hA hS hl
  have hl : lv_has ls 6 [(0, .ref o), (1, .int x), (2, .int y), (3, .int le), (4, .ref out)] := hl
  obtain ⟨hx, hb, hml, hown, hts⟩ := id hF
  refine lv_aload hx hb dL_chainsBySteps_0 (lv_at hl 4 rfl) ?_
  refine lv_iconst (v := 0) hx hb dL_chainsBySteps_2 (by decide) ?_
  refine lv_aload_n hx hb dL_chainsBySteps_3 rfl (lv_at hl 0 rfl) ?_
  refine lv_iload_n hx hb dL_chainsBySteps_4 rfl (lv_at hl 1 rfl) ?_
  refine lv_iload_n hx hb dL_chainsBySteps_5 rfl (lv_at hl 2 rfl) ?_
  refine lv_iload_n hx hb dL_chainsBySteps_6 rfl (lv_at hl 3 rfl) ?_
  have hFc := l_free (wc := bRO k o (qs 0) bf pa pn pk sv iz tr tx er fl li ll ac ci co ++ bSt k qs qc qr ql lim sh sc fr ++ bClaims k qc n w ly t a fx ++ bCh k co gm gs rw nt ++ bGL k gm mg ++ bGL k gs sg ++ bGr k mg M ++ bGr k sg S ++ bL10 k rw F ++ bL10 k nt O) (wr := bL1 k out ou) hD hS hA
  refine va_calli (va_runV (As := [.int x, .int y, .int le]) (rest := [.int 0, .ref out]) hF (m_X12_chainsBySteps l9 D k H.size o bf pa pn pk sv tr tx li ll ac ci iz er fl qs qc qr ql lim sh sc fr n w ly t a fx co gm gs rw nt mg sg M S F O x y le hn hix hiy hil) (cwV 3 hts gL_chainsBySteps_X12_chainsBySteps rfl rfl rfl (by decide +kernel) ⟨Nat.le_of_ble_eq_true rfl, Nat.le_of_ble_eq_true rfl⟩) (l_preV hK hN (l_P1 (wr := bL1 k out ou) hP) (l_D1 (wr := bL1 k out ou) hD) (ci := 10) rfl rfl) rfl rfl hl.1 rfl (lv_room (Nat.le_of_ble_eq_true rfl)) dL_chainsBySteps_7 ⟨Nat.zero_le _, Nat.zero_le _⟩) hS (fun q _ h => hFc q h) hFc (fun r u9 t9 H1 locs ht hvm hw hB hz1 hk1 hS => ?_)
  obtain ⟨hP, hD⟩ := l_join (wr := bL1 k out ou) hP hD hk1 hFc hB ht
  subst hw
  clear hB hk1 hz1 hvm hFc
  clear ht
  clear t9
  generalize H1 = H at hP hS ⊢
  refine lv_i2l hx hb dL_chainsBySteps_10 rfl ?_
  refine la_st hx hb hK hP hD hS 34 rfl 0 (by omega) (by decide) (bRO k o (qs 0) bf pa pn pk sv iz tr tx er fl li ll ac ci co ++ bSt k qs qc qr ql lim sh sc fr ++ bClaims k qc n w ly t a fx ++ bCh k co ((itN n a (by0 n x (gm, gs, rw, nt, mg, sg, M, S, F, O)) le.toNatClampNeg).1) ((itN n a (by0 n x (gm, gs, rw, nt, mg, sg, M, S, F, O)) le.toNatClampNeg).2.1) ((itN n a (by0 n x (gm, gs, rw, nt, mg, sg, M, S, F, O)) le.toNatClampNeg).2.2.1) ((itN n a (by0 n x (gm, gs, rw, nt, mg, sg, M, S, F, O)) le.toNatClampNeg).2.2.2.1) ++ bGL k ((itN n a (by0 n x (gm, gs, rw, nt, mg, sg, M, S, F, O)) le.toNatClampNeg).1) ((itN n a (by0 n x (gm, gs, rw, nt, mg, sg, M, S, F, O)) le.toNatClampNeg).2.2.2.2.1) ++ bGL k ((itN n a (by0 n x (gm, gs, rw, nt, mg, sg, M, S, F, O)) le.toNatClampNeg).2.1) ((itN n a (by0 n x (gm, gs, rw, nt, mg, sg, M, S, F, O)) le.toNatClampNeg).2.2.2.2.2.1) ++ bGr k ((itN n a (by0 n x (gm, gs, rw, nt, mg, sg, M, S, F, O)) le.toNatClampNeg).2.2.2.2.1) ((itN n a (by0 n x (gm, gs, rw, nt, mg, sg, M, S, F, O)) le.toNatClampNeg).2.2.2.2.2.2.1) ++ bGr k ((itN n a (by0 n x (gm, gs, rw, nt, mg, sg, M, S, F, O)) le.toNatClampNeg).2.2.2.2.2.1) ((itN n a (by0 n x (gm, gs, rw, nt, mg, sg, M, S, F, O)) le.toNatClampNeg).2.2.2.2.2.2.2.1) ++ bL10 k ((itN n a (by0 n x (gm, gs, rw, nt, mg, sg, M, S, F, O)) le.toNatClampNeg).2.2.1) ((itN n a (by0 n x (gm, gs, rw, nt, mg, sg, M, S, F, O)) le.toNatClampNeg).2.2.2.2.2.2.2.2.1) ++ bL10 k ((itN n a (by0 n x (gm, gs, rw, nt, mg, sg, M, S, F, O)) le.toNatClampNeg).2.2.2.1) ((itN n a (by0 n x (gm, gs, rw, nt, mg, sg, M, S, F, O)) le.toNatClampNeg).2.2.2.2.2.2.2.2.2) ++ bL1 k out (vp_updL ou 0 ((((itN n a (by0 n x (gm, gs, rw, nt, mg, sg, M, S, F, O)) le.toNatClampNeg).2.2.2.2.2.2.2.2.1 y.toNatClampNeg).toInt32).toInt64))) rfl dL_chainsBySteps_11 (fun H locs hP hD hS => ?_)
  refine lv_goto (tgt := 23) hx hb dL_chainsBySteps_12 (by decide) ?_
  refine lv_iconst (v := 0) hx hb dL_chainsBySteps_23 (by decide) ?_
  refine W.widen (k := 1) (n := 6) (Nat.le_of_ble_eq_true rfl) (Nat.le_of_ble_eq_true rfl) ?_
  exact W.iret (v := 0) hx hb hr (fun t9 ht hW => ⟨⟨_, (), rfl, (by first | (with_reducible exact rfl) | (rw [if_pos (by assumption)]; done) | (rw [if_neg (ne_true_of_eq_false (by assumption))]; done)), ⟨by rw [ht]; exact hP, va_K.moved hW.alike hK, hD⟩⟩, hS.F ht⟩) hS.2.2 dL_chainsBySteps_24 hlocks

set_option maxHeartbeats 4000000 in
set_option maxRecDepth 100000 in
theorem m_L_chainsBySteps_1a (l9 : Launch) (hl9 : l9.stackTraces = false) (D : va_G) (k : Nat → ClassId) (ks kv kf : Nat → Nat) (ka kw : Nat) (sz : Nat) (o bf pa pn pk sv tr tx li ll ac ci ch : Nat) (iz : Bool) (er fl : Int32) (qs qc qr ql : Nat → Nat) (lim sh sc : Int32) (fr : Nat → UInt32) (n : Nat) (w ly t a : Nat → Int32) (fx : Nat → UInt32) (x y le : Int32) (out : Nat) (ou : Nat → Int64) (hxn : inC n x = false) : Met l9 yL_chainsBySteps wsL_chainsBySteps ({ frames := 9, cells := 1, slots := 6, locals := 149 }) (LPc ks kv kf ka kw D k [.ref o, .int x, .int y, .int le, .ref out] (bRO k o (qs 0) bf pa pn pk sv iz tr tx er fl li ll ac ci ch ++ bSt k qs qc qr ql lim sh sc fr ++ bClaims k qc n w ly t a fx ++ bL1 k out ou) sz) (WI D k (bRO k o (qs 0) bf pa pn pk sv iz tr tx er fl li ll ac ci ch ++ bSt k qs qc qr ql lim sh sc fr ++ bClaims k qc n w ly t a fx ++ bL1 k out ou) 1 (va_A (bRO k o (qs 0) bf pa pn pk sv iz tr tx er fl li ll ac ci ch ++ bSt k qs qc qr ql lim sh sc fr ++ bClaims k qc n w ly t a fx ++ bL1 k out ou) sz)) 1 6 (va_A (bRO k o (qs 0) bf pa pn pk sv iz tr tx er fl li ll ac ci ch ++ bSt k qs qc qr ql lim sh sc fr ++ bClaims k qc n w ly t a fx ++ bL1 k out ou) sz) := by
  refine lMet (y := yL_chainsBySteps) (cc := cL_chainsBySteps) (maxL := 6) (ret := (some .int)) (hh := [(0, 12, 15, 21), (0, 12, 19, 13)]) (Qc := fun A => WI D k (bRO k o (qs 0) bf pa pn pk sv iz tr tx er fl li ll ac ci ch ++ bSt k qs qc qr ql lim sh sc fr ++ bClaims k qc n w ly t a fx ++ bL1 k out ou) 1 A) [.ref o, .int x, .int y, .int le, .ref out] (by decide) rfl (Nat.le_of_ble_eq_true rfl) ?_
  intro p9 e9 s9 m9 bl9 me9 c9 ls A H hF hr hlocks htab hP hK hN hXN hNC hZ hKC hD hA hS hl
  have hl : lv_has ls 6 [(0, .ref o), (1, .int x), (2, .int y), (3, .int le), (4, .ref out)] := hl
  obtain ⟨hx, hb, hml, hown, hts⟩ := id hF
  refine lv_aload hx hb dL_chainsBySteps_0 (lv_at hl 4 rfl) ?_
  refine lv_iconst (v := 0) hx hb dL_chainsBySteps_2 (by decide) ?_
  refine lv_aload_n hx hb dL_chainsBySteps_3 rfl (lv_at hl 0 rfl) ?_
  refine lv_iload_n hx hb dL_chainsBySteps_4 rfl (lv_at hl 1 rfl) ?_
  refine lv_iload_n hx hb dL_chainsBySteps_5 rfl (lv_at hl 2 rfl) ?_
  refine lv_iload_n hx hb dL_chainsBySteps_6 rfl (lv_at hl 3 rfl) ?_
  have hFc := l_free (wc := bRO k o (qs 0) bf pa pn pk sv iz tr tx er fl li ll ac ci ch ++ bSt k qs qc qr ql lim sh sc fr ++ bClaims k qc n w ly t a fx) (wr := bL1 k out ou) hD hS hA
  refine vx_calli (vx_runV (As := [.int x, .int y, .int le]) (rest := [.int 0, .ref out]) hF (x_X12_chainsBySteps_a l9 hl9 D k H.size o bf pa pn pk sv tr tx li ll ac ci ch iz er fl qs qc qr ql lim sh sc fr n w ly t a fx x y le hxn) (cwV 3 hts gL_chainsBySteps_X12_chainsBySteps rfl rfl rfl (by decide +kernel) ⟨Nat.le_of_ble_eq_true rfl, Nat.le_of_ble_eq_true rfl⟩) (l_preX hK hN hXN hZ hS hFc (l_P1 (wr := bL1 k out ou) hP) (l_D1 (wr := bL1 k out ou) hD) (ci := 10) rfl rfl) rfl rfl hl.1 rfl (lv_room (Nat.le_of_ble_eq_true rfl)) dL_chainsBySteps_7 ⟨Nat.le_of_ble_eq_true rfl, Nat.le_of_ble_eq_true rfl⟩) hS (fun q _ h => hFc q h) hFc (fun q _ h => hFc q h) (fun E9 ce9 q9 u9 t9 H1 locs ht hvm _ hbx hz1 hk1 hS hce hcv hcl => ?_) (fun r u9 t9 H1 locs _ _ hp _ _ _ _ => hp.elim)
  obtain ⟨rfl, hbx⟩ := hbx
  obtain ⟨hP, hD⟩ := l_join (u := ()) (wr := bL1 k out ou) hP hD hk1 hFc hbx ht
  refine vx_catch (own := RL) (name := "java/lang/IndexOutOfBoundsException") (E := "java/lang/IndexOutOfBoundsException") hown [] ⟨0, 12, 15, 21⟩ [⟨0, 12, 19, 13⟩] (htab.trans rfl) (fun z hz => by simp only [List.not_mem_nil] at hz) rfl (by decide) (hts (.classLink RL 21 "java/lang/IndexOutOfBoundsException") (by decide +kernel)) (va_Nw.use (xnL_tables (.castable "java/lang/IndexOutOfBoundsException" "java/lang/IndexOutOfBoundsException") (by decide)) (hXN.1 (.castable "java/lang/IndexOutOfBoundsException" "java/lang/IndexOutOfBoundsException") (by decide))) hce hcv hcl ?_
  clear hbx hk1 hz1 hvm hFc hce hcv hcl ht
  clear t9
  generalize H1 = H at hP hS ⊢
  refine W.eq (g2 := F0 m9 15 ls [.ref q9]) rfl ?_
  refine lv_astore (lv' := [(5, .ref q9), (0, .ref o), (1, .int x), (2, .int y), (3, .int le), (4, .ref out)]) hx hb dL_chainsBySteps_15 hl (by decide) rfl (fun ls hl => ?_)
  refine lv_iconst (v := 1) hx hb dL_chainsBySteps_17 (by decide) ?_
  refine W.widen (k := 1) (n := 6) (Nat.le_of_ble_eq_true rfl) (Nat.le_of_ble_eq_true rfl) ?_
  exact W.iret (v := 1) hx hb hr (fun t9 ht hW => ⟨⟨_, (), rfl, (by first | (with_reducible exact rfl) | (rw [if_pos (by assumption)]; done) | (rw [if_neg (ne_true_of_eq_false (by assumption))]; done)), ⟨by rw [ht]; exact hP, va_K.moved hW.alike hK, hD⟩⟩, hS.F ht⟩) hS.2.2 dL_chainsBySteps_18 hlocks

set_option maxHeartbeats 4000000 in
set_option maxRecDepth 100000 in
theorem m_L_chainsBySteps_1b (l9 : Launch) (hl9 : l9.stackTraces = false) (D : va_G) (k : Nat → ClassId) (ks kv kf : Nat → Nat) (ka kw : Nat) (sz : Nat) (o bf pa pn pk sv tr tx li ll ac ci ch : Nat) (iz : Bool) (er fl : Int32) (qs qc qr ql : Nat → Nat) (lim sh sc : Int32) (fr : Nat → UInt32) (n : Nat) (w ly t a : Nat → Int32) (fx : Nat → UInt32) (x y le : Int32) (out : Nat) (ou : Nat → Int64) (hix : inC n x = true) (hxn : inC n y = false) : Met l9 yL_chainsBySteps wsL_chainsBySteps ({ frames := 9, cells := 1, slots := 6, locals := 149 }) (LPc ks kv kf ka kw D k [.ref o, .int x, .int y, .int le, .ref out] (bRO k o (qs 0) bf pa pn pk sv iz tr tx er fl li ll ac ci ch ++ bSt k qs qc qr ql lim sh sc fr ++ bClaims k qc n w ly t a fx ++ bL1 k out ou) sz) (WI D k (bRO k o (qs 0) bf pa pn pk sv iz tr tx er fl li ll ac ci ch ++ bSt k qs qc qr ql lim sh sc fr ++ bClaims k qc n w ly t a fx ++ bL1 k out ou) 1 (va_A (bRO k o (qs 0) bf pa pn pk sv iz tr tx er fl li ll ac ci ch ++ bSt k qs qc qr ql lim sh sc fr ++ bClaims k qc n w ly t a fx ++ bL1 k out ou) sz)) 1 6 (va_A (bRO k o (qs 0) bf pa pn pk sv iz tr tx er fl li ll ac ci ch ++ bSt k qs qc qr ql lim sh sc fr ++ bClaims k qc n w ly t a fx ++ bL1 k out ou) sz) := by
  refine lMet (y := yL_chainsBySteps) (cc := cL_chainsBySteps) (maxL := 6) (ret := (some .int)) (hh := [(0, 12, 15, 21), (0, 12, 19, 13)]) (Qc := fun A => WI D k (bRO k o (qs 0) bf pa pn pk sv iz tr tx er fl li ll ac ci ch ++ bSt k qs qc qr ql lim sh sc fr ++ bClaims k qc n w ly t a fx ++ bL1 k out ou) 1 A) [.ref o, .int x, .int y, .int le, .ref out] (by decide) rfl (Nat.le_of_ble_eq_true rfl) ?_
  intro p9 e9 s9 m9 bl9 me9 c9 ls A H hF hr hlocks htab hP hK hN hXN hNC hZ hKC hD hA hS hl
  have hl : lv_has ls 6 [(0, .ref o), (1, .int x), (2, .int y), (3, .int le), (4, .ref out)] := hl
  obtain ⟨hx, hb, hml, hown, hts⟩ := id hF
  refine lv_aload hx hb dL_chainsBySteps_0 (lv_at hl 4 rfl) ?_
  refine lv_iconst (v := 0) hx hb dL_chainsBySteps_2 (by decide) ?_
  refine lv_aload_n hx hb dL_chainsBySteps_3 rfl (lv_at hl 0 rfl) ?_
  refine lv_iload_n hx hb dL_chainsBySteps_4 rfl (lv_at hl 1 rfl) ?_
  refine lv_iload_n hx hb dL_chainsBySteps_5 rfl (lv_at hl 2 rfl) ?_
  refine lv_iload_n hx hb dL_chainsBySteps_6 rfl (lv_at hl 3 rfl) ?_
  have hFc := l_free (wc := bRO k o (qs 0) bf pa pn pk sv iz tr tx er fl li ll ac ci ch ++ bSt k qs qc qr ql lim sh sc fr ++ bClaims k qc n w ly t a fx) (wr := bL1 k out ou) hD hS hA
  refine vx_calli (vx_runV (As := [.int x, .int y, .int le]) (rest := [.int 0, .ref out]) hF (x_X12_chainsBySteps_b l9 hl9 D k H.size o bf pa pn pk sv tr tx li ll ac ci ch iz er fl qs qc qr ql lim sh sc fr n w ly t a fx x y le hix hxn) (cwV 3 hts gL_chainsBySteps_X12_chainsBySteps rfl rfl rfl (by decide +kernel) ⟨Nat.le_of_ble_eq_true rfl, Nat.le_of_ble_eq_true rfl⟩) (l_preX hK hN hXN hZ hS hFc (l_P1 (wr := bL1 k out ou) hP) (l_D1 (wr := bL1 k out ou) hD) (ci := 10) rfl rfl) rfl rfl hl.1 rfl (lv_room (Nat.le_of_ble_eq_true rfl)) dL_chainsBySteps_7 ⟨Nat.le_of_ble_eq_true rfl, Nat.le_of_ble_eq_true rfl⟩) hS (fun q _ h => hFc q h) hFc (fun q _ h => hFc q h) (fun E9 ce9 q9 u9 t9 H1 locs ht hvm _ hbx hz1 hk1 hS hce hcv hcl => ?_) (fun r u9 t9 H1 locs _ _ hp _ _ _ _ => hp.elim)
  obtain ⟨rfl, hbx⟩ := hbx
  obtain ⟨hP, hD⟩ := l_join (u := ()) (wr := bL1 k out ou) hP hD hk1 hFc hbx ht
  refine vx_catch (own := RL) (name := "java/lang/IndexOutOfBoundsException") (E := "java/lang/IndexOutOfBoundsException") hown [] ⟨0, 12, 15, 21⟩ [⟨0, 12, 19, 13⟩] (htab.trans rfl) (fun z hz => by simp only [List.not_mem_nil] at hz) rfl (by decide) (hts (.classLink RL 21 "java/lang/IndexOutOfBoundsException") (by decide +kernel)) (va_Nw.use (xnL_tables (.castable "java/lang/IndexOutOfBoundsException" "java/lang/IndexOutOfBoundsException") (by decide)) (hXN.1 (.castable "java/lang/IndexOutOfBoundsException" "java/lang/IndexOutOfBoundsException") (by decide))) hce hcv hcl ?_
  clear hbx hk1 hz1 hvm hFc hce hcv hcl ht
  clear t9
  generalize H1 = H at hP hS ⊢
  refine W.eq (g2 := F0 m9 15 ls [.ref q9]) rfl ?_
  refine lv_astore (lv' := [(5, .ref q9), (0, .ref o), (1, .int x), (2, .int y), (3, .int le), (4, .ref out)]) hx hb dL_chainsBySteps_15 hl (by decide) rfl (fun ls hl => ?_)
  refine lv_iconst (v := 1) hx hb dL_chainsBySteps_17 (by decide) ?_
  refine W.widen (k := 1) (n := 6) (Nat.le_of_ble_eq_true rfl) (Nat.le_of_ble_eq_true rfl) ?_
  exact W.iret (v := 1) hx hb hr (fun t9 ht hW => ⟨⟨_, (), rfl, (by first | (with_reducible exact rfl) | (rw [if_pos (by assumption)]; done) | (rw [if_neg (ne_true_of_eq_false (by assumption))]; done)), ⟨by rw [ht]; exact hP, va_K.moved hW.alike hK, hD⟩⟩, hS.F ht⟩) hS.2.2 dL_chainsBySteps_18 hlocks

set_option maxHeartbeats 4000000 in
set_option maxRecDepth 100000 in
theorem m_L_chainsBySteps_2 (l9 : Launch) (hl9 : l9.stackTraces = false) (D : va_G) (k : Nat → ClassId) (ks kv kf : Nat → Nat) (ka kw : Nat) (sz : Nat) (o bf pa pn pk sv tr tx li ll ac ci ch : Nat) (iz : Bool) (er fl : Int32) (qs qc qr ql : Nat → Nat) (lim sh sc : Int32) (fr : Nat → UInt32) (n : Nat) (w ly t a : Nat → Int32) (fx : Nat → UInt32) (x y le : Int32) (out : Nat) (ou : Nat → Int64) (hix : inC n x = true) (hiy : inC n y = true) (hil : rg 0 le 999 = false) : Met l9 yL_chainsBySteps wsL_chainsBySteps ({ frames := 8, cells := 1, slots := 6, locals := 128 }) (LPc ks kv kf ka kw D k [.ref o, .int x, .int y, .int le, .ref out] (bRO k o (qs 0) bf pa pn pk sv iz tr tx er fl li ll ac ci ch ++ bSt k qs qc qr ql lim sh sc fr ++ bClaims k qc n w ly t a fx ++ bL1 k out ou) sz) (WI D k (bRO k o (qs 0) bf pa pn pk sv iz tr tx er fl li ll ac ci ch ++ bSt k qs qc qr ql lim sh sc fr ++ bClaims k qc n w ly t a fx ++ bL1 k out ou) 2 (va_A (bRO k o (qs 0) bf pa pn pk sv iz tr tx er fl li ll ac ci ch ++ bSt k qs qc qr ql lim sh sc fr ++ bClaims k qc n w ly t a fx ++ bL1 k out ou) sz)) 1 6 (va_A (bRO k o (qs 0) bf pa pn pk sv iz tr tx er fl li ll ac ci ch ++ bSt k qs qc qr ql lim sh sc fr ++ bClaims k qc n w ly t a fx ++ bL1 k out ou) sz) := by
  refine lMet (y := yL_chainsBySteps) (cc := cL_chainsBySteps) (maxL := 6) (ret := (some .int)) (hh := [(0, 12, 15, 21), (0, 12, 19, 13)]) (Qc := fun A => WI D k (bRO k o (qs 0) bf pa pn pk sv iz tr tx er fl li ll ac ci ch ++ bSt k qs qc qr ql lim sh sc fr ++ bClaims k qc n w ly t a fx ++ bL1 k out ou) 2 A) [.ref o, .int x, .int y, .int le, .ref out] (by decide) rfl (Nat.le_of_ble_eq_true rfl) ?_
  intro p9 e9 s9 m9 bl9 me9 c9 ls A H hF hr hlocks htab hP hK hN hXN hNC hZ hKC hD hA hS hl
  have hl : lv_has ls 6 [(0, .ref o), (1, .int x), (2, .int y), (3, .int le), (4, .ref out)] := hl
  obtain ⟨hx, hb, hml, hown, hts⟩ := id hF
  refine lv_aload hx hb dL_chainsBySteps_0 (lv_at hl 4 rfl) ?_
  refine lv_iconst (v := 0) hx hb dL_chainsBySteps_2 (by decide) ?_
  refine lv_aload_n hx hb dL_chainsBySteps_3 rfl (lv_at hl 0 rfl) ?_
  refine lv_iload_n hx hb dL_chainsBySteps_4 rfl (lv_at hl 1 rfl) ?_
  refine lv_iload_n hx hb dL_chainsBySteps_5 rfl (lv_at hl 2 rfl) ?_
  refine lv_iload_n hx hb dL_chainsBySteps_6 rfl (lv_at hl 3 rfl) ?_
  have hFc := l_free (wc := bRO k o (qs 0) bf pa pn pk sv iz tr tx er fl li ll ac ci ch ++ bSt k qs qc qr ql lim sh sc fr ++ bClaims k qc n w ly t a fx) (wr := bL1 k out ou) hD hS hA
  refine vx_calli (vx_runV (As := [.int x, .int y, .int le]) (rest := [.int 0, .ref out]) hF (x_X12_chainsBySteps_c l9 hl9 D k H.size o bf pa pn pk sv tr tx li ll ac ci ch iz er fl qs qc qr ql lim sh sc fr n w ly t a fx x y le hix hiy hil) (cwV 3 hts gL_chainsBySteps_X12_chainsBySteps rfl rfl rfl (by decide +kernel) ⟨Nat.le_of_ble_eq_true rfl, Nat.le_of_ble_eq_true rfl⟩) (l_preX hK hN hXN hZ hS hFc (l_P1 (wr := bL1 k out ou) hP) (l_D1 (wr := bL1 k out ou) hD) (ci := 10) rfl rfl) rfl rfl hl.1 rfl (lv_room (Nat.le_of_ble_eq_true rfl)) dL_chainsBySteps_7 ⟨Nat.le_of_ble_eq_true rfl, Nat.le_of_ble_eq_true rfl⟩) hS (fun q _ h => hFc q h) hFc (fun q _ h => hFc q h) (fun E9 ce9 q9 u9 t9 H1 locs ht hvm _ hbx hz1 hk1 hS hce hcv hcl => ?_) (fun r u9 t9 H1 locs _ _ hp _ _ _ _ => hp.elim)
  obtain ⟨rfl, hbx⟩ := hbx
  obtain ⟨hP, hD⟩ := l_join (u := ()) (wr := bL1 k out ou) hP hD hk1 hFc hbx ht
  refine vx_catch (own := RL) (name := "java/lang/IllegalArgumentException") (E := "java/lang/IllegalArgumentException") hown [⟨0, 12, 15, 21⟩] ⟨0, 12, 19, 13⟩ [] (htab.trans rfl) (fun z hz => by simp only [List.mem_cons, List.not_mem_nil, or_false] at hz; rcases hz with hz <;> subst hz <;> first | exact Or.inr ⟨by decide, "java/lang/IndexOutOfBoundsException", hts (.classLink RL 21 "java/lang/IndexOutOfBoundsException") (by decide +kernel), hNC ("java/lang/IllegalArgumentException", "java/lang/IndexOutOfBoundsException") (by decide)⟩) rfl (by decide) (hts (.classLink RL 13 "java/lang/IllegalArgumentException") (by decide +kernel)) (va_Nw.use (xnL_tables (.castable "java/lang/IllegalArgumentException" "java/lang/IllegalArgumentException") (by decide)) (hXN.1 (.castable "java/lang/IllegalArgumentException" "java/lang/IllegalArgumentException") (by decide))) hce hcv hcl ?_
  clear hbx hk1 hz1 hvm hFc hce hcv hcl ht
  clear t9
  generalize H1 = H at hP hS ⊢
  refine W.eq (g2 := F0 m9 19 ls [.ref q9]) rfl ?_
  refine lv_astore (lv' := [(5, .ref q9), (0, .ref o), (1, .int x), (2, .int y), (3, .int le), (4, .ref out)]) hx hb dL_chainsBySteps_19 hl (by decide) rfl (fun ls hl => ?_)
  refine lv_iconst (v := 2) hx hb dL_chainsBySteps_21 (by decide) ?_
  refine W.widen (k := 1) (n := 6) (Nat.le_of_ble_eq_true rfl) (Nat.le_of_ble_eq_true rfl) ?_
  exact W.iret (v := 2) hx hb hr (fun t9 ht hW => ⟨⟨_, (), rfl, (by first | (with_reducible exact rfl) | (rw [if_pos (by assumption)]; done) | (rw [if_neg (ne_true_of_eq_false (by assumption))]; done)), ⟨by rw [ht]; exact hP, va_K.moved hW.alike hK, hD⟩⟩, hS.F ht⟩) hS.2.2 dL_chainsBySteps_22 hlocks

set_option maxHeartbeats 4000000 in
set_option maxRecDepth 100000 in
theorem m_L_setRack_ok (l9 : Launch) (hl9 : l9.stackTraces = false) (D : va_G) (k : Nat → ClassId) (ks kv kf : Nat → Nat) (ka kw : Nat) (sz : Nat) (o bf pa pn pk sv tr tx li ll ac ci ch : Nat) (iz : Bool) (er fl : Int32) (g : Nat → Nat) (qs qc qr ql : Nat → Nat) (lim sh sc : Int32) (fr : Nat → UInt32) (n : Nat) (w ly t a : Nat → Int32) (fx : Nat → UInt32) (kd rk : Nat → Int32) (lsh lk : Nat → Int32) (lc lx : Nat) (qs2 qc2 qr2 ql2 : Nat → Nat) (lim2 sh2 sc2 : Int32) (fr2 : Nat → UInt32) (n2 : Nat) (w2 ly2 t2 a2 : Nat → Int32) (fx2 : Nat → UInt32) (kd2 rk2 : Nat → Int32) (lsh2 lk2 : Nat → Int32) (lc2 lx2 : Nat) (x z : Int32) (out : Nat) (ou : Nat → Int64) (hkd : chOk kd 4) (hrk : chOk rk 12) (hlk : chOk lk 16) (hpn : pn < 8) (hpk : pk ≤ 8) (hz9 : vp_nar .char z = z) (hok : ¬ (opRenew kd rk x z).1 < 0) : Met l9 yL_setRack wsL_setRack ({ frames := 4, cells := 1, slots := 6, locals := 124 }) (LPc ks kv kf ka kw D k [.ref o, .int x, .int z, .ref out] (bRO k o (qs 0) (qs2 0) pa pn pk sv iz tr tx er fl li ll ac ci ch ++ bPA k pa g ++ bSt k qs qc qr ql lim sh sc fr ++ bClaims k qc n w ly t a fx ++ bRacks k qr kd rk ++ bLog k ql lsh lk lc lx ++ bSt k qs2 qc2 qr2 ql2 lim2 sh2 sc2 fr2 ++ bClaims k qc2 n2 w2 ly2 t2 a2 fx2 ++ bRacks k qr2 kd2 rk2 ++ bLog k ql2 lsh2 lk2 lc2 lx2 ++ bL1 k out ou) sz) (WI D k (bRO k o (qs 0) (g pn) pa ((pn + 1) % 8) (min (pk + 1) 8) sv iz tr tx er fl li ll ac ci ch ++ bPA k pa (upP g pn (qs2 0)) ++ bSt k qs qc qr ql lim sh sc fr ++ bClaims k qc n w ly t a fx ++ bRacks k qr ((opRenew kd rk x z).2) rk ++ bLog k ql lsh lk lc lx ++ bSt k qs2 qc2 qr2 ql2 lim sh sc fr2 ++ bClaims k qc2 n w ly t a fx ++ bRacks k qr2 kd rk ++ bLog k ql2 lsh lk lc lx ++ bL1 k out (vp_updL ou 0 (((Int32.toUInt32 ((opRenew kd rk x z).1) % 65536).toInt32).toInt64))) 0 (va_A (bRO k o (qs 0) (qs2 0) pa pn pk sv iz tr tx er fl li ll ac ci ch ++ bPA k pa g ++ bSt k qs qc qr ql lim sh sc fr ++ bClaims k qc n w ly t a fx ++ bRacks k qr kd rk ++ bLog k ql lsh lk lc lx ++ bSt k qs2 qc2 qr2 ql2 lim2 sh2 sc2 fr2 ++ bClaims k qc2 n2 w2 ly2 t2 a2 fx2 ++ bRacks k qr2 kd2 rk2 ++ bLog k ql2 lsh2 lk2 lc2 lx2 ++ bL1 k out ou) sz)) 1 6 (va_A (bRO k o (qs 0) (qs2 0) pa pn pk sv iz tr tx er fl li ll ac ci ch ++ bPA k pa g ++ bSt k qs qc qr ql lim sh sc fr ++ bClaims k qc n w ly t a fx ++ bRacks k qr kd rk ++ bLog k ql lsh lk lc lx ++ bSt k qs2 qc2 qr2 ql2 lim2 sh2 sc2 fr2 ++ bClaims k qc2 n2 w2 ly2 t2 a2 fx2 ++ bRacks k qr2 kd2 rk2 ++ bLog k ql2 lsh2 lk2 lc2 lx2 ++ bL1 k out ou) sz) := by
  refine lMet (y := yL_setRack) (cc := cL_setRack) (maxL := 5) (ret := (some .int)) (hh := [(0, 10, 13, 21), (0, 10, 17, 13), (0, 10, 21, 15)]) (Qc := fun A => WI D k (bRO k o (qs 0) (g pn) pa ((pn + 1) % 8) (min (pk + 1) 8) sv iz tr tx er fl li ll ac ci ch ++ bPA k pa (upP g pn (qs2 0)) ++ bSt k qs qc qr ql lim sh sc fr ++ bClaims k qc n w ly t a fx ++ bRacks k qr ((opRenew kd rk x z).2) rk ++ bLog k ql lsh lk lc lx ++ bSt k qs2 qc2 qr2 ql2 lim sh sc fr2 ++ bClaims k qc2 n w ly t a fx ++ bRacks k qr2 kd rk ++ bLog k ql2 lsh lk lc lx ++ bL1 k out (vp_updL ou 0 (((Int32.toUInt32 ((opRenew kd rk x z).1) % 65536).toInt32).toInt64))) 0 A) [.ref o, .int x, .int z, .ref out] (by decide) rfl (Nat.le_of_ble_eq_true rfl) ?_
  intro p9 e9 s9 m9 bl9 me9 c9 ls A H hF hr hlocks htab hP hK hN hXN hNC hZ hKC hD hA hS hl
  have hl : lv_has ls 5 [(0, .ref o), (1, .int x), (2, .int z), (3, .ref out)] := hl
  obtain ⟨hx, hb, hml, hown, hts⟩ := id hF
  refine lv_aload_n hx hb dL_setRack_0 rfl (lv_at hl 3 rfl) ?_
  refine lv_iconst (v := 0) hx hb dL_setRack_1 (by decide) ?_
  refine lv_aload_n hx hb dL_setRack_2 rfl (lv_at hl 0 rfl) ?_
  refine lv_iload_n hx hb dL_setRack_3 rfl (lv_at hl 1 rfl) ?_
  refine lv_iload_n hx hb dL_setRack_4 rfl (lv_at hl 2 rfl) ?_
  have hFc := l_free (wc := bRO k o (qs 0) (qs2 0) pa pn pk sv iz tr tx er fl li ll ac ci ch ++ bPA k pa g ++ bSt k qs qc qr ql lim sh sc fr ++ bClaims k qc n w ly t a fx ++ bRacks k qr kd rk ++ bLog k ql lsh lk lc lx ++ bSt k qs2 qc2 qr2 ql2 lim2 sh2 sc2 fr2 ++ bClaims k qc2 n2 w2 ly2 t2 a2 fx2 ++ bRacks k qr2 kd2 rk2 ++ bLog k ql2 lsh2 lk2 lc2 lx2) (wr := bL1 k out ou) hD hS hA
  refine va_calli (va_runV (As := [.int x, .int z]) (rest := [.int 0, .ref out]) hF (m_X12_setRack l9 D k H.size o bf pa pn pk sv tr tx li ll ac ci ch iz er fl g qs qc qr ql lim sh sc fr n w ly t a fx kd rk lsh lk lc lx qs2 qc2 qr2 ql2 lim2 sh2 sc2 fr2 n2 w2 ly2 t2 a2 fx2 kd2 rk2 lsh2 lk2 lc2 lx2 x z hkd hrk hlk hpn hpk hz9 hok) (cwV 2 hts gL_setRack_X12_setRack rfl rfl rfl (by decide +kernel) ⟨Nat.le_of_ble_eq_true rfl, Nat.le_of_ble_eq_true rfl⟩) (l_preV hK hN (l_P1 (wr := bL1 k out ou) hP) (l_D1 (wr := bL1 k out ou) hD) (ci := 10) rfl rfl) rfl rfl hl.1 rfl (lv_room (Nat.le_of_ble_eq_true rfl)) dL_setRack_5 ⟨Nat.zero_le _, Nat.zero_le _⟩) hS (fun q _ h => hFc q h) hFc (fun r u9 t9 H1 locs ht hvm hw hB hz1 hk1 hS => ?_)
  obtain ⟨hP, hD⟩ := l_join (wr := bL1 k out ou) hP hD hk1 hFc hB ht
  subst hw
  clear hB hk1 hz1 hvm hFc
  clear ht
  clear t9
  generalize H1 = H at hP hS ⊢
  refine lv_i2l hx hb dL_setRack_8 rfl ?_
  refine la_st hx hb hK hP hD hS 30 rfl 0 (by omega) (by decide) (bRO k o (qs 0) (g pn) pa ((pn + 1) % 8) (min (pk + 1) 8) sv iz tr tx er fl li ll ac ci ch ++ bPA k pa (upP g pn (qs2 0)) ++ bSt k qs qc qr ql lim sh sc fr ++ bClaims k qc n w ly t a fx ++ bRacks k qr ((opRenew kd rk x z).2) rk ++ bLog k ql lsh lk lc lx ++ bSt k qs2 qc2 qr2 ql2 lim sh sc fr2 ++ bClaims k qc2 n w ly t a fx ++ bRacks k qr2 kd rk ++ bLog k ql2 lsh lk lc lx ++ bL1 k out (vp_updL ou 0 (((Int32.toUInt32 ((opRenew kd rk x z).1) % 65536).toInt32).toInt64))) rfl dL_setRack_9 (fun H locs hP hD hS => ?_)
  refine lv_goto (tgt := 25) hx hb dL_setRack_10 (by decide) ?_
  refine lv_iconst (v := 0) hx hb dL_setRack_25 (by decide) ?_
  refine W.widen (k := 1) (n := 6) (Nat.le_of_ble_eq_true rfl) (Nat.le_of_ble_eq_true rfl) ?_
  exact W.iret (v := 0) hx hb hr (fun t9 ht hW => ⟨⟨_, (), rfl, (by first | (with_reducible exact rfl) | (rw [if_pos (by assumption)]; done) | (rw [if_neg (ne_true_of_eq_false (by assumption))]; done)), ⟨by rw [ht]; exact hP, va_K.moved hW.alike hK, hD⟩⟩, hS.F ht⟩) hS.2.2 dL_setRack_26 hlocks

set_option maxHeartbeats 4000000 in
set_option maxRecDepth 100000 in
theorem m_L_setRack_1 (l9 : Launch) (hl9 : l9.stackTraces = false) (D : va_G) (k : Nat → ClassId) (ks kv kf : Nat → Nat) (ka kw : Nat) (sz : Nat) (o bf pa pn pk sv tr tx li ll ac ci ch : Nat) (iz : Bool) (er fl : Int32) (g : Nat → Nat) (qs qc qr ql : Nat → Nat) (lim sh sc : Int32) (fr : Nat → UInt32) (n : Nat) (w ly t a : Nat → Int32) (fx : Nat → UInt32) (kd rk : Nat → Int32) (lsh lk : Nat → Int32) (lc lx : Nat) (qs2 qc2 qr2 ql2 : Nat → Nat) (lim2 sh2 sc2 : Int32) (fr2 : Nat → UInt32) (n2 : Nat) (w2 ly2 t2 a2 : Nat → Int32) (fx2 : Nat → UInt32) (kd2 rk2 : Nat → Int32) (lsh2 lk2 : Nat → Int32) (lc2 lx2 : Nat) (x z : Int32) (out : Nat) (ou : Nat → Int64) (hkd : chOk kd 4) (hrk : chOk rk 12) (hlk : chOk lk 16) (hz9 : vp_nar .char z = z) (he : opRenew kd rk x z = (-1, kd)) : Met l9 yL_setRack wsL_setRack ({ frames := 9, cells := 1, slots := 6, locals := 146 }) (LPc ks kv kf ka kw D k [.ref o, .int x, .int z, .ref out] (bRO k o (qs 0) (qs2 0) pa pn pk sv iz tr tx er fl li ll ac ci ch ++ bPA k pa g ++ bSt k qs qc qr ql lim sh sc fr ++ bClaims k qc n w ly t a fx ++ bRacks k qr kd rk ++ bLog k ql lsh lk lc lx ++ bSt k qs2 qc2 qr2 ql2 lim2 sh2 sc2 fr2 ++ bClaims k qc2 n2 w2 ly2 t2 a2 fx2 ++ bRacks k qr2 kd2 rk2 ++ bLog k ql2 lsh2 lk2 lc2 lx2 ++ bL1 k out ou) sz) (WI D k (bRO k o (qs 0) (qs2 0) pa pn pk sv iz tr tx er fl li ll ac ci ch ++ bPA k pa g ++ bSt k qs qc qr ql lim sh sc fr ++ bClaims k qc n w ly t a fx ++ bRacks k qr kd rk ++ bLog k ql lsh lk lc lx ++ bSt k qs2 qc2 qr2 ql2 lim sh sc fr2 ++ bClaims k qc2 n w ly t a fx ++ bRacks k qr2 kd rk ++ bLog k ql2 lsh lk lc lx ++ bL1 k out ou) 1 (va_A (bRO k o (qs 0) (qs2 0) pa pn pk sv iz tr tx er fl li ll ac ci ch ++ bPA k pa g ++ bSt k qs qc qr ql lim sh sc fr ++ bClaims k qc n w ly t a fx ++ bRacks k qr kd rk ++ bLog k ql lsh lk lc lx ++ bSt k qs2 qc2 qr2 ql2 lim2 sh2 sc2 fr2 ++ bClaims k qc2 n2 w2 ly2 t2 a2 fx2 ++ bRacks k qr2 kd2 rk2 ++ bLog k ql2 lsh2 lk2 lc2 lx2 ++ bL1 k out ou) sz)) 1 6 (va_A (bRO k o (qs 0) (qs2 0) pa pn pk sv iz tr tx er fl li ll ac ci ch ++ bPA k pa g ++ bSt k qs qc qr ql lim sh sc fr ++ bClaims k qc n w ly t a fx ++ bRacks k qr kd rk ++ bLog k ql lsh lk lc lx ++ bSt k qs2 qc2 qr2 ql2 lim2 sh2 sc2 fr2 ++ bClaims k qc2 n2 w2 ly2 t2 a2 fx2 ++ bRacks k qr2 kd2 rk2 ++ bLog k ql2 lsh2 lk2 lc2 lx2 ++ bL1 k out ou) sz) := by
  refine lMet (y := yL_setRack) (cc := cL_setRack) (maxL := 5) (ret := (some .int)) (hh := [(0, 10, 13, 21), (0, 10, 17, 13), (0, 10, 21, 15)]) (Qc := fun A => WI D k (bRO k o (qs 0) (qs2 0) pa pn pk sv iz tr tx er fl li ll ac ci ch ++ bPA k pa g ++ bSt k qs qc qr ql lim sh sc fr ++ bClaims k qc n w ly t a fx ++ bRacks k qr kd rk ++ bLog k ql lsh lk lc lx ++ bSt k qs2 qc2 qr2 ql2 lim sh sc fr2 ++ bClaims k qc2 n w ly t a fx ++ bRacks k qr2 kd rk ++ bLog k ql2 lsh lk lc lx ++ bL1 k out ou) 1 A) [.ref o, .int x, .int z, .ref out] (by decide) rfl (Nat.le_of_ble_eq_true rfl) ?_
  intro p9 e9 s9 m9 bl9 me9 c9 ls A H hF hr hlocks htab hP hK hN hXN hNC hZ hKC hD hA hS hl
  have hl : lv_has ls 5 [(0, .ref o), (1, .int x), (2, .int z), (3, .ref out)] := hl
  obtain ⟨hx, hb, hml, hown, hts⟩ := id hF
  refine lv_aload_n hx hb dL_setRack_0 rfl (lv_at hl 3 rfl) ?_
  refine lv_iconst (v := 0) hx hb dL_setRack_1 (by decide) ?_
  refine lv_aload_n hx hb dL_setRack_2 rfl (lv_at hl 0 rfl) ?_
  refine lv_iload_n hx hb dL_setRack_3 rfl (lv_at hl 1 rfl) ?_
  refine lv_iload_n hx hb dL_setRack_4 rfl (lv_at hl 2 rfl) ?_
  have hFc := l_free (wc := bRO k o (qs 0) (qs2 0) pa pn pk sv iz tr tx er fl li ll ac ci ch ++ bPA k pa g ++ bSt k qs qc qr ql lim sh sc fr ++ bClaims k qc n w ly t a fx ++ bRacks k qr kd rk ++ bLog k ql lsh lk lc lx ++ bSt k qs2 qc2 qr2 ql2 lim2 sh2 sc2 fr2 ++ bClaims k qc2 n2 w2 ly2 t2 a2 fx2 ++ bRacks k qr2 kd2 rk2 ++ bLog k ql2 lsh2 lk2 lc2 lx2) (wr := bL1 k out ou) hD hS hA
  refine vx_calli (vx_runV (As := [.int x, .int z]) (rest := [.int 0, .ref out]) hF (x_X12_setRack_1 l9 hl9 D k H.size o bf pa pn pk sv tr tx li ll ac ci ch iz er fl g qs qc qr ql lim sh sc fr n w ly t a fx kd rk lsh lk lc lx qs2 qc2 qr2 ql2 lim2 sh2 sc2 fr2 n2 w2 ly2 t2 a2 fx2 kd2 rk2 lsh2 lk2 lc2 lx2 x z hkd hrk hlk hz9 he) (cwV 2 hts gL_setRack_X12_setRack rfl rfl rfl (by decide +kernel) ⟨Nat.le_of_ble_eq_true rfl, Nat.le_of_ble_eq_true rfl⟩) (l_preX hK hN hXN hZ hS hFc (l_P1 (wr := bL1 k out ou) hP) (l_D1 (wr := bL1 k out ou) hD) (ci := 10) rfl rfl) rfl rfl hl.1 rfl (lv_room (Nat.le_of_ble_eq_true rfl)) dL_setRack_5 ⟨Nat.le_of_ble_eq_true rfl, Nat.le_of_ble_eq_true rfl⟩) hS (fun q _ h => hFc q h) hFc (fun q _ h => hFc q h) (fun E9 ce9 q9 u9 t9 H1 locs ht hvm _ hbx hz1 hk1 hS hce hcv hcl => ?_) (fun r u9 t9 H1 locs _ _ hp _ _ _ _ => hp.elim)
  obtain ⟨rfl, hbx⟩ := hbx
  obtain ⟨hP, hD⟩ := l_join (u := ()) (wr := bL1 k out ou) hP hD hk1 hFc hbx ht
  refine vx_catch (own := RL) (name := "java/lang/IndexOutOfBoundsException") (E := "java/lang/IndexOutOfBoundsException") hown [] ⟨0, 10, 13, 21⟩ [⟨0, 10, 17, 13⟩, ⟨0, 10, 21, 15⟩] (htab.trans rfl) (fun z hz => by simp only [List.not_mem_nil] at hz) rfl (by decide) (hts (.classLink RL 21 "java/lang/IndexOutOfBoundsException") (by decide +kernel)) (va_Nw.use (xnL_tables (.castable "java/lang/IndexOutOfBoundsException" "java/lang/IndexOutOfBoundsException") (by decide)) (hXN.1 (.castable "java/lang/IndexOutOfBoundsException" "java/lang/IndexOutOfBoundsException") (by decide))) hce hcv hcl ?_
  clear hbx hk1 hz1 hvm hFc hce hcv hcl ht
  clear t9
  generalize H1 = H at hP hS ⊢
  refine W.eq (g2 := F0 m9 13 ls [.ref q9]) rfl ?_
  refine lv_astore (lv' := [(4, .ref q9), (0, .ref o), (1, .int x), (2, .int z), (3, .ref out)]) hx hb dL_setRack_13 hl (by decide) rfl (fun ls hl => ?_)
  refine lv_iconst (v := 1) hx hb dL_setRack_15 (by decide) ?_
  refine W.widen (k := 1) (n := 6) (Nat.le_of_ble_eq_true rfl) (Nat.le_of_ble_eq_true rfl) ?_
  exact W.iret (v := 1) hx hb hr (fun t9 ht hW => ⟨⟨_, (), rfl, (by first | (with_reducible exact rfl) | (rw [if_pos (by assumption)]; done) | (rw [if_neg (ne_true_of_eq_false (by assumption))]; done)), ⟨by rw [ht]; exact hP, va_K.moved hW.alike hK, hD⟩⟩, hS.F ht⟩) hS.2.2 dL_setRack_16 hlocks

set_option maxHeartbeats 4000000 in
set_option maxRecDepth 100000 in
theorem m_L_setRack_2 (l9 : Launch) (hl9 : l9.stackTraces = false) (D : va_G) (k : Nat → ClassId) (ks kv kf : Nat → Nat) (ka kw : Nat) (sz : Nat) (o bf pa pn pk sv tr tx li ll ac ci ch : Nat) (iz : Bool) (er fl : Int32) (g : Nat → Nat) (qs qc qr ql : Nat → Nat) (lim sh sc : Int32) (fr : Nat → UInt32) (n : Nat) (w ly t a : Nat → Int32) (fx : Nat → UInt32) (kd rk : Nat → Int32) (lsh lk : Nat → Int32) (lc lx : Nat) (qs2 qc2 qr2 ql2 : Nat → Nat) (lim2 sh2 sc2 : Int32) (fr2 : Nat → UInt32) (n2 : Nat) (w2 ly2 t2 a2 : Nat → Int32) (fx2 : Nat → UInt32) (kd2 rk2 : Nat → Int32) (lsh2 lk2 : Nat → Int32) (lc2 lx2 : Nat) (x z : Int32) (out : Nat) (ou : Nat → Int64) (hkd : chOk kd 4) (hrk : chOk rk 12) (hlk : chOk lk 16) (hz9 : vp_nar .char z = z) (he : opRenew kd rk x z = (-2, kd)) : Met l9 yL_setRack wsL_setRack ({ frames := 9, cells := 1, slots := 6, locals := 146 }) (LPc ks kv kf ka kw D k [.ref o, .int x, .int z, .ref out] (bRO k o (qs 0) (qs2 0) pa pn pk sv iz tr tx er fl li ll ac ci ch ++ bPA k pa g ++ bSt k qs qc qr ql lim sh sc fr ++ bClaims k qc n w ly t a fx ++ bRacks k qr kd rk ++ bLog k ql lsh lk lc lx ++ bSt k qs2 qc2 qr2 ql2 lim2 sh2 sc2 fr2 ++ bClaims k qc2 n2 w2 ly2 t2 a2 fx2 ++ bRacks k qr2 kd2 rk2 ++ bLog k ql2 lsh2 lk2 lc2 lx2 ++ bL1 k out ou) sz) (WI D k (bRO k o (qs 0) (qs2 0) pa pn pk sv iz tr tx er fl li ll ac ci ch ++ bPA k pa g ++ bSt k qs qc qr ql lim sh sc fr ++ bClaims k qc n w ly t a fx ++ bRacks k qr kd rk ++ bLog k ql lsh lk lc lx ++ bSt k qs2 qc2 qr2 ql2 lim sh sc fr2 ++ bClaims k qc2 n w ly t a fx ++ bRacks k qr2 kd rk ++ bLog k ql2 lsh lk lc lx ++ bL1 k out ou) 2 (va_A (bRO k o (qs 0) (qs2 0) pa pn pk sv iz tr tx er fl li ll ac ci ch ++ bPA k pa g ++ bSt k qs qc qr ql lim sh sc fr ++ bClaims k qc n w ly t a fx ++ bRacks k qr kd rk ++ bLog k ql lsh lk lc lx ++ bSt k qs2 qc2 qr2 ql2 lim2 sh2 sc2 fr2 ++ bClaims k qc2 n2 w2 ly2 t2 a2 fx2 ++ bRacks k qr2 kd2 rk2 ++ bLog k ql2 lsh2 lk2 lc2 lx2 ++ bL1 k out ou) sz)) 1 6 (va_A (bRO k o (qs 0) (qs2 0) pa pn pk sv iz tr tx er fl li ll ac ci ch ++ bPA k pa g ++ bSt k qs qc qr ql lim sh sc fr ++ bClaims k qc n w ly t a fx ++ bRacks k qr kd rk ++ bLog k ql lsh lk lc lx ++ bSt k qs2 qc2 qr2 ql2 lim2 sh2 sc2 fr2 ++ bClaims k qc2 n2 w2 ly2 t2 a2 fx2 ++ bRacks k qr2 kd2 rk2 ++ bLog k ql2 lsh2 lk2 lc2 lx2 ++ bL1 k out ou) sz) := by
  refine lMet (y := yL_setRack) (cc := cL_setRack) (maxL := 5) (ret := (some .int)) (hh := [(0, 10, 13, 21), (0, 10, 17, 13), (0, 10, 21, 15)]) (Qc := fun A => WI D k (bRO k o (qs 0) (qs2 0) pa pn pk sv iz tr tx er fl li ll ac ci ch ++ bPA k pa g ++ bSt k qs qc qr ql lim sh sc fr ++ bClaims k qc n w ly t a fx ++ bRacks k qr kd rk ++ bLog k ql lsh lk lc lx ++ bSt k qs2 qc2 qr2 ql2 lim sh sc fr2 ++ bClaims k qc2 n w ly t a fx ++ bRacks k qr2 kd rk ++ bLog k ql2 lsh lk lc lx ++ bL1 k out ou) 2 A) [.ref o, .int x, .int z, .ref out] (by decide) rfl (Nat.le_of_ble_eq_true rfl) ?_
  intro p9 e9 s9 m9 bl9 me9 c9 ls A H hF hr hlocks htab hP hK hN hXN hNC hZ hKC hD hA hS hl
  have hl : lv_has ls 5 [(0, .ref o), (1, .int x), (2, .int z), (3, .ref out)] := hl
  obtain ⟨hx, hb, hml, hown, hts⟩ := id hF
  refine lv_aload_n hx hb dL_setRack_0 rfl (lv_at hl 3 rfl) ?_
  refine lv_iconst (v := 0) hx hb dL_setRack_1 (by decide) ?_
  refine lv_aload_n hx hb dL_setRack_2 rfl (lv_at hl 0 rfl) ?_
  refine lv_iload_n hx hb dL_setRack_3 rfl (lv_at hl 1 rfl) ?_
  refine lv_iload_n hx hb dL_setRack_4 rfl (lv_at hl 2 rfl) ?_
  have hFc := l_free (wc := bRO k o (qs 0) (qs2 0) pa pn pk sv iz tr tx er fl li ll ac ci ch ++ bPA k pa g ++ bSt k qs qc qr ql lim sh sc fr ++ bClaims k qc n w ly t a fx ++ bRacks k qr kd rk ++ bLog k ql lsh lk lc lx ++ bSt k qs2 qc2 qr2 ql2 lim2 sh2 sc2 fr2 ++ bClaims k qc2 n2 w2 ly2 t2 a2 fx2 ++ bRacks k qr2 kd2 rk2 ++ bLog k ql2 lsh2 lk2 lc2 lx2) (wr := bL1 k out ou) hD hS hA
  refine vx_calli (vx_runV (As := [.int x, .int z]) (rest := [.int 0, .ref out]) hF (x_X12_setRack_2 l9 hl9 D k H.size o bf pa pn pk sv tr tx li ll ac ci ch iz er fl g qs qc qr ql lim sh sc fr n w ly t a fx kd rk lsh lk lc lx qs2 qc2 qr2 ql2 lim2 sh2 sc2 fr2 n2 w2 ly2 t2 a2 fx2 kd2 rk2 lsh2 lk2 lc2 lx2 x z hkd hrk hlk hz9 he) (cwV 2 hts gL_setRack_X12_setRack rfl rfl rfl (by decide +kernel) ⟨Nat.le_of_ble_eq_true rfl, Nat.le_of_ble_eq_true rfl⟩) (l_preX hK hN hXN hZ hS hFc (l_P1 (wr := bL1 k out ou) hP) (l_D1 (wr := bL1 k out ou) hD) (ci := 10) rfl rfl) rfl rfl hl.1 rfl (lv_room (Nat.le_of_ble_eq_true rfl)) dL_setRack_5 ⟨Nat.le_of_ble_eq_true rfl, Nat.le_of_ble_eq_true rfl⟩) hS (fun q _ h => hFc q h) hFc (fun q _ h => hFc q h) (fun E9 ce9 q9 u9 t9 H1 locs ht hvm _ hbx hz1 hk1 hS hce hcv hcl => ?_) (fun r u9 t9 H1 locs _ _ hp _ _ _ _ => hp.elim)
  obtain ⟨rfl, hbx⟩ := hbx
  obtain ⟨hP, hD⟩ := l_join (u := ()) (wr := bL1 k out ou) hP hD hk1 hFc hbx ht
  refine vx_catch (own := RL) (name := "java/lang/IllegalArgumentException") (E := "java/lang/IllegalArgumentException") hown [⟨0, 10, 13, 21⟩] ⟨0, 10, 17, 13⟩ [⟨0, 10, 21, 15⟩] (htab.trans rfl) (fun z hz => by simp only [List.mem_cons, List.not_mem_nil, or_false] at hz; rcases hz with hz <;> subst hz <;> first | exact Or.inr ⟨by decide, "java/lang/IndexOutOfBoundsException", hts (.classLink RL 21 "java/lang/IndexOutOfBoundsException") (by decide +kernel), hNC ("java/lang/IllegalArgumentException", "java/lang/IndexOutOfBoundsException") (by decide)⟩) rfl (by decide) (hts (.classLink RL 13 "java/lang/IllegalArgumentException") (by decide +kernel)) (va_Nw.use (xnL_tables (.castable "java/lang/IllegalArgumentException" "java/lang/IllegalArgumentException") (by decide)) (hXN.1 (.castable "java/lang/IllegalArgumentException" "java/lang/IllegalArgumentException") (by decide))) hce hcv hcl ?_
  clear hbx hk1 hz1 hvm hFc hce hcv hcl ht
  clear t9
  generalize H1 = H at hP hS ⊢
  refine W.eq (g2 := F0 m9 17 ls [.ref q9]) rfl ?_
  refine lv_astore (lv' := [(4, .ref q9), (0, .ref o), (1, .int x), (2, .int z), (3, .ref out)]) hx hb dL_setRack_17 hl (by decide) rfl (fun ls hl => ?_)
  refine lv_iconst (v := 2) hx hb dL_setRack_19 (by decide) ?_
  refine W.widen (k := 1) (n := 6) (Nat.le_of_ble_eq_true rfl) (Nat.le_of_ble_eq_true rfl) ?_
  exact W.iret (v := 2) hx hb hr (fun t9 ht hW => ⟨⟨_, (), rfl, (by first | (with_reducible exact rfl) | (rw [if_pos (by assumption)]; done) | (rw [if_neg (ne_true_of_eq_false (by assumption))]; done)), ⟨by rw [ht]; exact hP, va_K.moved hW.alike hK, hD⟩⟩, hS.F ht⟩) hS.2.2 dL_setRack_20 hlocks

set_option maxHeartbeats 4000000 in
set_option maxRecDepth 100000 in
theorem m_L_setRack_3 (l9 : Launch) (hl9 : l9.stackTraces = false) (D : va_G) (k : Nat → ClassId) (ks kv kf : Nat → Nat) (ka kw : Nat) (sz : Nat) (o bf pa pn pk sv tr tx li ll ac ci ch : Nat) (iz : Bool) (er fl : Int32) (g : Nat → Nat) (qs qc qr ql : Nat → Nat) (lim sh sc : Int32) (fr : Nat → UInt32) (n : Nat) (w ly t a : Nat → Int32) (fx : Nat → UInt32) (kd rk : Nat → Int32) (lsh lk : Nat → Int32) (lc lx : Nat) (qs2 qc2 qr2 ql2 : Nat → Nat) (lim2 sh2 sc2 : Int32) (fr2 : Nat → UInt32) (n2 : Nat) (w2 ly2 t2 a2 : Nat → Int32) (fx2 : Nat → UInt32) (kd2 rk2 : Nat → Int32) (lsh2 lk2 : Nat → Int32) (lc2 lx2 : Nat) (x z : Int32) (out : Nat) (ou : Nat → Int64) (hkd : chOk kd 4) (hrk : chOk rk 12) (hlk : chOk lk 16) (hz9 : vp_nar .char z = z) (he : opRenew kd rk x z = (-3, kd)) : Met l9 yL_setRack wsL_setRack ({ frames := 9, cells := 1, slots := 6, locals := 146 }) (LPc ks kv kf ka kw D k [.ref o, .int x, .int z, .ref out] (bRO k o (qs 0) (qs2 0) pa pn pk sv iz tr tx er fl li ll ac ci ch ++ bPA k pa g ++ bSt k qs qc qr ql lim sh sc fr ++ bClaims k qc n w ly t a fx ++ bRacks k qr kd rk ++ bLog k ql lsh lk lc lx ++ bSt k qs2 qc2 qr2 ql2 lim2 sh2 sc2 fr2 ++ bClaims k qc2 n2 w2 ly2 t2 a2 fx2 ++ bRacks k qr2 kd2 rk2 ++ bLog k ql2 lsh2 lk2 lc2 lx2 ++ bL1 k out ou) sz) (WI D k (bRO k o (qs 0) (qs2 0) pa pn pk sv iz tr tx er fl li ll ac ci ch ++ bPA k pa g ++ bSt k qs qc qr ql lim sh sc fr ++ bClaims k qc n w ly t a fx ++ bRacks k qr kd rk ++ bLog k ql lsh lk lc lx ++ bSt k qs2 qc2 qr2 ql2 lim sh sc fr2 ++ bClaims k qc2 n w ly t a fx ++ bRacks k qr2 kd rk ++ bLog k ql2 lsh lk lc lx ++ bL1 k out ou) 3 (va_A (bRO k o (qs 0) (qs2 0) pa pn pk sv iz tr tx er fl li ll ac ci ch ++ bPA k pa g ++ bSt k qs qc qr ql lim sh sc fr ++ bClaims k qc n w ly t a fx ++ bRacks k qr kd rk ++ bLog k ql lsh lk lc lx ++ bSt k qs2 qc2 qr2 ql2 lim2 sh2 sc2 fr2 ++ bClaims k qc2 n2 w2 ly2 t2 a2 fx2 ++ bRacks k qr2 kd2 rk2 ++ bLog k ql2 lsh2 lk2 lc2 lx2 ++ bL1 k out ou) sz)) 1 6 (va_A (bRO k o (qs 0) (qs2 0) pa pn pk sv iz tr tx er fl li ll ac ci ch ++ bPA k pa g ++ bSt k qs qc qr ql lim sh sc fr ++ bClaims k qc n w ly t a fx ++ bRacks k qr kd rk ++ bLog k ql lsh lk lc lx ++ bSt k qs2 qc2 qr2 ql2 lim2 sh2 sc2 fr2 ++ bClaims k qc2 n2 w2 ly2 t2 a2 fx2 ++ bRacks k qr2 kd2 rk2 ++ bLog k ql2 lsh2 lk2 lc2 lx2 ++ bL1 k out ou) sz) := by
  refine lMet (y := yL_setRack) (cc := cL_setRack) (maxL := 5) (ret := (some .int)) (hh := [(0, 10, 13, 21), (0, 10, 17, 13), (0, 10, 21, 15)]) (Qc := fun A => WI D k (bRO k o (qs 0) (qs2 0) pa pn pk sv iz tr tx er fl li ll ac ci ch ++ bPA k pa g ++ bSt k qs qc qr ql lim sh sc fr ++ bClaims k qc n w ly t a fx ++ bRacks k qr kd rk ++ bLog k ql lsh lk lc lx ++ bSt k qs2 qc2 qr2 ql2 lim sh sc fr2 ++ bClaims k qc2 n w ly t a fx ++ bRacks k qr2 kd rk ++ bLog k ql2 lsh lk lc lx ++ bL1 k out ou) 3 A) [.ref o, .int x, .int z, .ref out] (by decide) rfl (Nat.le_of_ble_eq_true rfl) ?_
  intro p9 e9 s9 m9 bl9 me9 c9 ls A H hF hr hlocks htab hP hK hN hXN hNC hZ hKC hD hA hS hl
  have hl : lv_has ls 5 [(0, .ref o), (1, .int x), (2, .int z), (3, .ref out)] := hl
  obtain ⟨hx, hb, hml, hown, hts⟩ := id hF
  refine lv_aload_n hx hb dL_setRack_0 rfl (lv_at hl 3 rfl) ?_
  refine lv_iconst (v := 0) hx hb dL_setRack_1 (by decide) ?_
  refine lv_aload_n hx hb dL_setRack_2 rfl (lv_at hl 0 rfl) ?_
  refine lv_iload_n hx hb dL_setRack_3 rfl (lv_at hl 1 rfl) ?_
  refine lv_iload_n hx hb dL_setRack_4 rfl (lv_at hl 2 rfl) ?_
  have hFc := l_free (wc := bRO k o (qs 0) (qs2 0) pa pn pk sv iz tr tx er fl li ll ac ci ch ++ bPA k pa g ++ bSt k qs qc qr ql lim sh sc fr ++ bClaims k qc n w ly t a fx ++ bRacks k qr kd rk ++ bLog k ql lsh lk lc lx ++ bSt k qs2 qc2 qr2 ql2 lim2 sh2 sc2 fr2 ++ bClaims k qc2 n2 w2 ly2 t2 a2 fx2 ++ bRacks k qr2 kd2 rk2 ++ bLog k ql2 lsh2 lk2 lc2 lx2) (wr := bL1 k out ou) hD hS hA
  refine vx_calli (vx_runV (As := [.int x, .int z]) (rest := [.int 0, .ref out]) hF (x_X12_setRack_3 l9 hl9 D k H.size o bf pa pn pk sv tr tx li ll ac ci ch iz er fl g qs qc qr ql lim sh sc fr n w ly t a fx kd rk lsh lk lc lx qs2 qc2 qr2 ql2 lim2 sh2 sc2 fr2 n2 w2 ly2 t2 a2 fx2 kd2 rk2 lsh2 lk2 lc2 lx2 x z hkd hrk hlk hz9 he) (cwV 2 hts gL_setRack_X12_setRack rfl rfl rfl (by decide +kernel) ⟨Nat.le_of_ble_eq_true rfl, Nat.le_of_ble_eq_true rfl⟩) (l_preX hK hN hXN hZ hS hFc (l_P1 (wr := bL1 k out ou) hP) (l_D1 (wr := bL1 k out ou) hD) (ci := 10) rfl rfl) rfl rfl hl.1 rfl (lv_room (Nat.le_of_ble_eq_true rfl)) dL_setRack_5 ⟨Nat.le_of_ble_eq_true rfl, Nat.le_of_ble_eq_true rfl⟩) hS (fun q _ h => hFc q h) hFc (fun q _ h => hFc q h) (fun E9 ce9 q9 u9 t9 H1 locs ht hvm _ hbx hz1 hk1 hS hce hcv hcl => ?_) (fun r u9 t9 H1 locs _ _ hp _ _ _ _ => hp.elim)
  obtain ⟨rfl, hbx⟩ := hbx
  obtain ⟨hP, hD⟩ := l_join (u := ()) (wr := bL1 k out ou) hP hD hk1 hFc hbx ht
  refine vx_catch (own := RL) (name := "java/lang/IllegalStateException") (E := "java/lang/IllegalStateException") hown [⟨0, 10, 13, 21⟩, ⟨0, 10, 17, 13⟩] ⟨0, 10, 21, 15⟩ [] (htab.trans rfl) (fun z hz => by simp only [List.mem_cons, List.not_mem_nil, or_false] at hz; rcases hz with hz | hz <;> subst hz <;> first | exact Or.inr ⟨by decide, "java/lang/IndexOutOfBoundsException", hts (.classLink RL 21 "java/lang/IndexOutOfBoundsException") (by decide +kernel), hNC ("java/lang/IllegalStateException", "java/lang/IndexOutOfBoundsException") (by decide)⟩ | exact Or.inr ⟨by decide, "java/lang/IllegalArgumentException", hts (.classLink RL 13 "java/lang/IllegalArgumentException") (by decide +kernel), hNC ("java/lang/IllegalStateException", "java/lang/IllegalArgumentException") (by decide)⟩) rfl (by decide) (hts (.classLink RL 15 "java/lang/IllegalStateException") (by decide +kernel)) (va_Nw.use (xnL_tables (.castable "java/lang/IllegalStateException" "java/lang/IllegalStateException") (by decide)) (hXN.1 (.castable "java/lang/IllegalStateException" "java/lang/IllegalStateException") (by decide))) hce hcv hcl ?_
  clear hbx hk1 hz1 hvm hFc hce hcv hcl ht
  clear t9
  generalize H1 = H at hP hS ⊢
  refine W.eq (g2 := F0 m9 21 ls [.ref q9]) rfl ?_
  refine lv_astore (lv' := [(4, .ref q9), (0, .ref o), (1, .int x), (2, .int z), (3, .ref out)]) hx hb dL_setRack_21 hl (by decide) rfl (fun ls hl => ?_)
  refine lv_iconst (v := 3) hx hb dL_setRack_23 (by decide) ?_
  refine W.widen (k := 1) (n := 6) (Nat.le_of_ble_eq_true rfl) (Nat.le_of_ble_eq_true rfl) ?_
  exact W.iret (v := 3) hx hb hr (fun t9 ht hW => ⟨⟨_, (), rfl, (by first | (with_reducible exact rfl) | (rw [if_pos (by assumption)]; done) | (rw [if_neg (ne_true_of_eq_false (by assumption))]; done)), ⟨by rw [ht]; exact hP, va_K.moved hW.alike hK, hD⟩⟩, hS.F ht⟩) hS.2.2 dL_setRack_24 hlocks

/-! The law's wrappers: logShift, logKind, append. -/
set_option maxHeartbeats 4000000 in
set_option maxRecDepth 100000 in
theorem m_L_logShift_ok (l9 : Launch) (hl9 : l9.stackTraces = false) (D : va_G) (k : Nat → ClassId) (ks kv kf : Nat → Nat) (ka kw : Nat) (sz : Nat) (o bf pa pn pk sv tr tx li ll ac ci ch : Nat) (iz : Bool) (er fl : Int32) (qs qc qr ql : Nat → Nat) (lim sh sc : Int32) (fr : Nat → UInt32) (lsh lk : Nat → Int32) (lc lx : Nat) (x : Int32) (out : Nat) (ou : Nat → Int64) (hlc : lc ≤ 16) (hlx : lx < 16) (hxn : inC lc x = true) : Met l9 yL_logShift wsL_logShift ({ frames := 3, cells := 1, slots := 6, locals := 64 }) (LPc ks kv kf ka kw D k [.ref o, .int x, .ref out] (bRO k o (qs 0) bf pa pn pk sv iz tr tx er fl li ll ac ci ch ++ bSt k qs qc qr ql lim sh sc fr ++ bLog k ql lsh lk lc lx ++ bL1 k out ou) sz) (WI D k (bRO k o (qs 0) bf pa pn pk sv iz tr tx er fl li ll ac ci ch ++ bSt k qs qc qr ql lim sh sc fr ++ bLog k ql lsh lk lc lx ++ bL1 k out (vp_updL ou 0 ((lsh ((lx + 15 - x.toNatClampNeg) % 16)).toInt64))) 0 (va_A (bRO k o (qs 0) bf pa pn pk sv iz tr tx er fl li ll ac ci ch ++ bSt k qs qc qr ql lim sh sc fr ++ bLog k ql lsh lk lc lx ++ bL1 k out ou) sz)) 1 6 (va_A (bRO k o (qs 0) bf pa pn pk sv iz tr tx er fl li ll ac ci ch ++ bSt k qs qc qr ql lim sh sc fr ++ bLog k ql lsh lk lc lx ++ bL1 k out ou) sz) := by
  refine lMet (y := yL_logShift) (cc := cL_logShift) (maxL := 4) (ret := (some .int)) (hh := [(0, 9, 12, 68)]) (Qc := fun A => WI D k (bRO k o (qs 0) bf pa pn pk sv iz tr tx er fl li ll ac ci ch ++ bSt k qs qc qr ql lim sh sc fr ++ bLog k ql lsh lk lc lx ++ bL1 k out (vp_updL ou 0 ((lsh ((lx + 15 - x.toNatClampNeg) % 16)).toInt64))) 0 A) [.ref o, .int x, .ref out] (by decide) rfl (Nat.le_of_ble_eq_true rfl) ?_
  intro p9 e9 s9 m9 bl9 me9 c9 ls A H hF hr hlocks htab hP hK hN hXN hNC hZ hKC hD hA hS hl
  have hl : lv_has ls 4 [(0, .ref o), (1, .int x), (2, .ref out)] := hl
  obtain ⟨hx, hb, hml, hown, hts⟩ := id hF
  refine lv_aload_n hx hb dL_logShift_0 rfl (lv_at hl 2 rfl) ?_
  refine lv_iconst (v := 0) hx hb dL_logShift_1 (by decide) ?_
  refine lv_aload_n hx hb dL_logShift_2 rfl (lv_at hl 0 rfl) ?_
  refine lv_iload_n hx hb dL_logShift_3 rfl (lv_at hl 1 rfl) ?_
  have hq9 := mp_of (ws := bRO k o (qs 0) bf pa pn pk sv iz tr tx er fl li ll ac ci ch ++ bSt k qs qc qr ql lim sh sc fr ++ bLog k ql lsh lk lc lx ++ bL1 k out ou) (wc := bRO k o (qs 0) bf pa pn pk sv iz tr tx er fl li ll ac ci ch ++ bSt k qs qc qr ql lim sh sc fr ++ bLog k ql lsh lk lc lx) (is := [0, 1, 2, 3, 4, 5]) rfl
  have hFc := va_free (wc := bRO k o (qs 0) bf pa pn pk sv iz tr tx er fl li ll ac ci ch ++ bSt k qs qc qr ql lim sh sc fr ++ bLog k ql lsh lk lc lx) hD hS hA [0, 1, 2, 3, 4, 5] hq9
  refine va_calli (va_runV (As := [.int x]) (rest := [.int 0, .ref out]) hF (m_X12_logShift l9 D k H.size o bf pa pn pk sv tr tx li ll ac ci ch iz er fl qs qc qr ql lim sh sc fr lsh lk lc lx x hlc hlx hxn) (cwV 1 hts gL_logShift_X12_logShift rfl rfl rfl (by decide +kernel) ⟨Nat.le_of_ble_eq_true rfl, Nat.le_of_ble_eq_true rfl⟩) (wPreV hK hN hP hD [0, 1, 2, 3, 4, 5] (fm_of hq9) (by decide) hq9 0 10 rfl rfl) rfl rfl hl.1 rfl (lv_room (Nat.le_of_ble_eq_true rfl)) dL_logShift_4 ⟨Nat.zero_le _, Nat.zero_le _⟩) hS (fun q _ h => hFc q h) hFc (fun r u9 t9 H1 locs ht hvm hw hB hz1 hk1 hS => ?_)
  obtain ⟨hP, hD⟩ := wjoin9 (wr := bL1 k out ou) (wf := bRO k o (qs 0) bf pa pn pk sv iz tr tx er fl li ll ac ci ch ++ bSt k qs qc qr ql lim sh sc fr ++ bLog k ql lsh lk lc lx ++ bL1 k out ou) hP hD [0, 1, 2, 3, 4, 5] [6] [1, 2, 3, 4, 5, 6, 0] hq9 rfl (by decide) (by decide) hk1 hFc hB ht rfl (by decide)
  subst hw
  clear hB hk1 hz1 hvm hFc hq9
  clear ht
  clear t9
  generalize H1 = H at hP hS ⊢
  refine lv_i2l hx hb dL_logShift_7 rfl ?_
  refine la_st hx hb hK hP hD hS 6 rfl 0 (by omega) (by decide) (bRO k o (qs 0) bf pa pn pk sv iz tr tx er fl li ll ac ci ch ++ bSt k qs qc qr ql lim sh sc fr ++ bLog k ql lsh lk lc lx ++ bL1 k out (vp_updL ou 0 ((lsh ((lx + 15 - x.toNatClampNeg) % 16)).toInt64))) rfl dL_logShift_8 (fun H locs hP hD hS => ?_)
  refine lv_goto (tgt := 15) hx hb dL_logShift_9 (by decide) ?_
  refine lv_iconst (v := 0) hx hb dL_logShift_15 (by decide) ?_
  refine W.widen (k := 1) (n := 6) (Nat.le_of_ble_eq_true rfl) (Nat.le_of_ble_eq_true rfl) ?_
  exact W.iret (v := 0) hx hb hr (fun t9 ht hW => ⟨⟨_, (), rfl, (by first | (rw [if_pos (by assumption)]; done) | (rw [if_neg (fun h9 => Bool.noConfusion (Eq.trans (Eq.symm h9) (by assumption)))]; done)), ⟨by rw [ht]; exact hP, va_K.moved hW.alike hK, hD⟩⟩, hS.F ht⟩) hS.2.2 dL_logShift_16 hlocks

set_option maxHeartbeats 4000000 in
set_option maxRecDepth 100000 in
theorem m_L_logShift_1 (l9 : Launch) (hl9 : l9.stackTraces = false) (D : va_G) (k : Nat → ClassId) (ks kv kf : Nat → Nat) (ka kw : Nat) (sz : Nat) (o bf pa pn pk sv tr tx li ll ac ci ch : Nat) (iz : Bool) (er fl : Int32) (qs qc qr ql : Nat → Nat) (lim sh sc : Int32) (fr : Nat → UInt32) (lsh lk : Nat → Int32) (lc lx : Nat) (x : Int32) (out : Nat) (ou : Nat → Int64) (hxn : inC lc x = false) : Met l9 yL_logShift wsL_logShift ({ frames := 8, cells := 1, slots := 6, locals := 124 }) (LPc ks kv kf ka kw D k [.ref o, .int x, .ref out] (bRO k o (qs 0) bf pa pn pk sv iz tr tx er fl li ll ac ci ch ++ bSt k qs qc qr ql lim sh sc fr ++ bLog k ql lsh lk lc lx ++ bL1 k out ou) sz) (WI D k (bRO k o (qs 0) bf pa pn pk sv iz tr tx er fl li ll ac ci ch ++ bSt k qs qc qr ql lim sh sc fr ++ bLog k ql lsh lk lc lx ++ bL1 k out ou) 1 (va_A (bRO k o (qs 0) bf pa pn pk sv iz tr tx er fl li ll ac ci ch ++ bSt k qs qc qr ql lim sh sc fr ++ bLog k ql lsh lk lc lx ++ bL1 k out ou) sz)) 1 6 (va_A (bRO k o (qs 0) bf pa pn pk sv iz tr tx er fl li ll ac ci ch ++ bSt k qs qc qr ql lim sh sc fr ++ bLog k ql lsh lk lc lx ++ bL1 k out ou) sz) := by
  refine lMet (y := yL_logShift) (cc := cL_logShift) (maxL := 4) (ret := (some .int)) (hh := [(0, 9, 12, 68)]) (Qc := fun A => WI D k (bRO k o (qs 0) bf pa pn pk sv iz tr tx er fl li ll ac ci ch ++ bSt k qs qc qr ql lim sh sc fr ++ bLog k ql lsh lk lc lx ++ bL1 k out ou) 1 A) [.ref o, .int x, .ref out] (by decide) rfl (Nat.le_of_ble_eq_true rfl) ?_
  intro p9 e9 s9 m9 bl9 me9 c9 ls A H hF hr hlocks htab hP hK hN hXN hNC hZ hKC hD hA hS hl
  have hl : lv_has ls 4 [(0, .ref o), (1, .int x), (2, .ref out)] := hl
  obtain ⟨hx, hb, hml, hown, hts⟩ := id hF
  refine lv_aload_n hx hb dL_logShift_0 rfl (lv_at hl 2 rfl) ?_
  refine lv_iconst (v := 0) hx hb dL_logShift_1 (by decide) ?_
  refine lv_aload_n hx hb dL_logShift_2 rfl (lv_at hl 0 rfl) ?_
  refine lv_iload_n hx hb dL_logShift_3 rfl (lv_at hl 1 rfl) ?_
  have hq9 := mp_of (ws := bRO k o (qs 0) bf pa pn pk sv iz tr tx er fl li ll ac ci ch ++ bSt k qs qc qr ql lim sh sc fr ++ bLog k ql lsh lk lc lx ++ bL1 k out ou) (wc := bRO k o (qs 0) bf pa pn pk sv iz tr tx er fl li ll ac ci ch ++ bSt k qs qc qr ql lim sh sc fr ++ bLog k ql lsh lk lc lx) (is := [0, 1, 2, 3, 4, 5]) rfl
  have hFc := va_free (wc := bRO k o (qs 0) bf pa pn pk sv iz tr tx er fl li ll ac ci ch ++ bSt k qs qc qr ql lim sh sc fr ++ bLog k ql lsh lk lc lx) hD hS hA [0, 1, 2, 3, 4, 5] hq9
  refine vx_calli (vx_runV (As := [.int x]) (rest := [.int 0, .ref out]) hF (x_X12_logShift l9 hl9 D k H.size o bf pa pn pk sv tr tx li ll ac ci ch iz er fl qs qc qr ql lim sh sc fr lsh lk lc lx x hxn) (cwV 1 hts gL_logShift_X12_logShift rfl rfl rfl (by decide +kernel) ⟨Nat.le_of_ble_eq_true rfl, Nat.le_of_ble_eq_true rfl⟩) (xPreV hK hN hXN hZ hS hFc hP hD [0, 1, 2, 3, 4, 5] (fm_of hq9) (by decide) hq9 0 10 rfl rfl) rfl rfl hl.1 rfl (lv_room (Nat.le_of_ble_eq_true rfl)) dL_logShift_4 ⟨Nat.le_of_ble_eq_true rfl, Nat.le_of_ble_eq_true rfl⟩) hS (fun q _ h => hFc q h) hFc (fun q _ h => hFc q h) (fun E9 ce9 q9 u9 t9 H1 locs ht hvm _ hbx hz1 hk1 hS hce hcv hcl => ?_) (fun r u9 t9 H1 locs _ _ hp _ _ _ _ => hp.elim)
  obtain ⟨rfl, hbx⟩ := hbx
  obtain ⟨hP, hD⟩ := wjoin9 (u := ()) (wr := bL1 k out ou) (wf := bRO k o (qs 0) bf pa pn pk sv iz tr tx er fl li ll ac ci ch ++ bSt k qs qc qr ql lim sh sc fr ++ bLog k ql lsh lk lc lx ++ bL1 k out ou) hP hD [0, 1, 2, 3, 4, 5] [6] [1, 2, 3, 4, 5, 6, 0] hq9 rfl (by decide) (by decide) hk1 hFc hbx ht rfl (by decide)
  refine vx_catch (own := RL) (name := "java/util/NoSuchElementException") (E := "java/util/NoSuchElementException") hown [] ⟨0, 9, 12, 68⟩ [] (htab.trans rfl) (fun z hz => by simp only [List.not_mem_nil] at hz) rfl (by decide) (hts (.classLink RL 68 "java/util/NoSuchElementException") (by decide +kernel)) (va_Nw.use (xnL_tables (.castable "java/util/NoSuchElementException" "java/util/NoSuchElementException") (by decide)) (hXN.1 (.castable "java/util/NoSuchElementException" "java/util/NoSuchElementException") (by decide))) hce hcv hcl ?_
  clear hbx hk1 hz1 hvm hFc hce hcv hcl ht hq9
  clear t9
  generalize H1 = H at hP hS ⊢
  refine W.eq (g2 := F0 m9 12 ls [.ref q9]) rfl ?_
  refine lv_astore_n (lv' := [(3, .ref q9), (0, .ref o), (1, .int x), (2, .ref out)]) hx hb dL_logShift_12 rfl hl (by decide) rfl (fun ls hl => ?_)
  refine lv_iconst (v := 1) hx hb dL_logShift_13 (by decide) ?_
  refine W.widen (k := 1) (n := 6) (Nat.le_of_ble_eq_true rfl) (Nat.le_of_ble_eq_true rfl) ?_
  exact W.iret (v := 1) hx hb hr (fun t9 ht hW => ⟨⟨_, (), rfl, (by first | (rw [if_pos (by assumption)]; done) | (rw [if_neg (fun h9 => Bool.noConfusion (Eq.trans (Eq.symm h9) (by assumption)))]; done)), ⟨by rw [ht]; exact hP, va_K.moved hW.alike hK, hD⟩⟩, hS.F ht⟩) hS.2.2 dL_logShift_14 hlocks

set_option maxHeartbeats 4000000 in
set_option maxRecDepth 100000 in
theorem m_L_logKind_ok (l9 : Launch) (hl9 : l9.stackTraces = false) (D : va_G) (k : Nat → ClassId) (ks kv kf : Nat → Nat) (ka kw : Nat) (sz : Nat) (o bf pa pn pk sv tr tx li ll ac ci ch : Nat) (iz : Bool) (er fl : Int32) (qs qc qr ql : Nat → Nat) (lim sh sc : Int32) (fr : Nat → UInt32) (lsh lk : Nat → Int32) (lc lx : Nat) (x : Int32) (out : Nat) (ou : Nat → Int64) (hlc : lc ≤ 16) (hlx : lx < 16) (hxn : inC lc x = true) (hlk : chOk lk 16) : Met l9 yL_logKind wsL_logKind ({ frames := 3, cells := 1, slots := 6, locals := 64 }) (LPc ks kv kf ka kw D k [.ref o, .int x, .ref out] (bRO k o (qs 0) bf pa pn pk sv iz tr tx er fl li ll ac ci ch ++ bSt k qs qc qr ql lim sh sc fr ++ bLog k ql lsh lk lc lx ++ bL1 k out ou) sz) (WI D k (bRO k o (qs 0) bf pa pn pk sv iz tr tx er fl li ll ac ci ch ++ bSt k qs qc qr ql lim sh sc fr ++ bLog k ql lsh lk lc lx ++ bL1 k out (vp_updL ou 0 ((lk ((lx + 15 - x.toNatClampNeg) % 16)).toInt64))) 0 (va_A (bRO k o (qs 0) bf pa pn pk sv iz tr tx er fl li ll ac ci ch ++ bSt k qs qc qr ql lim sh sc fr ++ bLog k ql lsh lk lc lx ++ bL1 k out ou) sz)) 1 6 (va_A (bRO k o (qs 0) bf pa pn pk sv iz tr tx er fl li ll ac ci ch ++ bSt k qs qc qr ql lim sh sc fr ++ bLog k ql lsh lk lc lx ++ bL1 k out ou) sz) := by
  refine lMet (y := yL_logKind) (cc := cL_logKind) (maxL := 4) (ret := (some .int)) (hh := [(0, 9, 12, 68)]) (Qc := fun A => WI D k (bRO k o (qs 0) bf pa pn pk sv iz tr tx er fl li ll ac ci ch ++ bSt k qs qc qr ql lim sh sc fr ++ bLog k ql lsh lk lc lx ++ bL1 k out (vp_updL ou 0 ((lk ((lx + 15 - x.toNatClampNeg) % 16)).toInt64))) 0 A) [.ref o, .int x, .ref out] (by decide) rfl (Nat.le_of_ble_eq_true rfl) ?_
  intro p9 e9 s9 m9 bl9 me9 c9 ls A H hF hr hlocks htab hP hK hN hXN hNC hZ hKC hD hA hS hl
  have hl : lv_has ls 4 [(0, .ref o), (1, .int x), (2, .ref out)] := hl
  obtain ⟨hx, hb, hml, hown, hts⟩ := id hF
  refine lv_aload_n hx hb dL_logKind_0 rfl (lv_at hl 2 rfl) ?_
  refine lv_iconst (v := 0) hx hb dL_logKind_1 (by decide) ?_
  refine lv_aload_n hx hb dL_logKind_2 rfl (lv_at hl 0 rfl) ?_
  refine lv_iload_n hx hb dL_logKind_3 rfl (lv_at hl 1 rfl) ?_
  have hq9 := mp_of (ws := bRO k o (qs 0) bf pa pn pk sv iz tr tx er fl li ll ac ci ch ++ bSt k qs qc qr ql lim sh sc fr ++ bLog k ql lsh lk lc lx ++ bL1 k out ou) (wc := bRO k o (qs 0) bf pa pn pk sv iz tr tx er fl li ll ac ci ch ++ bSt k qs qc qr ql lim sh sc fr ++ bLog k ql lsh lk lc lx) (is := [0, 1, 2, 3, 4, 5]) rfl
  have hFc := va_free (wc := bRO k o (qs 0) bf pa pn pk sv iz tr tx er fl li ll ac ci ch ++ bSt k qs qc qr ql lim sh sc fr ++ bLog k ql lsh lk lc lx) hD hS hA [0, 1, 2, 3, 4, 5] hq9
  refine va_calli (va_runV (As := [.int x]) (rest := [.int 0, .ref out]) hF (m_X12_logKind l9 D k H.size o bf pa pn pk sv tr tx li ll ac ci ch iz er fl qs qc qr ql lim sh sc fr lsh lk lc lx x hlc hlx hxn hlk) (cwV 1 hts gL_logKind_X12_logKind rfl rfl rfl (by decide +kernel) ⟨Nat.le_of_ble_eq_true rfl, Nat.le_of_ble_eq_true rfl⟩) (wPreV hK hN hP hD [0, 1, 2, 3, 4, 5] (fm_of hq9) (by decide) hq9 0 10 rfl rfl) rfl rfl hl.1 rfl (lv_room (Nat.le_of_ble_eq_true rfl)) dL_logKind_4 ⟨Nat.zero_le _, Nat.zero_le _⟩) hS (fun q _ h => hFc q h) hFc (fun r u9 t9 H1 locs ht hvm hw hB hz1 hk1 hS => ?_)
  obtain ⟨hP, hD⟩ := wjoin9 (wr := bL1 k out ou) (wf := bRO k o (qs 0) bf pa pn pk sv iz tr tx er fl li ll ac ci ch ++ bSt k qs qc qr ql lim sh sc fr ++ bLog k ql lsh lk lc lx ++ bL1 k out ou) hP hD [0, 1, 2, 3, 4, 5] [6] [1, 2, 3, 4, 5, 6, 0] hq9 rfl (by decide) (by decide) hk1 hFc hB ht rfl (by decide)
  subst hw
  clear hB hk1 hz1 hvm hFc hq9
  clear ht
  clear t9
  generalize H1 = H at hP hS ⊢
  refine lv_i2l hx hb dL_logKind_7 rfl ?_
  refine la_st hx hb hK hP hD hS 6 rfl 0 (by omega) (by decide) (bRO k o (qs 0) bf pa pn pk sv iz tr tx er fl li ll ac ci ch ++ bSt k qs qc qr ql lim sh sc fr ++ bLog k ql lsh lk lc lx ++ bL1 k out (vp_updL ou 0 ((lk ((lx + 15 - x.toNatClampNeg) % 16)).toInt64))) rfl dL_logKind_8 (fun H locs hP hD hS => ?_)
  refine lv_goto (tgt := 15) hx hb dL_logKind_9 (by decide) ?_
  refine lv_iconst (v := 0) hx hb dL_logKind_15 (by decide) ?_
  refine W.widen (k := 1) (n := 6) (Nat.le_of_ble_eq_true rfl) (Nat.le_of_ble_eq_true rfl) ?_
  exact W.iret (v := 0) hx hb hr (fun t9 ht hW => ⟨⟨_, (), rfl, (by first | (rw [if_pos (by assumption)]; done) | (rw [if_neg (fun h9 => Bool.noConfusion (Eq.trans (Eq.symm h9) (by assumption)))]; done)), ⟨by rw [ht]; exact hP, va_K.moved hW.alike hK, hD⟩⟩, hS.F ht⟩) hS.2.2 dL_logKind_16 hlocks

set_option maxHeartbeats 4000000 in
set_option maxRecDepth 100000 in
theorem m_L_logKind_1 (l9 : Launch) (hl9 : l9.stackTraces = false) (D : va_G) (k : Nat → ClassId) (ks kv kf : Nat → Nat) (ka kw : Nat) (sz : Nat) (o bf pa pn pk sv tr tx li ll ac ci ch : Nat) (iz : Bool) (er fl : Int32) (qs qc qr ql : Nat → Nat) (lim sh sc : Int32) (fr : Nat → UInt32) (lsh lk : Nat → Int32) (lc lx : Nat) (x : Int32) (out : Nat) (ou : Nat → Int64) (hxn : inC lc x = false) : Met l9 yL_logKind wsL_logKind ({ frames := 8, cells := 1, slots := 6, locals := 124 }) (LPc ks kv kf ka kw D k [.ref o, .int x, .ref out] (bRO k o (qs 0) bf pa pn pk sv iz tr tx er fl li ll ac ci ch ++ bSt k qs qc qr ql lim sh sc fr ++ bLog k ql lsh lk lc lx ++ bL1 k out ou) sz) (WI D k (bRO k o (qs 0) bf pa pn pk sv iz tr tx er fl li ll ac ci ch ++ bSt k qs qc qr ql lim sh sc fr ++ bLog k ql lsh lk lc lx ++ bL1 k out ou) 1 (va_A (bRO k o (qs 0) bf pa pn pk sv iz tr tx er fl li ll ac ci ch ++ bSt k qs qc qr ql lim sh sc fr ++ bLog k ql lsh lk lc lx ++ bL1 k out ou) sz)) 1 6 (va_A (bRO k o (qs 0) bf pa pn pk sv iz tr tx er fl li ll ac ci ch ++ bSt k qs qc qr ql lim sh sc fr ++ bLog k ql lsh lk lc lx ++ bL1 k out ou) sz) := by
  refine lMet (y := yL_logKind) (cc := cL_logKind) (maxL := 4) (ret := (some .int)) (hh := [(0, 9, 12, 68)]) (Qc := fun A => WI D k (bRO k o (qs 0) bf pa pn pk sv iz tr tx er fl li ll ac ci ch ++ bSt k qs qc qr ql lim sh sc fr ++ bLog k ql lsh lk lc lx ++ bL1 k out ou) 1 A) [.ref o, .int x, .ref out] (by decide) rfl (Nat.le_of_ble_eq_true rfl) ?_
  intro p9 e9 s9 m9 bl9 me9 c9 ls A H hF hr hlocks htab hP hK hN hXN hNC hZ hKC hD hA hS hl
  have hl : lv_has ls 4 [(0, .ref o), (1, .int x), (2, .ref out)] := hl
  obtain ⟨hx, hb, hml, hown, hts⟩ := id hF
  refine lv_aload_n hx hb dL_logKind_0 rfl (lv_at hl 2 rfl) ?_
  refine lv_iconst (v := 0) hx hb dL_logKind_1 (by decide) ?_
  refine lv_aload_n hx hb dL_logKind_2 rfl (lv_at hl 0 rfl) ?_
  refine lv_iload_n hx hb dL_logKind_3 rfl (lv_at hl 1 rfl) ?_
  have hq9 := mp_of (ws := bRO k o (qs 0) bf pa pn pk sv iz tr tx er fl li ll ac ci ch ++ bSt k qs qc qr ql lim sh sc fr ++ bLog k ql lsh lk lc lx ++ bL1 k out ou) (wc := bRO k o (qs 0) bf pa pn pk sv iz tr tx er fl li ll ac ci ch ++ bSt k qs qc qr ql lim sh sc fr ++ bLog k ql lsh lk lc lx) (is := [0, 1, 2, 3, 4, 5]) rfl
  have hFc := va_free (wc := bRO k o (qs 0) bf pa pn pk sv iz tr tx er fl li ll ac ci ch ++ bSt k qs qc qr ql lim sh sc fr ++ bLog k ql lsh lk lc lx) hD hS hA [0, 1, 2, 3, 4, 5] hq9
  refine vx_calli (vx_runV (As := [.int x]) (rest := [.int 0, .ref out]) hF (x_X12_logKind l9 hl9 D k H.size o bf pa pn pk sv tr tx li ll ac ci ch iz er fl qs qc qr ql lim sh sc fr lsh lk lc lx x hxn) (cwV 1 hts gL_logKind_X12_logKind rfl rfl rfl (by decide +kernel) ⟨Nat.le_of_ble_eq_true rfl, Nat.le_of_ble_eq_true rfl⟩) (xPreV hK hN hXN hZ hS hFc hP hD [0, 1, 2, 3, 4, 5] (fm_of hq9) (by decide) hq9 0 10 rfl rfl) rfl rfl hl.1 rfl (lv_room (Nat.le_of_ble_eq_true rfl)) dL_logKind_4 ⟨Nat.le_of_ble_eq_true rfl, Nat.le_of_ble_eq_true rfl⟩) hS (fun q _ h => hFc q h) hFc (fun q _ h => hFc q h) (fun E9 ce9 q9 u9 t9 H1 locs ht hvm _ hbx hz1 hk1 hS hce hcv hcl => ?_) (fun r u9 t9 H1 locs _ _ hp _ _ _ _ => hp.elim)
  obtain ⟨rfl, hbx⟩ := hbx
  obtain ⟨hP, hD⟩ := wjoin9 (u := ()) (wr := bL1 k out ou) (wf := bRO k o (qs 0) bf pa pn pk sv iz tr tx er fl li ll ac ci ch ++ bSt k qs qc qr ql lim sh sc fr ++ bLog k ql lsh lk lc lx ++ bL1 k out ou) hP hD [0, 1, 2, 3, 4, 5] [6] [1, 2, 3, 4, 5, 6, 0] hq9 rfl (by decide) (by decide) hk1 hFc hbx ht rfl (by decide)
  refine vx_catch (own := RL) (name := "java/util/NoSuchElementException") (E := "java/util/NoSuchElementException") hown [] ⟨0, 9, 12, 68⟩ [] (htab.trans rfl) (fun z hz => by simp only [List.not_mem_nil] at hz) rfl (by decide) (hts (.classLink RL 68 "java/util/NoSuchElementException") (by decide +kernel)) (va_Nw.use (xnL_tables (.castable "java/util/NoSuchElementException" "java/util/NoSuchElementException") (by decide)) (hXN.1 (.castable "java/util/NoSuchElementException" "java/util/NoSuchElementException") (by decide))) hce hcv hcl ?_
  clear hbx hk1 hz1 hvm hFc hce hcv hcl ht hq9
  clear t9
  generalize H1 = H at hP hS ⊢
  refine W.eq (g2 := F0 m9 12 ls [.ref q9]) rfl ?_
  refine lv_astore_n (lv' := [(3, .ref q9), (0, .ref o), (1, .int x), (2, .ref out)]) hx hb dL_logKind_12 rfl hl (by decide) rfl (fun ls hl => ?_)
  refine lv_iconst (v := 1) hx hb dL_logKind_13 (by decide) ?_
  refine W.widen (k := 1) (n := 6) (Nat.le_of_ble_eq_true rfl) (Nat.le_of_ble_eq_true rfl) ?_
  exact W.iret (v := 1) hx hb hr (fun t9 ht hW => ⟨⟨_, (), rfl, (by first | (rw [if_pos (by assumption)]; done) | (rw [if_neg (fun h9 => Bool.noConfusion (Eq.trans (Eq.symm h9) (by assumption)))]; done)), ⟨by rw [ht]; exact hP, va_K.moved hW.alike hK, hD⟩⟩, hS.F ht⟩) hS.2.2 dL_logKind_14 hlocks

set_option maxHeartbeats 4000000 in
set_option maxRecDepth 100000 in
theorem m_L_append_ok (l9 : Launch) (hl9 : l9.stackTraces = false) (D : va_G) (k : Nat → ClassId) (ks kv kf : Nat → Nat) (ka kw : Nat) (sz : Nat) (now : Nat) (o bf pa pn pk sv tr  li ll ac ci ch : Nat) (iz : Bool) (er fl : Int32) (tx sg tl fo va cm vc sp : Nat) (ts : Nat → Int32) (x : Int32) (out : Nat) (ou : Nat → Int64) (hz9 : vp_nar .char x = x) (hx9 : rg 32 x 126 = true) (hlt9 : tl < 60) : Met l9 yL_append wsL_append ({ frames := 1, cells := 1, slots := 6, locals := 21 }) (LPc ks kv kf ka kw D k [.ref o, .int x, .ref out] (bRO k o now bf pa pn pk sv iz tr tx er fl li ll ac ci ch ++ bCT k tx sg tl fo va cm vc sp ++ bC60 k sg ts ++ bL1 k out ou) sz) (WI D k (bRO k o now bf pa pn pk sv iz tr tx er fl li ll ac ci ch ++ bCT k tx sg (tl + 1) fo va cm vc sp ++ bC60 k sg (upd ts tl x) ++ bL1 k out (vp_updL ou 0 ((nI (tl + 1)).toInt64))) 0 (va_A (bRO k o now bf pa pn pk sv iz tr tx er fl li ll ac ci ch ++ bCT k tx sg tl fo va cm vc sp ++ bC60 k sg ts ++ bL1 k out ou) sz)) 1 6 (va_A (bRO k o now bf pa pn pk sv iz tr tx er fl li ll ac ci ch ++ bCT k tx sg tl fo va cm vc sp ++ bC60 k sg ts ++ bL1 k out ou) sz) := by
  refine lMet (y := yL_append) (cc := cL_append) (maxL := 4) (ret := (some .int)) (hh := [(0, 9, 12, 13), (0, 9, 15, 15)]) (Qc := fun A => WI D k (bRO k o now bf pa pn pk sv iz tr tx er fl li ll ac ci ch ++ bCT k tx sg (tl + 1) fo va cm vc sp ++ bC60 k sg (upd ts tl x) ++ bL1 k out (vp_updL ou 0 ((nI (tl + 1)).toInt64))) 0 A) [.ref o, .int x, .ref out] (by decide) rfl (Nat.le_of_ble_eq_true rfl) ?_
  intro p9 e9 s9 m9 bl9 me9 c9 ls A H hF hr hlocks htab hP hK hN hXN hNC hZ hKC hD hA hS hl
  have hl : lv_has ls 4 [(0, .ref o), (1, .int x), (2, .ref out)] := hl
  obtain ⟨hx, hb, hml, hown, hts⟩ := id hF
  refine lv_aload_n hx hb dL_append_0 rfl (lv_at hl 2 rfl) ?_
  refine lv_iconst (v := 0) hx hb dL_append_1 (by decide) ?_
  refine lv_aload_n hx hb dL_append_2 rfl (lv_at hl 0 rfl) ?_
  refine lv_iload_n hx hb dL_append_3 rfl (lv_at hl 1 rfl) ?_
  have hq9 := mp_of (ws := bRO k o now bf pa pn pk sv iz tr tx er fl li ll ac ci ch ++ bCT k tx sg tl fo va cm vc sp ++ bC60 k sg ts ++ bL1 k out ou) (wc := bRO k o now bf pa pn pk sv iz tr tx er fl li ll ac ci ch ++ bCT k tx sg tl fo va cm vc sp ++ bC60 k sg ts) (is := [0, 1, 2]) rfl
  have hFc := va_free (wc := bRO k o now bf pa pn pk sv iz tr tx er fl li ll ac ci ch ++ bCT k tx sg tl fo va cm vc sp ++ bC60 k sg ts) hD hS hA [0, 1, 2] hq9
  refine va_calli (va_runV (As := [.int x]) (rest := [.int 0, .ref out]) hF (m_X12_append l9 D k H.size now o bf pa pn pk sv tr li ll ac ci ch iz er fl tx sg tl fo va cm vc sp ts x hz9 hx9 hlt9) (cwV 1 hts gL_append_X12_append rfl rfl rfl (by decide +kernel) ⟨Nat.le_of_ble_eq_true rfl, Nat.le_of_ble_eq_true rfl⟩) (wPreV hK hN hP hD [0, 1, 2] (fm_of hq9) (by decide) hq9 0 10 rfl rfl) rfl rfl hl.1 rfl (lv_room (Nat.le_of_ble_eq_true rfl)) dL_append_4 ⟨Nat.zero_le _, Nat.zero_le _⟩) hS (fun q _ h => hFc q h) hFc (fun r u9 t9 H1 locs ht hvm hw hB hz1 hk1 hS => ?_)
  obtain ⟨hP, hD⟩ := wjoin9 (wr := bL1 k out ou) (wf := bRO k o now bf pa pn pk sv iz tr tx er fl li ll ac ci ch ++ bCT k tx sg (tl + 1) fo va cm vc sp ++ bC60 k sg (upd ts tl x) ++ bL1 k out ou) hP hD [0, 1, 2] [3] [1, 2, 3, 0] hq9 rfl (by decide) (by decide) hk1 hFc hB ht rfl (by decide)
  subst hw
  clear hB hk1 hz1 hvm hFc hq9
  clear ht
  clear t9
  generalize H1 = H at hP hS ⊢
  refine lv_i2l hx hb dL_append_7 rfl ?_
  refine la_st hx hb hK hP hD hS 3 rfl 0 (by omega) (by decide) (bRO k o now bf pa pn pk sv iz tr tx er fl li ll ac ci ch ++ bCT k tx sg (tl + 1) fo va cm vc sp ++ bC60 k sg (upd ts tl x) ++ bL1 k out (vp_updL ou 0 ((nI (tl + 1)).toInt64))) rfl dL_append_8 (fun H locs hP hD hS => ?_)
  refine lv_goto (tgt := 18) hx hb dL_append_9 (by decide) ?_
  refine lv_iconst (v := 0) hx hb dL_append_18 (by decide) ?_
  refine W.widen (k := 1) (n := 6) (Nat.le_of_ble_eq_true rfl) (Nat.le_of_ble_eq_true rfl) ?_
  exact W.iret (v := 0) hx hb hr (fun t9 ht hW => ⟨⟨_, (), rfl, (by first | (rw [if_pos (by assumption)]; done) | (rw [if_neg (fun h9 => Bool.noConfusion (Eq.trans (Eq.symm h9) (by assumption)))]; done)), ⟨by rw [ht]; exact hP, va_K.moved hW.alike hK, hD⟩⟩, hS.F ht⟩) hS.2.2 dL_append_19 hlocks

set_option maxHeartbeats 4000000 in
set_option maxRecDepth 100000 in
theorem m_L_append_1 (l9 : Launch) (hl9 : l9.stackTraces = false) (D : va_G) (k : Nat → ClassId) (ks kv kf : Nat → Nat) (ka kw : Nat) (sz : Nat) (now : Nat) (o bf pa pn pk sv tr  li ll ac ci ch : Nat) (iz : Bool) (er fl : Int32) (tx sg tl fo va cm vc sp : Nat) (ts : Nat → Int32) (x : Int32) (out : Nat) (ou : Nat → Int64) (hx9 : rg 32 x 126 = false) : Met l9 yL_append wsL_append ({ frames := 7, cells := 1, slots := 6, locals := 103 }) (LPc ks kv kf ka kw D k [.ref o, .int x, .ref out] (bRO k o now bf pa pn pk sv iz tr tx er fl li ll ac ci ch ++ bCT k tx sg tl fo va cm vc sp ++ bC60 k sg ts ++ bL1 k out ou) sz) (WI D k (bRO k o now bf pa pn pk sv iz tr tx er fl li ll ac ci ch ++ bCT k tx sg tl fo va cm vc sp ++ bC60 k sg ts ++ bL1 k out ou) 1 (va_A (bRO k o now bf pa pn pk sv iz tr tx er fl li ll ac ci ch ++ bCT k tx sg tl fo va cm vc sp ++ bC60 k sg ts ++ bL1 k out ou) sz)) 1 6 (va_A (bRO k o now bf pa pn pk sv iz tr tx er fl li ll ac ci ch ++ bCT k tx sg tl fo va cm vc sp ++ bC60 k sg ts ++ bL1 k out ou) sz) := by
  refine lMet (y := yL_append) (cc := cL_append) (maxL := 4) (ret := (some .int)) (hh := [(0, 9, 12, 13), (0, 9, 15, 15)]) (Qc := fun A => WI D k (bRO k o now bf pa pn pk sv iz tr tx er fl li ll ac ci ch ++ bCT k tx sg tl fo va cm vc sp ++ bC60 k sg ts ++ bL1 k out ou) 1 A) [.ref o, .int x, .ref out] (by decide) rfl (Nat.le_of_ble_eq_true rfl) ?_
  intro p9 e9 s9 m9 bl9 me9 c9 ls A H hF hr hlocks htab hP hK hN hXN hNC hZ hKC hD hA hS hl
  have hl : lv_has ls 4 [(0, .ref o), (1, .int x), (2, .ref out)] := hl
  obtain ⟨hx, hb, hml, hown, hts⟩ := id hF
  refine lv_aload_n hx hb dL_append_0 rfl (lv_at hl 2 rfl) ?_
  refine lv_iconst (v := 0) hx hb dL_append_1 (by decide) ?_
  refine lv_aload_n hx hb dL_append_2 rfl (lv_at hl 0 rfl) ?_
  refine lv_iload_n hx hb dL_append_3 rfl (lv_at hl 1 rfl) ?_
  have hq9 := mp_of (ws := bRO k o now bf pa pn pk sv iz tr tx er fl li ll ac ci ch ++ bCT k tx sg tl fo va cm vc sp ++ bC60 k sg ts ++ bL1 k out ou) (wc := bRO k o now bf pa pn pk sv iz tr tx er fl li ll ac ci ch ++ bCT k tx sg tl fo va cm vc sp ++ bC60 k sg ts) (is := [0, 1, 2]) rfl
  have hFc := va_free (wc := bRO k o now bf pa pn pk sv iz tr tx er fl li ll ac ci ch ++ bCT k tx sg tl fo va cm vc sp ++ bC60 k sg ts) hD hS hA [0, 1, 2] hq9
  refine vx_calli (vx_runV (As := [.int x]) (rest := [.int 0, .ref out]) hF (x_X12_append_a l9 hl9 D k H.size now o bf pa pn pk sv tr li ll ac ci ch iz er fl tx sg tl fo va cm vc sp ts x hx9) (cwV 1 hts gL_append_X12_append rfl rfl rfl (by decide +kernel) ⟨Nat.le_of_ble_eq_true rfl, Nat.le_of_ble_eq_true rfl⟩) (xPreV hK hN hXN hZ hS hFc hP hD [0, 1, 2] (fm_of hq9) (by decide) hq9 0 10 rfl rfl) rfl rfl hl.1 rfl (lv_room (Nat.le_of_ble_eq_true rfl)) dL_append_4 ⟨Nat.le_of_ble_eq_true rfl, Nat.le_of_ble_eq_true rfl⟩) hS (fun q _ h => hFc q h) hFc (fun q _ h => hFc q h) (fun E9 ce9 q9 u9 t9 H1 locs ht hvm _ hbx hz1 hk1 hS hce hcv hcl => ?_) (fun r u9 t9 H1 locs _ _ hp _ _ _ _ => hp.elim)
  obtain ⟨rfl, hbx⟩ := hbx
  obtain ⟨hP, hD⟩ := wjoin9 (u := ()) (wr := bL1 k out ou) (wf := bRO k o now bf pa pn pk sv iz tr tx er fl li ll ac ci ch ++ bCT k tx sg tl fo va cm vc sp ++ bC60 k sg ts ++ bL1 k out ou) hP hD [0, 1, 2] [3] [1, 2, 3, 0] hq9 rfl (by decide) (by decide) hk1 hFc hbx ht rfl (by decide)
  refine vx_catch (own := RL) (name := "java/lang/IllegalArgumentException") (E := "java/lang/IllegalArgumentException") hown [] ⟨0, 9, 12, 13⟩ [⟨0, 9, 15, 15⟩] (htab.trans rfl) (fun z hz => by simp only [List.not_mem_nil] at hz) rfl (by decide) (hts (.classLink RL 13 "java/lang/IllegalArgumentException") (by decide +kernel)) (va_Nw.use (xnL_tables (.castable "java/lang/IllegalArgumentException" "java/lang/IllegalArgumentException") (by decide)) (hXN.1 (.castable "java/lang/IllegalArgumentException" "java/lang/IllegalArgumentException") (by decide))) hce hcv hcl ?_
  clear hbx hk1 hz1 hvm hFc hce hcv hcl ht hq9
  clear t9
  generalize H1 = H at hP hS ⊢
  refine W.eq (g2 := F0 m9 12 ls [.ref q9]) rfl ?_
  refine lv_astore_n (lv' := [(3, .ref q9), (0, .ref o), (1, .int x), (2, .ref out)]) hx hb dL_append_12 rfl hl (by decide) rfl (fun ls hl => ?_)
  refine lv_iconst (v := 1) hx hb dL_append_13 (by decide) ?_
  refine W.widen (k := 1) (n := 6) (Nat.le_of_ble_eq_true rfl) (Nat.le_of_ble_eq_true rfl) ?_
  exact W.iret (v := 1) hx hb hr (fun t9 ht hW => ⟨⟨_, (), rfl, (by first | (rw [if_pos (by assumption)]; done) | (rw [if_neg (fun h9 => Bool.noConfusion (Eq.trans (Eq.symm h9) (by assumption)))]; done)), ⟨by rw [ht]; exact hP, va_K.moved hW.alike hK, hD⟩⟩, hS.F ht⟩) hS.2.2 dL_append_14 hlocks

set_option maxHeartbeats 4000000 in
set_option maxRecDepth 100000 in
theorem m_L_append_2 (l9 : Launch) (hl9 : l9.stackTraces = false) (D : va_G) (k : Nat → ClassId) (ks kv kf : Nat → Nat) (ka kw : Nat) (sz : Nat) (now : Nat) (o bf pa pn pk sv tr  li ll ac ci ch : Nat) (iz : Bool) (er fl : Int32) (tx sg tl fo va cm vc sp : Nat) (ts : Nat → Int32) (x : Int32) (out : Nat) (ou : Nat → Int64) (hx9 : rg 32 x 126 = true) (htl : tl ≤ 60) (hlt9 : ¬ tl < 60) : Met l9 yL_append wsL_append ({ frames := 7, cells := 1, slots := 6, locals := 103 }) (LPc ks kv kf ka kw D k [.ref o, .int x, .ref out] (bRO k o now bf pa pn pk sv iz tr tx er fl li ll ac ci ch ++ bCT k tx sg tl fo va cm vc sp ++ bC60 k sg ts ++ bL1 k out ou) sz) (WI D k (bRO k o now bf pa pn pk sv iz tr tx er fl li ll ac ci ch ++ bCT k tx sg tl fo va cm vc sp ++ bC60 k sg ts ++ bL1 k out ou) 2 (va_A (bRO k o now bf pa pn pk sv iz tr tx er fl li ll ac ci ch ++ bCT k tx sg tl fo va cm vc sp ++ bC60 k sg ts ++ bL1 k out ou) sz)) 1 6 (va_A (bRO k o now bf pa pn pk sv iz tr tx er fl li ll ac ci ch ++ bCT k tx sg tl fo va cm vc sp ++ bC60 k sg ts ++ bL1 k out ou) sz) := by
  refine lMet (y := yL_append) (cc := cL_append) (maxL := 4) (ret := (some .int)) (hh := [(0, 9, 12, 13), (0, 9, 15, 15)]) (Qc := fun A => WI D k (bRO k o now bf pa pn pk sv iz tr tx er fl li ll ac ci ch ++ bCT k tx sg tl fo va cm vc sp ++ bC60 k sg ts ++ bL1 k out ou) 2 A) [.ref o, .int x, .ref out] (by decide) rfl (Nat.le_of_ble_eq_true rfl) ?_
  intro p9 e9 s9 m9 bl9 me9 c9 ls A H hF hr hlocks htab hP hK hN hXN hNC hZ hKC hD hA hS hl
  have hl : lv_has ls 4 [(0, .ref o), (1, .int x), (2, .ref out)] := hl
  obtain ⟨hx, hb, hml, hown, hts⟩ := id hF
  refine lv_aload_n hx hb dL_append_0 rfl (lv_at hl 2 rfl) ?_
  refine lv_iconst (v := 0) hx hb dL_append_1 (by decide) ?_
  refine lv_aload_n hx hb dL_append_2 rfl (lv_at hl 0 rfl) ?_
  refine lv_iload_n hx hb dL_append_3 rfl (lv_at hl 1 rfl) ?_
  have hq9 := mp_of (ws := bRO k o now bf pa pn pk sv iz tr tx er fl li ll ac ci ch ++ bCT k tx sg tl fo va cm vc sp ++ bC60 k sg ts ++ bL1 k out ou) (wc := bRO k o now bf pa pn pk sv iz tr tx er fl li ll ac ci ch ++ bCT k tx sg tl fo va cm vc sp ++ bC60 k sg ts) (is := [0, 1, 2]) rfl
  have hFc := va_free (wc := bRO k o now bf pa pn pk sv iz tr tx er fl li ll ac ci ch ++ bCT k tx sg tl fo va cm vc sp ++ bC60 k sg ts) hD hS hA [0, 1, 2] hq9
  refine vx_calli (vx_runV (As := [.int x]) (rest := [.int 0, .ref out]) hF (x_X12_append_b l9 hl9 D k H.size now o bf pa pn pk sv tr li ll ac ci ch iz er fl tx sg tl fo va cm vc sp ts x hx9 htl hlt9) (cwV 1 hts gL_append_X12_append rfl rfl rfl (by decide +kernel) ⟨Nat.le_of_ble_eq_true rfl, Nat.le_of_ble_eq_true rfl⟩) (xPreV hK hN hXN hZ hS hFc hP hD [0, 1, 2] (fm_of hq9) (by decide) hq9 0 10 rfl rfl) rfl rfl hl.1 rfl (lv_room (Nat.le_of_ble_eq_true rfl)) dL_append_4 ⟨Nat.le_of_ble_eq_true rfl, Nat.le_of_ble_eq_true rfl⟩) hS (fun q _ h => hFc q h) hFc (fun q _ h => hFc q h) (fun E9 ce9 q9 u9 t9 H1 locs ht hvm _ hbx hz1 hk1 hS hce hcv hcl => ?_) (fun r u9 t9 H1 locs _ _ hp _ _ _ _ => hp.elim)
  obtain ⟨rfl, hbx⟩ := hbx
  obtain ⟨hP, hD⟩ := wjoin9 (u := ()) (wr := bL1 k out ou) (wf := bRO k o now bf pa pn pk sv iz tr tx er fl li ll ac ci ch ++ bCT k tx sg tl fo va cm vc sp ++ bC60 k sg ts ++ bL1 k out ou) hP hD [0, 1, 2] [3] [1, 2, 3, 0] hq9 rfl (by decide) (by decide) hk1 hFc hbx ht rfl (by decide)
  refine vx_catch (own := RL) (name := "java/lang/IllegalStateException") (E := "java/lang/IllegalStateException") hown [⟨0, 9, 12, 13⟩] ⟨0, 9, 15, 15⟩ [] (htab.trans rfl) (fun z hz => by simp only [List.mem_cons, List.not_mem_nil, or_false] at hz; rcases hz with hz <;> subst hz <;> first | exact Or.inr ⟨by decide, "java/lang/IllegalArgumentException", hts (.classLink RL 13 "java/lang/IllegalArgumentException") (by decide +kernel), hNC ("java/lang/IllegalStateException", "java/lang/IllegalArgumentException") (by decide)⟩) rfl (by decide) (hts (.classLink RL 15 "java/lang/IllegalStateException") (by decide +kernel)) (va_Nw.use (xnL_tables (.castable "java/lang/IllegalStateException" "java/lang/IllegalStateException") (by decide)) (hXN.1 (.castable "java/lang/IllegalStateException" "java/lang/IllegalStateException") (by decide))) hce hcv hcl ?_
  clear hbx hk1 hz1 hvm hFc hce hcv hcl ht hq9
  clear t9
  generalize H1 = H at hP hS ⊢
  refine W.eq (g2 := F0 m9 15 ls [.ref q9]) rfl ?_
  refine lv_astore_n (lv' := [(3, .ref q9), (0, .ref o), (1, .int x), (2, .ref out)]) hx hb dL_append_15 rfl hl (by decide) rfl (fun ls hl => ?_)
  refine lv_iconst (v := 2) hx hb dL_append_16 (by decide) ?_
  refine W.widen (k := 1) (n := 6) (Nat.le_of_ble_eq_true rfl) (Nat.le_of_ble_eq_true rfl) ?_
  exact W.iret (v := 2) hx hb hr (fun t9 ht hW => ⟨⟨_, (), rfl, (by first | (rw [if_pos (by assumption)]; done) | (rw [if_neg (fun h9 => Bool.noConfusion (Eq.trans (Eq.symm h9) (by assumption)))]; done)), ⟨by rw [ht]; exact hP, va_K.moved hW.alike hK, hD⟩⟩, hS.F ht⟩) hS.2.2 dL_append_17 hlocks

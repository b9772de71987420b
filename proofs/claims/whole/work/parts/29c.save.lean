/-! Limit, save, restore, undo. -/
set_option maxHeartbeats 4000000 in
set_option maxRecDepth 100000 in
theorem m_X12_setLimit (l9 : Launch) (D : va_G) (k : Nat → ClassId) (sz : Nat) (o bf pa pn pk sv tr tx li ll ac ci ch : Nat) (iz : Bool) (er fl : Int32) (g : Nat → Nat) (qs qc qr ql : Nat → Nat) (lim sh sc : Int32) (fr : Nat → UInt32) (n : Nat) (w ly t a : Nat → Int32) (fx : Nat → UInt32) (kd rk : Nat → Int32) (lsh lk : Nat → Int32) (lc lx : Nat) (qs2 qc2 qr2 ql2 : Nat → Nat) (lim2 sh2 sc2 : Int32) (fr2 : Nat → UInt32) (n2 : Nat) (w2 ly2 t2 a2 : Nat → Int32) (fx2 : Nat → UInt32) (kd2 rk2 : Nat → Int32) (lsh2 lk2 : Nat → Int32) (lc2 lx2 : Nat) (x : Int32) (hkd : chOk kd 4) (hrk : chOk rk 12) (hlk : chOk lk 16) (hpn : pn < 8) (hpk : pk ≤ 8) (hok : ¬ (if 1 ≤ x ∧ x ≤ 9999 then lim else -2) < 0) : Met l9 yX12_setLimit wsX12_setLimit ({ frames := 3, cells := 0, slots := 0, locals := 102 }) (WPc D k [.ref o, .int x] (bRO k o (qs 0) (qs2 0) pa pn pk sv iz tr tx er fl li ll ac ci ch ++ bPA k pa g ++ bSt k qs qc qr ql lim sh sc fr ++ bClaims k qc n w ly t a fx ++ bRacks k qr kd rk ++ bLog k ql lsh lk lc lx ++ bSt k qs2 qc2 qr2 ql2 lim2 sh2 sc2 fr2 ++ bClaims k qc2 n2 w2 ly2 t2 a2 fx2 ++ bRacks k qr2 kd2 rk2 ++ bLog k ql2 lsh2 lk2 lc2 lx2) sz) (WI D k (bRO k o (qs 0) (g pn) pa ((pn + 1) % 8) (min (pk + 1) 8) sv iz tr tx er fl li ll ac ci ch ++ bPA k pa (upP g pn (qs2 0)) ++ bSt k qs qc qr ql (if 1 ≤ x ∧ x ≤ 9999 then x else lim) sh sc fr ++ bClaims k qc n w ly t a fx ++ bRacks k qr kd rk ++ bLog k ql lsh lk lc lx ++ bSt k qs2 qc2 qr2 ql2 lim sh sc fr2 ++ bClaims k qc2 n w ly t a fx ++ bRacks k qr2 kd rk ++ bLog k ql2 lsh lk lc lx) (if 1 ≤ x ∧ x ≤ 9999 then lim else -2) (va_A (bRO k o (qs 0) (qs2 0) pa pn pk sv iz tr tx er fl li ll ac ci ch ++ bPA k pa g ++ bSt k qs qc qr ql lim sh sc fr ++ bClaims k qc n w ly t a fx ++ bRacks k qr kd rk ++ bLog k ql lsh lk lc lx ++ bSt k qs2 qc2 qr2 ql2 lim2 sh2 sc2 fr2 ++ bClaims k qc2 n2 w2 ly2 t2 a2 fx2 ++ bRacks k qr2 kd2 rk2 ++ bLog k ql2 lsh2 lk2 lc2 lx2) sz)) 0 0 (va_A (bRO k o (qs 0) (qs2 0) pa pn pk sv iz tr tx er fl li ll ac ci ch ++ bPA k pa g ++ bSt k qs qc qr ql lim sh sc fr ++ bClaims k qc n w ly t a fx ++ bRacks k qr kd rk ++ bLog k ql lsh lk lc lx ++ bSt k qs2 qc2 qr2 ql2 lim2 sh2 sc2 fr2 ++ bClaims k qc2 n2 w2 ly2 t2 a2 fx2 ++ bRacks k qr2 kd2 rk2 ++ bLog k ql2 lsh2 lk2 lc2 lx2) sz) := by
  refine wMet (y := yX12_setLimit) (cc := cX12_setLimit) (maxL := 2) (ret := (some .int)) (Qc := fun A => WI D k (bRO k o (qs 0) (g pn) pa ((pn + 1) % 8) (min (pk + 1) 8) sv iz tr tx er fl li ll ac ci ch ++ bPA k pa (upP g pn (qs2 0)) ++ bSt k qs qc qr ql (if 1 ≤ x ∧ x ≤ 9999 then x else lim) sh sc fr ++ bClaims k qc n w ly t a fx ++ bRacks k qr kd rk ++ bLog k ql lsh lk lc lx ++ bSt k qs2 qc2 qr2 ql2 lim sh sc fr2 ++ bClaims k qc2 n w ly t a fx ++ bRacks k qr2 kd rk ++ bLog k ql2 lsh lk lc lx) (if 1 ≤ x ∧ x ≤ 9999 then lim else -2) A) [.ref o, .int x] (by decide) rfl (Nat.le_of_ble_eq_true rfl) ?_
  intro p9 e9 s9 m9 bl9 me9 c9 ls A H hF hr hlocks hP hK hN hD hA hS hl hin
  have hl : lv_has ls 2 [(0, .ref o), (1, .int x)] := hl
  obtain ⟨hx, hb, hml, hown, hts⟩ := id hF
  have k_fieldLink_16 : (Cond.fieldLink RX12 16 "OpinionReactor" "before" "LOpinionReactor$State;").before _ s9 = true := hts (.fieldLink RX12 16 "OpinionReactor" "before" "LOpinionReactor$State;") (by decide +kernel)
  have kc_RX12 : ∀ w ∈ u_ws RX12 TX12 16, w ∈ wsX12_setLimit := by decide +kernel
  have k_fieldLink_10 : (Cond.fieldLink RX12 10 "OpinionReactor" "now" "LOpinionReactor$State;").before _ s9 = true := hts (.fieldLink RX12 10 "OpinionReactor" "now" "LOpinionReactor$State;") (by decide +kernel)
  refine lv_aload_n hx hb dX12_setLimit_0 rfl (lv_at hl 0 rfl) ?_
  refine va_get (D := D) (ci := 10) (v := .ref (qs2 0)) (C := RX12) (T := TX12) (N := 16) hx hb hts kc_RX12 hown hK hP 0 rfl rfl 1 (by decide) k_fieldLink_16 (fun _ h9 => h9) rfl dX12_setLimit_1 ?_
  refine lv_aload_n hx hb dX12_setLimit_4 rfl (lv_at hl 0 rfl) ?_
  refine va_get (D := D) (ci := 10) (v := .ref (qs 0)) (C := RX12) (T := TX12) (N := 16) hx hb hts kc_RX12 hown hK hP 0 rfl rfl 0 (by decide) k_fieldLink_10 (fun _ h9 => h9) rfl dX12_setLimit_5 ?_
  have hFc := va_free (wc := bSt k qs2 qc2 qr2 ql2 lim2 sh2 sc2 fr2 ++ bClaims k qc2 n2 w2 ly2 t2 a2 fx2 ++ bRacks k qr2 kd2 rk2 ++ bLog k ql2 lsh2 lk2 lc2 lx2 ++ bSt k qs qc qr ql lim sh sc fr ++ bClaims k qc n w ly t a fx ++ bRacks k qr kd rk ++ bLog k ql lsh lk lc lx) hD hS hA [16, 17, 18, 19, 20, 21, 22, 23, 24, 25, 26, 27, 28, 29, 2, 3, 4, 5, 6, 7, 8, 9, 10, 11, 12, 13, 14, 15] rfl
  refine va_callv (va_runV (As := [.ref (qs 0)]) (rest := []) hF (m_X11_copyFrom l9 D k H.size qs2 qc2 qr2 ql2 lim2 sh2 sc2 fr2 n2 w2 ly2 t2 a2 fx2 kd2 rk2 lsh2 lk2 lc2 lx2 qs qc qr ql lim sh sc fr n w ly t a fx kd rk lsh lk lc lx hkd hrk hlk) (cwV 1 hts gX12_setLimit_X11_copyFrom rfl rfl rfl (by decide +kernel) ⟨Nat.le_of_ble_eq_true rfl, Nat.le_of_ble_eq_true rfl⟩) (wPreV hK hN hP hD [16, 17, 18, 19, 20, 21, 22, 23, 24, 25, 26, 27, 28, 29, 2, 3, 4, 5, 6, 7, 8, 9, 10, 11, 12, 13, 14, 15] rfl (by decide) rfl 16 9 rfl rfl) rfl rfl hl.1 rfl (lv_room (Nat.le_of_ble_eq_true rfl)) dX12_setLimit_8 ⟨Nat.zero_le _, Nat.zero_le _⟩) hS (fun q _ h => hFc q h) hFc (fun u9 t9 H1 locs ht hvm hw hB hz1 hk1 hS => ?_)
  obtain ⟨hP, hD⟩ := wjoin (wr := bRO k o (qs 0) (qs2 0) pa pn pk sv iz tr tx er fl li ll ac ci ch ++ bPA k pa g) (wf := bRO k o (qs 0) (qs2 0) pa pn pk sv iz tr tx er fl li ll ac ci ch ++ bPA k pa g ++ bSt k qs qc qr ql lim sh sc fr ++ bClaims k qc n w ly t a fx ++ bRacks k qr kd rk ++ bLog k ql lsh lk lc lx ++ bSt k qs2 qc2 qr2 ql2 lim sh sc fr2 ++ bClaims k qc2 n w ly t a fx ++ bRacks k qr2 kd rk ++ bLog k ql2 lsh lk lc lx) hP hD [16, 17, 18, 19, 20, 21, 22, 23, 24, 25, 26, 27, 28, 29, 2, 3, 4, 5, 6, 7, 8, 9, 10, 11, 12, 13, 14, 15] [0, 1] [0, 1, 16, 17, 18, 19, 20, 21, 22, 23, 24, 25, 26, 27, 28, 29, 2, 3, 4, 5, 6, 7, 8, 9, 10, 11, 12, 13, 14, 15] rfl rfl (by decide) (by decide) hk1 hFc hB ht rfl rfl (by decide)
  clear hB hk1 hz1 hvm hFc
  clear ht
  clear t9
  generalize H1 = H at hP hS ⊢
  refine lv_aload_n hx hb dX12_setLimit_11 rfl (lv_at hl 0 rfl) ?_
  refine lv_aload_n hx hb dX12_setLimit_12 rfl (lv_at hl 0 rfl) ?_
  refine va_get (D := D) (ci := 10) (v := .ref (qs 0)) (C := RX12) (T := TX12) (N := 16) hx hb hts kc_RX12 hown hK hP 0 rfl rfl 0 (by decide) k_fieldLink_10 (fun _ h9 => h9) rfl dX12_setLimit_13 ?_
  refine lv_iload_n hx hb dX12_setLimit_16 rfl (lv_at hl 1 rfl) ?_
  have hFc := va_free (wc := bSt k qs qc qr ql lim sh sc fr) hD hS hA [2, 3] rfl
  refine va_calli (va_runV (As := [.int x]) (rest := [.ref o]) hF (m_X11_bound l9 D k H.size qs qc qr ql lim sh sc fr x ) (cwV 1 hts gX12_setLimit_X11_bound rfl rfl rfl (by decide +kernel) ⟨Nat.le_of_ble_eq_true rfl, Nat.le_of_ble_eq_true rfl⟩) (wPreV hK hN hP hD [2, 3] rfl (by decide) rfl 2 9 rfl rfl) rfl rfl hl.1 rfl (lv_room (Nat.le_of_ble_eq_true rfl)) dX12_setLimit_17 ⟨Nat.zero_le _, Nat.zero_le _⟩) hS (fun q _ h => hFc q h) hFc (fun r u9 t9 H1 locs ht hvm hw hB hz1 hk1 hS => ?_)
  obtain ⟨hP, hD⟩ := wjoin (wr := bRO k o (qs 0) (qs2 0) pa pn pk sv iz tr tx er fl li ll ac ci ch ++ bPA k pa g ++ bClaims k qc n w ly t a fx ++ bRacks k qr kd rk ++ bLog k ql lsh lk lc lx ++ bSt k qs2 qc2 qr2 ql2 lim sh sc fr2 ++ bClaims k qc2 n w ly t a fx ++ bRacks k qr2 kd rk ++ bLog k ql2 lsh lk lc lx) (wf := bRO k o (qs 0) (qs2 0) pa pn pk sv iz tr tx er fl li ll ac ci ch ++ bPA k pa g ++ bSt k qs qc qr ql (if 1 ≤ x ∧ x ≤ 9999 then x else lim) sh sc fr ++ bClaims k qc n w ly t a fx ++ bRacks k qr kd rk ++ bLog k ql lsh lk lc lx ++ bSt k qs2 qc2 qr2 ql2 lim sh sc fr2 ++ bClaims k qc2 n w ly t a fx ++ bRacks k qr2 kd rk ++ bLog k ql2 lsh lk lc lx) hP hD [2, 3] [0, 1, 4, 5, 6, 7, 8, 9, 10, 11, 12, 13, 14, 15, 16, 17, 18, 19, 20, 21, 22, 23, 24, 25, 26, 27, 28, 29] [0, 1, 28, 29, 2, 3, 4, 5, 6, 7, 8, 9, 10, 11, 12, 13, 14, 15, 16, 17, 18, 19, 20, 21, 22, 23, 24, 25, 26, 27] rfl rfl (by decide) (by decide) hk1 hFc hB ht rfl rfl (by decide)
  subst hw
  clear hB hk1 hz1 hvm hFc
  clear ht
  clear t9
  generalize H1 = H at hP hS ⊢
  have hFc := va_free (wc := bRO k o (qs 0) (qs2 0) pa pn pk sv iz tr tx er fl li ll ac ci ch ++ bPA k pa g ++ bSt k qs2 qc2 qr2 ql2 lim sh sc fr2) hD hS hA [0, 1, 16, 17] rfl
  refine va_calli (va_runV (As := [.int (if 1 ≤ x ∧ x ≤ 9999 then lim else -2)]) (rest := []) hF (m_X12_settled l9 D k H.size (qs 0) o bf pa pn pk sv tr tx li ll ac ci ch iz er fl g qs2 qc2 qr2 ql2 lim sh sc fr2 (if 1 ≤ x ∧ x ≤ 9999 then lim else -2) hpn hpk hok) (cwV 1 hts gX12_setLimit_X12_settled rfl rfl rfl (by decide +kernel) ⟨Nat.le_of_ble_eq_true rfl, Nat.le_of_ble_eq_true rfl⟩) (wPreV hK hN hP hD [0, 1, 16, 17] rfl (by decide) rfl 0 10 rfl rfl) rfl rfl hl.1 rfl (lv_room (Nat.le_of_ble_eq_true rfl)) dX12_setLimit_20 ⟨Nat.zero_le _, Nat.zero_le _⟩) hS (fun q _ h => hFc q h) hFc (fun r u9 t9 H1 locs ht hvm hw hB hz1 hk1 hS => ?_)
  obtain ⟨hP, hD⟩ := wjoin (wr := bSt k qs qc qr ql (if 1 ≤ x ∧ x ≤ 9999 then x else lim) sh sc fr ++ bClaims k qc n w ly t a fx ++ bRacks k qr kd rk ++ bLog k ql lsh lk lc lx ++ bClaims k qc2 n w ly t a fx ++ bRacks k qr2 kd rk ++ bLog k ql2 lsh lk lc lx) (wf := bRO k o (qs 0) (g pn) pa ((pn + 1) % 8) (min (pk + 1) 8) sv iz tr tx er fl li ll ac ci ch ++ bPA k pa (upP g pn (qs2 0)) ++ bSt k qs qc qr ql (if 1 ≤ x ∧ x ≤ 9999 then x else lim) sh sc fr ++ bClaims k qc n w ly t a fx ++ bRacks k qr kd rk ++ bLog k ql lsh lk lc lx ++ bSt k qs2 qc2 qr2 ql2 lim sh sc fr2 ++ bClaims k qc2 n w ly t a fx ++ bRacks k qr2 kd rk ++ bLog k ql2 lsh lk lc lx) hP hD [0, 1, 16, 17] [2, 3, 4, 5, 6, 7, 8, 9, 10, 11, 12, 13, 14, 15, 18, 19, 20, 21, 22, 23, 24, 25, 26, 27, 28, 29] [26, 27, 0, 1, 2, 3, 4, 5, 6, 7, 8, 9, 10, 11, 12, 13, 28, 29, 14, 15, 16, 17, 18, 19, 20, 21, 22, 23, 24, 25] rfl rfl (by decide) (by decide) hk1 hFc hB ht rfl rfl (by decide)
  subst hw
  clear hB hk1 hz1 hvm hFc
  clear ht
  clear t9
  generalize H1 = H at hP hS ⊢
  exact W.iret (v := (if 1 ≤ x ∧ x ≤ 9999 then lim else -2)) hx hb hr (fun t9 ht hW => ⟨⟨_, (), rfl, (by rfl), ⟨by rw [ht]; exact hP, va_K.moved hW.alike hK, hD⟩⟩, hS.F ht⟩) hS.2.2 dX12_setLimit_23 hlocks

set_option maxHeartbeats 4000000 in
set_option maxRecDepth 100000 in
theorem x_X12_setLimit_2 (l9 : Launch) (hl9 : l9.stackTraces = false) (D : va_G) (k : Nat → ClassId) (sz : Nat) (o bf pa pn pk sv tr tx li ll ac ci ch : Nat) (iz : Bool) (er fl : Int32) (g : Nat → Nat) (qs qc qr ql : Nat → Nat) (lim sh sc : Int32) (fr : Nat → UInt32) (n : Nat) (w ly t a : Nat → Int32) (fx : Nat → UInt32) (kd rk : Nat → Int32) (lsh lk : Nat → Int32) (lc lx : Nat) (qs2 qc2 qr2 ql2 : Nat → Nat) (lim2 sh2 sc2 : Int32) (fr2 : Nat → UInt32) (n2 : Nat) (w2 ly2 t2 a2 : Nat → Int32) (fx2 : Nat → UInt32) (kd2 rk2 : Nat → Int32) (lsh2 lk2 : Nat → Int32) (lc2 lx2 : Nat) (x : Int32) (hkd : chOk kd 4) (hrk : chOk rk 12) (hlk : chOk lk 16) (he : ¬ (1 ≤ x ∧ x ≤ 9999)) : vx_Met l9 yX12_setLimit wsX12_setLimit ({ frames := 8, cells := 1, slots := 6, locals := 124 }) (XPc D k [.ref o, .int x] (bRO k o (qs 0) (qs2 0) pa pn pk sv iz tr tx er fl li ll ac ci ch ++ bPA k pa g ++ bSt k qs qc qr ql lim sh sc fr ++ bClaims k qc n w ly t a fx ++ bRacks k qr kd rk ++ bLog k ql lsh lk lc lx ++ bSt k qs2 qc2 qr2 ql2 lim2 sh2 sc2 fr2 ++ bClaims k qc2 n2 w2 ly2 t2 a2 fx2 ++ bRacks k qr2 kd2 rk2 ++ bLog k ql2 lsh2 lk2 lc2 lx2) sz) (XI (va_A (bRO k o (qs 0) (qs2 0) pa pn pk sv iz tr tx er fl li ll ac ci ch ++ bPA k pa g ++ bSt k qs qc qr ql lim sh sc fr ++ bClaims k qc n w ly t a fx ++ bRacks k qr kd rk ++ bLog k ql lsh lk lc lx ++ bSt k qs2 qc2 qr2 ql2 lim2 sh2 sc2 fr2 ++ bClaims k qc2 n2 w2 ly2 t2 a2 fx2 ++ bRacks k qr2 kd2 rk2 ++ bLog k ql2 lsh2 lk2 lc2 lx2) sz)) (XC D k "java/lang/IllegalArgumentException" (bRO k o (qs 0) (qs2 0) pa pn pk sv iz tr tx er fl li ll ac ci ch ++ bPA k pa g ++ bSt k qs qc qr ql lim sh sc fr ++ bClaims k qc n w ly t a fx ++ bRacks k qr kd rk ++ bLog k ql lsh lk lc lx ++ bSt k qs2 qc2 qr2 ql2 lim sh sc fr2 ++ bClaims k qc2 n w ly t a fx ++ bRacks k qr2 kd rk ++ bLog k ql2 lsh lk lc lx) (va_A (bRO k o (qs 0) (qs2 0) pa pn pk sv iz tr tx er fl li ll ac ci ch ++ bPA k pa g ++ bSt k qs qc qr ql lim sh sc fr ++ bClaims k qc n w ly t a fx ++ bRacks k qr kd rk ++ bLog k ql lsh lk lc lx ++ bSt k qs2 qc2 qr2 ql2 lim2 sh2 sc2 fr2 ++ bClaims k qc2 n2 w2 ly2 t2 a2 fx2 ++ bRacks k qr2 kd2 rk2 ++ bLog k ql2 lsh2 lk2 lc2 lx2) sz)) 1 6 (va_A (bRO k o (qs 0) (qs2 0) pa pn pk sv iz tr tx er fl li ll ac ci ch ++ bPA k pa g ++ bSt k qs qc qr ql lim sh sc fr ++ bClaims k qc n w ly t a fx ++ bRacks k qr kd rk ++ bLog k ql lsh lk lc lx ++ bSt k qs2 qc2 qr2 ql2 lim2 sh2 sc2 fr2 ++ bClaims k qc2 n2 w2 ly2 t2 a2 fx2 ++ bRacks k qr2 kd2 rk2 ++ bLog k ql2 lsh2 lk2 lc2 lx2) sz) := by
  refine xMet (y := yX12_setLimit) (cc := cX12_setLimit) (maxL := 2) (ret := (some .int)) (Qc := XI) (X9 := XC D k "java/lang/IllegalArgumentException" (bRO k o (qs 0) (qs2 0) pa pn pk sv iz tr tx er fl li ll ac ci ch ++ bPA k pa g ++ bSt k qs qc qr ql lim sh sc fr ++ bClaims k qc n w ly t a fx ++ bRacks k qr kd rk ++ bLog k ql lsh lk lc lx ++ bSt k qs2 qc2 qr2 ql2 lim sh sc fr2 ++ bClaims k qc2 n w ly t a fx ++ bRacks k qr2 kd rk ++ bLog k ql2 lsh lk lc lx)) [.ref o, .int x] (by decide) rfl (Nat.le_of_ble_eq_true rfl) ?_
  intro p9 e9 s9 m9 bl9 me9 c9 ls A H hF hr hlocks ht9 hP hK hN hXN hZ hD hA hS hl
  have hl : lv_has ls 2 [(0, .ref o), (1, .int x)] := hl
  obtain ⟨hx, hb, hml, hown, hts⟩ := id hF
  have k_fieldLink_16 : (Cond.fieldLink RX12 16 "OpinionReactor" "before" "LOpinionReactor$State;").before _ s9 = true := hts (.fieldLink RX12 16 "OpinionReactor" "before" "LOpinionReactor$State;") (by decide +kernel)
  have kc_RX12 : ∀ w ∈ u_ws RX12 TX12 16, w ∈ wsX12_setLimit := by decide +kernel
  have k_fieldLink_10 : (Cond.fieldLink RX12 10 "OpinionReactor" "now" "LOpinionReactor$State;").before _ s9 = true := hts (.fieldLink RX12 10 "OpinionReactor" "now" "LOpinionReactor$State;") (by decide +kernel)
  refine lv_aload_n hx hb dX12_setLimit_0 rfl (lv_at hl 0 rfl) ?_
  refine va_get (D := D) (ci := 10) (v := .ref (qs2 0)) (C := RX12) (T := TX12) (N := 16) hx hb hts kc_RX12 hown hK hP 0 rfl rfl 1 (by decide) k_fieldLink_16 (fun _ h9 => h9) rfl dX12_setLimit_1 ?_
  refine lv_aload_n hx hb dX12_setLimit_4 rfl (lv_at hl 0 rfl) ?_
  refine va_get (D := D) (ci := 10) (v := .ref (qs 0)) (C := RX12) (T := TX12) (N := 16) hx hb hts kc_RX12 hown hK hP 0 rfl rfl 0 (by decide) k_fieldLink_10 (fun _ h9 => h9) rfl dX12_setLimit_5 ?_
  have hFc := va_free (wc := bSt k qs2 qc2 qr2 ql2 lim2 sh2 sc2 fr2 ++ bClaims k qc2 n2 w2 ly2 t2 a2 fx2 ++ bRacks k qr2 kd2 rk2 ++ bLog k ql2 lsh2 lk2 lc2 lx2 ++ bSt k qs qc qr ql lim sh sc fr ++ bClaims k qc n w ly t a fx ++ bRacks k qr kd rk ++ bLog k ql lsh lk lc lx) hD hS hA [16, 17, 18, 19, 20, 21, 22, 23, 24, 25, 26, 27, 28, 29, 2, 3, 4, 5, 6, 7, 8, 9, 10, 11, 12, 13, 14, 15] rfl
  refine va_callv (va_runV (As := [.ref (qs 0)]) (rest := []) hF (m_X11_copyFrom l9 D k H.size qs2 qc2 qr2 ql2 lim2 sh2 sc2 fr2 n2 w2 ly2 t2 a2 fx2 kd2 rk2 lsh2 lk2 lc2 lx2 qs qc qr ql lim sh sc fr n w ly t a fx kd rk lsh lk lc lx hkd hrk hlk) (cwV 1 hts gX12_setLimit_X11_copyFrom rfl rfl rfl (by decide +kernel) ⟨Nat.le_of_ble_eq_true rfl, Nat.le_of_ble_eq_true rfl⟩) (wPreV hK hN hP hD [16, 17, 18, 19, 20, 21, 22, 23, 24, 25, 26, 27, 28, 29, 2, 3, 4, 5, 6, 7, 8, 9, 10, 11, 12, 13, 14, 15] rfl (by decide) rfl 16 9 rfl rfl) rfl rfl hl.1 rfl (lv_room (Nat.le_of_ble_eq_true rfl)) dX12_setLimit_8 ⟨Nat.zero_le _, Nat.zero_le _⟩) hS (fun q _ h => hFc q h) hFc (fun u9 t9 H1 locs ht hvm hw hB hz1 hk1 hS => ?_)
  obtain ⟨hP, hD⟩ := wjoin (wr := bRO k o (qs 0) (qs2 0) pa pn pk sv iz tr tx er fl li ll ac ci ch ++ bPA k pa g) (wf := bRO k o (qs 0) (qs2 0) pa pn pk sv iz tr tx er fl li ll ac ci ch ++ bPA k pa g ++ bSt k qs qc qr ql lim sh sc fr ++ bClaims k qc n w ly t a fx ++ bRacks k qr kd rk ++ bLog k ql lsh lk lc lx ++ bSt k qs2 qc2 qr2 ql2 lim sh sc fr2 ++ bClaims k qc2 n w ly t a fx ++ bRacks k qr2 kd rk ++ bLog k ql2 lsh lk lc lx) hP hD [16, 17, 18, 19, 20, 21, 22, 23, 24, 25, 26, 27, 28, 29, 2, 3, 4, 5, 6, 7, 8, 9, 10, 11, 12, 13, 14, 15] [0, 1] [0, 1, 16, 17, 18, 19, 20, 21, 22, 23, 24, 25, 26, 27, 28, 29, 2, 3, 4, 5, 6, 7, 8, 9, 10, 11, 12, 13, 14, 15] rfl rfl (by decide) (by decide) hk1 hFc hB ht rfl rfl (by decide)
  clear hB hk1 hz1 hvm hFc
  clear ht
  clear t9
  generalize H1 = H at hP hS ⊢
  refine lv_aload_n hx hb dX12_setLimit_11 rfl (lv_at hl 0 rfl) ?_
  refine lv_aload_n hx hb dX12_setLimit_12 rfl (lv_at hl 0 rfl) ?_
  refine va_get (D := D) (ci := 10) (v := .ref (qs 0)) (C := RX12) (T := TX12) (N := 16) hx hb hts kc_RX12 hown hK hP 0 rfl rfl 0 (by decide) k_fieldLink_10 (fun _ h9 => h9) rfl dX12_setLimit_13 ?_
  refine lv_iload_n hx hb dX12_setLimit_16 rfl (lv_at hl 1 rfl) ?_
  have hFc := va_free (wc := bSt k qs qc qr ql lim sh sc fr) hD hS hA [2, 3] rfl
  refine va_calli (va_runV (As := [.int x]) (rest := [.ref o]) hF (m_X11_bound l9 D k H.size qs qc qr ql lim sh sc fr x ) (cwV 1 hts gX12_setLimit_X11_bound rfl rfl rfl (by decide +kernel) ⟨Nat.le_of_ble_eq_true rfl, Nat.le_of_ble_eq_true rfl⟩) (wPreV hK hN hP hD [2, 3] rfl (by decide) rfl 2 9 rfl rfl) rfl rfl hl.1 rfl (lv_room (Nat.le_of_ble_eq_true rfl)) dX12_setLimit_17 ⟨Nat.zero_le _, Nat.zero_le _⟩) hS (fun q _ h => hFc q h) hFc (fun r u9 t9 H1 locs ht hvm hw hB hz1 hk1 hS => ?_)
  obtain ⟨hP, hD⟩ := wjoin (wr := bRO k o (qs 0) (qs2 0) pa pn pk sv iz tr tx er fl li ll ac ci ch ++ bPA k pa g ++ bClaims k qc n w ly t a fx ++ bRacks k qr kd rk ++ bLog k ql lsh lk lc lx ++ bSt k qs2 qc2 qr2 ql2 lim sh sc fr2 ++ bClaims k qc2 n w ly t a fx ++ bRacks k qr2 kd rk ++ bLog k ql2 lsh lk lc lx) (wf := bRO k o (qs 0) (qs2 0) pa pn pk sv iz tr tx er fl li ll ac ci ch ++ bPA k pa g ++ bSt k qs qc qr ql (if 1 ≤ x ∧ x ≤ 9999 then x else lim) sh sc fr ++ bClaims k qc n w ly t a fx ++ bRacks k qr kd rk ++ bLog k ql lsh lk lc lx ++ bSt k qs2 qc2 qr2 ql2 lim sh sc fr2 ++ bClaims k qc2 n w ly t a fx ++ bRacks k qr2 kd rk ++ bLog k ql2 lsh lk lc lx) hP hD [2, 3] [0, 1, 4, 5, 6, 7, 8, 9, 10, 11, 12, 13, 14, 15, 16, 17, 18, 19, 20, 21, 22, 23, 24, 25, 26, 27, 28, 29] [0, 1, 28, 29, 2, 3, 4, 5, 6, 7, 8, 9, 10, 11, 12, 13, 14, 15, 16, 17, 18, 19, 20, 21, 22, 23, 24, 25, 26, 27] rfl rfl (by decide) (by decide) hk1 hFc hB ht rfl rfl (by decide)
  subst hw
  clear hB hk1 hz1 hvm hFc
  clear ht
  clear t9
  generalize H1 = H at hP hS ⊢
  refine lv_tope (show Value.int (if 1 ≤ x ∧ x ≤ 9999 then lim else -2) = Value.int (-2) from congrArg Value.int (by rw [if_neg he])) ?_
  have hFc := va_free (wc := bRO k o (qs 0) (qs2 0) pa pn pk sv iz tr tx er fl li ll ac ci ch) hD hS hA [0] rfl
  refine vx_calli (vx_runV (As := [.int (-2)]) (rest := []) hF (x_X12_settled_2 l9 hl9 D k H.size (qs 0) o (qs2 0) pa pn pk sv tr tx li ll ac ci ch iz er fl ) (cwV 1 hts gX12_setLimit_X12_settled rfl rfl rfl (by decide +kernel) ⟨Nat.le_of_ble_eq_true rfl, Nat.le_of_ble_eq_true rfl⟩) (xPreV hK hN hXN hZ hS hFc hP hD [0] rfl (by decide) rfl 0 10 rfl rfl) rfl rfl hl.1 rfl (lv_room (Nat.le_of_ble_eq_true rfl)) dX12_setLimit_20 ⟨Nat.le_of_ble_eq_true rfl, Nat.le_of_ble_eq_true rfl⟩) hS (fun q _ h => hFc q h) hFc (fun q _ h => hFc q h) (fun E9 ce9 q9 u9 t9 H1 locs ht hvm _ hbx hz1 hk1 hS hce hcv hcl => ?_) (fun r u9 t9 H1 locs _ _ hp _ _ _ _ => hp.elim)
  obtain ⟨rfl, hbx⟩ := hbx
  obtain ⟨hP, hD⟩ := wjoin (u := ()) (wr := bPA k pa g ++ bSt k qs qc qr ql (if 1 ≤ x ∧ x ≤ 9999 then x else lim) sh sc fr ++ bClaims k qc n w ly t a fx ++ bRacks k qr kd rk ++ bLog k ql lsh lk lc lx ++ bSt k qs2 qc2 qr2 ql2 lim sh sc fr2 ++ bClaims k qc2 n w ly t a fx ++ bRacks k qr2 kd rk ++ bLog k ql2 lsh lk lc lx) (wf := bRO k o (qs 0) (qs2 0) pa pn pk sv iz tr tx er fl li ll ac ci ch ++ bPA k pa g ++ bSt k qs qc qr ql (if 1 ≤ x ∧ x ≤ 9999 then x else lim) sh sc fr ++ bClaims k qc n w ly t a fx ++ bRacks k qr kd rk ++ bLog k ql lsh lk lc lx ++ bSt k qs2 qc2 qr2 ql2 lim sh sc fr2 ++ bClaims k qc2 n w ly t a fx ++ bRacks k qr2 kd rk ++ bLog k ql2 lsh lk lc lx) hP hD [0] [1, 2, 3, 4, 5, 6, 7, 8, 9, 10, 11, 12, 13, 14, 15, 16, 17, 18, 19, 20, 21, 22, 23, 24, 25, 26, 27, 28, 29] [29, 0, 1, 2, 3, 4, 5, 6, 7, 8, 9, 10, 11, 12, 13, 14, 15, 16, 17, 18, 19, 20, 21, 22, 23, 24, 25, 26, 27, 28] rfl rfl (by decide) (by decide) hk1 hFc hbx ht rfl rfl (by decide)
  have e_1 : (if 1 ≤ x ∧ x ≤ 9999 then x else lim : Int32) = lim := by first | (with_reducible rfl) | (rw [if_neg he])
  have hP := Eq.mp (congrArg (fun z9 => va_P D vwCl (bRO k o (qs 0) (qs2 0) pa pn pk sv iz tr tx er fl li ll ac ci ch ++ bPA k pa g ++ bSt k qs qc qr ql z9 sh sc fr ++ bClaims k qc n w ly t a fx ++ bRacks k qr kd rk ++ bLog k ql lsh lk lc lx ++ bSt k qs2 qc2 qr2 ql2 lim sh sc fr2 ++ bClaims k qc2 n w ly t a fx ++ bRacks k qr2 kd rk ++ bLog k ql2 lsh lk lc lx) H1) e_1) hP
  have hD := Eq.mp (congrArg (fun z9 => va_D A (bRO k o (qs 0) (qs2 0) pa pn pk sv iz tr tx er fl li ll ac ci ch ++ bPA k pa g ++ bSt k qs qc qr ql z9 sh sc fr ++ bClaims k qc n w ly t a fx ++ bRacks k qr kd rk ++ bLog k ql lsh lk lc lx ++ bSt k qs2 qc2 qr2 ql2 lim sh sc fr2 ++ bClaims k qc2 n w ly t a fx ++ bRacks k qr2 kd rk ++ bLog k ql2 lsh lk lc lx)) e_1) hD
  exact vx_out (fun x h9 => (ht9 x h9).elim) hlocks hce hcv hcl (fun t ht2 hvm2 => xEnd hP hK hD hS hvm2 (by rw [ht2]; exact Nat.le_refl _) (fun q _ => by rw [ht2])) hS.2.2 (Nat.le_of_ble_eq_true rfl) (Nat.le_of_ble_eq_true rfl)

set_option maxHeartbeats 4000000 in
set_option maxRecDepth 100000 in
theorem m_X12_save (l9 : Launch) (D : va_G) (k : Nat → ClassId) (sz : Nat) (o bf pa pn pk sv tr tx li ll ac ci ch : Nat) (iz : Bool) (er fl : Int32) (qs qc qr ql : Nat → Nat) (lim sh sc : Int32) (fr : Nat → UInt32) (n : Nat) (w ly t a : Nat → Int32) (fx : Nat → UInt32) (kd rk : Nat → Int32) (lsh lk : Nat → Int32) (lc lx : Nat) (qs2 qc2 qr2 ql2 : Nat → Nat) (lim2 sh2 sc2 : Int32) (fr2 : Nat → UInt32) (n2 : Nat) (w2 ly2 t2 a2 : Nat → Int32) (fx2 : Nat → UInt32) (kd2 rk2 : Nat → Int32) (lsh2 lk2 : Nat → Int32) (lc2 lx2 : Nat) (hkd : chOk kd 4) (hrk : chOk rk 12) (hlk : chOk lk 16) : Met l9 yX12_save wsX12_save ({ frames := 3, cells := 0, slots := 0, locals := 102 }) (WPc D k [.ref o] (bRO k o (qs 0) bf pa pn pk (qs2 0) iz tr tx er fl li ll ac ci ch ++ bSt k qs qc qr ql lim sh sc fr ++ bClaims k qc n w ly t a fx ++ bRacks k qr kd rk ++ bLog k ql lsh lk lc lx ++ bSt k qs2 qc2 qr2 ql2 lim2 sh2 sc2 fr2 ++ bClaims k qc2 n2 w2 ly2 t2 a2 fx2 ++ bRacks k qr2 kd2 rk2 ++ bLog k ql2 lsh2 lk2 lc2 lx2) sz) (WI D k (bRO k o (qs 0) bf pa pn pk (qs2 0) true tr tx er fl li ll ac ci ch ++ bSt k qs qc qr ql lim sh sc fr ++ bClaims k qc n w ly t a fx ++ bRacks k qr kd rk ++ bLog k ql lsh lk lc lx ++ bSt k qs2 qc2 qr2 ql2 lim sh sc fr2 ++ bClaims k qc2 n w ly t a fx ++ bRacks k qr2 kd rk ++ bLog k ql2 lsh lk lc lx) (nI n) (va_A (bRO k o (qs 0) bf pa pn pk (qs2 0) iz tr tx er fl li ll ac ci ch ++ bSt k qs qc qr ql lim sh sc fr ++ bClaims k qc n w ly t a fx ++ bRacks k qr kd rk ++ bLog k ql lsh lk lc lx ++ bSt k qs2 qc2 qr2 ql2 lim2 sh2 sc2 fr2 ++ bClaims k qc2 n2 w2 ly2 t2 a2 fx2 ++ bRacks k qr2 kd2 rk2 ++ bLog k ql2 lsh2 lk2 lc2 lx2) sz)) 0 0 (va_A (bRO k o (qs 0) bf pa pn pk (qs2 0) iz tr tx er fl li ll ac ci ch ++ bSt k qs qc qr ql lim sh sc fr ++ bClaims k qc n w ly t a fx ++ bRacks k qr kd rk ++ bLog k ql lsh lk lc lx ++ bSt k qs2 qc2 qr2 ql2 lim2 sh2 sc2 fr2 ++ bClaims k qc2 n2 w2 ly2 t2 a2 fx2 ++ bRacks k qr2 kd2 rk2 ++ bLog k ql2 lsh2 lk2 lc2 lx2) sz) := by
  refine wMet (y := yX12_save) (cc := cX12_save) (maxL := 1) (ret := (some .int)) (Qc := fun A => WI D k (bRO k o (qs 0) bf pa pn pk (qs2 0) true tr tx er fl li ll ac ci ch ++ bSt k qs qc qr ql lim sh sc fr ++ bClaims k qc n w ly t a fx ++ bRacks k qr kd rk ++ bLog k ql lsh lk lc lx ++ bSt k qs2 qc2 qr2 ql2 lim sh sc fr2 ++ bClaims k qc2 n w ly t a fx ++ bRacks k qr2 kd rk ++ bLog k ql2 lsh lk lc lx) (nI n) A) [.ref o] (by decide) rfl (Nat.le_of_ble_eq_true rfl) ?_
  intro p9 e9 s9 m9 bl9 me9 c9 ls A H hF hr hlocks hP hK hN hD hA hS hl hin
  have hl : lv_has ls 1 [(0, .ref o)] := hl
  obtain ⟨hx, hb, hml, hown, hts⟩ := id hF
  have k_fieldLink_30 : (Cond.fieldLink RX12 30 "OpinionReactor" "saved" "LOpinionReactor$State;").before _ s9 = true := hts (.fieldLink RX12 30 "OpinionReactor" "saved" "LOpinionReactor$State;") (by decide +kernel)
  have kc_RX12 : ∀ w ∈ u_ws RX12 TX12 16, w ∈ wsX12_save := by decide +kernel
  have k_fieldLink_10 : (Cond.fieldLink RX12 10 "OpinionReactor" "now" "LOpinionReactor$State;").before _ s9 = true := hts (.fieldLink RX12 10 "OpinionReactor" "now" "LOpinionReactor$State;") (by decide +kernel)
  have k_fieldLink_33 : (Cond.fieldLink RX12 33 "OpinionReactor" "isSaved" "Z").before _ s9 = true := hts (.fieldLink RX12 33 "OpinionReactor" "isSaved" "Z") (by decide +kernel)
  have k_fieldLink_85 : (Cond.fieldLink RX12 85 "OpinionReactor$State" "claims" "LOpinionReactor$Claims;").before _ s9 = true := hts (.fieldLink RX12 85 "OpinionReactor$State" "claims" "LOpinionReactor$Claims;") (by decide +kernel)
  have kc_RX11 : ∀ w ∈ u_ws RX11 TX11 7, w ∈ wsX12_save := by decide +kernel
  have k_fieldLink_106 : (Cond.fieldLink RX12 106 "OpinionReactor$Claims" "count" "I").before _ s9 = true := hts (.fieldLink RX12 106 "OpinionReactor$Claims" "count" "I") (by decide +kernel)
  have kc_RX5 : ∀ w ∈ u_ws RX5 TX5 6, w ∈ wsX12_save := by decide +kernel
  refine lv_aload_n hx hb dX12_save_0 rfl (lv_at hl 0 rfl) ?_
  refine va_get (D := D) (ci := 10) (v := .ref (qs2 0)) (C := RX12) (T := TX12) (N := 16) hx hb hts kc_RX12 hown hK hP 0 rfl rfl 5 (by decide) k_fieldLink_30 (fun _ h9 => h9) rfl dX12_save_1 ?_
  refine lv_aload_n hx hb dX12_save_4 rfl (lv_at hl 0 rfl) ?_
  refine va_get (D := D) (ci := 10) (v := .ref (qs 0)) (C := RX12) (T := TX12) (N := 16) hx hb hts kc_RX12 hown hK hP 0 rfl rfl 0 (by decide) k_fieldLink_10 (fun _ h9 => h9) rfl dX12_save_5 ?_
  have hFc := va_free (wc := bSt k qs2 qc2 qr2 ql2 lim2 sh2 sc2 fr2 ++ bClaims k qc2 n2 w2 ly2 t2 a2 fx2 ++ bRacks k qr2 kd2 rk2 ++ bLog k ql2 lsh2 lk2 lc2 lx2 ++ bSt k qs qc qr ql lim sh sc fr ++ bClaims k qc n w ly t a fx ++ bRacks k qr kd rk ++ bLog k ql lsh lk lc lx) hD hS hA [15, 16, 17, 18, 19, 20, 21, 22, 23, 24, 25, 26, 27, 28, 1, 2, 3, 4, 5, 6, 7, 8, 9, 10, 11, 12, 13, 14] rfl
  refine va_callv (va_runV (As := [.ref (qs 0)]) (rest := []) hF (m_X11_copyFrom l9 D k H.size qs2 qc2 qr2 ql2 lim2 sh2 sc2 fr2 n2 w2 ly2 t2 a2 fx2 kd2 rk2 lsh2 lk2 lc2 lx2 qs qc qr ql lim sh sc fr n w ly t a fx kd rk lsh lk lc lx hkd hrk hlk) (cwV 1 hts gX12_save_X11_copyFrom rfl rfl rfl (by decide +kernel) ⟨Nat.le_of_ble_eq_true rfl, Nat.le_of_ble_eq_true rfl⟩) (wPreV hK hN hP hD [15, 16, 17, 18, 19, 20, 21, 22, 23, 24, 25, 26, 27, 28, 1, 2, 3, 4, 5, 6, 7, 8, 9, 10, 11, 12, 13, 14] rfl (by decide) rfl 15 9 rfl rfl) rfl rfl hl.1 rfl (lv_room (Nat.le_of_ble_eq_true rfl)) dX12_save_8 ⟨Nat.zero_le _, Nat.zero_le _⟩) hS (fun q _ h => hFc q h) hFc (fun u9 t9 H1 locs ht hvm hw hB hz1 hk1 hS => ?_)
  obtain ⟨hP, hD⟩ := wjoin (wr := bRO k o (qs 0) bf pa pn pk (qs2 0) iz tr tx er fl li ll ac ci ch) (wf := bRO k o (qs 0) bf pa pn pk (qs2 0) iz tr tx er fl li ll ac ci ch ++ bSt k qs qc qr ql lim sh sc fr ++ bClaims k qc n w ly t a fx ++ bRacks k qr kd rk ++ bLog k ql lsh lk lc lx ++ bSt k qs2 qc2 qr2 ql2 lim sh sc fr2 ++ bClaims k qc2 n w ly t a fx ++ bRacks k qr2 kd rk ++ bLog k ql2 lsh lk lc lx) hP hD [15, 16, 17, 18, 19, 20, 21, 22, 23, 24, 25, 26, 27, 28, 1, 2, 3, 4, 5, 6, 7, 8, 9, 10, 11, 12, 13, 14] [0] [0, 15, 16, 17, 18, 19, 20, 21, 22, 23, 24, 25, 26, 27, 28, 1, 2, 3, 4, 5, 6, 7, 8, 9, 10, 11, 12, 13, 14] rfl rfl (by decide) (by decide) hk1 hFc hB ht rfl rfl (by decide)
  clear hB hk1 hz1 hvm hFc
  clear ht
  clear t9
  generalize H1 = H at hP hS ⊢
  refine lv_aload_n hx hb dX12_save_11 rfl (lv_at hl 0 rfl) ?_
  refine lv_iconst (v := 1) hx hb dX12_save_12 (by decide) ?_
  refine va_put (D := D) (ci := 10) (v := .int 1) (ty := .boolean) (C := RX12) (T := TX12) (N := 16) hx hb hts kc_RX12 tyX12 tyX12_ok nmX12 hown hK hP hD hS 0 rfl rfl 6 (by decide) k_fieldLink_33 (fun _ h9 => h9) rfl (by decide +kernel) rfl rfl (Nat.le_of_ble_eq_true rfl) dX12_save_13 (fun H locs hP hD hS => ?_)
  have hP : va_P D vwCl (bRO k o (qs 0) bf pa pn pk (qs2 0) true tr tx er fl li ll ac ci ch ++ bSt k qs qc qr ql lim sh sc fr ++ bClaims k qc n w ly t a fx ++ bRacks k qr kd rk ++ bLog k ql lsh lk lc lx ++ bSt k qs2 qc2 qr2 ql2 lim sh sc fr2 ++ bClaims k qc2 n w ly t a fx ++ bRacks k qr2 kd rk ++ bLog k ql2 lsh lk lc lx) H := hP
  have hD : va_D A (bRO k o (qs 0) bf pa pn pk (qs2 0) true tr tx er fl li ll ac ci ch ++ bSt k qs qc qr ql lim sh sc fr ++ bClaims k qc n w ly t a fx ++ bRacks k qr kd rk ++ bLog k ql lsh lk lc lx ++ bSt k qs2 qc2 qr2 ql2 lim sh sc fr2 ++ bClaims k qc2 n w ly t a fx ++ bRacks k qr2 kd rk ++ bLog k ql2 lsh lk lc lx) := hD
  refine lv_aload_n hx hb dX12_save_16 rfl (lv_at hl 0 rfl) ?_
  refine va_get (D := D) (ci := 10) (v := .ref (qs 0)) (C := RX12) (T := TX12) (N := 16) hx hb hts kc_RX12 hown hK hP 0 rfl rfl 0 (by decide) k_fieldLink_10 (fun _ h9 => h9) rfl dX12_save_17 ?_
  refine va_get (D := D) (ci := 9) (v := .ref (qc 0)) (C := RX11) (T := TX11) (N := 7) hx hb hts kc_RX11 hown hK hP 1 rfl rfl 0 (by decide) k_fieldLink_85 (fun _ h9 => h9) rfl dX12_save_20 ?_
  refine va_get (D := D) (ci := 5) (v := .int (nI n)) (C := RX5) (T := TX5) (N := 6) hx hb hts kc_RX5 hown hK hP 3 rfl rfl 0 (by decide) k_fieldLink_106 (fun _ h9 => h9) rfl dX12_save_23 ?_
  exact W.iret (v := nI n) hx hb hr (fun t9 ht hW => ⟨⟨_, (), rfl, (by rfl), ⟨by rw [ht]; exact hP, va_K.moved hW.alike hK, hD⟩⟩, hS.F ht⟩) hS.2.2 dX12_save_26 hlocks

set_option maxHeartbeats 4000000 in
set_option maxRecDepth 100000 in
theorem m_X12_restore (l9 : Launch) (D : va_G) (k : Nat → ClassId) (sz : Nat) (o bf pa pn pk sv tr tx li ll ac ci ch : Nat) (iz : Bool) (er fl : Int32) (qs qc qr ql : Nat → Nat) (lim sh sc : Int32) (fr : Nat → UInt32) (n : Nat) (w ly t a : Nat → Int32) (fx : Nat → UInt32) (kd rk : Nat → Int32) (lsh lk : Nat → Int32) (lc lx : Nat) (qs2 qc2 qr2 ql2 : Nat → Nat) (lim2 sh2 sc2 : Int32) (fr2 : Nat → UInt32) (n2 : Nat) (w2 ly2 t2 a2 : Nat → Int32) (fx2 : Nat → UInt32) (kd2 rk2 : Nat → Int32) (lsh2 lk2 : Nat → Int32) (lc2 lx2 : Nat) (hkd : chOk kd2 4) (hrk : chOk rk2 12) (hlk : chOk lk2 16) (hiz : iz = true) : Met l9 yX12_restore wsX12_restore ({ frames := 3, cells := 0, slots := 0, locals := 102 }) (WPc D k [.ref o] (bRO k o (qs 0) bf pa pn pk (qs2 0) iz tr tx er fl li ll ac ci ch ++ bSt k qs qc qr ql lim sh sc fr ++ bClaims k qc n w ly t a fx ++ bRacks k qr kd rk ++ bLog k ql lsh lk lc lx ++ bSt k qs2 qc2 qr2 ql2 lim2 sh2 sc2 fr2 ++ bClaims k qc2 n2 w2 ly2 t2 a2 fx2 ++ bRacks k qr2 kd2 rk2 ++ bLog k ql2 lsh2 lk2 lc2 lx2) sz) (WI D k (bRO k o (qs 0) bf pa pn 0 (qs2 0) iz tr tx er fl li ll ac ci ch ++ bSt k qs qc qr ql lim2 sh2 sc2 fr ++ bClaims k qc n2 w2 ly2 t2 a2 fx2 ++ bRacks k qr kd2 rk2 ++ bLog k ql lsh2 lk2 lc2 lx2 ++ bSt k qs2 qc2 qr2 ql2 lim2 sh2 sc2 fr2 ++ bClaims k qc2 n2 w2 ly2 t2 a2 fx2 ++ bRacks k qr2 kd2 rk2 ++ bLog k ql2 lsh2 lk2 lc2 lx2) (nI n2) (va_A (bRO k o (qs 0) bf pa pn pk (qs2 0) iz tr tx er fl li ll ac ci ch ++ bSt k qs qc qr ql lim sh sc fr ++ bClaims k qc n w ly t a fx ++ bRacks k qr kd rk ++ bLog k ql lsh lk lc lx ++ bSt k qs2 qc2 qr2 ql2 lim2 sh2 sc2 fr2 ++ bClaims k qc2 n2 w2 ly2 t2 a2 fx2 ++ bRacks k qr2 kd2 rk2 ++ bLog k ql2 lsh2 lk2 lc2 lx2) sz)) 0 0 (va_A (bRO k o (qs 0) bf pa pn pk (qs2 0) iz tr tx er fl li ll ac ci ch ++ bSt k qs qc qr ql lim sh sc fr ++ bClaims k qc n w ly t a fx ++ bRacks k qr kd rk ++ bLog k ql lsh lk lc lx ++ bSt k qs2 qc2 qr2 ql2 lim2 sh2 sc2 fr2 ++ bClaims k qc2 n2 w2 ly2 t2 a2 fx2 ++ bRacks k qr2 kd2 rk2 ++ bLog k ql2 lsh2 lk2 lc2 lx2) sz) := by
  refine wMet (y := yX12_restore) (cc := cX12_restore) (maxL := 1) (ret := (some .int)) (Qc := fun A => WI D k (bRO k o (qs 0) bf pa pn 0 (qs2 0) iz tr tx er fl li ll ac ci ch ++ bSt k qs qc qr ql lim2 sh2 sc2 fr ++ bClaims k qc n2 w2 ly2 t2 a2 fx2 ++ bRacks k qr kd2 rk2 ++ bLog k ql lsh2 lk2 lc2 lx2 ++ bSt k qs2 qc2 qr2 ql2 lim2 sh2 sc2 fr2 ++ bClaims k qc2 n2 w2 ly2 t2 a2 fx2 ++ bRacks k qr2 kd2 rk2 ++ bLog k ql2 lsh2 lk2 lc2 lx2) (nI n2) A) [.ref o] (by decide) rfl (Nat.le_of_ble_eq_true rfl) ?_
  intro p9 e9 s9 m9 bl9 me9 c9 ls A H hF hr hlocks hP hK hN hD hA hS hl hin
  have hl : lv_has ls 1 [(0, .ref o)] := hl
  obtain ⟨hx, hb, hml, hown, hts⟩ := id hF
  have k_fieldLink_33 : (Cond.fieldLink RX12 33 "OpinionReactor" "isSaved" "Z").before _ s9 = true := hts (.fieldLink RX12 33 "OpinionReactor" "isSaved" "Z") (by decide +kernel)
  have kc_RX12 : ∀ w ∈ u_ws RX12 TX12 16, w ∈ wsX12_restore := by decide +kernel
  have k_fieldLink_10 : (Cond.fieldLink RX12 10 "OpinionReactor" "now" "LOpinionReactor$State;").before _ s9 = true := hts (.fieldLink RX12 10 "OpinionReactor" "now" "LOpinionReactor$State;") (by decide +kernel)
  have k_fieldLink_30 : (Cond.fieldLink RX12 30 "OpinionReactor" "saved" "LOpinionReactor$State;").before _ s9 = true := hts (.fieldLink RX12 30 "OpinionReactor" "saved" "LOpinionReactor$State;") (by decide +kernel)
  have k_fieldLink_27 : (Cond.fieldLink RX12 27 "OpinionReactor" "pastCount" "I").before _ s9 = true := hts (.fieldLink RX12 27 "OpinionReactor" "pastCount" "I") (by decide +kernel)
  have k_fieldLink_85 : (Cond.fieldLink RX12 85 "OpinionReactor$State" "claims" "LOpinionReactor$Claims;").before _ s9 = true := hts (.fieldLink RX12 85 "OpinionReactor$State" "claims" "LOpinionReactor$Claims;") (by decide +kernel)
  have kc_RX11 : ∀ w ∈ u_ws RX11 TX11 7, w ∈ wsX12_restore := by decide +kernel
  have k_fieldLink_106 : (Cond.fieldLink RX12 106 "OpinionReactor$Claims" "count" "I").before _ s9 = true := hts (.fieldLink RX12 106 "OpinionReactor$Claims" "count" "I") (by decide +kernel)
  have kc_RX5 : ∀ w ∈ u_ws RX5 TX5 6, w ∈ wsX12_restore := by decide +kernel
  refine lv_aload_n hx hb dX12_restore_0 rfl (lv_at hl 0 rfl) ?_
  refine va_get (D := D) (ci := 10) (v := .int (bI iz)) (C := RX12) (T := TX12) (N := 16) hx hb hts kc_RX12 hown hK hP 0 rfl rfl 6 (by decide) k_fieldLink_33 (fun _ h9 => h9) rfl dX12_restore_1 ?_
  refine lv_if_ne (tgt := 18) hx hb dX12_restore_4 (by decide) (fun c_1 => ?_) (fun c_1 => ?_)
  · skip
    have c_1 : iz = true := bI_1 c_1
    refine lv_aload_n hx hb dX12_restore_18 rfl (lv_at hl 0 rfl) ?_
    refine va_get (D := D) (ci := 10) (v := .ref (qs 0)) (C := RX12) (T := TX12) (N := 16) hx hb hts kc_RX12 hown hK hP 0 rfl rfl 0 (by decide) k_fieldLink_10 (fun _ h9 => h9) rfl dX12_restore_19 ?_
    refine lv_aload_n hx hb dX12_restore_22 rfl (lv_at hl 0 rfl) ?_
    refine va_get (D := D) (ci := 10) (v := .ref (qs2 0)) (C := RX12) (T := TX12) (N := 16) hx hb hts kc_RX12 hown hK hP 0 rfl rfl 5 (by decide) k_fieldLink_30 (fun _ h9 => h9) rfl dX12_restore_23 ?_
    have hFc := va_free (wc := bSt k qs qc qr ql lim sh sc fr ++ bClaims k qc n w ly t a fx ++ bRacks k qr kd rk ++ bLog k ql lsh lk lc lx ++ bSt k qs2 qc2 qr2 ql2 lim2 sh2 sc2 fr2 ++ bClaims k qc2 n2 w2 ly2 t2 a2 fx2 ++ bRacks k qr2 kd2 rk2 ++ bLog k ql2 lsh2 lk2 lc2 lx2) hD hS hA [1, 2, 3, 4, 5, 6, 7, 8, 9, 10, 11, 12, 13, 14, 15, 16, 17, 18, 19, 20, 21, 22, 23, 24, 25, 26, 27, 28] rfl
    refine va_callv (va_runV (As := [.ref (qs2 0)]) (rest := []) hF (m_X11_copyFrom l9 D k H.size qs qc qr ql lim sh sc fr n w ly t a fx kd rk lsh lk lc lx qs2 qc2 qr2 ql2 lim2 sh2 sc2 fr2 n2 w2 ly2 t2 a2 fx2 kd2 rk2 lsh2 lk2 lc2 lx2 hkd hrk hlk) (cwV 1 hts gX12_restore_X11_copyFrom rfl rfl rfl (by decide +kernel) ⟨Nat.le_of_ble_eq_true rfl, Nat.le_of_ble_eq_true rfl⟩) (wPreV hK hN hP hD [1, 2, 3, 4, 5, 6, 7, 8, 9, 10, 11, 12, 13, 14, 15, 16, 17, 18, 19, 20, 21, 22, 23, 24, 25, 26, 27, 28] rfl (by decide) rfl 1 9 rfl rfl) rfl rfl hl.1 rfl (lv_room (Nat.le_of_ble_eq_true rfl)) dX12_restore_26 ⟨Nat.zero_le _, Nat.zero_le _⟩) hS (fun q _ h => hFc q h) hFc (fun u9 t9 H1 locs ht hvm hw hB hz1 hk1 hS => ?_)
    obtain ⟨hP, hD⟩ := wjoin (wr := bRO k o (qs 0) bf pa pn pk (qs2 0) iz tr tx er fl li ll ac ci ch) (wf := bRO k o (qs 0) bf pa pn pk (qs2 0) iz tr tx er fl li ll ac ci ch ++ bSt k qs qc qr ql lim2 sh2 sc2 fr ++ bClaims k qc n2 w2 ly2 t2 a2 fx2 ++ bRacks k qr kd2 rk2 ++ bLog k ql lsh2 lk2 lc2 lx2 ++ bSt k qs2 qc2 qr2 ql2 lim2 sh2 sc2 fr2 ++ bClaims k qc2 n2 w2 ly2 t2 a2 fx2 ++ bRacks k qr2 kd2 rk2 ++ bLog k ql2 lsh2 lk2 lc2 lx2) hP hD [1, 2, 3, 4, 5, 6, 7, 8, 9, 10, 11, 12, 13, 14, 15, 16, 17, 18, 19, 20, 21, 22, 23, 24, 25, 26, 27, 28] [0] [0, 1, 2, 3, 4, 5, 6, 7, 8, 9, 10, 11, 12, 13, 14, 15, 16, 17, 18, 19, 20, 21, 22, 23, 24, 25, 26, 27, 28] rfl rfl (by decide) (by decide) hk1 hFc hB ht rfl rfl (by decide)
    clear hB hk1 hz1 hvm hFc
    clear ht
    clear t9
    generalize H1 = H at hP hS ⊢
    refine lv_aload_n hx hb dX12_restore_29 rfl (lv_at hl 0 rfl) ?_
    refine lv_iconst (v := 0) hx hb dX12_restore_30 (by decide) ?_
    refine va_put (D := D) (ci := 10) (v := .int 0) (ty := .int) (C := RX12) (T := TX12) (N := 16) hx hb hts kc_RX12 tyX12 tyX12_ok nmX12 hown hK hP hD hS 0 rfl rfl 4 (by decide) k_fieldLink_27 (fun _ h9 => h9) rfl (by decide +kernel) rfl rfl (Nat.le_of_ble_eq_true rfl) dX12_restore_31 (fun H locs hP hD hS => ?_)
    have hP : va_P D vwCl (bRO k o (qs 0) bf pa pn 0 (qs2 0) iz tr tx er fl li ll ac ci ch ++ bSt k qs qc qr ql lim2 sh2 sc2 fr ++ bClaims k qc n2 w2 ly2 t2 a2 fx2 ++ bRacks k qr kd2 rk2 ++ bLog k ql lsh2 lk2 lc2 lx2 ++ bSt k qs2 qc2 qr2 ql2 lim2 sh2 sc2 fr2 ++ bClaims k qc2 n2 w2 ly2 t2 a2 fx2 ++ bRacks k qr2 kd2 rk2 ++ bLog k ql2 lsh2 lk2 lc2 lx2) H := hP
    have hD : va_D A (bRO k o (qs 0) bf pa pn 0 (qs2 0) iz tr tx er fl li ll ac ci ch ++ bSt k qs qc qr ql lim2 sh2 sc2 fr ++ bClaims k qc n2 w2 ly2 t2 a2 fx2 ++ bRacks k qr kd2 rk2 ++ bLog k ql lsh2 lk2 lc2 lx2 ++ bSt k qs2 qc2 qr2 ql2 lim2 sh2 sc2 fr2 ++ bClaims k qc2 n2 w2 ly2 t2 a2 fx2 ++ bRacks k qr2 kd2 rk2 ++ bLog k ql2 lsh2 lk2 lc2 lx2) := hD
    refine lv_aload_n hx hb dX12_restore_34 rfl (lv_at hl 0 rfl) ?_
    refine va_get (D := D) (ci := 10) (v := .ref (qs 0)) (C := RX12) (T := TX12) (N := 16) hx hb hts kc_RX12 hown hK hP 0 rfl rfl 0 (by decide) k_fieldLink_10 (fun _ h9 => h9) rfl dX12_restore_35 ?_
    refine va_get (D := D) (ci := 9) (v := .ref (qc 0)) (C := RX11) (T := TX11) (N := 7) hx hb hts kc_RX11 hown hK hP 1 rfl rfl 0 (by decide) k_fieldLink_85 (fun _ h9 => h9) rfl dX12_restore_38 ?_
    refine va_get (D := D) (ci := 5) (v := .int (nI n2)) (C := RX5) (T := TX5) (N := 6) hx hb hts kc_RX5 hown hK hP 3 rfl rfl 0 (by decide) k_fieldLink_106 (fun _ h9 => h9) rfl dX12_restore_41 ?_
    exact W.iret (v := nI n2) hx hb hr (fun t9 ht hW => ⟨⟨_, (), rfl, (by rfl), ⟨by rw [ht]; exact hP, va_K.moved hW.alike hK, hD⟩⟩, hS.F ht⟩) hS.2.2 dX12_restore_44 hlocks
  · skip
    have c_1 : iz = false := bI_0 c_1
    exact Bool.noConfusion (Eq.trans (Eq.symm hiz) c_1)

set_option maxHeartbeats 4000000 in
set_option maxRecDepth 100000 in
theorem x_X12_restore (l9 : Launch) (hl9 : l9.stackTraces = false) (D : va_G) (k : Nat → ClassId) (sz : Nat) (now : Nat) (o bf pa pn pk sv tr tx li ll ac ci ch : Nat) (iz : Bool) (er fl : Int32)  (hiz : iz = false) : vx_Met l9 yX12_restore wsX12_restore ({ frames := 6, cells := 1, slots := 6, locals := 82 }) (XPc D k [.ref o] (bRO k o now bf pa pn pk sv iz tr tx er fl li ll ac ci ch) sz) (XI (va_A (bRO k o now bf pa pn pk sv iz tr tx er fl li ll ac ci ch) sz)) (XC D k "java/lang/IllegalStateException" (bRO k o now bf pa pn pk sv iz tr tx er fl li ll ac ci ch) (va_A (bRO k o now bf pa pn pk sv iz tr tx er fl li ll ac ci ch) sz)) 1 6 (va_A (bRO k o now bf pa pn pk sv iz tr tx er fl li ll ac ci ch) sz) := by
  refine xMet (y := yX12_restore) (cc := cX12_restore) (maxL := 1) (ret := (some .int)) (Qc := XI) (X9 := XC D k "java/lang/IllegalStateException" (bRO k o now bf pa pn pk sv iz tr tx er fl li ll ac ci ch)) [.ref o] (by decide) rfl (Nat.le_of_ble_eq_true rfl) ?_
  intro p9 e9 s9 m9 bl9 me9 c9 ls A H hF hr hlocks ht9 hP hK hN hXN hZ hD hA hS hl
  have hl : lv_has ls 1 [(0, .ref o)] := hl
  obtain ⟨hx, hb, hml, hown, hts⟩ := id hF
  have k_fieldLink_33 : (Cond.fieldLink RX12 33 "OpinionReactor" "isSaved" "Z").before _ s9 = true := hts (.fieldLink RX12 33 "OpinionReactor" "isSaved" "Z") (by decide +kernel)
  have kc_RX12 : ∀ w ∈ u_ws RX12 TX12 16, w ∈ wsX12_restore := by decide +kernel
  refine lv_aload_n hx hb dX12_restore_0 rfl (lv_at hl 0 rfl) ?_
  refine va_get (D := D) (ci := 10) (v := .int (bI iz)) (C := RX12) (T := TX12) (N := 16) hx hb hts kc_RX12 hown hK hP 0 rfl rfl 6 (by decide) k_fieldLink_33 (fun _ h9 => h9) rfl dX12_restore_1 ?_
  refine lv_if_ne (tgt := 18) hx hb dX12_restore_4 (by decide) (fun c_1 => ?_) (fun c_1 => ?_)
  · skip
    have c_1 : iz = true := bI_1 c_1
    exact Bool.noConfusion (Eq.trans (Eq.symm hiz) c_1)
  · skip
    have c_1 : iz = false := bI_0 c_1
    obtain ⟨sa9, hsa9⟩ := hXN.2 (414, "no snapshot") (by decide)
    exact vx_throwSW (cls := "java/lang/IllegalStateException") (text := "no snapshot") (names := ["java/lang/RuntimeException", "java/lang/Exception"]) hx hb hl9 hown (by decide +kernel) xfit (hts (.classLink RX12 316 "java/lang/IllegalStateException") (by decide +kernel)) (hts (.initialized "java/lang/IllegalStateException") (by decide +kernel)) hsa9 (vx_hat (fun w h9 => hts w (List.mem_cons_of_mem _ (List.mem_append_left _ (List.mem_append_right _ h9)))) xng_320 (fun w h9 => va_Nw.use (xnL_tables w h9) (hXN.1 w h9))) xot_320 hZ.1 hZ.2 hS (hl.1.trans hml.symm) dX12_restore_7 dX12_restore_10 dX12_restore_11 dX12_restore_14 dX12_restore_17 (fun x h9 => (ht9 x h9).elim) (Nat.le_of_ble_eq_true rfl) (Nat.le_of_ble_eq_true rfl) (Nat.le_of_ble_eq_true rfl) (Nat.le_of_ble_eq_true rfl) hlocks (fun t hvm hz hq => xEnd hP hK hD hS hvm hz hq) hS.2.2 (Nat.le_of_ble_eq_true rfl) (Nat.le_of_ble_eq_true rfl)

set_option maxHeartbeats 4000000 in
set_option maxRecDepth 100000 in
theorem x_X12_undo (l9 : Launch) (hl9 : l9.stackTraces = false) (D : va_G) (k : Nat → ClassId) (sz : Nat) (now : Nat) (o bf pa pn pk sv tr tx li ll ac ci ch : Nat) (iz : Bool) (er fl : Int32)  (h0 : pk = 0) : vx_Met l9 yX12_undo wsX12_undo ({ frames := 6, cells := 1, slots := 6, locals := 82 }) (XPc D k [.ref o] (bRO k o now bf pa pn pk sv iz tr tx er fl li ll ac ci ch) sz) (XI (va_A (bRO k o now bf pa pn pk sv iz tr tx er fl li ll ac ci ch) sz)) (XC D k "java/lang/IllegalStateException" (bRO k o now bf pa pn pk sv iz tr tx er fl li ll ac ci ch) (va_A (bRO k o now bf pa pn pk sv iz tr tx er fl li ll ac ci ch) sz)) 1 6 (va_A (bRO k o now bf pa pn pk sv iz tr tx er fl li ll ac ci ch) sz) := by
  refine xMet (y := yX12_undo) (cc := cX12_undo) (maxL := 2) (ret := (some .int)) (Qc := XI) (X9 := XC D k "java/lang/IllegalStateException" (bRO k o now bf pa pn pk sv iz tr tx er fl li ll ac ci ch)) [.ref o] (by decide) rfl (Nat.le_of_ble_eq_true rfl) ?_
  intro p9 e9 s9 m9 bl9 me9 c9 ls A H hF hr hlocks ht9 hP hK hN hXN hZ hD hA hS hl
  have hl : lv_has ls 2 [(0, .ref o)] := hl
  obtain ⟨hx, hb, hml, hown, hts⟩ := id hF
  have k_fieldLink_27 : (Cond.fieldLink RX12 27 "OpinionReactor" "pastCount" "I").before _ s9 = true := hts (.fieldLink RX12 27 "OpinionReactor" "pastCount" "I") (by decide +kernel)
  have kc_RX12 : ∀ w ∈ u_ws RX12 TX12 16, w ∈ wsX12_undo := by decide +kernel
  refine lv_aload_n hx hb dX12_undo_0 rfl (lv_at hl 0 rfl) ?_
  refine va_get (D := D) (ci := 10) (v := .int (nI pk)) (C := RX12) (T := TX12) (N := 16) hx hb hts kc_RX12 hown hK hP 0 rfl rfl 4 (by decide) k_fieldLink_27 (fun _ h9 => h9) rfl dX12_undo_1 ?_
  refine lv_if_ne (tgt := 18) hx hb dX12_undo_4 (by decide) (fun c_1 => ?_) (fun c_1 => ?_)
  · skip
    have c_1 : ¬ pk = 0 := fun h => c_1 ((nI_eq (a := pk) (b := 0) (by omega) (by decide)).mpr h)
    exact absurd h0 c_1
  · skip
    have c_1 : pk = 0 := (nI_eq (a := pk) (b := 0) (by omega) (by decide)).mp c_1
    obtain ⟨sa9, hsa9⟩ := hXN.2 (412, "no change to undo") (by decide)
    exact vx_throwSW (cls := "java/lang/IllegalStateException") (text := "no change to undo") (names := ["java/lang/RuntimeException", "java/lang/Exception"]) hx hb hl9 hown (by decide +kernel) xfit (hts (.classLink RX12 316 "java/lang/IllegalStateException") (by decide +kernel)) (hts (.initialized "java/lang/IllegalStateException") (by decide +kernel)) hsa9 (vx_hat (fun w h9 => hts w (List.mem_cons_of_mem _ (List.mem_append_right _ h9))) xng_320 (fun w h9 => va_Nw.use (xnL_tables w h9) (hXN.1 w h9))) xot_320 hZ.1 hZ.2 hS (hl.1.trans hml.symm) dX12_undo_7 dX12_undo_10 dX12_undo_11 dX12_undo_14 dX12_undo_17 (fun x h9 => (ht9 x h9).elim) (Nat.le_of_ble_eq_true rfl) (Nat.le_of_ble_eq_true rfl) (Nat.le_of_ble_eq_true rfl) (Nat.le_of_ble_eq_true rfl) hlocks (fun t hvm hz hq => xEnd hP hK hD hS hvm hz hq) hS.2.2 (Nat.le_of_ble_eq_true rfl) (Nat.le_of_ble_eq_true rfl)

set_option maxHeartbeats 4000000 in
set_option maxRecDepth 100000 in
theorem m_X12_undo (l9 : Launch) (D : va_G) (k : Nat → ClassId) (sz : Nat) (o bf pa pn pk sv tr tx li ll ac ci ch : Nat) (iz : Bool) (er fl : Int32) (g : Nat → Nat) (qs qc qr ql : Nat → Nat) (lim sh sc : Int32) (fr : Nat → UInt32) (hpn : pn < 8) (hpk : pk ≤ 8) (h1 : 1 ≤ pk) : Met l9 yX12_undo wsX12_undo ({ frames := 0, cells := 0, slots := 0, locals := 0 }) (WPc D k [.ref o] (bRO k o (qs 0) bf pa pn pk sv iz tr tx er fl li ll ac ci ch ++ bPA k pa g ++ bSt k qs qc qr ql lim sh sc fr) sz) (WI D k (bRO k o (g ((pn + 8 - 1) % 8)) bf pa ((pn + 8 - 1) % 8) (pk - 1) sv iz tr tx er fl li ll ac ci ch ++ bPA k pa (upP g ((pn + 8 - 1) % 8) (qs 0)) ++ bSt k qs qc qr ql lim sh sc fr) (nI (pk - 1)) (va_A (bRO k o (qs 0) bf pa pn pk sv iz tr tx er fl li ll ac ci ch ++ bPA k pa g ++ bSt k qs qc qr ql lim sh sc fr) sz)) 0 0 (va_A (bRO k o (qs 0) bf pa pn pk sv iz tr tx er fl li ll ac ci ch ++ bPA k pa g ++ bSt k qs qc qr ql lim sh sc fr) sz) := by
  refine wMet (y := yX12_undo) (cc := cX12_undo) (maxL := 2) (ret := (some .int)) (Qc := fun A => WI D k (bRO k o (g ((pn + 8 - 1) % 8)) bf pa ((pn + 8 - 1) % 8) (pk - 1) sv iz tr tx er fl li ll ac ci ch ++ bPA k pa (upP g ((pn + 8 - 1) % 8) (qs 0)) ++ bSt k qs qc qr ql lim sh sc fr) (nI (pk - 1)) A) [.ref o] (by decide) rfl (Nat.le_of_ble_eq_true rfl) ?_
  intro p9 e9 s9 m9 bl9 me9 c9 ls A H hF hr hlocks hP hK hN hD hA hS hl hin
  have hl : lv_has ls 2 [(0, .ref o)] := hl
  obtain ⟨hx, hb, hml, hown, hts⟩ := id hF
  have k_fieldLink_27 : (Cond.fieldLink RX12 27 "OpinionReactor" "pastCount" "I").before _ s9 = true := hts (.fieldLink RX12 27 "OpinionReactor" "pastCount" "I") (by decide +kernel)
  have kc_RX12 : ∀ w ∈ u_ws RX12 TX12 16, w ∈ wsX12_undo := by decide +kernel
  have k_fieldLink_23 : (Cond.fieldLink RX12 23 "OpinionReactor" "pastNext" "I").before _ s9 = true := hts (.fieldLink RX12 23 "OpinionReactor" "pastNext" "I") (by decide +kernel)
  have k_fieldLink_10 : (Cond.fieldLink RX12 10 "OpinionReactor" "now" "LOpinionReactor$State;").before _ s9 = true := hts (.fieldLink RX12 10 "OpinionReactor" "now" "LOpinionReactor$State;") (by decide +kernel)
  have k_fieldLink_19 : (Cond.fieldLink RX12 19 "OpinionReactor" "past" "[LOpinionReactor$State;").before _ s9 = true := hts (.fieldLink RX12 19 "OpinionReactor" "past" "[LOpinionReactor$State;") (by decide +kernel)
  refine lv_aload_n hx hb dX12_undo_0 rfl (lv_at hl 0 rfl) ?_
  refine va_get (D := D) (ci := 10) (v := .int (nI pk)) (C := RX12) (T := TX12) (N := 16) hx hb hts kc_RX12 hown hK hP 0 rfl rfl 4 (by decide) k_fieldLink_27 (fun _ h9 => h9) rfl dX12_undo_1 ?_
  refine lv_if_ne (tgt := 18) hx hb dX12_undo_4 (by decide) (fun c_1 => ?_) (fun c_1 => ?_)
  · skip
    have c_1 : ¬ pk = 0 := fun h => c_1 ((nI_eq (a := pk) (b := 0) (by omega) (by decide)).mpr h)
    refine lv_aload_n hx hb dX12_undo_18 rfl (lv_at hl 0 rfl) ?_
    refine lv_aload_n hx hb dX12_undo_19 rfl (lv_at hl 0 rfl) ?_
    refine va_get (D := D) (ci := 10) (v := .int (nI pn)) (C := RX12) (T := TX12) (N := 16) hx hb hts kc_RX12 hown hK hP 0 rfl rfl 3 (by decide) k_fieldLink_23 (fun _ h9 => h9) rfl dX12_undo_20 ?_
    refine lv_bipush (v := 8) hx hb dX12_undo_23 (by decide) ?_
    refine ni_add hx hb pn 8 dX12_undo_25 ?_
    refine lv_iconst (v := 1) hx hb dX12_undo_26 (by decide) ?_
    refine ni_sub hx hb (pn + 8) 1 (by omega) dX12_undo_27 ?_
    refine lv_bipush (v := 8) hx hb dX12_undo_28 (by decide) ?_
    refine ni_rem hx hb ((pn + 8) - 1) 8 (by omega) (by decide) (by decide) dX12_undo_30 ?_
    refine va_put (D := D) (ci := 10) (v := .int (nI (((pn + 8) - 1) % 8))) (ty := .int) (C := RX12) (T := TX12) (N := 16) hx hb hts kc_RX12 tyX12 tyX12_ok nmX12 hown hK hP hD hS 0 rfl rfl 3 (by decide) k_fieldLink_23 (fun _ h9 => h9) rfl (by decide +kernel) rfl rfl (Nat.le_of_ble_eq_true rfl) dX12_undo_31 (fun H locs hP hD hS => ?_)
    have hP : va_P D vwCl (bRO k o (qs 0) bf pa (((pn + 8) - 1) % 8) pk sv iz tr tx er fl li ll ac ci ch ++ bPA k pa g ++ bSt k qs qc qr ql lim sh sc fr) H := hP
    have hD : va_D A (bRO k o (qs 0) bf pa (((pn + 8) - 1) % 8) pk sv iz tr tx er fl li ll ac ci ch ++ bPA k pa g ++ bSt k qs qc qr ql lim sh sc fr) := hD
    refine lv_aload_n hx hb dX12_undo_34 rfl (lv_at hl 0 rfl) ?_
    refine lv_dup hx hb dX12_undo_35 rfl ?_
    refine va_get (D := D) (ci := 10) (v := .int (nI pk)) (C := RX12) (T := TX12) (N := 16) hx hb hts kc_RX12 hown hK hP 0 rfl rfl 4 (by decide) k_fieldLink_27 (fun _ h9 => h9) rfl dX12_undo_36 ?_
    refine lv_iconst (v := 1) hx hb dX12_undo_39 (by decide) ?_
    refine ni_sub hx hb pk 1 (by omega) dX12_undo_40 ?_
    refine va_put (D := D) (ci := 10) (v := .int (nI (pk - 1))) (ty := .int) (C := RX12) (T := TX12) (N := 16) hx hb hts kc_RX12 tyX12 tyX12_ok nmX12 hown hK hP hD hS 0 rfl rfl 4 (by decide) k_fieldLink_27 (fun _ h9 => h9) rfl (by decide +kernel) rfl rfl (Nat.le_of_ble_eq_true rfl) dX12_undo_41 (fun H locs hP hD hS => ?_)
    have hP : va_P D vwCl (bRO k o (qs 0) bf pa (((pn + 8) - 1) % 8) (pk - 1) sv iz tr tx er fl li ll ac ci ch ++ bPA k pa g ++ bSt k qs qc qr ql lim sh sc fr) H := hP
    have hD : va_D A (bRO k o (qs 0) bf pa (((pn + 8) - 1) % 8) (pk - 1) sv iz tr tx er fl li ll ac ci ch ++ bPA k pa g ++ bSt k qs qc qr ql lim sh sc fr) := hD
    refine lv_aload_n hx hb dX12_undo_44 rfl (lv_at hl 0 rfl) ?_
    refine va_get (D := D) (ci := 10) (v := .ref (qs 0)) (C := RX12) (T := TX12) (N := 16) hx hb hts kc_RX12 hown hK hP 0 rfl rfl 0 (by decide) k_fieldLink_10 (fun _ h9 => h9) rfl dX12_undo_45 ?_
    refine lv_astore_n (lv' := [(1, .ref (qs 0)), (0, .ref o)]) hx hb dX12_undo_48 rfl hl (by decide) rfl (fun ls hl => ?_)
    refine lv_aload_n hx hb dX12_undo_49 rfl (lv_at hl 1 rfl) ?_
    refine lv_aload_n hx hb dX12_undo_50 rfl (lv_at hl 1 rfl) ?_
    refine va_get (D := D) (ci := 10) (v := .ref pa) (C := RX12) (T := TX12) (N := 16) hx hb hts kc_RX12 hown hK hP 0 rfl rfl 2 (by decide) k_fieldLink_19 (fun _ h9 => h9) rfl dX12_undo_51 ?_
    refine lv_aload_n hx hb dX12_undo_54 rfl (lv_at hl 1 rfl) ?_
    refine va_get (D := D) (ci := 10) (v := .int (nI (((pn + 8) - 1) % 8))) (C := RX12) (T := TX12) (N := 16) hx hb hts kc_RX12 hown hK hP 0 rfl rfl 3 (by decide) k_fieldLink_23 (fun _ h9 => h9) rfl dX12_undo_55 ?_
    refine ar_ld hx hb hK hP 1 6 (x := g (((pn + 8) - 1) % 8)) rfl rfl rfl (((pn + 8) - 1) % 8) (by omega) (by decide) rfl dX12_undo_58 ?_
    refine va_put (D := D) (ci := 10) (v := .ref (g (((pn + 8) - 1) % 8))) (ty := (.object "OpinionReactor$State")) (C := RX12) (T := TX12) (N := 16) hx hb hts kc_RX12 tyX12 tyX12_ok nmX12 hown hK hP hD hS 0 rfl rfl 0 (by decide) k_fieldLink_10 (fun _ h9 => h9) rfl (by decide +kernel) rfl rfl (Nat.le_of_ble_eq_true rfl) dX12_undo_59 (fun H locs hP hD hS => ?_)
    have hP : va_P D vwCl (bRO k o (g (((pn + 8) - 1) % 8)) bf pa (((pn + 8) - 1) % 8) (pk - 1) sv iz tr tx er fl li ll ac ci ch ++ bPA k pa g ++ bSt k qs qc qr ql lim sh sc fr) H := hP
    have hD : va_D A (bRO k o (g (((pn + 8) - 1) % 8)) bf pa (((pn + 8) - 1) % 8) (pk - 1) sv iz tr tx er fl li ll ac ci ch ++ bPA k pa g ++ bSt k qs qc qr ql lim sh sc fr) := hD
    refine lv_aload_n hx hb dX12_undo_62 rfl (lv_at hl 1 rfl) ?_
    refine va_get (D := D) (ci := 10) (v := .ref pa) (C := RX12) (T := TX12) (N := 16) hx hb hts kc_RX12 hown hK hP 0 rfl rfl 2 (by decide) k_fieldLink_19 (fun _ h9 => h9) rfl dX12_undo_63 ?_
    refine lv_aload_n hx hb dX12_undo_66 rfl (lv_at hl 1 rfl) ?_
    refine va_get (D := D) (ci := 10) (v := .int (nI (((pn + 8) - 1) % 8))) (C := RX12) (T := TX12) (N := 16) hx hb hts kc_RX12 hown hK hP 0 rfl rfl 3 (by decide) k_fieldLink_23 (fun _ h9 => h9) rfl dX12_undo_67 ?_
    refine lv_aload_n hx hb dX12_undo_70 rfl (lv_at hl 0 rfl) ?_
    refine sr_st hx hb hK hP hD hS 1 6 2 9 rfl rfl rfl rfl (((pn + 8) - 1) % 8) (by omega) (by decide) (bRO k o (g (((pn + 8) - 1) % 8)) bf pa (((pn + 8) - 1) % 8) (pk - 1) sv iz tr tx er fl li ll ac ci ch ++ bPA k pa (upP g (((pn + 8) - 1) % 8) (qs 0)) ++ bSt k qs qc qr ql lim sh sc fr) rfl dX12_undo_71 (fun H locs hP hD hS => ?_)
    refine lv_aload_n hx hb dX12_undo_72 rfl (lv_at hl 1 rfl) ?_
    refine va_get (D := D) (ci := 10) (v := .int (nI (pk - 1))) (C := RX12) (T := TX12) (N := 16) hx hb hts kc_RX12 hown hK hP 0 rfl rfl 4 (by decide) k_fieldLink_27 (fun _ h9 => h9) rfl dX12_undo_73 ?_
    have e_2 : (g (((pn + 8) - 1) % 8) : Nat) = g ((pn + 8 - 1) % 8) := by first | (with_reducible rfl) | (rfl)
    have hP := Eq.mp (congrArg (fun z9 => va_P D vwCl (bRO k o z9 bf pa (((pn + 8) - 1) % 8) (pk - 1) sv iz tr tx er fl li ll ac ci ch ++ bPA k pa (upP g (((pn + 8) - 1) % 8) (qs 0)) ++ bSt k qs qc qr ql lim sh sc fr) H) e_2) hP
    have hD := Eq.mp (congrArg (fun z9 => va_D A (bRO k o z9 bf pa (((pn + 8) - 1) % 8) (pk - 1) sv iz tr tx er fl li ll ac ci ch ++ bPA k pa (upP g (((pn + 8) - 1) % 8) (qs 0)) ++ bSt k qs qc qr ql lim sh sc fr)) e_2) hD
    have e_3 : (((pn + 8) - 1) % 8 : Nat) = ((pn + 8 - 1) % 8) := by first | (with_reducible rfl) | (rfl)
    have hP := Eq.mp (congrArg (fun z9 => va_P D vwCl (bRO k o (g ((pn + 8 - 1) % 8)) bf pa z9 (pk - 1) sv iz tr tx er fl li ll ac ci ch ++ bPA k pa (upP g (((pn + 8) - 1) % 8) (qs 0)) ++ bSt k qs qc qr ql lim sh sc fr) H) e_3) hP
    have hD := Eq.mp (congrArg (fun z9 => va_D A (bRO k o (g ((pn + 8 - 1) % 8)) bf pa z9 (pk - 1) sv iz tr tx er fl li ll ac ci ch ++ bPA k pa (upP g (((pn + 8) - 1) % 8) (qs 0)) ++ bSt k qs qc qr ql lim sh sc fr)) e_3) hD
    have e_4 : (upP g (((pn + 8) - 1) % 8) (qs 0) : Nat → Nat) = upP g ((pn + 8 - 1) % 8) (qs 0) := by first | (with_reducible rfl) | (rfl)
    have hP := Eq.mp (congrArg (fun z9 => va_P D vwCl (bRO k o (g ((pn + 8 - 1) % 8)) bf pa ((pn + 8 - 1) % 8) (pk - 1) sv iz tr tx er fl li ll ac ci ch ++ bPA k pa z9 ++ bSt k qs qc qr ql lim sh sc fr) H) e_4) hP
    have hD := Eq.mp (congrArg (fun z9 => va_D A (bRO k o (g ((pn + 8 - 1) % 8)) bf pa ((pn + 8 - 1) % 8) (pk - 1) sv iz tr tx er fl li ll ac ci ch ++ bPA k pa z9 ++ bSt k qs qc qr ql lim sh sc fr)) e_4) hD
    exact W.iret (v := nI (pk - 1)) hx hb hr (fun t9 ht hW => ⟨⟨_, (), rfl, (by rfl), ⟨by rw [ht]; exact hP, va_K.moved hW.alike hK, hD⟩⟩, hS.F ht⟩) hS.2.2 dX12_undo_76 hlocks
  · skip
    have c_1 : pk = 0 := (nI_eq (a := pk) (b := 0) (by omega) (by decide)).mp c_1
    exact absurd c_1 (by omega)

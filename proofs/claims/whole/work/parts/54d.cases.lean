/-! The law's cases 36 to 52, over worlds in pieces. -/
section LAWC
variable {p : Program} {l : Launch} {e : Env} {s : State} {m : MethodId} {below : List Frame} {meth : Method} {c : Code} {H : Heap} {locs : List Loc} {cells slots : Nat} {Q : State → Prop}
variable {ls : Array Slot} {D : va_G} {k : Nat → ClassId} {A : Nat → Prop} {wc wc' wd wd' wm we wr : va_W} {ks kv kf : Nat → Nat} {ka kw b L o q0 out outd i9 : Nat} {xs : Nat → Int32} {fs1 fs2 fs3 : List Value} {kr th bv : Int32} {rm1 rm2 rm3 : Room}

set_option maxHeartbeats 4000000 in
set_option maxRecDepth 100000 in
theorem lc_36 {br : Int32} {ou : Nat → Int64} (ho : wc'[i9]? = some (out, .inl (k 3, 1, .inr (.inl ou)))) (C9 : LC ks kv kf ka kw D k p s m c A b L xs)
    (hc : cells + 1 ≤ 603072)
    (hsl : slots + 6 ≤ 7182442)
    (j : Nat)
    (hj : 4 * j + 4 ≤ L)
    (hL : L ≤ 2048)
    (hr1 : rm1.cells = 1 ∧ rm1.slots = 6 ∧ rm1.frames + 1 ≤ 2048 ∧ 8 + (4 + 11) + rm1.locals ≤ 94400) (M1 : Met l yL_claimAtRank wsL_claimAtRank rm1 (LPc ks kv kf ka kw D k [.ref o, .int (xs (4 * j + 1)), .ref out] wc H.size) (WI D k wc' kr (va_A wc H.size)) 1 6 (va_A wc H.size))
    (hr2 : rm2.cells = 0 ∧ rm2.slots = 0 ∧ rm2.frames + 1 ≤ 2048 ∧ 8 + (6 + 11) + rm2.locals ≤ 94400) (M2 : ∀ sz : Nat, Met l yX13_claimAtRank wsX13_claimAtRank rm2 (WPc D k [.ref q0, .int (xs (4 * j + 1))] wd sz) (WI D k wd' br (va_A wd sz)) 0 0 (va_A wd sz)) (h2 : wd[0]? = some (q0, .inr (11, fs2)))
    (hr3 : rm3.cells = 0 ∧ rm3.slots = 0 ∧ rm3.frames + 1 ≤ 2048 ∧ 8 + (1 + 11) + rm3.locals ≤ 94400) (M3 : Met l yX13_thrown wsX13_thrown rm3 (RPc D k [.ref q0] wm) (EI th) 0 0 noA) (hm : wd' = wm ++ we) (h3 : wm[0]? = some (q0, .inr (11, fs3)))
    (hth : th = kr)
    (heq : kr = 0 → ou 0 = br.toInt64)
    (hP : va_P D vwCl (wc ++ (wd ++ wr)) H)
    (hD : va_D A (wc ++ (wd ++ wr)))
    (hS : va_S A s.heap H locs)
    (hl : lv_has ls 10 [(0, .ref b), (1, .ref o), (2, .ref q0), (3, .ref out), (4, .ref outd), (5, .int (nI (4 * j)))])
    (kk : ∀ (ls : Array Slot) (H : Heap) (locs : List Loc), lv_has ls 10 [(0, .ref b), (1, .ref o), (2, .ref q0), (3, .ref out), (4, .ref outd), (5, .int (nI (4 * j)))] → va_P D vwCl (wc' ++ (wd' ++ wr)) H → va_D A (wc' ++ (wd' ++ wr)) → va_S A s.heap H locs → W p l e room_1 s m #[Value.ref b] below meth c H locs (cells + 1) (slots + 6) Q (F0 m 2694 ls [])) : W p l e room_1 s m #[Value.ref b] below meth c H locs cells slots Q (F0 m 1976 ls []) := by
  obtain ⟨hF, hK, hN, hXN, hNC, hZ, hKC, hA, hX, hbl, hbA⟩ := id C9
  obtain ⟨hx, hb, hml, hown, hts⟩ := id hF
  refine lv_aload_n hx hb dL_law_1976 rfl (lv_at hl 1 rfl) ?_
  refine lv_aload_n hx hb dL_law_1977 rfl (lv_at hl 0 rfl) ?_
  refine lv_iload hx hb dL_law_1978 (lv_at hl 5 rfl) ?_
  refine lv_iconst (v := 1) hx hb dL_law_1980 (by decide) ?_
  refine ni_add hx hb (4 * j) 1 dL_law_1981 ?_
  refine l_sld C9 hS (4 * j + 1) (by omega) hL dL_law_1982 ?_
  refine lv_aload_n hx hb dL_law_1983 rfl (lv_at hl 3 rfl) ?_
  refine lw_S C9 (As := [.ref o, .int (xs (4 * j + 1)), .ref out]) (rest := []) gL_law_L_claimAtRank rfl (maxL := 4) hr1 (n := 3) (by decide +kernel) rfl M1 hc hsl hP hD hS hl.1 rfl (Nat.le_of_ble_eq_true rfl) dL_law_1984 (fun H locs hP hD hS => ?_)
  refine lv_istore (lv' := [(6, .int kr), (0, .ref b), (1, .ref o), (2, .ref q0), (3, .ref out), (4, .ref outd), (5, .int (nI (4 * j)))]) hx hb dL_law_1987 hl (by decide) rfl (fun ls hl => ?_)
  refine lv_aload_n hx hb dL_law_1989 rfl (lv_at hl 3 rfl) ?_
  refine lv_aload_n hx hb dL_law_1990 rfl (lv_at hl 1 rfl) ?_
  refine lv_iload hx hb dL_law_1991 (lv_at hl 6 rfl) ?_
  refine lv_iconst (v := 1) hx hb dL_law_1993 (by decide) ?_
  refine ni_add hx hb (4 * j) 1 dL_law_1994 ?_
  refine l_sld C9 hS (4 * j + 1) (by omega) hL dL_law_1995 ?_
  have hP := l_swP hP
  have hD := l_swD hD
  refine lw_Vi C9 (As := [.int (xs (4 * j + 1))]) (rest := []) gL_law_X13_claimAtRank rfl (maxL := 6) hr2 (n := 1) (by decide +kernel) rfl h2 (r9 := _) rfl rfl (M2 _) hc hsl hP hD hS hl.1 rfl (Nat.le_of_ble_eq_true rfl) dL_law_1996 (fun H locs hP hD hS => ?_)
  refine lv_istore (lv' := [(7, .int br), (6, .int kr), (0, .ref b), (1, .ref o), (2, .ref q0), (3, .ref out), (4, .ref outd), (5, .int (nI (4 * j)))]) hx hb dL_law_1999 hl (by decide) rfl (fun ls hl => ?_)
  refine lv_aload_n hx hb dL_law_2001 rfl (lv_at hl 4 rfl) ?_
  refine lw_Ri C9 (As := []) (rest := []) gL_law_X13_thrown rfl (maxL := 1) hr3 (n := 0) (by decide +kernel) rfl h3 (r9 := _) rfl rfl M3 hc hsl (l_P1 (wr := we) (by rw [← hm]; exact l_P1 hP)) hl.1 rfl (Nat.le_of_ble_eq_true rfl) dL_law_2002 ?_
  refine lv_iload hx hb dL_law_2005 (lv_at hl 1 rfl) ?_
  refine lv_icmp_eq (tgt := 2012) hx hb dL_law_2007 (by decide) (fun c_1 => ?_) (fun c_1 => ?_)
  · skip
    refine lv_iload hx hb dL_law_2012 (lv_at hl 1 rfl) ?_
    refine lv_if_ne (tgt := 2029) hx hb dL_law_2014 (by decide) (fun c_2 => ?_) (fun c_2 => ?_)
    · skip
      refine lv_goto (tgt := 2694) hx hb dL_law_2029 (by decide) ?_
      have hP := l_swP hP
      have hD := l_swD hD
      exact kk ls H locs (lv_sub hl [2, 3, 4, 5, 6, 7] rfl) hP hD hS
    · skip
      refine lv_aload_n hx hb dL_law_2017 rfl (lv_at hl 5 rfl) ?_
      refine lv_iconst (v := 0) hx hb dL_law_2018 (by decide) ?_
      have hP := l_swP hP
      have hD := l_swD hD
      refine l_la C9 (l_P1 hP) ho dL_law_2019 ?_
      refine lv_iload hx hb dL_law_2020 (lv_at hl 0 rfl) ?_
      refine lv_i2l hx hb dL_law_2022 rfl ?_
      refine W.lcmp hx hb dL_law_2023 ?_
      refine lv_if_eq (tgt := 2029) hx hb dL_law_2024 (by decide) (fun c_3 => ?_) (fun c_3 => ?_)
      · skip
        refine lv_goto (tgt := 2694) hx hb dL_law_2029 (by decide) ?_
        exact kk ls H locs (lv_sub hl [2, 3, 4, 5, 6, 7] rfl) hP hD hS
      · exact absurd (l_cmp0 (heq c_2)) c_3
  · exact absurd hth c_1

set_option maxHeartbeats 4000000 in
set_option maxRecDepth 100000 in
theorem lc_37 {br : Int32} {xr : Int32} (C9 : LC ks kv kf ka kw D k p s m c A b L xs)
    (hc : cells ≤ 603072)
    (hsl : slots ≤ 7182442)
    (j : Nat)
    (hj : 4 * j + 4 ≤ L)
    (hL : L ≤ 2048)
    (hr1 : rm1.cells = 0 ∧ rm1.slots = 0 ∧ rm1.frames + 1 ≤ 2048 ∧ 8 + (1 + 11) + rm1.locals ≤ 94400) (M1 : Met l yX12_logCount wsX12_logCount rm1 (RPc D k [.ref o] wc) (EI xr) 0 0 noA) (h1 : wc[0]? = some (o, .inr (10, fs1)))
    (hr2 : rm2.cells = 0 ∧ rm2.slots = 0 ∧ rm2.frames + 1 ≤ 2048 ∧ 8 + (1 + 11) + rm2.locals ≤ 94400) (M2 : ∀ sz : Nat, Met l yX13_logCount wsX13_logCount rm2 (WPc D k [.ref q0] wd sz) (WI D k wd' br (va_A wd sz)) 0 0 (va_A wd sz)) (h2 : wd[0]? = some (q0, .inr (11, fs2)))
    (heq : xr = br)
    (hP : va_P D vwCl (wc ++ (wd ++ wr)) H)
    (hD : va_D A (wc ++ (wd ++ wr)))
    (hS : va_S A s.heap H locs)
    (hl : lv_has ls 10 [(0, .ref b), (1, .ref o), (2, .ref q0), (3, .ref out), (4, .ref outd), (5, .int (nI (4 * j)))])
    (kk : ∀ (ls : Array Slot) (H : Heap) (locs : List Loc), lv_has ls 10 [(0, .ref b), (1, .ref o), (2, .ref q0), (3, .ref out), (4, .ref outd), (5, .int (nI (4 * j)))] → va_P D vwCl (wc ++ (wd' ++ wr)) H → va_D A (wc ++ (wd' ++ wr)) → va_S A s.heap H locs → W p l e room_1 s m #[Value.ref b] below meth c H locs cells slots Q (F0 m 2694 ls [])) : W p l e room_1 s m #[Value.ref b] below meth c H locs cells slots Q (F0 m 2032 ls []) := by
  obtain ⟨hF, hK, hN, hXN, hNC, hZ, hKC, hA, hX, hbl, hbA⟩ := id C9
  obtain ⟨hx, hb, hml, hown, hts⟩ := id hF
  refine lv_aload_n hx hb dL_law_2032 rfl (lv_at hl 1 rfl) ?_
  refine lw_Ri C9 (As := []) (rest := []) gL_law_X12_logCount rfl (maxL := 1) hr1 (n := 0) (by decide +kernel) rfl h1 (r9 := _) rfl rfl M1 hc hsl (l_P1 hP) hl.1 rfl (Nat.le_of_ble_eq_true rfl) dL_law_2033 ?_
  refine lv_aload_n hx hb dL_law_2036 rfl (lv_at hl 2 rfl) ?_
  have hP := l_swP hP
  have hD := l_swD hD
  refine lw_Vi C9 (As := []) (rest := [.int xr]) gL_law_X13_logCount rfl (maxL := 1) hr2 (n := 0) (by decide +kernel) rfl h2 (r9 := _) rfl rfl (M2 _) hc hsl hP hD hS hl.1 rfl (Nat.le_of_ble_eq_true rfl) dL_law_2037 (fun H locs hP hD hS => ?_)
  refine lv_icmp_eq (tgt := 2694) hx hb dL_law_2040 (by decide) (fun c_1 => ?_) (fun c_1 => ?_)
  · skip
    have hP := l_swP hP
    have hD := l_swD hD
    exact kk ls H locs (lv_sub hl [0, 1, 2, 3, 4, 5] rfl) hP hD hS
  · exact absurd heq c_1

set_option maxHeartbeats 4000000 in
set_option maxRecDepth 100000 in
theorem lc_38 {br : Int32} {ou : Nat → Int64} (ho : wc'[i9]? = some (out, .inl (k 3, 1, .inr (.inl ou)))) (C9 : LC ks kv kf ka kw D k p s m c A b L xs)
    (hc : cells + 1 ≤ 603072)
    (hsl : slots + 6 ≤ 7182442)
    (j : Nat)
    (hj : 4 * j + 4 ≤ L)
    (hL : L ≤ 2048)
    (hr1 : rm1.cells = 1 ∧ rm1.slots = 6 ∧ rm1.frames + 1 ≤ 2048 ∧ 8 + (4 + 11) + rm1.locals ≤ 94400) (M1 : Met l yL_logShift wsL_logShift rm1 (LPc ks kv kf ka kw D k [.ref o, .int (xs (4 * j + 1)), .ref out] wc H.size) (WI D k wc' kr (va_A wc H.size)) 1 6 (va_A wc H.size))
    (hr2 : rm2.cells = 0 ∧ rm2.slots = 0 ∧ rm2.frames + 1 ≤ 2048 ∧ 8 + (2 + 11) + rm2.locals ≤ 94400) (M2 : ∀ sz : Nat, Met l yX13_logShift wsX13_logShift rm2 (WPc D k [.ref q0, .int (xs (4 * j + 1))] wd sz) (WI D k wd' br (va_A wd sz)) 0 0 (va_A wd sz)) (h2 : wd[0]? = some (q0, .inr (11, fs2)))
    (hr3 : rm3.cells = 0 ∧ rm3.slots = 0 ∧ rm3.frames + 1 ≤ 2048 ∧ 8 + (1 + 11) + rm3.locals ≤ 94400) (M3 : Met l yX13_thrown wsX13_thrown rm3 (RPc D k [.ref q0] wm) (EI th) 0 0 noA) (hm : wd' = wm ++ we) (h3 : wm[0]? = some (q0, .inr (11, fs3)))
    (hth : th = kr)
    (heq : kr = 0 → ou 0 = br.toInt64)
    (hP : va_P D vwCl (wc ++ (wd ++ wr)) H)
    (hD : va_D A (wc ++ (wd ++ wr)))
    (hS : va_S A s.heap H locs)
    (hl : lv_has ls 10 [(0, .ref b), (1, .ref o), (2, .ref q0), (3, .ref out), (4, .ref outd), (5, .int (nI (4 * j)))])
    (kk : ∀ (ls : Array Slot) (H : Heap) (locs : List Loc), lv_has ls 10 [(0, .ref b), (1, .ref o), (2, .ref q0), (3, .ref out), (4, .ref outd), (5, .int (nI (4 * j)))] → va_P D vwCl (wc' ++ (wd' ++ wr)) H → va_D A (wc' ++ (wd' ++ wr)) → va_S A s.heap H locs → W p l e room_1 s m #[Value.ref b] below meth c H locs (cells + 1) (slots + 6) Q (F0 m 2694 ls [])) : W p l e room_1 s m #[Value.ref b] below meth c H locs cells slots Q (F0 m 2045 ls []) := by
  obtain ⟨hF, hK, hN, hXN, hNC, hZ, hKC, hA, hX, hbl, hbA⟩ := id C9
  obtain ⟨hx, hb, hml, hown, hts⟩ := id hF
  refine lv_aload_n hx hb dL_law_2045 rfl (lv_at hl 1 rfl) ?_
  refine lv_aload_n hx hb dL_law_2046 rfl (lv_at hl 0 rfl) ?_
  refine lv_iload hx hb dL_law_2047 (lv_at hl 5 rfl) ?_
  refine lv_iconst (v := 1) hx hb dL_law_2049 (by decide) ?_
  refine ni_add hx hb (4 * j) 1 dL_law_2050 ?_
  refine l_sld C9 hS (4 * j + 1) (by omega) hL dL_law_2051 ?_
  refine lv_aload_n hx hb dL_law_2052 rfl (lv_at hl 3 rfl) ?_
  refine lw_S C9 (As := [.ref o, .int (xs (4 * j + 1)), .ref out]) (rest := []) gL_law_L_logShift rfl (maxL := 4) hr1 (n := 3) (by decide +kernel) rfl M1 hc hsl hP hD hS hl.1 rfl (Nat.le_of_ble_eq_true rfl) dL_law_2053 (fun H locs hP hD hS => ?_)
  refine lv_istore (lv' := [(6, .int kr), (0, .ref b), (1, .ref o), (2, .ref q0), (3, .ref out), (4, .ref outd), (5, .int (nI (4 * j)))]) hx hb dL_law_2056 hl (by decide) rfl (fun ls hl => ?_)
  refine lv_aload_n hx hb dL_law_2058 rfl (lv_at hl 3 rfl) ?_
  refine lv_aload_n hx hb dL_law_2059 rfl (lv_at hl 1 rfl) ?_
  refine lv_iload hx hb dL_law_2060 (lv_at hl 6 rfl) ?_
  refine lv_iconst (v := 1) hx hb dL_law_2062 (by decide) ?_
  refine ni_add hx hb (4 * j) 1 dL_law_2063 ?_
  refine l_sld C9 hS (4 * j + 1) (by omega) hL dL_law_2064 ?_
  have hP := l_swP hP
  have hD := l_swD hD
  refine lw_Vi C9 (As := [.int (xs (4 * j + 1))]) (rest := []) gL_law_X13_logShift rfl (maxL := 2) hr2 (n := 1) (by decide +kernel) rfl h2 (r9 := _) rfl rfl (M2 _) hc hsl hP hD hS hl.1 rfl (Nat.le_of_ble_eq_true rfl) dL_law_2065 (fun H locs hP hD hS => ?_)
  refine lv_istore (lv' := [(7, .int br), (6, .int kr), (0, .ref b), (1, .ref o), (2, .ref q0), (3, .ref out), (4, .ref outd), (5, .int (nI (4 * j)))]) hx hb dL_law_2068 hl (by decide) rfl (fun ls hl => ?_)
  refine lv_aload_n hx hb dL_law_2070 rfl (lv_at hl 4 rfl) ?_
  refine lw_Ri C9 (As := []) (rest := []) gL_law_X13_thrown rfl (maxL := 1) hr3 (n := 0) (by decide +kernel) rfl h3 (r9 := _) rfl rfl M3 hc hsl (l_P1 (wr := we) (by rw [← hm]; exact l_P1 hP)) hl.1 rfl (Nat.le_of_ble_eq_true rfl) dL_law_2071 ?_
  refine lv_iload hx hb dL_law_2074 (lv_at hl 1 rfl) ?_
  refine lv_icmp_eq (tgt := 2081) hx hb dL_law_2076 (by decide) (fun c_1 => ?_) (fun c_1 => ?_)
  · skip
    refine lv_iload hx hb dL_law_2081 (lv_at hl 1 rfl) ?_
    refine lv_if_ne (tgt := 2098) hx hb dL_law_2083 (by decide) (fun c_2 => ?_) (fun c_2 => ?_)
    · skip
      refine lv_goto (tgt := 2694) hx hb dL_law_2098 (by decide) ?_
      have hP := l_swP hP
      have hD := l_swD hD
      exact kk ls H locs (lv_sub hl [2, 3, 4, 5, 6, 7] rfl) hP hD hS
    · skip
      refine lv_aload_n hx hb dL_law_2086 rfl (lv_at hl 5 rfl) ?_
      refine lv_iconst (v := 0) hx hb dL_law_2087 (by decide) ?_
      have hP := l_swP hP
      have hD := l_swD hD
      refine l_la C9 (l_P1 hP) ho dL_law_2088 ?_
      refine lv_iload hx hb dL_law_2089 (lv_at hl 0 rfl) ?_
      refine lv_i2l hx hb dL_law_2091 rfl ?_
      refine W.lcmp hx hb dL_law_2092 ?_
      refine lv_if_eq (tgt := 2098) hx hb dL_law_2093 (by decide) (fun c_3 => ?_) (fun c_3 => ?_)
      · skip
        refine lv_goto (tgt := 2694) hx hb dL_law_2098 (by decide) ?_
        exact kk ls H locs (lv_sub hl [2, 3, 4, 5, 6, 7] rfl) hP hD hS
      · exact absurd (l_cmp0 (heq c_2)) c_3
  · exact absurd hth c_1

set_option maxHeartbeats 4000000 in
set_option maxRecDepth 100000 in
theorem lc_39 {br : Int32} {ou : Nat → Int64} (ho : wc'[i9]? = some (out, .inl (k 3, 1, .inr (.inl ou)))) (C9 : LC ks kv kf ka kw D k p s m c A b L xs)
    (hc : cells + 1 ≤ 603072)
    (hsl : slots + 6 ≤ 7182442)
    (j : Nat)
    (hj : 4 * j + 4 ≤ L)
    (hL : L ≤ 2048)
    (hr1 : rm1.cells = 1 ∧ rm1.slots = 6 ∧ rm1.frames + 1 ≤ 2048 ∧ 8 + (4 + 11) + rm1.locals ≤ 94400) (M1 : Met l yL_logKind wsL_logKind rm1 (LPc ks kv kf ka kw D k [.ref o, .int (xs (4 * j + 1)), .ref out] wc H.size) (WI D k wc' kr (va_A wc H.size)) 1 6 (va_A wc H.size))
    (hr2 : rm2.cells = 0 ∧ rm2.slots = 0 ∧ rm2.frames + 1 ≤ 2048 ∧ 8 + (2 + 11) + rm2.locals ≤ 94400) (M2 : ∀ sz : Nat, Met l yX13_logKind wsX13_logKind rm2 (WPc D k [.ref q0, .int (xs (4 * j + 1))] wd sz) (WI D k wd' br (va_A wd sz)) 0 0 (va_A wd sz)) (h2 : wd[0]? = some (q0, .inr (11, fs2)))
    (hr3 : rm3.cells = 0 ∧ rm3.slots = 0 ∧ rm3.frames + 1 ≤ 2048 ∧ 8 + (1 + 11) + rm3.locals ≤ 94400) (M3 : Met l yX13_thrown wsX13_thrown rm3 (RPc D k [.ref q0] wm) (EI th) 0 0 noA) (hm : wd' = wm ++ we) (h3 : wm[0]? = some (q0, .inr (11, fs3)))
    (hth : th = kr)
    (heq : kr = 0 → ou 0 = br.toInt64)
    (hP : va_P D vwCl (wc ++ (wd ++ wr)) H)
    (hD : va_D A (wc ++ (wd ++ wr)))
    (hS : va_S A s.heap H locs)
    (hl : lv_has ls 10 [(0, .ref b), (1, .ref o), (2, .ref q0), (3, .ref out), (4, .ref outd), (5, .int (nI (4 * j)))])
    (kk : ∀ (ls : Array Slot) (H : Heap) (locs : List Loc), lv_has ls 10 [(0, .ref b), (1, .ref o), (2, .ref q0), (3, .ref out), (4, .ref outd), (5, .int (nI (4 * j)))] → va_P D vwCl (wc' ++ (wd' ++ wr)) H → va_D A (wc' ++ (wd' ++ wr)) → va_S A s.heap H locs → W p l e room_1 s m #[Value.ref b] below meth c H locs (cells + 1) (slots + 6) Q (F0 m 2694 ls [])) : W p l e room_1 s m #[Value.ref b] below meth c H locs cells slots Q (F0 m 2101 ls []) := by
  obtain ⟨hF, hK, hN, hXN, hNC, hZ, hKC, hA, hX, hbl, hbA⟩ := id C9
  obtain ⟨hx, hb, hml, hown, hts⟩ := id hF
  refine lv_aload_n hx hb dL_law_2101 rfl (lv_at hl 1 rfl) ?_
  refine lv_aload_n hx hb dL_law_2102 rfl (lv_at hl 0 rfl) ?_
  refine lv_iload hx hb dL_law_2103 (lv_at hl 5 rfl) ?_
  refine lv_iconst (v := 1) hx hb dL_law_2105 (by decide) ?_
  refine ni_add hx hb (4 * j) 1 dL_law_2106 ?_
  refine l_sld C9 hS (4 * j + 1) (by omega) hL dL_law_2107 ?_
  refine lv_aload_n hx hb dL_law_2108 rfl (lv_at hl 3 rfl) ?_
  refine lw_S C9 (As := [.ref o, .int (xs (4 * j + 1)), .ref out]) (rest := []) gL_law_L_logKind rfl (maxL := 4) hr1 (n := 3) (by decide +kernel) rfl M1 hc hsl hP hD hS hl.1 rfl (Nat.le_of_ble_eq_true rfl) dL_law_2109 (fun H locs hP hD hS => ?_)
  refine lv_istore (lv' := [(6, .int kr), (0, .ref b), (1, .ref o), (2, .ref q0), (3, .ref out), (4, .ref outd), (5, .int (nI (4 * j)))]) hx hb dL_law_2112 hl (by decide) rfl (fun ls hl => ?_)
  refine lv_aload_n hx hb dL_law_2114 rfl (lv_at hl 3 rfl) ?_
  refine lv_aload_n hx hb dL_law_2115 rfl (lv_at hl 1 rfl) ?_
  refine lv_iload hx hb dL_law_2116 (lv_at hl 6 rfl) ?_
  refine lv_iconst (v := 1) hx hb dL_law_2118 (by decide) ?_
  refine ni_add hx hb (4 * j) 1 dL_law_2119 ?_
  refine l_sld C9 hS (4 * j + 1) (by omega) hL dL_law_2120 ?_
  have hP := l_swP hP
  have hD := l_swD hD
  refine lw_Vi C9 (As := [.int (xs (4 * j + 1))]) (rest := []) gL_law_X13_logKind rfl (maxL := 2) hr2 (n := 1) (by decide +kernel) rfl h2 (r9 := _) rfl rfl (M2 _) hc hsl hP hD hS hl.1 rfl (Nat.le_of_ble_eq_true rfl) dL_law_2121 (fun H locs hP hD hS => ?_)
  refine lv_istore (lv' := [(7, .int br), (6, .int kr), (0, .ref b), (1, .ref o), (2, .ref q0), (3, .ref out), (4, .ref outd), (5, .int (nI (4 * j)))]) hx hb dL_law_2124 hl (by decide) rfl (fun ls hl => ?_)
  refine lv_aload_n hx hb dL_law_2126 rfl (lv_at hl 4 rfl) ?_
  refine lw_Ri C9 (As := []) (rest := []) gL_law_X13_thrown rfl (maxL := 1) hr3 (n := 0) (by decide +kernel) rfl h3 (r9 := _) rfl rfl M3 hc hsl (l_P1 (wr := we) (by rw [← hm]; exact l_P1 hP)) hl.1 rfl (Nat.le_of_ble_eq_true rfl) dL_law_2127 ?_
  refine lv_iload hx hb dL_law_2130 (lv_at hl 1 rfl) ?_
  refine lv_icmp_eq (tgt := 2137) hx hb dL_law_2132 (by decide) (fun c_1 => ?_) (fun c_1 => ?_)
  · skip
    refine lv_iload hx hb dL_law_2137 (lv_at hl 1 rfl) ?_
    refine lv_if_ne (tgt := 2154) hx hb dL_law_2139 (by decide) (fun c_2 => ?_) (fun c_2 => ?_)
    · skip
      refine lv_goto (tgt := 2694) hx hb dL_law_2154 (by decide) ?_
      have hP := l_swP hP
      have hD := l_swD hD
      exact kk ls H locs (lv_sub hl [2, 3, 4, 5, 6, 7] rfl) hP hD hS
    · skip
      refine lv_aload_n hx hb dL_law_2142 rfl (lv_at hl 5 rfl) ?_
      refine lv_iconst (v := 0) hx hb dL_law_2143 (by decide) ?_
      have hP := l_swP hP
      have hD := l_swD hD
      refine l_la C9 (l_P1 hP) ho dL_law_2144 ?_
      refine lv_iload hx hb dL_law_2145 (lv_at hl 0 rfl) ?_
      refine lv_i2l hx hb dL_law_2147 rfl ?_
      refine W.lcmp hx hb dL_law_2148 ?_
      refine lv_if_eq (tgt := 2154) hx hb dL_law_2149 (by decide) (fun c_3 => ?_) (fun c_3 => ?_)
      · skip
        refine lv_goto (tgt := 2694) hx hb dL_law_2154 (by decide) ?_
        exact kk ls H locs (lv_sub hl [2, 3, 4, 5, 6, 7] rfl) hP hD hS
      · exact absurd (l_cmp0 (heq c_2)) c_3
  · exact absurd hth c_1

set_option maxHeartbeats 4000000 in
set_option maxRecDepth 100000 in
theorem lc_40 {br : Int32} {ou : Nat → Int64} (ho : wc'[i9]? = some (out, .inl (k 3, 1, .inr (.inl ou)))) (C9 : LC ks kv kf ka kw D k p s m c A b L xs)
    (hc : cells + 1 ≤ 603072)
    (hsl : slots + 6 ≤ 7182442)
    (j : Nat)
    (hj : 4 * j + 4 ≤ L)
    (hL : L ≤ 2048)
    (hr1 : rm1.cells = 1 ∧ rm1.slots = 6 ∧ rm1.frames + 1 ≤ 2048 ∧ 8 + (4 + 11) + rm1.locals ≤ 94400) (M1 : Met l yL_append wsL_append rm1 (LPc ks kv kf ka kw D k [.ref o, .int (((xs (4 * j + 1)).toUInt32 % 65536).toInt32), .ref out] wc H.size) (WI D k wc' kr (va_A wc H.size)) 1 6 (va_A wc H.size))
    (hr2 : rm2.cells = 0 ∧ rm2.slots = 0 ∧ rm2.frames + 1 ≤ 2048 ∧ 8 + (2 + 11) + rm2.locals ≤ 94400) (M2 : ∀ sz : Nat, Met l yX13_append wsX13_append rm2 (WPc D k [.ref q0, .int (((xs (4 * j + 1)).toUInt32 % 65536).toInt32)] wd sz) (WI D k wd' br (va_A wd sz)) 0 0 (va_A wd sz)) (h2 : wd[0]? = some (q0, .inr (11, fs2)))
    (hr3 : rm3.cells = 0 ∧ rm3.slots = 0 ∧ rm3.frames + 1 ≤ 2048 ∧ 8 + (1 + 11) + rm3.locals ≤ 94400) (M3 : Met l yX13_thrown wsX13_thrown rm3 (RPc D k [.ref q0] wm) (EI th) 0 0 noA) (hm : wd' = wm ++ we) (h3 : wm[0]? = some (q0, .inr (11, fs3)))
    (hth : th = kr)
    (heq : kr = 0 → ou 0 = br.toInt64)
    (hP : va_P D vwCl (wc ++ (wd ++ wr)) H)
    (hD : va_D A (wc ++ (wd ++ wr)))
    (hS : va_S A s.heap H locs)
    (hl : lv_has ls 10 [(0, .ref b), (1, .ref o), (2, .ref q0), (3, .ref out), (4, .ref outd), (5, .int (nI (4 * j)))])
    (kk : ∀ (ls : Array Slot) (H : Heap) (locs : List Loc), lv_has ls 10 [(0, .ref b), (1, .ref o), (2, .ref q0), (3, .ref out), (4, .ref outd), (5, .int (nI (4 * j)))] → va_P D vwCl (wc' ++ (wd' ++ wr)) H → va_D A (wc' ++ (wd' ++ wr)) → va_S A s.heap H locs → W p l e room_1 s m #[Value.ref b] below meth c H locs (cells + 1) (slots + 6) Q (F0 m 2694 ls [])) : W p l e room_1 s m #[Value.ref b] below meth c H locs cells slots Q (F0 m 2157 ls []) := by
  obtain ⟨hF, hK, hN, hXN, hNC, hZ, hKC, hA, hX, hbl, hbA⟩ := id C9
  obtain ⟨hx, hb, hml, hown, hts⟩ := id hF
  refine lv_aload_n hx hb dL_law_2157 rfl (lv_at hl 1 rfl) ?_
  refine lv_aload_n hx hb dL_law_2158 rfl (lv_at hl 0 rfl) ?_
  refine lv_iload hx hb dL_law_2159 (lv_at hl 5 rfl) ?_
  refine lv_iconst (v := 1) hx hb dL_law_2161 (by decide) ?_
  refine ni_add hx hb (4 * j) 1 dL_law_2162 ?_
  refine l_sld C9 hS (4 * j + 1) (by omega) hL dL_law_2163 ?_
  refine lv_i2c (v := ((xs (4 * j + 1)).toUInt32 % 65536).toInt32) hx hb dL_law_2164 rfl ?_
  refine lv_aload_n hx hb dL_law_2165 rfl (lv_at hl 3 rfl) ?_
  refine lw_S C9 (As := [.ref o, .int (((xs (4 * j + 1)).toUInt32 % 65536).toInt32), .ref out]) (rest := []) gL_law_L_append rfl (maxL := 4) hr1 (n := 3) (by decide +kernel) rfl M1 hc hsl hP hD hS hl.1 rfl (Nat.le_of_ble_eq_true rfl) dL_law_2166 (fun H locs hP hD hS => ?_)
  refine lv_istore (lv' := [(6, .int kr), (0, .ref b), (1, .ref o), (2, .ref q0), (3, .ref out), (4, .ref outd), (5, .int (nI (4 * j)))]) hx hb dL_law_2169 hl (by decide) rfl (fun ls hl => ?_)
  refine lv_aload_n hx hb dL_law_2171 rfl (lv_at hl 3 rfl) ?_
  refine lv_aload_n hx hb dL_law_2172 rfl (lv_at hl 1 rfl) ?_
  refine lv_iload hx hb dL_law_2173 (lv_at hl 6 rfl) ?_
  refine lv_iconst (v := 1) hx hb dL_law_2175 (by decide) ?_
  refine ni_add hx hb (4 * j) 1 dL_law_2176 ?_
  refine l_sld C9 hS (4 * j + 1) (by omega) hL dL_law_2177 ?_
  refine lv_i2c (v := ((xs (4 * j + 1)).toUInt32 % 65536).toInt32) hx hb dL_law_2178 rfl ?_
  have hP := l_swP hP
  have hD := l_swD hD
  refine lw_Vi C9 (As := [.int (((xs (4 * j + 1)).toUInt32 % 65536).toInt32)]) (rest := []) gL_law_X13_append rfl (maxL := 2) hr2 (n := 1) (by decide +kernel) rfl h2 (r9 := _) rfl rfl (M2 _) hc hsl hP hD hS hl.1 rfl (Nat.le_of_ble_eq_true rfl) dL_law_2179 (fun H locs hP hD hS => ?_)
  refine lv_istore (lv' := [(7, .int br), (6, .int kr), (0, .ref b), (1, .ref o), (2, .ref q0), (3, .ref out), (4, .ref outd), (5, .int (nI (4 * j)))]) hx hb dL_law_2182 hl (by decide) rfl (fun ls hl => ?_)
  refine lv_aload_n hx hb dL_law_2184 rfl (lv_at hl 4 rfl) ?_
  refine lw_Ri C9 (As := []) (rest := []) gL_law_X13_thrown rfl (maxL := 1) hr3 (n := 0) (by decide +kernel) rfl h3 (r9 := _) rfl rfl M3 hc hsl (l_P1 (wr := we) (by rw [← hm]; exact l_P1 hP)) hl.1 rfl (Nat.le_of_ble_eq_true rfl) dL_law_2185 ?_
  refine lv_iload hx hb dL_law_2188 (lv_at hl 1 rfl) ?_
  refine lv_icmp_eq (tgt := 2195) hx hb dL_law_2190 (by decide) (fun c_1 => ?_) (fun c_1 => ?_)
  · skip
    refine lv_iload hx hb dL_law_2195 (lv_at hl 1 rfl) ?_
    refine lv_if_ne (tgt := 2212) hx hb dL_law_2197 (by decide) (fun c_2 => ?_) (fun c_2 => ?_)
    · skip
      refine lv_goto (tgt := 2694) hx hb dL_law_2212 (by decide) ?_
      have hP := l_swP hP
      have hD := l_swD hD
      exact kk ls H locs (lv_sub hl [2, 3, 4, 5, 6, 7] rfl) hP hD hS
    · skip
      refine lv_aload_n hx hb dL_law_2200 rfl (lv_at hl 5 rfl) ?_
      refine lv_iconst (v := 0) hx hb dL_law_2201 (by decide) ?_
      have hP := l_swP hP
      have hD := l_swD hD
      refine l_la C9 (l_P1 hP) ho dL_law_2202 ?_
      refine lv_iload hx hb dL_law_2203 (lv_at hl 0 rfl) ?_
      refine lv_i2l hx hb dL_law_2205 rfl ?_
      refine W.lcmp hx hb dL_law_2206 ?_
      refine lv_if_eq (tgt := 2212) hx hb dL_law_2207 (by decide) (fun c_3 => ?_) (fun c_3 => ?_)
      · skip
        refine lv_goto (tgt := 2694) hx hb dL_law_2212 (by decide) ?_
        exact kk ls H locs (lv_sub hl [2, 3, 4, 5, 6, 7] rfl) hP hD hS
      · exact absurd (l_cmp0 (heq c_2)) c_3
  · exact absurd hth c_1

set_option maxHeartbeats 4000000 in
set_option maxRecDepth 100000 in
theorem lc_41 {br : Int32} {ou : Nat → Int64} (ho : wc'[i9]? = some (out, .inl (k 3, 1, .inr (.inl ou)))) (C9 : LC ks kv kf ka kw D k p s m c A b L xs)
    (hc : cells + 1 ≤ 603072)
    (hsl : slots + 6 ≤ 7182442)
    (j : Nat)
    (hj : 4 * j + 4 ≤ L)
    (hL : L ≤ 2048)
    (hr1 : rm1.cells = 1 ∧ rm1.slots = 6 ∧ rm1.frames + 1 ≤ 2048 ∧ 8 + (3 + 11) + rm1.locals ≤ 94400) (M1 : Met l yL_run wsL_run rm1 (LPc ks kv kf ka kw D k [.ref o, .ref out] wc H.size) (WI D k wc' kr (va_A wc H.size)) 1 6 (va_A wc H.size))
    (hr2 : rm2.cells = 0 ∧ rm2.slots = 0 ∧ rm2.frames + 1 ≤ 2048 ∧ 8 + (2 + 11) + rm2.locals ≤ 94400) (M2 : ∀ sz : Nat, Met l yX13_run wsX13_run rm2 (WPc D k [.ref q0] wd sz) (WI D k wd' br (va_A wd sz)) 0 0 (va_A wd sz)) (h2 : wd[0]? = some (q0, .inr (11, fs2)))
    (hr3 : rm3.cells = 0 ∧ rm3.slots = 0 ∧ rm3.frames + 1 ≤ 2048 ∧ 8 + (1 + 11) + rm3.locals ≤ 94400) (M3 : Met l yX13_thrown wsX13_thrown rm3 (RPc D k [.ref q0] wm) (EI th) 0 0 noA) (hm : wd' = wm ++ we) (h3 : wm[0]? = some (q0, .inr (11, fs3)))
    (hth : th = kr)
    (heq : kr = 0 → ou 0 = br.toInt64)
    (hP : va_P D vwCl (wc ++ (wd ++ wr)) H)
    (hD : va_D A (wc ++ (wd ++ wr)))
    (hS : va_S A s.heap H locs)
    (hl : lv_has ls 10 [(0, .ref b), (1, .ref o), (2, .ref q0), (3, .ref out), (4, .ref outd), (5, .int (nI (4 * j)))])
    (kk : ∀ (ls : Array Slot) (H : Heap) (locs : List Loc), lv_has ls 10 [(0, .ref b), (1, .ref o), (2, .ref q0), (3, .ref out), (4, .ref outd), (5, .int (nI (4 * j)))] → va_P D vwCl (wc' ++ (wd' ++ wr)) H → va_D A (wc' ++ (wd' ++ wr)) → va_S A s.heap H locs → W p l e room_1 s m #[Value.ref b] below meth c H locs (cells + 1) (slots + 6) Q (F0 m 2694 ls [])) : W p l e room_1 s m #[Value.ref b] below meth c H locs cells slots Q (F0 m 2215 ls []) := by
  obtain ⟨hF, hK, hN, hXN, hNC, hZ, hKC, hA, hX, hbl, hbA⟩ := id C9
  obtain ⟨hx, hb, hml, hown, hts⟩ := id hF
  refine lv_aload_n hx hb dL_law_2215 rfl (lv_at hl 1 rfl) ?_
  refine lv_aload_n hx hb dL_law_2216 rfl (lv_at hl 3 rfl) ?_
  refine lw_S C9 (As := [.ref o, .ref out]) (rest := []) gL_law_L_run rfl (maxL := 3) hr1 (n := 2) (by decide +kernel) rfl M1 hc hsl hP hD hS hl.1 rfl (Nat.le_of_ble_eq_true rfl) dL_law_2217 (fun H locs hP hD hS => ?_)
  refine lv_istore (lv' := [(6, .int kr), (0, .ref b), (1, .ref o), (2, .ref q0), (3, .ref out), (4, .ref outd), (5, .int (nI (4 * j)))]) hx hb dL_law_2220 hl (by decide) rfl (fun ls hl => ?_)
  refine lv_aload_n hx hb dL_law_2222 rfl (lv_at hl 3 rfl) ?_
  have hP := l_swP hP
  have hD := l_swD hD
  refine lw_Vi C9 (As := []) (rest := []) gL_law_X13_run rfl (maxL := 2) hr2 (n := 0) (by decide +kernel) rfl h2 (r9 := _) rfl rfl (M2 _) hc hsl hP hD hS hl.1 rfl (Nat.le_of_ble_eq_true rfl) dL_law_2223 (fun H locs hP hD hS => ?_)
  refine lv_istore (lv' := [(7, .int br), (6, .int kr), (0, .ref b), (1, .ref o), (2, .ref q0), (3, .ref out), (4, .ref outd), (5, .int (nI (4 * j)))]) hx hb dL_law_2226 hl (by decide) rfl (fun ls hl => ?_)
  refine lv_aload_n hx hb dL_law_2228 rfl (lv_at hl 4 rfl) ?_
  refine lw_Ri C9 (As := []) (rest := []) gL_law_X13_thrown rfl (maxL := 1) hr3 (n := 0) (by decide +kernel) rfl h3 (r9 := _) rfl rfl M3 hc hsl (l_P1 (wr := we) (by rw [← hm]; exact l_P1 hP)) hl.1 rfl (Nat.le_of_ble_eq_true rfl) dL_law_2229 ?_
  refine lv_iload hx hb dL_law_2232 (lv_at hl 1 rfl) ?_
  refine lv_icmp_eq (tgt := 2239) hx hb dL_law_2234 (by decide) (fun c_1 => ?_) (fun c_1 => ?_)
  · skip
    refine lv_iload hx hb dL_law_2239 (lv_at hl 1 rfl) ?_
    refine lv_if_ne (tgt := 2256) hx hb dL_law_2241 (by decide) (fun c_2 => ?_) (fun c_2 => ?_)
    · skip
      refine lv_goto (tgt := 2694) hx hb dL_law_2256 (by decide) ?_
      have hP := l_swP hP
      have hD := l_swD hD
      exact kk ls H locs (lv_sub hl [2, 3, 4, 5, 6, 7] rfl) hP hD hS
    · skip
      refine lv_aload_n hx hb dL_law_2244 rfl (lv_at hl 5 rfl) ?_
      refine lv_iconst (v := 0) hx hb dL_law_2245 (by decide) ?_
      have hP := l_swP hP
      have hD := l_swD hD
      refine l_la C9 (l_P1 hP) ho dL_law_2246 ?_
      refine lv_iload hx hb dL_law_2247 (lv_at hl 0 rfl) ?_
      refine lv_i2l hx hb dL_law_2249 rfl ?_
      refine W.lcmp hx hb dL_law_2250 ?_
      refine lv_if_eq (tgt := 2256) hx hb dL_law_2251 (by decide) (fun c_3 => ?_) (fun c_3 => ?_)
      · skip
        refine lv_goto (tgt := 2694) hx hb dL_law_2256 (by decide) ?_
        exact kk ls H locs (lv_sub hl [2, 3, 4, 5, 6, 7] rfl) hP hD hS
      · exact absurd (l_cmp0 (heq c_2)) c_3
  · exact absurd hth c_1

set_option maxHeartbeats 4000000 in
set_option maxRecDepth 100000 in
theorem lc_42 {br : Int32} {ou : Nat → Int64} (ho : wc'[i9]? = some (out, .inl (k 3, 1, .inr (.inl ou)))) (C9 : LC ks kv kf ka kw D k p s m c A b L xs)
    (hc : cells + 1 ≤ 603072)
    (hsl : slots + 6 ≤ 7182442)
    (j : Nat)
    (hj : 4 * j + 4 ≤ L)
    (hL : L ≤ 2048)
    (hr1 : rm1.cells = 1 ∧ rm1.slots = 6 ∧ rm1.frames + 1 ≤ 2048 ∧ 8 + (3 + 11) + rm1.locals ≤ 94400) (M1 : Met l yL_errorPosition wsL_errorPosition rm1 (LPc ks kv kf ka kw D k [.ref o, .ref out] wc H.size) (WI D k wc' kr (va_A wc H.size)) 1 6 (va_A wc H.size))
    (hr2 : rm2.cells = 0 ∧ rm2.slots = 0 ∧ rm2.frames + 1 ≤ 2048 ∧ 8 + (1 + 11) + rm2.locals ≤ 94400) (M2 : ∀ sz : Nat, Met l yX13_errorPosition wsX13_errorPosition rm2 (WPc D k [.ref q0] wd sz) (WI D k wd' br (va_A wd sz)) 0 0 (va_A wd sz)) (h2 : wd[0]? = some (q0, .inr (11, fs2)))
    (hr3 : rm3.cells = 0 ∧ rm3.slots = 0 ∧ rm3.frames + 1 ≤ 2048 ∧ 8 + (1 + 11) + rm3.locals ≤ 94400) (M3 : Met l yX13_thrown wsX13_thrown rm3 (RPc D k [.ref q0] wm) (EI th) 0 0 noA) (hm : wd' = wm ++ we) (h3 : wm[0]? = some (q0, .inr (11, fs3)))
    (hth : th = kr)
    (heq : kr = 0 → ou 0 = br.toInt64)
    (hP : va_P D vwCl (wc ++ (wd ++ wr)) H)
    (hD : va_D A (wc ++ (wd ++ wr)))
    (hS : va_S A s.heap H locs)
    (hl : lv_has ls 10 [(0, .ref b), (1, .ref o), (2, .ref q0), (3, .ref out), (4, .ref outd), (5, .int (nI (4 * j)))])
    (kk : ∀ (ls : Array Slot) (H : Heap) (locs : List Loc), lv_has ls 10 [(0, .ref b), (1, .ref o), (2, .ref q0), (3, .ref out), (4, .ref outd), (5, .int (nI (4 * j)))] → va_P D vwCl (wc' ++ (wd' ++ wr)) H → va_D A (wc' ++ (wd' ++ wr)) → va_S A s.heap H locs → W p l e room_1 s m #[Value.ref b] below meth c H locs (cells + 1) (slots + 6) Q (F0 m 2694 ls [])) : W p l e room_1 s m #[Value.ref b] below meth c H locs cells slots Q (F0 m 2259 ls []) := by
  obtain ⟨hF, hK, hN, hXN, hNC, hZ, hKC, hA, hX, hbl, hbA⟩ := id C9
  obtain ⟨hx, hb, hml, hown, hts⟩ := id hF
  refine lv_aload_n hx hb dL_law_2259 rfl (lv_at hl 1 rfl) ?_
  refine lv_aload_n hx hb dL_law_2260 rfl (lv_at hl 3 rfl) ?_
  refine lw_S C9 (As := [.ref o, .ref out]) (rest := []) gL_law_L_errorPosition rfl (maxL := 3) hr1 (n := 2) (by decide +kernel) rfl M1 hc hsl hP hD hS hl.1 rfl (Nat.le_of_ble_eq_true rfl) dL_law_2261 (fun H locs hP hD hS => ?_)
  refine lv_istore (lv' := [(6, .int kr), (0, .ref b), (1, .ref o), (2, .ref q0), (3, .ref out), (4, .ref outd), (5, .int (nI (4 * j)))]) hx hb dL_law_2264 hl (by decide) rfl (fun ls hl => ?_)
  refine lv_aload_n hx hb dL_law_2266 rfl (lv_at hl 3 rfl) ?_
  have hP := l_swP hP
  have hD := l_swD hD
  refine lw_Vi C9 (As := []) (rest := []) gL_law_X13_errorPosition rfl (maxL := 1) hr2 (n := 0) (by decide +kernel) rfl h2 (r9 := _) rfl rfl (M2 _) hc hsl hP hD hS hl.1 rfl (Nat.le_of_ble_eq_true rfl) dL_law_2267 (fun H locs hP hD hS => ?_)
  refine lv_istore (lv' := [(7, .int br), (6, .int kr), (0, .ref b), (1, .ref o), (2, .ref q0), (3, .ref out), (4, .ref outd), (5, .int (nI (4 * j)))]) hx hb dL_law_2270 hl (by decide) rfl (fun ls hl => ?_)
  refine lv_aload_n hx hb dL_law_2272 rfl (lv_at hl 4 rfl) ?_
  refine lw_Ri C9 (As := []) (rest := []) gL_law_X13_thrown rfl (maxL := 1) hr3 (n := 0) (by decide +kernel) rfl h3 (r9 := _) rfl rfl M3 hc hsl (l_P1 (wr := we) (by rw [← hm]; exact l_P1 hP)) hl.1 rfl (Nat.le_of_ble_eq_true rfl) dL_law_2273 ?_
  refine lv_iload hx hb dL_law_2276 (lv_at hl 1 rfl) ?_
  refine lv_icmp_eq (tgt := 2283) hx hb dL_law_2278 (by decide) (fun c_1 => ?_) (fun c_1 => ?_)
  · skip
    refine lv_iload hx hb dL_law_2283 (lv_at hl 1 rfl) ?_
    refine lv_if_ne (tgt := 2300) hx hb dL_law_2285 (by decide) (fun c_2 => ?_) (fun c_2 => ?_)
    · skip
      refine lv_goto (tgt := 2694) hx hb dL_law_2300 (by decide) ?_
      have hP := l_swP hP
      have hD := l_swD hD
      exact kk ls H locs (lv_sub hl [2, 3, 4, 5, 6, 7] rfl) hP hD hS
    · skip
      refine lv_aload_n hx hb dL_law_2288 rfl (lv_at hl 5 rfl) ?_
      refine lv_iconst (v := 0) hx hb dL_law_2289 (by decide) ?_
      have hP := l_swP hP
      have hD := l_swD hD
      refine l_la C9 (l_P1 hP) ho dL_law_2290 ?_
      refine lv_iload hx hb dL_law_2291 (lv_at hl 0 rfl) ?_
      refine lv_i2l hx hb dL_law_2293 rfl ?_
      refine W.lcmp hx hb dL_law_2294 ?_
      refine lv_if_eq (tgt := 2300) hx hb dL_law_2295 (by decide) (fun c_3 => ?_) (fun c_3 => ?_)
      · skip
        refine lv_goto (tgt := 2694) hx hb dL_law_2300 (by decide) ?_
        exact kk ls H locs (lv_sub hl [2, 3, 4, 5, 6, 7] rfl) hP hD hS
      · exact absurd (l_cmp0 (heq c_2)) c_3
  · exact absurd hth c_1

set_option maxHeartbeats 4000000 in
set_option maxRecDepth 100000 in
theorem lc_43 {br : Int32} {ou : Nat → Int64} (ho : wc'[i9]? = some (out, .inl (k 3, 1, .inr (.inl ou)))) (C9 : LC ks kv kf ka kw D k p s m c A b L xs)
    (hc : cells + 1 ≤ 603072)
    (hsl : slots + 6 ≤ 7182442)
    (j : Nat)
    (hj : 4 * j + 4 ≤ L)
    (hL : L ≤ 2048)
    (hr1 : rm1.cells = 1 ∧ rm1.slots = 6 ∧ rm1.frames + 1 ≤ 2048 ∧ 8 + (3 + 11) + rm1.locals ≤ 94400) (M1 : Met l yL_failedCommand wsL_failedCommand rm1 (LPc ks kv kf ka kw D k [.ref o, .ref out] wc H.size) (WI D k wc' kr (va_A wc H.size)) 1 6 (va_A wc H.size))
    (hr2 : rm2.cells = 0 ∧ rm2.slots = 0 ∧ rm2.frames + 1 ≤ 2048 ∧ 8 + (1 + 11) + rm2.locals ≤ 94400) (M2 : ∀ sz : Nat, Met l yX13_failedCommand wsX13_failedCommand rm2 (WPc D k [.ref q0] wd sz) (WI D k wd' br (va_A wd sz)) 0 0 (va_A wd sz)) (h2 : wd[0]? = some (q0, .inr (11, fs2)))
    (hr3 : rm3.cells = 0 ∧ rm3.slots = 0 ∧ rm3.frames + 1 ≤ 2048 ∧ 8 + (1 + 11) + rm3.locals ≤ 94400) (M3 : Met l yX13_thrown wsX13_thrown rm3 (RPc D k [.ref q0] wm) (EI th) 0 0 noA) (hm : wd' = wm ++ we) (h3 : wm[0]? = some (q0, .inr (11, fs3)))
    (hth : th = kr)
    (heq : kr = 0 → ou 0 = br.toInt64)
    (hP : va_P D vwCl (wc ++ (wd ++ wr)) H)
    (hD : va_D A (wc ++ (wd ++ wr)))
    (hS : va_S A s.heap H locs)
    (hl : lv_has ls 10 [(0, .ref b), (1, .ref o), (2, .ref q0), (3, .ref out), (4, .ref outd), (5, .int (nI (4 * j)))])
    (kk : ∀ (ls : Array Slot) (H : Heap) (locs : List Loc), lv_has ls 10 [(0, .ref b), (1, .ref o), (2, .ref q0), (3, .ref out), (4, .ref outd), (5, .int (nI (4 * j)))] → va_P D vwCl (wc' ++ (wd' ++ wr)) H → va_D A (wc' ++ (wd' ++ wr)) → va_S A s.heap H locs → W p l e room_1 s m #[Value.ref b] below meth c H locs (cells + 1) (slots + 6) Q (F0 m 2694 ls [])) : W p l e room_1 s m #[Value.ref b] below meth c H locs cells slots Q (F0 m 2303 ls []) := by
  obtain ⟨hF, hK, hN, hXN, hNC, hZ, hKC, hA, hX, hbl, hbA⟩ := id C9
  obtain ⟨hx, hb, hml, hown, hts⟩ := id hF
  refine lv_aload_n hx hb dL_law_2303 rfl (lv_at hl 1 rfl) ?_
  refine lv_aload_n hx hb dL_law_2304 rfl (lv_at hl 3 rfl) ?_
  refine lw_S C9 (As := [.ref o, .ref out]) (rest := []) gL_law_L_failedCommand rfl (maxL := 3) hr1 (n := 2) (by decide +kernel) rfl M1 hc hsl hP hD hS hl.1 rfl (Nat.le_of_ble_eq_true rfl) dL_law_2305 (fun H locs hP hD hS => ?_)
  refine lv_istore (lv' := [(6, .int kr), (0, .ref b), (1, .ref o), (2, .ref q0), (3, .ref out), (4, .ref outd), (5, .int (nI (4 * j)))]) hx hb dL_law_2308 hl (by decide) rfl (fun ls hl => ?_)
  refine lv_aload_n hx hb dL_law_2310 rfl (lv_at hl 3 rfl) ?_
  have hP := l_swP hP
  have hD := l_swD hD
  refine lw_Vi C9 (As := []) (rest := []) gL_law_X13_failedCommand rfl (maxL := 1) hr2 (n := 0) (by decide +kernel) rfl h2 (r9 := _) rfl rfl (M2 _) hc hsl hP hD hS hl.1 rfl (Nat.le_of_ble_eq_true rfl) dL_law_2311 (fun H locs hP hD hS => ?_)
  refine lv_istore (lv' := [(7, .int br), (6, .int kr), (0, .ref b), (1, .ref o), (2, .ref q0), (3, .ref out), (4, .ref outd), (5, .int (nI (4 * j)))]) hx hb dL_law_2314 hl (by decide) rfl (fun ls hl => ?_)
  refine lv_aload_n hx hb dL_law_2316 rfl (lv_at hl 4 rfl) ?_
  refine lw_Ri C9 (As := []) (rest := []) gL_law_X13_thrown rfl (maxL := 1) hr3 (n := 0) (by decide +kernel) rfl h3 (r9 := _) rfl rfl M3 hc hsl (l_P1 (wr := we) (by rw [← hm]; exact l_P1 hP)) hl.1 rfl (Nat.le_of_ble_eq_true rfl) dL_law_2317 ?_
  refine lv_iload hx hb dL_law_2320 (lv_at hl 1 rfl) ?_
  refine lv_icmp_eq (tgt := 2327) hx hb dL_law_2322 (by decide) (fun c_1 => ?_) (fun c_1 => ?_)
  · skip
    refine lv_iload hx hb dL_law_2327 (lv_at hl 1 rfl) ?_
    refine lv_if_ne (tgt := 2344) hx hb dL_law_2329 (by decide) (fun c_2 => ?_) (fun c_2 => ?_)
    · skip
      refine lv_goto (tgt := 2694) hx hb dL_law_2344 (by decide) ?_
      have hP := l_swP hP
      have hD := l_swD hD
      exact kk ls H locs (lv_sub hl [2, 3, 4, 5, 6, 7] rfl) hP hD hS
    · skip
      refine lv_aload_n hx hb dL_law_2332 rfl (lv_at hl 5 rfl) ?_
      refine lv_iconst (v := 0) hx hb dL_law_2333 (by decide) ?_
      have hP := l_swP hP
      have hD := l_swD hD
      refine l_la C9 (l_P1 hP) ho dL_law_2334 ?_
      refine lv_iload hx hb dL_law_2335 (lv_at hl 0 rfl) ?_
      refine lv_i2l hx hb dL_law_2337 rfl ?_
      refine W.lcmp hx hb dL_law_2338 ?_
      refine lv_if_eq (tgt := 2344) hx hb dL_law_2339 (by decide) (fun c_3 => ?_) (fun c_3 => ?_)
      · skip
        refine lv_goto (tgt := 2694) hx hb dL_law_2344 (by decide) ?_
        exact kk ls H locs (lv_sub hl [2, 3, 4, 5, 6, 7] rfl) hP hD hS
      · exact absurd (l_cmp0 (heq c_2)) c_3
  · exact absurd hth c_1

set_option maxHeartbeats 4000000 in
set_option maxRecDepth 100000 in
theorem lc_44 {br : Int32} {ou : Nat → Int64} (ho : wc'[i9]? = some (out, .inl (k 3, 1, .inr (.inl ou)))) (C9 : LC ks kv kf ka kw D k p s m c A b L xs)
    (hc : cells + 1 ≤ 603072)
    (hsl : slots + 6 ≤ 7182442)
    (j : Nat)
    (hj : 4 * j + 4 ≤ L)
    (hL : L ≤ 2048)
    (hr1 : rm1.cells = 1 ∧ rm1.slots = 6 ∧ rm1.frames + 1 ≤ 2048 ∧ 8 + (4 + 11) + rm1.locals ≤ 94400) (M1 : Met l yL_describeClaim wsL_describeClaim rm1 (LPc ks kv kf ka kw D k [.ref o, .int (xs (4 * j + 1)), .ref out] wc H.size) (WI D k wc' kr (va_A wc H.size)) 1 6 (va_A wc H.size))
    (hr2 : rm2.cells = 0 ∧ rm2.slots = 0 ∧ rm2.frames + 1 ≤ 2048 ∧ 8 + (4 + 11) + rm2.locals ≤ 94400) (M2 : ∀ sz : Nat, Met l yX13_describeClaim wsX13_describeClaim rm2 (WPc D k [.ref q0, .int (xs (4 * j + 1))] wd sz) (WI D k wd' br (va_A wd sz)) 0 0 (va_A wd sz)) (h2 : wd[0]? = some (q0, .inr (11, fs2)))
    (hr3 : rm3.cells = 0 ∧ rm3.slots = 0 ∧ rm3.frames + 1 ≤ 2048 ∧ 8 + (1 + 11) + rm3.locals ≤ 94400) (M3 : Met l yX13_thrown wsX13_thrown rm3 (RPc D k [.ref q0] wm) (EI th) 0 0 noA) (hm : wd' = wm ++ we) (h3 : wm[0]? = some (q0, .inr (11, fs3)))
    (hth : th = kr)
    (heq : kr = 0 → ou 0 = br.toInt64)
    (hP : va_P D vwCl (wc ++ (wd ++ wr)) H)
    (hD : va_D A (wc ++ (wd ++ wr)))
    (hS : va_S A s.heap H locs)
    (hl : lv_has ls 10 [(0, .ref b), (1, .ref o), (2, .ref q0), (3, .ref out), (4, .ref outd), (5, .int (nI (4 * j)))])
    (kk : ∀ (ls : Array Slot) (H : Heap) (locs : List Loc), lv_has ls 10 [(0, .ref b), (1, .ref o), (2, .ref q0), (3, .ref out), (4, .ref outd), (5, .int (nI (4 * j)))] → va_P D vwCl (wc' ++ (wd' ++ wr)) H → va_D A (wc' ++ (wd' ++ wr)) → va_S A s.heap H locs → W p l e room_1 s m #[Value.ref b] below meth c H locs (cells + 1) (slots + 6) Q (F0 m 2694 ls [])) : W p l e room_1 s m #[Value.ref b] below meth c H locs cells slots Q (F0 m 2347 ls []) := by
  obtain ⟨hF, hK, hN, hXN, hNC, hZ, hKC, hA, hX, hbl, hbA⟩ := id C9
  obtain ⟨hx, hb, hml, hown, hts⟩ := id hF
  refine lv_aload_n hx hb dL_law_2347 rfl (lv_at hl 1 rfl) ?_
  refine lv_aload_n hx hb dL_law_2348 rfl (lv_at hl 0 rfl) ?_
  refine lv_iload hx hb dL_law_2349 (lv_at hl 5 rfl) ?_
  refine lv_iconst (v := 1) hx hb dL_law_2351 (by decide) ?_
  refine ni_add hx hb (4 * j) 1 dL_law_2352 ?_
  refine l_sld C9 hS (4 * j + 1) (by omega) hL dL_law_2353 ?_
  refine lv_aload_n hx hb dL_law_2354 rfl (lv_at hl 3 rfl) ?_
  refine lw_S C9 (As := [.ref o, .int (xs (4 * j + 1)), .ref out]) (rest := []) gL_law_L_describeClaim rfl (maxL := 4) hr1 (n := 3) (by decide +kernel) rfl M1 hc hsl hP hD hS hl.1 rfl (Nat.le_of_ble_eq_true rfl) dL_law_2355 (fun H locs hP hD hS => ?_)
  refine lv_istore (lv' := [(6, .int kr), (0, .ref b), (1, .ref o), (2, .ref q0), (3, .ref out), (4, .ref outd), (5, .int (nI (4 * j)))]) hx hb dL_law_2358 hl (by decide) rfl (fun ls hl => ?_)
  refine lv_aload_n hx hb dL_law_2360 rfl (lv_at hl 3 rfl) ?_
  refine lv_aload_n hx hb dL_law_2361 rfl (lv_at hl 1 rfl) ?_
  refine lv_iload hx hb dL_law_2362 (lv_at hl 6 rfl) ?_
  refine lv_iconst (v := 1) hx hb dL_law_2364 (by decide) ?_
  refine ni_add hx hb (4 * j) 1 dL_law_2365 ?_
  refine l_sld C9 hS (4 * j + 1) (by omega) hL dL_law_2366 ?_
  have hP := l_swP hP
  have hD := l_swD hD
  refine lw_Vi C9 (As := [.int (xs (4 * j + 1))]) (rest := []) gL_law_X13_describeClaim rfl (maxL := 4) hr2 (n := 1) (by decide +kernel) rfl h2 (r9 := _) rfl rfl (M2 _) hc hsl hP hD hS hl.1 rfl (Nat.le_of_ble_eq_true rfl) dL_law_2367 (fun H locs hP hD hS => ?_)
  refine lv_istore (lv' := [(7, .int br), (6, .int kr), (0, .ref b), (1, .ref o), (2, .ref q0), (3, .ref out), (4, .ref outd), (5, .int (nI (4 * j)))]) hx hb dL_law_2370 hl (by decide) rfl (fun ls hl => ?_)
  refine lv_aload_n hx hb dL_law_2372 rfl (lv_at hl 4 rfl) ?_
  refine lw_Ri C9 (As := []) (rest := []) gL_law_X13_thrown rfl (maxL := 1) hr3 (n := 0) (by decide +kernel) rfl h3 (r9 := _) rfl rfl M3 hc hsl (l_P1 (wr := we) (by rw [← hm]; exact l_P1 hP)) hl.1 rfl (Nat.le_of_ble_eq_true rfl) dL_law_2373 ?_
  refine lv_iload hx hb dL_law_2376 (lv_at hl 1 rfl) ?_
  refine lv_icmp_eq (tgt := 2383) hx hb dL_law_2378 (by decide) (fun c_1 => ?_) (fun c_1 => ?_)
  · skip
    refine lv_iload hx hb dL_law_2383 (lv_at hl 1 rfl) ?_
    refine lv_if_ne (tgt := 2400) hx hb dL_law_2385 (by decide) (fun c_2 => ?_) (fun c_2 => ?_)
    · skip
      refine lv_goto (tgt := 2694) hx hb dL_law_2400 (by decide) ?_
      have hP := l_swP hP
      have hD := l_swD hD
      exact kk ls H locs (lv_sub hl [2, 3, 4, 5, 6, 7] rfl) hP hD hS
    · skip
      refine lv_aload_n hx hb dL_law_2388 rfl (lv_at hl 5 rfl) ?_
      refine lv_iconst (v := 0) hx hb dL_law_2389 (by decide) ?_
      have hP := l_swP hP
      have hD := l_swD hD
      refine l_la C9 (l_P1 hP) ho dL_law_2390 ?_
      refine lv_iload hx hb dL_law_2391 (lv_at hl 0 rfl) ?_
      refine lv_i2l hx hb dL_law_2393 rfl ?_
      refine W.lcmp hx hb dL_law_2394 ?_
      refine lv_if_eq (tgt := 2400) hx hb dL_law_2395 (by decide) (fun c_3 => ?_) (fun c_3 => ?_)
      · skip
        refine lv_goto (tgt := 2694) hx hb dL_law_2400 (by decide) ?_
        exact kk ls H locs (lv_sub hl [2, 3, 4, 5, 6, 7] rfl) hP hD hS
      · exact absurd (l_cmp0 (heq c_2)) c_3
  · exact absurd hth c_1

set_option maxHeartbeats 4000000 in
set_option maxRecDepth 100000 in
theorem lc_45 {br : Int32} {xr : Int32} (C9 : LC ks kv kf ka kw D k p s m c A b L xs)
    (hc : cells ≤ 603072)
    (hsl : slots ≤ 7182442)
    (j : Nat)
    (hj : 4 * j + 4 ≤ L)
    (hL : L ≤ 2048)
    (hr1 : rm1.cells = 0 ∧ rm1.slots = 0 ∧ rm1.frames + 1 ≤ 2048 ∧ 8 + (3 + 11) + rm1.locals ≤ 94400) (M1 : Met l yX12_describeRacks wsX12_describeRacks rm1 (WPc D k [.ref o] wc H.size) (WI D k wc' xr (va_A wc H.size)) 0 0 (va_A wc H.size)) (h1 : wc[0]? = some (o, .inr (10, fs1)))
    (hr2 : rm2.cells = 0 ∧ rm2.slots = 0 ∧ rm2.frames + 1 ≤ 2048 ∧ 8 + (3 + 11) + rm2.locals ≤ 94400) (M2 : ∀ sz : Nat, Met l yX13_describeRacks wsX13_describeRacks rm2 (WPc D k [.ref q0] wd sz) (WI D k wd' br (va_A wd sz)) 0 0 (va_A wd sz)) (h2 : wd[0]? = some (q0, .inr (11, fs2)))
    (heq : xr = br)
    (hP : va_P D vwCl (wc ++ (wd ++ wr)) H)
    (hD : va_D A (wc ++ (wd ++ wr)))
    (hS : va_S A s.heap H locs)
    (hl : lv_has ls 10 [(0, .ref b), (1, .ref o), (2, .ref q0), (3, .ref out), (4, .ref outd), (5, .int (nI (4 * j)))])
    (kk : ∀ (ls : Array Slot) (H : Heap) (locs : List Loc), lv_has ls 10 [(0, .ref b), (1, .ref o), (2, .ref q0), (3, .ref out), (4, .ref outd), (5, .int (nI (4 * j)))] → va_P D vwCl (wc' ++ (wd' ++ wr)) H → va_D A (wc' ++ (wd' ++ wr)) → va_S A s.heap H locs → W p l e room_1 s m #[Value.ref b] below meth c H locs cells slots Q (F0 m 2694 ls [])) : W p l e room_1 s m #[Value.ref b] below meth c H locs cells slots Q (F0 m 2403 ls []) := by
  obtain ⟨hF, hK, hN, hXN, hNC, hZ, hKC, hA, hX, hbl, hbA⟩ := id C9
  obtain ⟨hx, hb, hml, hown, hts⟩ := id hF
  refine lv_aload_n hx hb dL_law_2403 rfl (lv_at hl 1 rfl) ?_
  refine lw_Vi C9 (As := []) (rest := []) gL_law_X12_describeRacks rfl (maxL := 3) hr1 (n := 0) (by decide +kernel) rfl h1 (r9 := _) rfl rfl M1 hc hsl hP hD hS hl.1 rfl (Nat.le_of_ble_eq_true rfl) dL_law_2404 (fun H locs hP hD hS => ?_)
  refine lv_aload_n hx hb dL_law_2407 rfl (lv_at hl 2 rfl) ?_
  have hP := l_swP hP
  have hD := l_swD hD
  refine lw_Vi C9 (As := []) (rest := [.int xr]) gL_law_X13_describeRacks rfl (maxL := 3) hr2 (n := 0) (by decide +kernel) rfl h2 (r9 := _) rfl rfl (M2 _) hc hsl hP hD hS hl.1 rfl (Nat.le_of_ble_eq_true rfl) dL_law_2408 (fun H locs hP hD hS => ?_)
  refine lv_icmp_eq (tgt := 2694) hx hb dL_law_2411 (by decide) (fun c_1 => ?_) (fun c_1 => ?_)
  · skip
    have hP := l_swP hP
    have hD := l_swD hD
    exact kk ls H locs (lv_sub hl [0, 1, 2, 3, 4, 5] rfl) hP hD hS
  · exact absurd heq c_1

set_option maxHeartbeats 4000000 in
set_option maxRecDepth 100000 in
theorem lc_46 {br : Int32} {ou : Nat → Int64} (ho : wc'[i9]? = some (out, .inl (k 3, 1, .inr (.inl ou)))) (C9 : LC ks kv kf ka kw D k p s m c A b L xs)
    (hc : cells + 1 ≤ 603072)
    (hsl : slots + 6 ≤ 7182442)
    (j : Nat)
    (hj : 4 * j + 4 ≤ L)
    (hL : L ≤ 2048)
    (hr1 : rm1.cells = 1 ∧ rm1.slots = 6 ∧ rm1.frames + 1 ≤ 2048 ∧ 8 + (4 + 11) + rm1.locals ≤ 94400) (M1 : Met l yL_lineAt wsL_lineAt rm1 (LPc ks kv kf ka kw D k [.ref o, .int (xs (4 * j + 1)), .ref out] wc H.size) (WI D k wc' kr (va_A wc H.size)) 1 6 (va_A wc H.size))
    (hr2 : rm2.cells = 0 ∧ rm2.slots = 0 ∧ rm2.frames + 1 ≤ 2048 ∧ 8 + (2 + 11) + rm2.locals ≤ 94400) (M2 : ∀ sz : Nat, Met l yX13_lineAt wsX13_lineAt rm2 (WPc D k [.ref q0, .int (xs (4 * j + 1))] wd sz) (WI D k wd' br (va_A wd sz)) 0 0 (va_A wd sz)) (h2 : wd[0]? = some (q0, .inr (11, fs2)))
    (hr3 : rm3.cells = 0 ∧ rm3.slots = 0 ∧ rm3.frames + 1 ≤ 2048 ∧ 8 + (1 + 11) + rm3.locals ≤ 94400) (M3 : Met l yX13_thrown wsX13_thrown rm3 (RPc D k [.ref q0] wm) (EI th) 0 0 noA) (hm : wd' = wm ++ we) (h3 : wm[0]? = some (q0, .inr (11, fs3)))
    (hth : th = kr)
    (heq : kr = 0 → ou 0 = br.toInt64)
    (hP : va_P D vwCl (wc ++ (wd ++ wr)) H)
    (hD : va_D A (wc ++ (wd ++ wr)))
    (hS : va_S A s.heap H locs)
    (hl : lv_has ls 10 [(0, .ref b), (1, .ref o), (2, .ref q0), (3, .ref out), (4, .ref outd), (5, .int (nI (4 * j)))])
    (kk : ∀ (ls : Array Slot) (H : Heap) (locs : List Loc), lv_has ls 10 [(0, .ref b), (1, .ref o), (2, .ref q0), (3, .ref out), (4, .ref outd), (5, .int (nI (4 * j)))] → va_P D vwCl (wc' ++ (wd' ++ wr)) H → va_D A (wc' ++ (wd' ++ wr)) → va_S A s.heap H locs → W p l e room_1 s m #[Value.ref b] below meth c H locs (cells + 1) (slots + 6) Q (F0 m 2694 ls [])) : W p l e room_1 s m #[Value.ref b] below meth c H locs cells slots Q (F0 m 2416 ls []) := by
  obtain ⟨hF, hK, hN, hXN, hNC, hZ, hKC, hA, hX, hbl, hbA⟩ := id C9
  obtain ⟨hx, hb, hml, hown, hts⟩ := id hF
  refine lv_aload_n hx hb dL_law_2416 rfl (lv_at hl 1 rfl) ?_
  refine lv_aload_n hx hb dL_law_2417 rfl (lv_at hl 0 rfl) ?_
  refine lv_iload hx hb dL_law_2418 (lv_at hl 5 rfl) ?_
  refine lv_iconst (v := 1) hx hb dL_law_2420 (by decide) ?_
  refine ni_add hx hb (4 * j) 1 dL_law_2421 ?_
  refine l_sld C9 hS (4 * j + 1) (by omega) hL dL_law_2422 ?_
  refine lv_aload_n hx hb dL_law_2423 rfl (lv_at hl 3 rfl) ?_
  refine lw_S C9 (As := [.ref o, .int (xs (4 * j + 1)), .ref out]) (rest := []) gL_law_L_lineAt rfl (maxL := 4) hr1 (n := 3) (by decide +kernel) rfl M1 hc hsl hP hD hS hl.1 rfl (Nat.le_of_ble_eq_true rfl) dL_law_2424 (fun H locs hP hD hS => ?_)
  refine lv_istore (lv' := [(6, .int kr), (0, .ref b), (1, .ref o), (2, .ref q0), (3, .ref out), (4, .ref outd), (5, .int (nI (4 * j)))]) hx hb dL_law_2427 hl (by decide) rfl (fun ls hl => ?_)
  refine lv_aload_n hx hb dL_law_2429 rfl (lv_at hl 3 rfl) ?_
  refine lv_aload_n hx hb dL_law_2430 rfl (lv_at hl 1 rfl) ?_
  refine lv_iload hx hb dL_law_2431 (lv_at hl 6 rfl) ?_
  refine lv_iconst (v := 1) hx hb dL_law_2433 (by decide) ?_
  refine ni_add hx hb (4 * j) 1 dL_law_2434 ?_
  refine l_sld C9 hS (4 * j + 1) (by omega) hL dL_law_2435 ?_
  have hP := l_swP hP
  have hD := l_swD hD
  refine lw_Vi C9 (As := [.int (xs (4 * j + 1))]) (rest := []) gL_law_X13_lineAt rfl (maxL := 2) hr2 (n := 1) (by decide +kernel) rfl h2 (r9 := _) rfl rfl (M2 _) hc hsl hP hD hS hl.1 rfl (Nat.le_of_ble_eq_true rfl) dL_law_2436 (fun H locs hP hD hS => ?_)
  refine lv_istore (lv' := [(7, .int br), (6, .int kr), (0, .ref b), (1, .ref o), (2, .ref q0), (3, .ref out), (4, .ref outd), (5, .int (nI (4 * j)))]) hx hb dL_law_2439 hl (by decide) rfl (fun ls hl => ?_)
  refine lv_aload_n hx hb dL_law_2441 rfl (lv_at hl 4 rfl) ?_
  refine lw_Ri C9 (As := []) (rest := []) gL_law_X13_thrown rfl (maxL := 1) hr3 (n := 0) (by decide +kernel) rfl h3 (r9 := _) rfl rfl M3 hc hsl (l_P1 (wr := we) (by rw [← hm]; exact l_P1 hP)) hl.1 rfl (Nat.le_of_ble_eq_true rfl) dL_law_2442 ?_
  refine lv_iload hx hb dL_law_2445 (lv_at hl 1 rfl) ?_
  refine lv_icmp_eq (tgt := 2452) hx hb dL_law_2447 (by decide) (fun c_1 => ?_) (fun c_1 => ?_)
  · skip
    refine lv_iload hx hb dL_law_2452 (lv_at hl 1 rfl) ?_
    refine lv_if_ne (tgt := 2469) hx hb dL_law_2454 (by decide) (fun c_2 => ?_) (fun c_2 => ?_)
    · skip
      refine lv_goto (tgt := 2694) hx hb dL_law_2469 (by decide) ?_
      have hP := l_swP hP
      have hD := l_swD hD
      exact kk ls H locs (lv_sub hl [2, 3, 4, 5, 6, 7] rfl) hP hD hS
    · skip
      refine lv_aload_n hx hb dL_law_2457 rfl (lv_at hl 5 rfl) ?_
      refine lv_iconst (v := 0) hx hb dL_law_2458 (by decide) ?_
      have hP := l_swP hP
      have hD := l_swD hD
      refine l_la C9 (l_P1 hP) ho dL_law_2459 ?_
      refine lv_iload hx hb dL_law_2460 (lv_at hl 0 rfl) ?_
      refine lv_i2l hx hb dL_law_2462 rfl ?_
      refine W.lcmp hx hb dL_law_2463 ?_
      refine lv_if_eq (tgt := 2469) hx hb dL_law_2464 (by decide) (fun c_3 => ?_) (fun c_3 => ?_)
      · skip
        refine lv_goto (tgt := 2694) hx hb dL_law_2469 (by decide) ?_
        exact kk ls H locs (lv_sub hl [2, 3, 4, 5, 6, 7] rfl) hP hD hS
      · exact absurd (l_cmp0 (heq c_2)) c_3
  · exact absurd hth c_1

set_option maxHeartbeats 4000000 in
set_option maxRecDepth 100000 in
theorem lc_47 {br : UInt64} {ou : Nat → UInt64} (ho : wc'[i9]? = some (outd, .inl (k 8, 1, .inr (.inr (.inr (.inl ou)))))) (C9 : LC ks kv kf ka kw D k p s m c A b L xs)
    (hc : cells + 1 ≤ 603072)
    (hsl : slots + 6 ≤ 7182442)
    (j : Nat)
    (hj : 4 * j + 4 ≤ L)
    (hL : L ≤ 2048)
    (hr1 : rm1.cells = 1 ∧ rm1.slots = 6 ∧ rm1.frames + 1 ≤ 2048 ∧ 8 + (3 + 11) + rm1.locals ≤ 94400) (M1 : Met l yL_meanWeight wsL_meanWeight rm1 (LPc ks kv kf ka kw D k [.ref o, .ref outd] wc H.size) (WI D k wc' kr (va_A wc H.size)) 1 6 (va_A wc H.size))
    (hr2 : rm2.cells = 0 ∧ rm2.slots = 0 ∧ rm2.frames + 1 ≤ 2048 ∧ 8 + (1 + 11) + rm2.locals ≤ 94400) (M2 : ∀ sz : Nat, Met l yX13_meanWeight wsX13_meanWeight rm2 (WPc D k [.ref q0] wd sz) (WD D k wd' br (va_A wd sz)) 0 0 (va_A wd sz)) (h2 : wd[0]? = some (q0, .inr (11, fs2)))
    (hr3 : rm3.cells = 0 ∧ rm3.slots = 0 ∧ rm3.frames + 1 ≤ 2048 ∧ 8 + (1 + 11) + rm3.locals ≤ 94400) (M3 : Met l yX13_thrown wsX13_thrown rm3 (RPc D k [.ref q0] wm) (EI th) 0 0 noA) (hm : wd' = wm ++ we) (h3 : wm[0]? = some (q0, .inr (11, fs3)))
    (hth : th = kr)
    (heq : kr = 0 → FP.dcmp (ou 0) br = some .eq)
    (hP : va_P D vwCl (wc ++ (wd ++ wr)) H)
    (hD : va_D A (wc ++ (wd ++ wr)))
    (hS : va_S A s.heap H locs)
    (hl : lv_has ls 10 [(0, .ref b), (1, .ref o), (2, .ref q0), (3, .ref out), (4, .ref outd), (5, .int (nI (4 * j)))])
    (kk : ∀ (ls : Array Slot) (H : Heap) (locs : List Loc), lv_has ls 10 [(0, .ref b), (1, .ref o), (2, .ref q0), (3, .ref out), (4, .ref outd), (5, .int (nI (4 * j)))] → va_P D vwCl (wc' ++ (wd' ++ wr)) H → va_D A (wc' ++ (wd' ++ wr)) → va_S A s.heap H locs → W p l e room_1 s m #[Value.ref b] below meth c H locs (cells + 1) (slots + 6) Q (F0 m 2694 ls [])) : W p l e room_1 s m #[Value.ref b] below meth c H locs cells slots Q (F0 m 2472 ls []) := by
  obtain ⟨hF, hK, hN, hXN, hNC, hZ, hKC, hA, hX, hbl, hbA⟩ := id C9
  obtain ⟨hx, hb, hml, hown, hts⟩ := id hF
  refine lv_aload_n hx hb dL_law_2472 rfl (lv_at hl 1 rfl) ?_
  refine lv_aload hx hb dL_law_2473 (lv_at hl 4 rfl) ?_
  refine lw_S C9 (As := [.ref o, .ref outd]) (rest := []) gL_law_L_meanWeight rfl (maxL := 3) hr1 (n := 2) (by decide +kernel) rfl M1 hc hsl hP hD hS hl.1 rfl (Nat.le_of_ble_eq_true rfl) dL_law_2475 (fun H locs hP hD hS => ?_)
  refine lv_istore (lv' := [(6, .int kr), (0, .ref b), (1, .ref o), (2, .ref q0), (3, .ref out), (4, .ref outd), (5, .int (nI (4 * j)))]) hx hb dL_law_2478 hl (by decide) rfl (fun ls hl => ?_)
  refine lv_aload_n hx hb dL_law_2480 rfl (lv_at hl 3 rfl) ?_
  have hP := l_swP hP
  have hD := l_swD hD
  refine lw_Vd C9 (As := []) (rest := []) gL_law_X13_meanWeight rfl (maxL := 1) hr2 (n := 0) (by decide +kernel) rfl h2 (r9 := _) rfl rfl (M2 _) hc hsl hP hD hS hl.1 rfl (Nat.le_of_ble_eq_true rfl) dL_law_2481 (fun H locs hP hD hS => ?_)
  refine lv_dstore (lv' := [(7, .double br), (6, .int kr), (0, .ref b), (1, .ref o), (2, .ref q0), (3, .ref out), (4, .ref outd), (5, .int (nI (4 * j)))]) hx hb dL_law_2484 hl (by decide) rfl (fun ls hl => ?_)
  refine lv_aload_n hx hb dL_law_2486 rfl (lv_at hl 4 rfl) ?_
  refine lw_Ri C9 (As := []) (rest := []) gL_law_X13_thrown rfl (maxL := 1) hr3 (n := 0) (by decide +kernel) rfl h3 (r9 := _) rfl rfl M3 hc hsl (l_P1 (wr := we) (by rw [← hm]; exact l_P1 hP)) hl.1 rfl (Nat.le_of_ble_eq_true rfl) dL_law_2487 ?_
  refine lv_iload hx hb dL_law_2490 (lv_at hl 1 rfl) ?_
  refine lv_icmp_eq (tgt := 2497) hx hb dL_law_2492 (by decide) (fun c_1 => ?_) (fun c_1 => ?_)
  · skip
    refine lv_iload hx hb dL_law_2497 (lv_at hl 1 rfl) ?_
    refine lv_if_ne (tgt := 2534) hx hb dL_law_2499 (by decide) (fun c_2 => ?_) (fun c_2 => ?_)
    · skip
      refine lv_goto (tgt := 2694) hx hb dL_law_2534 (by decide) ?_
      have hP := l_swP hP
      have hD := l_swD hD
      exact kk ls H locs (lv_sub hl [2, 3, 4, 5, 6, 7] rfl) hP hD hS
    · skip
      refine lv_aload hx hb dL_law_2502 (lv_at hl 6 rfl) ?_
      refine lv_iconst (v := 0) hx hb dL_law_2504 (by decide) ?_
      have hP := l_swP hP
      have hD := l_swD hD
      refine l_da C9 (l_P1 hP) ho dL_law_2505 ?_
      refine lv_dload hx hb dL_law_2506 (lv_at hl 0 rfl) ?_
      refine lv_dcmp hx hb dL_law_2508 ?_
      refine lv_if_eq (tgt := 2534) hx hb dL_law_2509 (by decide) (fun c_3 => ?_) (fun c_3 => ?_)
      · skip
        refine lv_goto (tgt := 2694) hx hb dL_law_2534 (by decide) ?_
        exact kk ls H locs (lv_sub hl [2, 3, 4, 5, 6, 7] rfl) hP hD hS
      · exact absurd ((cmv_eq _ _).mpr (heq c_2)) c_3
  · exact absurd hth c_1

set_option maxHeartbeats 4000000 in
set_option maxRecDepth 100000 in
theorem lc_48 {br : Int64} {ou : Nat → Int64} (ho : wc'[i9]? = some (out, .inl (k 3, 1, .inr (.inl ou)))) (C9 : LC ks kv kf ka kw D k p s m c A b L xs)
    (hc : cells + 1 ≤ 603072)
    (hsl : slots + 6 ≤ 7182442)
    (j : Nat)
    (hj : 4 * j + 4 ≤ L)
    (hL : L ≤ 2048)
    (hr1 : rm1.cells = 1 ∧ rm1.slots = 6 ∧ rm1.frames + 1 ≤ 2048 ∧ 8 + (3 + 11) + rm1.locals ≤ 94400) (M1 : Met l yL_meanWeightBits wsL_meanWeightBits rm1 (LPc ks kv kf ka kw D k [.ref o, .ref out] wc H.size) (WI D k wc' kr (va_A wc H.size)) 1 6 (va_A wc H.size))
    (hr2 : rm2.cells = 0 ∧ rm2.slots = 0 ∧ rm2.frames + 1 ≤ 2048 ∧ 8 + (3 + 11) + rm2.locals ≤ 94400) (M2 : ∀ sz : Nat, Met l yX13_meanWeightBits wsX13_meanWeightBits rm2 (WPc D k [.ref q0] wd sz) (WL D k wd' br (va_A wd sz)) 0 0 (va_A wd sz)) (h2 : wd[0]? = some (q0, .inr (11, fs2)))
    (hr3 : rm3.cells = 0 ∧ rm3.slots = 0 ∧ rm3.frames + 1 ≤ 2048 ∧ 8 + (1 + 11) + rm3.locals ≤ 94400) (M3 : Met l yX13_thrown wsX13_thrown rm3 (RPc D k [.ref q0] wm) (EI th) 0 0 noA) (hm : wd' = wm ++ we) (h3 : wm[0]? = some (q0, .inr (11, fs3)))
    (hth : th = kr)
    (heq : kr = 0 → ou 0 = br)
    (hP : va_P D vwCl (wc ++ (wd ++ wr)) H)
    (hD : va_D A (wc ++ (wd ++ wr)))
    (hS : va_S A s.heap H locs)
    (hl : lv_has ls 10 [(0, .ref b), (1, .ref o), (2, .ref q0), (3, .ref out), (4, .ref outd), (5, .int (nI (4 * j)))])
    (kk : ∀ (ls : Array Slot) (H : Heap) (locs : List Loc), lv_has ls 10 [(0, .ref b), (1, .ref o), (2, .ref q0), (3, .ref out), (4, .ref outd), (5, .int (nI (4 * j)))] → va_P D vwCl (wc' ++ (wd' ++ wr)) H → va_D A (wc' ++ (wd' ++ wr)) → va_S A s.heap H locs → W p l e room_1 s m #[Value.ref b] below meth c H locs (cells + 1) (slots + 6) Q (F0 m 2694 ls [])) : W p l e room_1 s m #[Value.ref b] below meth c H locs cells slots Q (F0 m 2537 ls []) := by
  obtain ⟨hF, hK, hN, hXN, hNC, hZ, hKC, hA, hX, hbl, hbA⟩ := id C9
  obtain ⟨hx, hb, hml, hown, hts⟩ := id hF
  refine lv_aload_n hx hb dL_law_2537 rfl (lv_at hl 1 rfl) ?_
  refine lv_aload_n hx hb dL_law_2538 rfl (lv_at hl 3 rfl) ?_
  refine lw_S C9 (As := [.ref o, .ref out]) (rest := []) gL_law_L_meanWeightBits rfl (maxL := 3) hr1 (n := 2) (by decide +kernel) rfl M1 hc hsl hP hD hS hl.1 rfl (Nat.le_of_ble_eq_true rfl) dL_law_2539 (fun H locs hP hD hS => ?_)
  refine lv_istore (lv' := [(6, .int kr), (0, .ref b), (1, .ref o), (2, .ref q0), (3, .ref out), (4, .ref outd), (5, .int (nI (4 * j)))]) hx hb dL_law_2542 hl (by decide) rfl (fun ls hl => ?_)
  refine lv_aload_n hx hb dL_law_2544 rfl (lv_at hl 3 rfl) ?_
  have hP := l_swP hP
  have hD := l_swD hD
  refine lw_Vl C9 (As := []) (rest := []) gL_law_X13_meanWeightBits rfl (maxL := 3) hr2 (n := 0) (by decide +kernel) rfl h2 (r9 := _) rfl rfl (M2 _) hc hsl hP hD hS hl.1 rfl (Nat.le_of_ble_eq_true rfl) dL_law_2545 (fun H locs hP hD hS => ?_)
  refine lv_lstore (lv' := [(7, .long br), (6, .int kr), (0, .ref b), (1, .ref o), (2, .ref q0), (3, .ref out), (4, .ref outd), (5, .int (nI (4 * j)))]) hx hb dL_law_2548 hl (by decide) rfl (fun ls hl => ?_)
  refine lv_aload_n hx hb dL_law_2550 rfl (lv_at hl 4 rfl) ?_
  refine lw_Ri C9 (As := []) (rest := []) gL_law_X13_thrown rfl (maxL := 1) hr3 (n := 0) (by decide +kernel) rfl h3 (r9 := _) rfl rfl M3 hc hsl (l_P1 (wr := we) (by rw [← hm]; exact l_P1 hP)) hl.1 rfl (Nat.le_of_ble_eq_true rfl) dL_law_2551 ?_
  refine lv_iload hx hb dL_law_2554 (lv_at hl 1 rfl) ?_
  refine lv_icmp_eq (tgt := 2561) hx hb dL_law_2556 (by decide) (fun c_1 => ?_) (fun c_1 => ?_)
  · skip
    refine lv_iload hx hb dL_law_2561 (lv_at hl 1 rfl) ?_
    refine lv_if_ne (tgt := 2577) hx hb dL_law_2563 (by decide) (fun c_2 => ?_) (fun c_2 => ?_)
    · skip
      refine lv_goto (tgt := 2694) hx hb dL_law_2577 (by decide) ?_
      have hP := l_swP hP
      have hD := l_swD hD
      exact kk ls H locs (lv_sub hl [2, 3, 4, 5, 6, 7] rfl) hP hD hS
    · skip
      refine lv_aload_n hx hb dL_law_2566 rfl (lv_at hl 5 rfl) ?_
      refine lv_iconst (v := 0) hx hb dL_law_2567 (by decide) ?_
      have hP := l_swP hP
      have hD := l_swD hD
      refine l_la C9 (l_P1 hP) ho dL_law_2568 ?_
      refine lv_lload hx hb dL_law_2569 (lv_at hl 0 rfl) ?_
      refine W.lcmp hx hb dL_law_2571 ?_
      refine lv_if_eq (tgt := 2577) hx hb dL_law_2572 (by decide) (fun c_3 => ?_) (fun c_3 => ?_)
      · skip
        refine lv_goto (tgt := 2694) hx hb dL_law_2577 (by decide) ?_
        exact kk ls H locs (lv_sub hl [2, 3, 4, 5, 6, 7] rfl) hP hD hS
      · exact absurd (l_cmp0 (heq c_2)) c_3
  · exact absurd hth c_1

set_option maxHeartbeats 4000000 in
set_option maxRecDepth 100000 in
theorem lc_49 {br : Int32} {xr : Int32} (C9 : LC ks kv kf ka kw D k p s m c A b L xs)
    (hc : cells ≤ 603072)
    (hsl : slots ≤ 7182442)
    (j : Nat)
    (hj : 4 * j + 4 ≤ L)
    (hL : L ≤ 2048)
    (hr1 : rm1.cells = 0 ∧ rm1.slots = 0 ∧ rm1.frames + 1 ≤ 2048 ∧ 8 + (1 + 11) + rm1.locals ≤ 94400) (M1 : Met l yX12_isConsistent wsX12_isConsistent rm1 (WPc D k [.ref o] wc H.size) (WI D k wc' xr (va_A wc H.size)) 0 0 (va_A wc H.size)) (h1 : wc[0]? = some (o, .inr (10, fs1)))
    (hr2 : rm2.cells = 0 ∧ rm2.slots = 0 ∧ rm2.frames + 1 ≤ 2048 ∧ 8 + (1 + 11) + rm2.locals ≤ 94400) (M2 : ∀ sz : Nat, Met l yX13_isConsistent wsX13_isConsistent rm2 (WPc D k [.ref q0] wd sz) (WI D k wd' br (va_A wd sz)) 0 0 (va_A wd sz)) (h2 : wd[0]? = some (q0, .inr (11, fs2)))
    (heq : xr = br)
    (hP : va_P D vwCl (wc ++ (wd ++ wr)) H)
    (hD : va_D A (wc ++ (wd ++ wr)))
    (hS : va_S A s.heap H locs)
    (hl : lv_has ls 10 [(0, .ref b), (1, .ref o), (2, .ref q0), (3, .ref out), (4, .ref outd), (5, .int (nI (4 * j)))])
    (kk : ∀ (ls : Array Slot) (H : Heap) (locs : List Loc), lv_has ls 10 [(0, .ref b), (1, .ref o), (2, .ref q0), (3, .ref out), (4, .ref outd), (5, .int (nI (4 * j)))] → va_P D vwCl (wc' ++ (wd' ++ wr)) H → va_D A (wc' ++ (wd' ++ wr)) → va_S A s.heap H locs → W p l e room_1 s m #[Value.ref b] below meth c H locs cells slots Q (F0 m 2694 ls [])) : W p l e room_1 s m #[Value.ref b] below meth c H locs cells slots Q (F0 m 2580 ls []) := by
  obtain ⟨hF, hK, hN, hXN, hNC, hZ, hKC, hA, hX, hbl, hbA⟩ := id C9
  obtain ⟨hx, hb, hml, hown, hts⟩ := id hF
  refine lv_aload_n hx hb dL_law_2580 rfl (lv_at hl 1 rfl) ?_
  refine lw_Vi C9 (As := []) (rest := []) gL_law_X12_isConsistent rfl (maxL := 1) hr1 (n := 0) (by decide +kernel) rfl h1 (r9 := _) rfl rfl M1 hc hsl hP hD hS hl.1 rfl (Nat.le_of_ble_eq_true rfl) dL_law_2581 (fun H locs hP hD hS => ?_)
  refine lv_aload_n hx hb dL_law_2584 rfl (lv_at hl 2 rfl) ?_
  have hP := l_swP hP
  have hD := l_swD hD
  refine lw_Vi C9 (As := []) (rest := [.int xr]) gL_law_X13_isConsistent rfl (maxL := 1) hr2 (n := 0) (by decide +kernel) rfl h2 (r9 := _) rfl rfl (M2 _) hc hsl hP hD hS hl.1 rfl (Nat.le_of_ble_eq_true rfl) dL_law_2585 (fun H locs hP hD hS => ?_)
  refine lv_icmp_eq (tgt := 2694) hx hb dL_law_2588 (by decide) (fun c_1 => ?_) (fun c_1 => ?_)
  · skip
    have hP := l_swP hP
    have hD := l_swD hD
    exact kk ls H locs (lv_sub hl [0, 1, 2, 3, 4, 5] rfl) hP hD hS
  · exact absurd heq c_1

set_option maxHeartbeats 4000000 in
set_option maxRecDepth 100000 in
theorem lc_50 {br : Int32} {ou : Nat → Int64} (ho : wc'[i9]? = some (out, .inl (k 3, 1, .inr (.inl ou)))) (C9 : LC ks kv kf ka kw D k p s m c A b L xs)
    (hc : cells + 1 ≤ 603072)
    (hsl : slots + 6 ≤ 7182442)
    (j : Nat)
    (hj : 4 * j + 4 ≤ L)
    (hL : L ≤ 2048)
    (hr1 : rm1.cells = 1 ∧ rm1.slots = 6 ∧ rm1.frames + 1 ≤ 2048 ∧ 8 + (3 + 11) + rm1.locals ≤ 94400) (M1 : Met l yL_undo wsL_undo rm1 (LPc ks kv kf ka kw D k [.ref o, .ref out] wc H.size) (WI D k wc' kr (va_A wc H.size)) 1 6 (va_A wc H.size))
    (hr2 : rm2.cells = 0 ∧ rm2.slots = 0 ∧ rm2.frames + 1 ≤ 2048 ∧ 8 + (2 + 11) + rm2.locals ≤ 94400) (M2 : ∀ sz : Nat, Met l yX13_undo wsX13_undo rm2 (WPc D k [.ref q0] wd sz) (WI D k wd' br (va_A wd sz)) 0 0 (va_A wd sz)) (h2 : wd[0]? = some (q0, .inr (11, fs2)))
    (hr3 : rm3.cells = 0 ∧ rm3.slots = 0 ∧ rm3.frames + 1 ≤ 2048 ∧ 8 + (1 + 11) + rm3.locals ≤ 94400) (M3 : Met l yX13_thrown wsX13_thrown rm3 (RPc D k [.ref q0] wm) (EI th) 0 0 noA) (hm : wd' = wm ++ we) (h3 : wm[0]? = some (q0, .inr (11, fs3)))
    (hth : th = kr)
    (heq : kr = 0 → ou 0 = br.toInt64)
    (hP : va_P D vwCl (wc ++ (wd ++ wr)) H)
    (hD : va_D A (wc ++ (wd ++ wr)))
    (hS : va_S A s.heap H locs)
    (hl : lv_has ls 10 [(0, .ref b), (1, .ref o), (2, .ref q0), (3, .ref out), (4, .ref outd), (5, .int (nI (4 * j)))])
    (kk : ∀ (ls : Array Slot) (H : Heap) (locs : List Loc), lv_has ls 10 [(0, .ref b), (1, .ref o), (2, .ref q0), (3, .ref out), (4, .ref outd), (5, .int (nI (4 * j)))] → va_P D vwCl (wc' ++ (wd' ++ wr)) H → va_D A (wc' ++ (wd' ++ wr)) → va_S A s.heap H locs → W p l e room_1 s m #[Value.ref b] below meth c H locs (cells + 1) (slots + 6) Q (F0 m 2694 ls [])) : W p l e room_1 s m #[Value.ref b] below meth c H locs cells slots Q (F0 m 2593 ls []) := by
  obtain ⟨hF, hK, hN, hXN, hNC, hZ, hKC, hA, hX, hbl, hbA⟩ := id C9
  obtain ⟨hx, hb, hml, hown, hts⟩ := id hF
  refine lv_aload_n hx hb dL_law_2593 rfl (lv_at hl 1 rfl) ?_
  refine lv_aload_n hx hb dL_law_2594 rfl (lv_at hl 3 rfl) ?_
  refine lw_S C9 (As := [.ref o, .ref out]) (rest := []) gL_law_L_undo rfl (maxL := 3) hr1 (n := 2) (by decide +kernel) rfl M1 hc hsl hP hD hS hl.1 rfl (Nat.le_of_ble_eq_true rfl) dL_law_2595 (fun H locs hP hD hS => ?_)
  refine lv_istore (lv' := [(6, .int kr), (0, .ref b), (1, .ref o), (2, .ref q0), (3, .ref out), (4, .ref outd), (5, .int (nI (4 * j)))]) hx hb dL_law_2598 hl (by decide) rfl (fun ls hl => ?_)
  refine lv_aload_n hx hb dL_law_2600 rfl (lv_at hl 3 rfl) ?_
  have hP := l_swP hP
  have hD := l_swD hD
  refine lw_Vi C9 (As := []) (rest := []) gL_law_X13_undo rfl (maxL := 2) hr2 (n := 0) (by decide +kernel) rfl h2 (r9 := _) rfl rfl (M2 _) hc hsl hP hD hS hl.1 rfl (Nat.le_of_ble_eq_true rfl) dL_law_2601 (fun H locs hP hD hS => ?_)
  refine lv_istore (lv' := [(7, .int br), (6, .int kr), (0, .ref b), (1, .ref o), (2, .ref q0), (3, .ref out), (4, .ref outd), (5, .int (nI (4 * j)))]) hx hb dL_law_2604 hl (by decide) rfl (fun ls hl => ?_)
  refine lv_aload_n hx hb dL_law_2606 rfl (lv_at hl 4 rfl) ?_
  refine lw_Ri C9 (As := []) (rest := []) gL_law_X13_thrown rfl (maxL := 1) hr3 (n := 0) (by decide +kernel) rfl h3 (r9 := _) rfl rfl M3 hc hsl (l_P1 (wr := we) (by rw [← hm]; exact l_P1 hP)) hl.1 rfl (Nat.le_of_ble_eq_true rfl) dL_law_2607 ?_
  refine lv_iload hx hb dL_law_2610 (lv_at hl 1 rfl) ?_
  refine lv_icmp_eq (tgt := 2617) hx hb dL_law_2612 (by decide) (fun c_1 => ?_) (fun c_1 => ?_)
  · skip
    refine lv_iload hx hb dL_law_2617 (lv_at hl 1 rfl) ?_
    refine lv_if_ne (tgt := 2634) hx hb dL_law_2619 (by decide) (fun c_2 => ?_) (fun c_2 => ?_)
    · skip
      refine lv_goto (tgt := 2694) hx hb dL_law_2634 (by decide) ?_
      have hP := l_swP hP
      have hD := l_swD hD
      exact kk ls H locs (lv_sub hl [2, 3, 4, 5, 6, 7] rfl) hP hD hS
    · skip
      refine lv_aload_n hx hb dL_law_2622 rfl (lv_at hl 5 rfl) ?_
      refine lv_iconst (v := 0) hx hb dL_law_2623 (by decide) ?_
      have hP := l_swP hP
      have hD := l_swD hD
      refine l_la C9 (l_P1 hP) ho dL_law_2624 ?_
      refine lv_iload hx hb dL_law_2625 (lv_at hl 0 rfl) ?_
      refine lv_i2l hx hb dL_law_2627 rfl ?_
      refine W.lcmp hx hb dL_law_2628 ?_
      refine lv_if_eq (tgt := 2634) hx hb dL_law_2629 (by decide) (fun c_3 => ?_) (fun c_3 => ?_)
      · skip
        refine lv_goto (tgt := 2694) hx hb dL_law_2634 (by decide) ?_
        exact kk ls H locs (lv_sub hl [2, 3, 4, 5, 6, 7] rfl) hP hD hS
      · exact absurd (l_cmp0 (heq c_2)) c_3
  · exact absurd hth c_1

set_option maxHeartbeats 4000000 in
set_option maxRecDepth 100000 in
theorem lc_51 {br : Int32} {xr : Int32} (C9 : LC ks kv kf ka kw D k p s m c A b L xs)
    (hc : cells ≤ 603072)
    (hsl : slots ≤ 7182442)
    (j : Nat)
    (hj : 4 * j + 4 ≤ L)
    (hL : L ≤ 2048)
    (hr1 : rm1.cells = 0 ∧ rm1.slots = 0 ∧ rm1.frames + 1 ≤ 2048 ∧ 8 + (1 + 11) + rm1.locals ≤ 94400) (M1 : Met l yX12_save wsX12_save rm1 (WPc D k [.ref o] wc H.size) (WI D k wc' xr (va_A wc H.size)) 0 0 (va_A wc H.size)) (h1 : wc[0]? = some (o, .inr (10, fs1)))
    (hr2 : rm2.cells = 0 ∧ rm2.slots = 0 ∧ rm2.frames + 1 ≤ 2048 ∧ 8 + (1 + 11) + rm2.locals ≤ 94400) (M2 : ∀ sz : Nat, Met l yX13_save wsX13_save rm2 (WPc D k [.ref q0] wd sz) (WI D k wd' br (va_A wd sz)) 0 0 (va_A wd sz)) (h2 : wd[0]? = some (q0, .inr (11, fs2)))
    (heq : xr = br)
    (hP : va_P D vwCl (wc ++ (wd ++ wr)) H)
    (hD : va_D A (wc ++ (wd ++ wr)))
    (hS : va_S A s.heap H locs)
    (hl : lv_has ls 10 [(0, .ref b), (1, .ref o), (2, .ref q0), (3, .ref out), (4, .ref outd), (5, .int (nI (4 * j)))])
    (kk : ∀ (ls : Array Slot) (H : Heap) (locs : List Loc), lv_has ls 10 [(0, .ref b), (1, .ref o), (2, .ref q0), (3, .ref out), (4, .ref outd), (5, .int (nI (4 * j)))] → va_P D vwCl (wc' ++ (wd' ++ wr)) H → va_D A (wc' ++ (wd' ++ wr)) → va_S A s.heap H locs → W p l e room_1 s m #[Value.ref b] below meth c H locs cells slots Q (F0 m 2694 ls [])) : W p l e room_1 s m #[Value.ref b] below meth c H locs cells slots Q (F0 m 2637 ls []) := by
  obtain ⟨hF, hK, hN, hXN, hNC, hZ, hKC, hA, hX, hbl, hbA⟩ := id C9
  obtain ⟨hx, hb, hml, hown, hts⟩ := id hF
  refine lv_aload_n hx hb dL_law_2637 rfl (lv_at hl 1 rfl) ?_
  refine lw_Vi C9 (As := []) (rest := []) gL_law_X12_save rfl (maxL := 1) hr1 (n := 0) (by decide +kernel) rfl h1 (r9 := _) rfl rfl M1 hc hsl hP hD hS hl.1 rfl (Nat.le_of_ble_eq_true rfl) dL_law_2638 (fun H locs hP hD hS => ?_)
  refine lv_aload_n hx hb dL_law_2641 rfl (lv_at hl 2 rfl) ?_
  have hP := l_swP hP
  have hD := l_swD hD
  refine lw_Vi C9 (As := []) (rest := [.int xr]) gL_law_X13_save rfl (maxL := 1) hr2 (n := 0) (by decide +kernel) rfl h2 (r9 := _) rfl rfl (M2 _) hc hsl hP hD hS hl.1 rfl (Nat.le_of_ble_eq_true rfl) dL_law_2642 (fun H locs hP hD hS => ?_)
  refine lv_icmp_eq (tgt := 2694) hx hb dL_law_2645 (by decide) (fun c_1 => ?_) (fun c_1 => ?_)
  · skip
    have hP := l_swP hP
    have hD := l_swD hD
    exact kk ls H locs (lv_sub hl [0, 1, 2, 3, 4, 5] rfl) hP hD hS
  · exact absurd heq c_1

set_option maxHeartbeats 4000000 in
set_option maxRecDepth 100000 in
theorem lc_52 {br : Int32} {ou : Nat → Int64} (ho : wc'[i9]? = some (out, .inl (k 3, 1, .inr (.inl ou)))) (C9 : LC ks kv kf ka kw D k p s m c A b L xs)
    (hc : cells + 1 ≤ 603072)
    (hsl : slots + 6 ≤ 7182442)
    (j : Nat)
    (hj : 4 * j + 4 ≤ L)
    (hL : L ≤ 2048)
    (hr1 : rm1.cells = 1 ∧ rm1.slots = 6 ∧ rm1.frames + 1 ≤ 2048 ∧ 8 + (3 + 11) + rm1.locals ≤ 94400) (M1 : Met l yL_restore wsL_restore rm1 (LPc ks kv kf ka kw D k [.ref o, .ref out] wc H.size) (WI D k wc' kr (va_A wc H.size)) 1 6 (va_A wc H.size))
    (hr2 : rm2.cells = 0 ∧ rm2.slots = 0 ∧ rm2.frames + 1 ≤ 2048 ∧ 8 + (1 + 11) + rm2.locals ≤ 94400) (M2 : ∀ sz : Nat, Met l yX13_restore wsX13_restore rm2 (WPc D k [.ref q0] wd sz) (WI D k wd' br (va_A wd sz)) 0 0 (va_A wd sz)) (h2 : wd[0]? = some (q0, .inr (11, fs2)))
    (hr3 : rm3.cells = 0 ∧ rm3.slots = 0 ∧ rm3.frames + 1 ≤ 2048 ∧ 8 + (1 + 11) + rm3.locals ≤ 94400) (M3 : Met l yX13_thrown wsX13_thrown rm3 (RPc D k [.ref q0] wm) (EI th) 0 0 noA) (hm : wd' = wm ++ we) (h3 : wm[0]? = some (q0, .inr (11, fs3)))
    (hth : th = kr)
    (heq : kr = 0 → ou 0 = br.toInt64)
    (hP : va_P D vwCl (wc ++ (wd ++ wr)) H)
    (hD : va_D A (wc ++ (wd ++ wr)))
    (hS : va_S A s.heap H locs)
    (hl : lv_has ls 10 [(0, .ref b), (1, .ref o), (2, .ref q0), (3, .ref out), (4, .ref outd), (5, .int (nI (4 * j)))])
    (kk : ∀ (ls : Array Slot) (H : Heap) (locs : List Loc), lv_has ls 10 [(0, .ref b), (1, .ref o), (2, .ref q0), (3, .ref out), (4, .ref outd), (5, .int (nI (4 * j)))] → va_P D vwCl (wc' ++ (wd' ++ wr)) H → va_D A (wc' ++ (wd' ++ wr)) → va_S A s.heap H locs → W p l e room_1 s m #[Value.ref b] below meth c H locs (cells + 1) (slots + 6) Q (F0 m 2694 ls [])) : W p l e room_1 s m #[Value.ref b] below meth c H locs cells slots Q (F0 m 2650 ls []) := by
  obtain ⟨hF, hK, hN, hXN, hNC, hZ, hKC, hA, hX, hbl, hbA⟩ := id C9
  obtain ⟨hx, hb, hml, hown, hts⟩ := id hF
  refine lv_aload_n hx hb dL_law_2650 rfl (lv_at hl 1 rfl) ?_
  refine lv_aload_n hx hb dL_law_2651 rfl (lv_at hl 3 rfl) ?_
  refine lw_S C9 (As := [.ref o, .ref out]) (rest := []) gL_law_L_restore rfl (maxL := 3) hr1 (n := 2) (by decide +kernel) rfl M1 hc hsl hP hD hS hl.1 rfl (Nat.le_of_ble_eq_true rfl) dL_law_2652 (fun H locs hP hD hS => ?_)
  refine lv_istore (lv' := [(6, .int kr), (0, .ref b), (1, .ref o), (2, .ref q0), (3, .ref out), (4, .ref outd), (5, .int (nI (4 * j)))]) hx hb dL_law_2655 hl (by decide) rfl (fun ls hl => ?_)
  refine lv_aload_n hx hb dL_law_2657 rfl (lv_at hl 3 rfl) ?_
  have hP := l_swP hP
  have hD := l_swD hD
  refine lw_Vi C9 (As := []) (rest := []) gL_law_X13_restore rfl (maxL := 1) hr2 (n := 0) (by decide +kernel) rfl h2 (r9 := _) rfl rfl (M2 _) hc hsl hP hD hS hl.1 rfl (Nat.le_of_ble_eq_true rfl) dL_law_2658 (fun H locs hP hD hS => ?_)
  refine lv_istore (lv' := [(7, .int br), (6, .int kr), (0, .ref b), (1, .ref o), (2, .ref q0), (3, .ref out), (4, .ref outd), (5, .int (nI (4 * j)))]) hx hb dL_law_2661 hl (by decide) rfl (fun ls hl => ?_)
  refine lv_aload_n hx hb dL_law_2663 rfl (lv_at hl 4 rfl) ?_
  refine lw_Ri C9 (As := []) (rest := []) gL_law_X13_thrown rfl (maxL := 1) hr3 (n := 0) (by decide +kernel) rfl h3 (r9 := _) rfl rfl M3 hc hsl (l_P1 (wr := we) (by rw [← hm]; exact l_P1 hP)) hl.1 rfl (Nat.le_of_ble_eq_true rfl) dL_law_2664 ?_
  refine lv_iload hx hb dL_law_2667 (lv_at hl 1 rfl) ?_
  refine lv_icmp_eq (tgt := 2674) hx hb dL_law_2669 (by decide) (fun c_1 => ?_) (fun c_1 => ?_)
  · skip
    refine lv_iload hx hb dL_law_2674 (lv_at hl 1 rfl) ?_
    refine lv_if_ne (tgt := 2691) hx hb dL_law_2676 (by decide) (fun c_2 => ?_) (fun c_2 => ?_)
    · skip
      refine lv_goto (tgt := 2694) hx hb dL_law_2691 (by decide) ?_
      have hP := l_swP hP
      have hD := l_swD hD
      exact kk ls H locs (lv_sub hl [2, 3, 4, 5, 6, 7] rfl) hP hD hS
    · skip
      refine lv_aload_n hx hb dL_law_2679 rfl (lv_at hl 5 rfl) ?_
      refine lv_iconst (v := 0) hx hb dL_law_2680 (by decide) ?_
      have hP := l_swP hP
      have hD := l_swD hD
      refine l_la C9 (l_P1 hP) ho dL_law_2681 ?_
      refine lv_iload hx hb dL_law_2682 (lv_at hl 0 rfl) ?_
      refine lv_i2l hx hb dL_law_2684 rfl ?_
      refine W.lcmp hx hb dL_law_2685 ?_
      refine lv_if_eq (tgt := 2691) hx hb dL_law_2686 (by decide) (fun c_3 => ?_) (fun c_3 => ?_)
      · skip
        refine lv_goto (tgt := 2694) hx hb dL_law_2691 (by decide) ?_
        exact kk ls H locs (lv_sub hl [2, 3, 4, 5, 6, 7] rfl) hP hD hS
      · exact absurd (l_cmp0 (heq c_2)) c_3
  · exact absurd hth c_1

end LAWC

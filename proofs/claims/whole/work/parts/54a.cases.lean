/-! The law's cases 0 to 4, over worlds in pieces. -/
theorem l_cmp0 {x y : Int64} (h : x = y) : lg_cmp x y = 0 := (lg_cmp_eq x y).mpr h
section LAWC
variable {p : Program} {l : Launch} {e : Env} {s : State} {m : MethodId} {below : List Frame} {meth : Method} {c : Code} {H : Heap} {locs : List Loc} {cells slots : Nat} {Q : State → Prop}
variable {ls : Array Slot} {D : va_G} {k : Nat → ClassId} {A : Nat → Prop} {wc wc' wd wd' wm we wr : va_W} {ks kv kf : Nat → Nat} {ka kw b L o q0 out outd i9 : Nat} {xs : Nat → Int32} {fs1 fs2 fs3 : List Value} {kr th bv : Int32} {rm1 rm2 rm3 : Room}

set_option maxHeartbeats 4000000 in
set_option maxRecDepth 100000 in
theorem lc_0 {br : Int32} {ou : Nat → Int64} (ho : wc'[i9]? = some (out, .inl (k 3, 1, .inr (.inl ou)))) (C9 : LC ks kv kf ka kw D k p s m c A b L xs)
    (hc : cells + 1 ≤ 603072)
    (hsl : slots + 6 ≤ 7182442)
    (j : Nat)
    (hj : 4 * j + 4 ≤ L)
    (hL : L ≤ 2048)
    (hr1 : rm1.cells = 1 ∧ rm1.slots = 6 ∧ rm1.frames + 1 ≤ 2048 ∧ 8 + (4 + 11) + rm1.locals ≤ 94400) (M1 : Met l yL_addClaim wsL_addClaim rm1 (LPc ks kv kf ka kw D k [.ref o, .int (xs (4 * j + 1)), .ref out] wc H.size) (WI D k wc' kr (va_A wc H.size)) 1 6 (va_A wc H.size))
    (hr2 : rm2.cells = 0 ∧ rm2.slots = 0 ∧ rm2.frames + 1 ≤ 2048 ∧ 8 + (2 + 11) + rm2.locals ≤ 94400) (M2 : ∀ sz : Nat, Met l yX13_addClaim wsX13_addClaim rm2 (WPc D k [.ref q0, .int (xs (4 * j + 1))] wd sz) (WI D k wd' br (va_A wd sz)) 0 0 (va_A wd sz)) (h2 : wd[0]? = some (q0, .inr (11, fs2)))
    (hr3 : rm3.cells = 0 ∧ rm3.slots = 0 ∧ rm3.frames + 1 ≤ 2048 ∧ 8 + (1 + 11) + rm3.locals ≤ 94400) (M3 : Met l yX13_thrown wsX13_thrown rm3 (RPc D k [.ref q0] wm) (EI th) 0 0 noA) (hm : wd' = wm ++ we) (h3 : wm[0]? = some (q0, .inr (11, fs3)))
    (hth : th = kr)
    (heq : kr = 0 → ou 0 = br.toInt64)
    (hP : va_P D vwCl (wc ++ (wd ++ wr)) H)
    (hD : va_D A (wc ++ (wd ++ wr)))
    (hS : va_S A s.heap H locs)
    (hl : lv_has ls 10 [(0, .ref b), (1, .ref o), (2, .ref q0), (3, .ref out), (4, .ref outd), (5, .int (nI (4 * j)))])
    (kk : ∀ (ls : Array Slot) (H : Heap) (locs : List Loc), lv_has ls 10 [(0, .ref b), (1, .ref o), (2, .ref q0), (3, .ref out), (4, .ref outd), (5, .int (nI (4 * j)))] → va_P D vwCl (wc' ++ (wd' ++ wr)) H → va_D A (wc' ++ (wd' ++ wr)) → va_S A s.heap H locs → W p l e room_1 s m #[Value.ref b] below meth c H locs (cells + 1) (slots + 6) Q (F0 m 2694 ls [])) : W p l e room_1 s m #[Value.ref b] below meth c H locs cells slots Q (F0 m 272 ls []) := by
  obtain ⟨hF, hK, hN, hXN, hNC, hZ, hKC, hA, hX, hbl, hbA⟩ := id C9
  obtain ⟨hx, hb, hml, hown, hts⟩ := id hF
  refine lv_aload_n hx hb dL_law_272 rfl (lv_at hl 1 rfl) ?_
  refine lv_aload_n hx hb dL_law_273 rfl (lv_at hl 0 rfl) ?_
  refine lv_iload hx hb dL_law_274 (lv_at hl 5 rfl) ?_
  refine lv_iconst (v := 1) hx hb dL_law_276 (by decide) ?_
  refine ni_add hx hb (4 * j) 1 dL_law_277 ?_
  refine l_sld C9 hS (4 * j + 1) (by omega) hL dL_law_278 ?_
  refine lv_aload_n hx hb dL_law_279 rfl (lv_at hl 3 rfl) ?_
  refine lw_S C9 (As := [.ref o, .int (xs (4 * j + 1)), .ref out]) (rest := []) gL_law_L_addClaim rfl (maxL := 4) hr1 (n := 3) (by decide +kernel) rfl M1 hc hsl hP hD hS hl.1 rfl (Nat.le_of_ble_eq_true rfl) dL_law_280 (fun H locs hP hD hS => ?_)
  refine lv_istore (lv' := [(6, .int kr), (0, .ref b), (1, .ref o), (2, .ref q0), (3, .ref out), (4, .ref outd), (5, .int (nI (4 * j)))]) hx hb dL_law_283 hl (by decide) rfl (fun ls hl => ?_)
  refine lv_aload_n hx hb dL_law_285 rfl (lv_at hl 3 rfl) ?_
  refine lv_aload_n hx hb dL_law_286 rfl (lv_at hl 1 rfl) ?_
  refine lv_iload hx hb dL_law_287 (lv_at hl 6 rfl) ?_
  refine lv_iconst (v := 1) hx hb dL_law_289 (by decide) ?_
  refine ni_add hx hb (4 * j) 1 dL_law_290 ?_
  refine l_sld C9 hS (4 * j + 1) (by omega) hL dL_law_291 ?_
  have hP := l_swP hP
  have hD := l_swD hD
  refine lw_Vi C9 (As := [.int (xs (4 * j + 1))]) (rest := []) gL_law_X13_addClaim rfl (maxL := 2) hr2 (n := 1) (by decide +kernel) rfl h2 (r9 := _) rfl rfl (M2 _) hc hsl hP hD hS hl.1 rfl (Nat.le_of_ble_eq_true rfl) dL_law_292 (fun H locs hP hD hS => ?_)
  refine lv_istore (lv' := [(7, .int br), (6, .int kr), (0, .ref b), (1, .ref o), (2, .ref q0), (3, .ref out), (4, .ref outd), (5, .int (nI (4 * j)))]) hx hb dL_law_295 hl (by decide) rfl (fun ls hl => ?_)
  refine lv_aload_n hx hb dL_law_297 rfl (lv_at hl 4 rfl) ?_
  refine lw_Ri C9 (As := []) (rest := []) gL_law_X13_thrown rfl (maxL := 1) hr3 (n := 0) (by decide +kernel) rfl h3 (r9 := _) rfl rfl M3 hc hsl (l_P1 (wr := we) (by rw [← hm]; exact l_P1 hP)) hl.1 rfl (Nat.le_of_ble_eq_true rfl) dL_law_298 ?_
  refine lv_iload hx hb dL_law_301 (lv_at hl 1 rfl) ?_
  refine lv_icmp_eq (tgt := 308) hx hb dL_law_303 (by decide) (fun c_1 => ?_) (fun c_1 => ?_)
  · skip
    refine lv_iload hx hb dL_law_308 (lv_at hl 1 rfl) ?_
    refine lv_if_ne (tgt := 325) hx hb dL_law_310 (by decide) (fun c_2 => ?_) (fun c_2 => ?_)
    · skip
      refine lv_goto (tgt := 2694) hx hb dL_law_325 (by decide) ?_
      have hP := l_swP hP
      have hD := l_swD hD
      exact kk ls H locs (lv_sub hl [2, 3, 4, 5, 6, 7] rfl) hP hD hS
    · skip
      refine lv_aload_n hx hb dL_law_313 rfl (lv_at hl 5 rfl) ?_
      refine lv_iconst (v := 0) hx hb dL_law_314 (by decide) ?_
      have hP := l_swP hP
      have hD := l_swD hD
      refine l_la C9 (l_P1 hP) ho dL_law_315 ?_
      refine lv_iload hx hb dL_law_316 (lv_at hl 0 rfl) ?_
      refine lv_i2l hx hb dL_law_318 rfl ?_
      refine W.lcmp hx hb dL_law_319 ?_
      refine lv_if_eq (tgt := 325) hx hb dL_law_320 (by decide) (fun c_3 => ?_) (fun c_3 => ?_)
      · skip
        refine lv_goto (tgt := 2694) hx hb dL_law_325 (by decide) ?_
        exact kk ls H locs (lv_sub hl [2, 3, 4, 5, 6, 7] rfl) hP hD hS
      · exact absurd (l_cmp0 (heq c_2)) c_3
  · exact absurd hth c_1

set_option maxHeartbeats 4000000 in
set_option maxRecDepth 100000 in
theorem lc_1 {br : Int32} {ou : Nat → Int64} (ho : wc'[i9]? = some (out, .inl (k 3, 1, .inr (.inl ou)))) (C9 : LC ks kv kf ka kw D k p s m c A b L xs)
    (hc : cells + 1 ≤ 603072)
    (hsl : slots + 6 ≤ 7182442)
    (j : Nat)
    (hj : 4 * j + 4 ≤ L)
    (hL : L ≤ 2048)
    (hbv : (xs (4 * j + 3) = 0 → bv = 0) ∧ (¬ xs (4 * j + 3) = 0 → bv = 1))
    (hr1 : rm1.cells = 1 ∧ rm1.slots = 6 ∧ rm1.frames + 1 ≤ 2048 ∧ 8 + (6 + 11) + rm1.locals ≤ 94400) (M1 : Met l yL_setAttack wsL_setAttack rm1 (LPc ks kv kf ka kw D k [.ref o, .int (xs (4 * j + 1)), .int (xs (4 * j + 2)), .int bv, .ref out] wc H.size) (WI D k wc' kr (va_A wc H.size)) 1 6 (va_A wc H.size))
    (hr2 : rm2.cells = 0 ∧ rm2.slots = 0 ∧ rm2.frames + 1 ≤ 2048 ∧ 8 + (4 + 11) + rm2.locals ≤ 94400) (M2 : ∀ sz : Nat, Met l yX13_setAttack wsX13_setAttack rm2 (WPc D k [.ref q0, .int (xs (4 * j + 1)), .int (xs (4 * j + 2)), .int bv] wd sz) (WI D k wd' br (va_A wd sz)) 0 0 (va_A wd sz)) (h2 : wd[0]? = some (q0, .inr (11, fs2)))
    (hr3 : rm3.cells = 0 ∧ rm3.slots = 0 ∧ rm3.frames + 1 ≤ 2048 ∧ 8 + (1 + 11) + rm3.locals ≤ 94400) (M3 : Met l yX13_thrown wsX13_thrown rm3 (RPc D k [.ref q0] wm) (EI th) 0 0 noA) (hm : wd' = wm ++ we) (h3 : wm[0]? = some (q0, .inr (11, fs3)))
    (hth : th = kr)
    (heq : kr = 0 → ou 0 = if br = 0 then 0 else 1)
    (hP : va_P D vwCl (wc ++ (wd ++ wr)) H)
    (hD : va_D A (wc ++ (wd ++ wr)))
    (hS : va_S A s.heap H locs)
    (hl : lv_has ls 10 [(0, .ref b), (1, .ref o), (2, .ref q0), (3, .ref out), (4, .ref outd), (5, .int (nI (4 * j)))])
    (kk : ∀ (ls : Array Slot) (H : Heap) (locs : List Loc), lv_has ls 10 [(0, .ref b), (1, .ref o), (2, .ref q0), (3, .ref out), (4, .ref outd), (5, .int (nI (4 * j)))] → va_P D vwCl (wc' ++ (wd' ++ wr)) H → va_D A (wc' ++ (wd' ++ wr)) → va_S A s.heap H locs → W p l e room_1 s m #[Value.ref b] below meth c H locs (cells + 1) (slots + 6) Q (F0 m 2694 ls [])) : W p l e room_1 s m #[Value.ref b] below meth c H locs cells slots Q (F0 m 328 ls []) := by
  obtain ⟨hF, hK, hN, hXN, hNC, hZ, hKC, hA, hX, hbl, hbA⟩ := id C9
  obtain ⟨hx, hb, hml, hown, hts⟩ := id hF
  refine lv_aload_n hx hb dL_law_328 rfl (lv_at hl 1 rfl) ?_
  refine lv_aload_n hx hb dL_law_329 rfl (lv_at hl 0 rfl) ?_
  refine lv_iload hx hb dL_law_330 (lv_at hl 5 rfl) ?_
  refine lv_iconst (v := 1) hx hb dL_law_332 (by decide) ?_
  refine ni_add hx hb (4 * j) 1 dL_law_333 ?_
  refine l_sld C9 hS (4 * j + 1) (by omega) hL dL_law_334 ?_
  refine lv_aload_n hx hb dL_law_335 rfl (lv_at hl 0 rfl) ?_
  refine lv_iload hx hb dL_law_336 (lv_at hl 5 rfl) ?_
  refine lv_iconst (v := 2) hx hb dL_law_338 (by decide) ?_
  refine ni_add hx hb (4 * j) 2 dL_law_339 ?_
  refine l_sld C9 hS (4 * j + 2) (by omega) hL dL_law_340 ?_
  refine lv_aload_n hx hb dL_law_341 rfl (lv_at hl 0 rfl) ?_
  refine lv_iload hx hb dL_law_342 (lv_at hl 5 rfl) ?_
  refine lv_iconst (v := 3) hx hb dL_law_344 (by decide) ?_
  refine ni_add hx hb (4 * j) 3 dL_law_345 ?_
  refine l_sld C9 hS (4 * j + 3) (by omega) hL dL_law_346 ?_
  refine lv_if_eq (tgt := 354) hx hb dL_law_347 (by decide) (fun c_1 => ?_) (fun c_1 => ?_)
  · skip
    refine lv_iconst (v := 0) hx hb dL_law_354 (by decide) ?_
    refine lv_tope (v2 := .int bv) (congrArg Value.int (hbv.1 c_1).symm) ?_
    refine lv_aload_n hx hb dL_law_355 rfl (lv_at hl 3 rfl) ?_
    refine lw_S C9 (As := [.ref o, .int (xs (4 * j + 1)), .int (xs (4 * j + 2)), .int bv, .ref out]) (rest := []) gL_law_L_setAttack rfl (maxL := 6) hr1 (n := 5) (by decide +kernel) rfl M1 hc hsl hP hD hS hl.1 rfl (Nat.le_of_ble_eq_true rfl) dL_law_356 (fun H locs hP hD hS => ?_)
    refine lv_istore (lv' := [(6, .int kr), (0, .ref b), (1, .ref o), (2, .ref q0), (3, .ref out), (4, .ref outd), (5, .int (nI (4 * j)))]) hx hb dL_law_359 hl (by decide) rfl (fun ls hl => ?_)
    refine lv_aload_n hx hb dL_law_361 rfl (lv_at hl 3 rfl) ?_
    refine lv_aload_n hx hb dL_law_362 rfl (lv_at hl 1 rfl) ?_
    refine lv_iload hx hb dL_law_363 (lv_at hl 6 rfl) ?_
    refine lv_iconst (v := 1) hx hb dL_law_365 (by decide) ?_
    refine ni_add hx hb (4 * j) 1 dL_law_366 ?_
    refine l_sld C9 hS (4 * j + 1) (by omega) hL dL_law_367 ?_
    refine lv_aload_n hx hb dL_law_368 rfl (lv_at hl 1 rfl) ?_
    refine lv_iload hx hb dL_law_369 (lv_at hl 6 rfl) ?_
    refine lv_iconst (v := 2) hx hb dL_law_371 (by decide) ?_
    refine ni_add hx hb (4 * j) 2 dL_law_372 ?_
    refine l_sld C9 hS (4 * j + 2) (by omega) hL dL_law_373 ?_
    refine lv_aload_n hx hb dL_law_374 rfl (lv_at hl 1 rfl) ?_
    refine lv_iload hx hb dL_law_375 (lv_at hl 6 rfl) ?_
    refine lv_iconst (v := 3) hx hb dL_law_377 (by decide) ?_
    refine ni_add hx hb (4 * j) 3 dL_law_378 ?_
    refine l_sld C9 hS (4 * j + 3) (by omega) hL dL_law_379 ?_
    refine lv_if_eq (tgt := 387) hx hb dL_law_380 (by decide) (fun c_2 => ?_) (fun c_2 => ?_)
    · skip
      refine lv_iconst (v := 0) hx hb dL_law_387 (by decide) ?_
      refine lv_tope (v2 := .int bv) (congrArg Value.int (hbv.1 c_2).symm) ?_
      have hP := l_swP hP
      have hD := l_swD hD
      refine lw_Vi C9 (As := [.int (xs (4 * j + 1)), .int (xs (4 * j + 2)), .int bv]) (rest := []) gL_law_X13_setAttack rfl (maxL := 4) hr2 (n := 3) (by decide +kernel) rfl h2 (r9 := _) rfl rfl (M2 _) hc hsl hP hD hS hl.1 rfl (Nat.le_of_ble_eq_true rfl) dL_law_388 (fun H locs hP hD hS => ?_)
      refine lv_istore (lv' := [(7, .int br), (6, .int kr), (0, .ref b), (1, .ref o), (2, .ref q0), (3, .ref out), (4, .ref outd), (5, .int (nI (4 * j)))]) hx hb dL_law_391 hl (by decide) rfl (fun ls hl => ?_)
      refine lv_aload_n hx hb dL_law_393 rfl (lv_at hl 4 rfl) ?_
      refine lw_Ri C9 (As := []) (rest := []) gL_law_X13_thrown rfl (maxL := 1) hr3 (n := 0) (by decide +kernel) rfl h3 (r9 := _) rfl rfl M3 hc hsl (l_P1 (wr := we) (by rw [← hm]; exact l_P1 hP)) hl.1 rfl (Nat.le_of_ble_eq_true rfl) dL_law_394 ?_
      refine lv_iload hx hb dL_law_397 (lv_at hl 1 rfl) ?_
      refine lv_icmp_eq (tgt := 404) hx hb dL_law_399 (by decide) (fun c_3 => ?_) (fun c_3 => ?_)
      · skip
        refine lv_iload hx hb dL_law_404 (lv_at hl 1 rfl) ?_
        refine lv_if_ne (tgt := 428) hx hb dL_law_406 (by decide) (fun c_4 => ?_) (fun c_4 => ?_)
        · skip
          refine lv_goto (tgt := 2694) hx hb dL_law_428 (by decide) ?_
          have hP := l_swP hP
          have hD := l_swD hD
          exact kk ls H locs (lv_sub hl [2, 3, 4, 5, 6, 7] rfl) hP hD hS
        · skip
          refine lv_aload_n hx hb dL_law_409 rfl (lv_at hl 5 rfl) ?_
          refine lv_iconst (v := 0) hx hb dL_law_410 (by decide) ?_
          have hP := l_swP hP
          have hD := l_swD hD
          refine l_la C9 (l_P1 hP) ho dL_law_411 ?_
          refine lv_iload hx hb dL_law_412 (lv_at hl 0 rfl) ?_
          refine lv_if_eq (tgt := 421) hx hb dL_law_414 (by decide) (fun c_5 => ?_) (fun c_5 => ?_)
          · skip
            refine lv_lconst (v := 0) hx hb dL_law_421 (by decide) ?_
            refine W.lcmp hx hb dL_law_422 ?_
            refine lv_if_eq (tgt := 428) hx hb dL_law_423 (by decide) (fun c_6 => ?_) (fun c_6 => ?_)
            · skip
              refine lv_goto (tgt := 2694) hx hb dL_law_428 (by decide) ?_
              exact kk ls H locs (lv_sub hl [2, 3, 4, 5, 6, 7] rfl) hP hD hS
            · exact absurd (l_cmp0 ((heq c_4).trans (if_pos c_5))) c_6
          · skip
            refine lv_lconst (v := 1) hx hb dL_law_417 (by decide) ?_
            refine lv_goto (tgt := 422) hx hb dL_law_418 (by decide) ?_
            refine W.lcmp hx hb dL_law_422 ?_
            refine lv_if_eq (tgt := 428) hx hb dL_law_423 (by decide) (fun c_7 => ?_) (fun c_7 => ?_)
            · skip
              refine lv_goto (tgt := 2694) hx hb dL_law_428 (by decide) ?_
              exact kk ls H locs (lv_sub hl [2, 3, 4, 5, 6, 7] rfl) hP hD hS
            · exact absurd (l_cmp0 ((heq c_4).trans (if_neg c_5))) c_7
      · exact absurd hth c_3
    · exact absurd c_1 c_2
  · skip
    refine lv_iconst (v := 1) hx hb dL_law_350 (by decide) ?_
    refine lv_tope (v2 := .int bv) (congrArg Value.int (hbv.2 c_1).symm) ?_
    refine lv_goto (tgt := 355) hx hb dL_law_351 (by decide) ?_
    refine lv_aload_n hx hb dL_law_355 rfl (lv_at hl 3 rfl) ?_
    refine lw_S C9 (As := [.ref o, .int (xs (4 * j + 1)), .int (xs (4 * j + 2)), .int bv, .ref out]) (rest := []) gL_law_L_setAttack rfl (maxL := 6) hr1 (n := 5) (by decide +kernel) rfl M1 hc hsl hP hD hS hl.1 rfl (Nat.le_of_ble_eq_true rfl) dL_law_356 (fun H locs hP hD hS => ?_)
    refine lv_istore (lv' := [(6, .int kr), (0, .ref b), (1, .ref o), (2, .ref q0), (3, .ref out), (4, .ref outd), (5, .int (nI (4 * j)))]) hx hb dL_law_359 hl (by decide) rfl (fun ls hl => ?_)
    refine lv_aload_n hx hb dL_law_361 rfl (lv_at hl 3 rfl) ?_
    refine lv_aload_n hx hb dL_law_362 rfl (lv_at hl 1 rfl) ?_
    refine lv_iload hx hb dL_law_363 (lv_at hl 6 rfl) ?_
    refine lv_iconst (v := 1) hx hb dL_law_365 (by decide) ?_
    refine ni_add hx hb (4 * j) 1 dL_law_366 ?_
    refine l_sld C9 hS (4 * j + 1) (by omega) hL dL_law_367 ?_
    refine lv_aload_n hx hb dL_law_368 rfl (lv_at hl 1 rfl) ?_
    refine lv_iload hx hb dL_law_369 (lv_at hl 6 rfl) ?_
    refine lv_iconst (v := 2) hx hb dL_law_371 (by decide) ?_
    refine ni_add hx hb (4 * j) 2 dL_law_372 ?_
    refine l_sld C9 hS (4 * j + 2) (by omega) hL dL_law_373 ?_
    refine lv_aload_n hx hb dL_law_374 rfl (lv_at hl 1 rfl) ?_
    refine lv_iload hx hb dL_law_375 (lv_at hl 6 rfl) ?_
    refine lv_iconst (v := 3) hx hb dL_law_377 (by decide) ?_
    refine ni_add hx hb (4 * j) 3 dL_law_378 ?_
    refine l_sld C9 hS (4 * j + 3) (by omega) hL dL_law_379 ?_
    refine lv_if_eq (tgt := 387) hx hb dL_law_380 (by decide) (fun c_8 => ?_) (fun c_8 => ?_)
    · exact absurd c_8 c_1
    · skip
      refine lv_iconst (v := 1) hx hb dL_law_383 (by decide) ?_
      refine lv_tope (v2 := .int bv) (congrArg Value.int (hbv.2 c_8).symm) ?_
      refine lv_goto (tgt := 388) hx hb dL_law_384 (by decide) ?_
      have hP := l_swP hP
      have hD := l_swD hD
      refine lw_Vi C9 (As := [.int (xs (4 * j + 1)), .int (xs (4 * j + 2)), .int bv]) (rest := []) gL_law_X13_setAttack rfl (maxL := 4) hr2 (n := 3) (by decide +kernel) rfl h2 (r9 := _) rfl rfl (M2 _) hc hsl hP hD hS hl.1 rfl (Nat.le_of_ble_eq_true rfl) dL_law_388 (fun H locs hP hD hS => ?_)
      refine lv_istore (lv' := [(7, .int br), (6, .int kr), (0, .ref b), (1, .ref o), (2, .ref q0), (3, .ref out), (4, .ref outd), (5, .int (nI (4 * j)))]) hx hb dL_law_391 hl (by decide) rfl (fun ls hl => ?_)
      refine lv_aload_n hx hb dL_law_393 rfl (lv_at hl 4 rfl) ?_
      refine lw_Ri C9 (As := []) (rest := []) gL_law_X13_thrown rfl (maxL := 1) hr3 (n := 0) (by decide +kernel) rfl h3 (r9 := _) rfl rfl M3 hc hsl (l_P1 (wr := we) (by rw [← hm]; exact l_P1 hP)) hl.1 rfl (Nat.le_of_ble_eq_true rfl) dL_law_394 ?_
      refine lv_iload hx hb dL_law_397 (lv_at hl 1 rfl) ?_
      refine lv_icmp_eq (tgt := 404) hx hb dL_law_399 (by decide) (fun c_9 => ?_) (fun c_9 => ?_)
      · skip
        refine lv_iload hx hb dL_law_404 (lv_at hl 1 rfl) ?_
        refine lv_if_ne (tgt := 428) hx hb dL_law_406 (by decide) (fun c_10 => ?_) (fun c_10 => ?_)
        · skip
          refine lv_goto (tgt := 2694) hx hb dL_law_428 (by decide) ?_
          have hP := l_swP hP
          have hD := l_swD hD
          exact kk ls H locs (lv_sub hl [2, 3, 4, 5, 6, 7] rfl) hP hD hS
        · skip
          refine lv_aload_n hx hb dL_law_409 rfl (lv_at hl 5 rfl) ?_
          refine lv_iconst (v := 0) hx hb dL_law_410 (by decide) ?_
          have hP := l_swP hP
          have hD := l_swD hD
          refine l_la C9 (l_P1 hP) ho dL_law_411 ?_
          refine lv_iload hx hb dL_law_412 (lv_at hl 0 rfl) ?_
          refine lv_if_eq (tgt := 421) hx hb dL_law_414 (by decide) (fun c_11 => ?_) (fun c_11 => ?_)
          · skip
            refine lv_lconst (v := 0) hx hb dL_law_421 (by decide) ?_
            refine W.lcmp hx hb dL_law_422 ?_
            refine lv_if_eq (tgt := 428) hx hb dL_law_423 (by decide) (fun c_12 => ?_) (fun c_12 => ?_)
            · skip
              refine lv_goto (tgt := 2694) hx hb dL_law_428 (by decide) ?_
              exact kk ls H locs (lv_sub hl [2, 3, 4, 5, 6, 7] rfl) hP hD hS
            · exact absurd (l_cmp0 ((heq c_10).trans (if_pos c_11))) c_12
          · skip
            refine lv_lconst (v := 1) hx hb dL_law_417 (by decide) ?_
            refine lv_goto (tgt := 422) hx hb dL_law_418 (by decide) ?_
            refine W.lcmp hx hb dL_law_422 ?_
            refine lv_if_eq (tgt := 428) hx hb dL_law_423 (by decide) (fun c_13 => ?_) (fun c_13 => ?_)
            · skip
              refine lv_goto (tgt := 2694) hx hb dL_law_428 (by decide) ?_
              exact kk ls H locs (lv_sub hl [2, 3, 4, 5, 6, 7] rfl) hP hD hS
            · exact absurd (l_cmp0 ((heq c_10).trans (if_neg c_11))) c_13
      · exact absurd hth c_9

set_option maxHeartbeats 4000000 in
set_option maxRecDepth 100000 in
theorem lc_2 {br : Int32} {ou : Nat → Int64} (ho : wc'[i9]? = some (out, .inl (k 3, 1, .inr (.inl ou)))) (C9 : LC ks kv kf ka kw D k p s m c A b L xs)
    (hc : cells + 1 ≤ 603072)
    (hsl : slots + 6 ≤ 7182442)
    (j : Nat)
    (hj : 4 * j + 4 ≤ L)
    (hL : L ≤ 2048)
    (hr1 : rm1.cells = 1 ∧ rm1.slots = 6 ∧ rm1.frames + 1 ≤ 2048 ∧ 8 + (5 + 11) + rm1.locals ≤ 94400) (M1 : Met l yL_setLayer wsL_setLayer rm1 (LPc ks kv kf ka kw D k [.ref o, .int (xs (4 * j + 1)), .int (xs (4 * j + 2)), .ref out] wc H.size) (WI D k wc' kr (va_A wc H.size)) 1 6 (va_A wc H.size))
    (hr2 : rm2.cells = 0 ∧ rm2.slots = 0 ∧ rm2.frames + 1 ≤ 2048 ∧ 8 + (3 + 11) + rm2.locals ≤ 94400) (M2 : ∀ sz : Nat, Met l yX13_setLayer wsX13_setLayer rm2 (WPc D k [.ref q0, .int (xs (4 * j + 1)), .int (xs (4 * j + 2))] wd sz) (WI D k wd' br (va_A wd sz)) 0 0 (va_A wd sz)) (h2 : wd[0]? = some (q0, .inr (11, fs2)))
    (hr3 : rm3.cells = 0 ∧ rm3.slots = 0 ∧ rm3.frames + 1 ≤ 2048 ∧ 8 + (1 + 11) + rm3.locals ≤ 94400) (M3 : Met l yX13_thrown wsX13_thrown rm3 (RPc D k [.ref q0] wm) (EI th) 0 0 noA) (hm : wd' = wm ++ we) (h3 : wm[0]? = some (q0, .inr (11, fs3)))
    (hth : th = kr)
    (heq : kr = 0 → ou 0 = br.toInt64)
    (hP : va_P D vwCl (wc ++ (wd ++ wr)) H)
    (hD : va_D A (wc ++ (wd ++ wr)))
    (hS : va_S A s.heap H locs)
    (hl : lv_has ls 10 [(0, .ref b), (1, .ref o), (2, .ref q0), (3, .ref out), (4, .ref outd), (5, .int (nI (4 * j)))])
    (kk : ∀ (ls : Array Slot) (H : Heap) (locs : List Loc), lv_has ls 10 [(0, .ref b), (1, .ref o), (2, .ref q0), (3, .ref out), (4, .ref outd), (5, .int (nI (4 * j)))] → va_P D vwCl (wc' ++ (wd' ++ wr)) H → va_D A (wc' ++ (wd' ++ wr)) → va_S A s.heap H locs → W p l e room_1 s m #[Value.ref b] below meth c H locs (cells + 1) (slots + 6) Q (F0 m 2694 ls [])) : W p l e room_1 s m #[Value.ref b] below meth c H locs cells slots Q (F0 m 431 ls []) := by
  obtain ⟨hF, hK, hN, hXN, hNC, hZ, hKC, hA, hX, hbl, hbA⟩ := id C9
  obtain ⟨hx, hb, hml, hown, hts⟩ := id hF
  refine lv_aload_n hx hb dL_law_431 rfl (lv_at hl 1 rfl) ?_
  refine lv_aload_n hx hb dL_law_432 rfl (lv_at hl 0 rfl) ?_
  refine lv_iload hx hb dL_law_433 (lv_at hl 5 rfl) ?_
  refine lv_iconst (v := 1) hx hb dL_law_435 (by decide) ?_
  refine ni_add hx hb (4 * j) 1 dL_law_436 ?_
  refine l_sld C9 hS (4 * j + 1) (by omega) hL dL_law_437 ?_
  refine lv_aload_n hx hb dL_law_438 rfl (lv_at hl 0 rfl) ?_
  refine lv_iload hx hb dL_law_439 (lv_at hl 5 rfl) ?_
  refine lv_iconst (v := 2) hx hb dL_law_441 (by decide) ?_
  refine ni_add hx hb (4 * j) 2 dL_law_442 ?_
  refine l_sld C9 hS (4 * j + 2) (by omega) hL dL_law_443 ?_
  refine lv_aload_n hx hb dL_law_444 rfl (lv_at hl 3 rfl) ?_
  refine lw_S C9 (As := [.ref o, .int (xs (4 * j + 1)), .int (xs (4 * j + 2)), .ref out]) (rest := []) gL_law_L_setLayer rfl (maxL := 5) hr1 (n := 4) (by decide +kernel) rfl M1 hc hsl hP hD hS hl.1 rfl (Nat.le_of_ble_eq_true rfl) dL_law_445 (fun H locs hP hD hS => ?_)
  refine lv_istore (lv' := [(6, .int kr), (0, .ref b), (1, .ref o), (2, .ref q0), (3, .ref out), (4, .ref outd), (5, .int (nI (4 * j)))]) hx hb dL_law_448 hl (by decide) rfl (fun ls hl => ?_)
  refine lv_aload_n hx hb dL_law_450 rfl (lv_at hl 3 rfl) ?_
  refine lv_aload_n hx hb dL_law_451 rfl (lv_at hl 1 rfl) ?_
  refine lv_iload hx hb dL_law_452 (lv_at hl 6 rfl) ?_
  refine lv_iconst (v := 1) hx hb dL_law_454 (by decide) ?_
  refine ni_add hx hb (4 * j) 1 dL_law_455 ?_
  refine l_sld C9 hS (4 * j + 1) (by omega) hL dL_law_456 ?_
  refine lv_aload_n hx hb dL_law_457 rfl (lv_at hl 1 rfl) ?_
  refine lv_iload hx hb dL_law_458 (lv_at hl 6 rfl) ?_
  refine lv_iconst (v := 2) hx hb dL_law_460 (by decide) ?_
  refine ni_add hx hb (4 * j) 2 dL_law_461 ?_
  refine l_sld C9 hS (4 * j + 2) (by omega) hL dL_law_462 ?_
  have hP := l_swP hP
  have hD := l_swD hD
  refine lw_Vi C9 (As := [.int (xs (4 * j + 1)), .int (xs (4 * j + 2))]) (rest := []) gL_law_X13_setLayer rfl (maxL := 3) hr2 (n := 2) (by decide +kernel) rfl h2 (r9 := _) rfl rfl (M2 _) hc hsl hP hD hS hl.1 rfl (Nat.le_of_ble_eq_true rfl) dL_law_463 (fun H locs hP hD hS => ?_)
  refine lv_istore (lv' := [(7, .int br), (6, .int kr), (0, .ref b), (1, .ref o), (2, .ref q0), (3, .ref out), (4, .ref outd), (5, .int (nI (4 * j)))]) hx hb dL_law_466 hl (by decide) rfl (fun ls hl => ?_)
  refine lv_aload_n hx hb dL_law_468 rfl (lv_at hl 4 rfl) ?_
  refine lw_Ri C9 (As := []) (rest := []) gL_law_X13_thrown rfl (maxL := 1) hr3 (n := 0) (by decide +kernel) rfl h3 (r9 := _) rfl rfl M3 hc hsl (l_P1 (wr := we) (by rw [← hm]; exact l_P1 hP)) hl.1 rfl (Nat.le_of_ble_eq_true rfl) dL_law_469 ?_
  refine lv_iload hx hb dL_law_472 (lv_at hl 1 rfl) ?_
  refine lv_icmp_eq (tgt := 479) hx hb dL_law_474 (by decide) (fun c_1 => ?_) (fun c_1 => ?_)
  · skip
    refine lv_iload hx hb dL_law_479 (lv_at hl 1 rfl) ?_
    refine lv_if_ne (tgt := 496) hx hb dL_law_481 (by decide) (fun c_2 => ?_) (fun c_2 => ?_)
    · skip
      refine lv_goto (tgt := 2694) hx hb dL_law_496 (by decide) ?_
      have hP := l_swP hP
      have hD := l_swD hD
      exact kk ls H locs (lv_sub hl [2, 3, 4, 5, 6, 7] rfl) hP hD hS
    · skip
      refine lv_aload_n hx hb dL_law_484 rfl (lv_at hl 5 rfl) ?_
      refine lv_iconst (v := 0) hx hb dL_law_485 (by decide) ?_
      have hP := l_swP hP
      have hD := l_swD hD
      refine l_la C9 (l_P1 hP) ho dL_law_486 ?_
      refine lv_iload hx hb dL_law_487 (lv_at hl 0 rfl) ?_
      refine lv_i2l hx hb dL_law_489 rfl ?_
      refine W.lcmp hx hb dL_law_490 ?_
      refine lv_if_eq (tgt := 496) hx hb dL_law_491 (by decide) (fun c_3 => ?_) (fun c_3 => ?_)
      · skip
        refine lv_goto (tgt := 2694) hx hb dL_law_496 (by decide) ?_
        exact kk ls H locs (lv_sub hl [2, 3, 4, 5, 6, 7] rfl) hP hD hS
      · exact absurd (l_cmp0 (heq c_2)) c_3
  · exact absurd hth c_1

set_option maxHeartbeats 4000000 in
set_option maxRecDepth 100000 in
theorem lc_3 {br : Int32} {xr : Int32} (C9 : LC ks kv kf ka kw D k p s m c A b L xs)
    (hc : cells ≤ 603072)
    (hsl : slots ≤ 7182442)
    (j : Nat)
    (hj : 4 * j + 4 ≤ L)
    (hL : L ≤ 2048)
    (hr1 : rm1.cells = 0 ∧ rm1.slots = 0 ∧ rm1.frames + 1 ≤ 2048 ∧ 8 + (1 + 11) + rm1.locals ≤ 94400) (M1 : Met l yX12_claimCount wsX12_claimCount rm1 (RPc D k [.ref o] wc) (EI xr) 0 0 noA) (h1 : wc[0]? = some (o, .inr (10, fs1)))
    (hr2 : rm2.cells = 0 ∧ rm2.slots = 0 ∧ rm2.frames + 1 ≤ 2048 ∧ 8 + (1 + 11) + rm2.locals ≤ 94400) (M2 : ∀ sz : Nat, Met l yX13_claimCount wsX13_claimCount rm2 (WPc D k [.ref q0] wd sz) (WI D k wd' br (va_A wd sz)) 0 0 (va_A wd sz)) (h2 : wd[0]? = some (q0, .inr (11, fs2)))
    (heq : xr = br)
    (hP : va_P D vwCl (wc ++ (wd ++ wr)) H)
    (hD : va_D A (wc ++ (wd ++ wr)))
    (hS : va_S A s.heap H locs)
    (hl : lv_has ls 10 [(0, .ref b), (1, .ref o), (2, .ref q0), (3, .ref out), (4, .ref outd), (5, .int (nI (4 * j)))])
    (kk : ∀ (ls : Array Slot) (H : Heap) (locs : List Loc), lv_has ls 10 [(0, .ref b), (1, .ref o), (2, .ref q0), (3, .ref out), (4, .ref outd), (5, .int (nI (4 * j)))] → va_P D vwCl (wc ++ (wd' ++ wr)) H → va_D A (wc ++ (wd' ++ wr)) → va_S A s.heap H locs → W p l e room_1 s m #[Value.ref b] below meth c H locs cells slots Q (F0 m 2694 ls [])) : W p l e room_1 s m #[Value.ref b] below meth c H locs cells slots Q (F0 m 499 ls []) := by
  obtain ⟨hF, hK, hN, hXN, hNC, hZ, hKC, hA, hX, hbl, hbA⟩ := id C9
  obtain ⟨hx, hb, hml, hown, hts⟩ := id hF
  refine lv_aload_n hx hb dL_law_499 rfl (lv_at hl 1 rfl) ?_
  refine lw_Ri C9 (As := []) (rest := []) gL_law_X12_claimCount rfl (maxL := 1) hr1 (n := 0) (by decide +kernel) rfl h1 (r9 := _) rfl rfl M1 hc hsl (l_P1 hP) hl.1 rfl (Nat.le_of_ble_eq_true rfl) dL_law_500 ?_
  refine lv_aload_n hx hb dL_law_503 rfl (lv_at hl 2 rfl) ?_
  have hP := l_swP hP
  have hD := l_swD hD
  refine lw_Vi C9 (As := []) (rest := [.int xr]) gL_law_X13_claimCount rfl (maxL := 1) hr2 (n := 0) (by decide +kernel) rfl h2 (r9 := _) rfl rfl (M2 _) hc hsl hP hD hS hl.1 rfl (Nat.le_of_ble_eq_true rfl) dL_law_504 (fun H locs hP hD hS => ?_)
  refine lv_icmp_eq (tgt := 2694) hx hb dL_law_507 (by decide) (fun c_1 => ?_) (fun c_1 => ?_)
  · skip
    have hP := l_swP hP
    have hD := l_swD hD
    exact kk ls H locs (lv_sub hl [0, 1, 2, 3, 4, 5] rfl) hP hD hS
  · exact absurd heq c_1

set_option maxHeartbeats 4000000 in
set_option maxRecDepth 100000 in
theorem lc_4 {br : Int32} {ou : Nat → Int64} (ho : wc'[i9]? = some (out, .inl (k 3, 1, .inr (.inl ou)))) (C9 : LC ks kv kf ka kw D k p s m c A b L xs)
    (hc : cells + 1 ≤ 603072)
    (hsl : slots + 6 ≤ 7182442)
    (j : Nat)
    (hj : 4 * j + 4 ≤ L)
    (hL : L ≤ 2048)
    (hr1 : rm1.cells = 1 ∧ rm1.slots = 6 ∧ rm1.frames + 1 ≤ 2048 ∧ 8 + (4 + 11) + rm1.locals ≤ 94400) (M1 : Met l yL_weightOf wsL_weightOf rm1 (LPc ks kv kf ka kw D k [.ref o, .int (xs (4 * j + 1)), .ref out] wc H.size) (WI D k wc' kr (va_A wc H.size)) 1 6 (va_A wc H.size))
    (hr2 : rm2.cells = 0 ∧ rm2.slots = 0 ∧ rm2.frames + 1 ≤ 2048 ∧ 8 + (2 + 11) + rm2.locals ≤ 94400) (M2 : ∀ sz : Nat, Met l yX13_weightOf wsX13_weightOf rm2 (WPc D k [.ref q0, .int (xs (4 * j + 1))] wd sz) (WI D k wd' br (va_A wd sz)) 0 0 (va_A wd sz)) (h2 : wd[0]? = some (q0, .inr (11, fs2)))
    (hr3 : rm3.cells = 0 ∧ rm3.slots = 0 ∧ rm3.frames + 1 ≤ 2048 ∧ 8 + (1 + 11) + rm3.locals ≤ 94400) (M3 : Met l yX13_thrown wsX13_thrown rm3 (RPc D k [.ref q0] wm) (EI th) 0 0 noA) (hm : wd' = wm ++ we) (h3 : wm[0]? = some (q0, .inr (11, fs3)))
    (hth : th = kr)
    (heq : kr = 0 → ou 0 = br.toInt64)
    (hP : va_P D vwCl (wc ++ (wd ++ wr)) H)
    (hD : va_D A (wc ++ (wd ++ wr)))
    (hS : va_S A s.heap H locs)
    (hl : lv_has ls 10 [(0, .ref b), (1, .ref o), (2, .ref q0), (3, .ref out), (4, .ref outd), (5, .int (nI (4 * j)))])
    (kk : ∀ (ls : Array Slot) (H : Heap) (locs : List Loc), lv_has ls 10 [(0, .ref b), (1, .ref o), (2, .ref q0), (3, .ref out), (4, .ref outd), (5, .int (nI (4 * j)))] → va_P D vwCl (wc' ++ (wd' ++ wr)) H → va_D A (wc' ++ (wd' ++ wr)) → va_S A s.heap H locs → W p l e room_1 s m #[Value.ref b] below meth c H locs (cells + 1) (slots + 6) Q (F0 m 2694 ls [])) : W p l e room_1 s m #[Value.ref b] below meth c H locs cells slots Q (F0 m 512 ls []) := by
  obtain ⟨hF, hK, hN, hXN, hNC, hZ, hKC, hA, hX, hbl, hbA⟩ := id C9
  obtain ⟨hx, hb, hml, hown, hts⟩ := id hF
  refine lv_aload_n hx hb dL_law_512 rfl (lv_at hl 1 rfl) ?_
  refine lv_aload_n hx hb dL_law_513 rfl (lv_at hl 0 rfl) ?_
  refine lv_iload hx hb dL_law_514 (lv_at hl 5 rfl) ?_
  refine lv_iconst (v := 1) hx hb dL_law_516 (by decide) ?_
  refine ni_add hx hb (4 * j) 1 dL_law_517 ?_
  refine l_sld C9 hS (4 * j + 1) (by omega) hL dL_law_518 ?_
  refine lv_aload_n hx hb dL_law_519 rfl (lv_at hl 3 rfl) ?_
  refine lw_S C9 (As := [.ref o, .int (xs (4 * j + 1)), .ref out]) (rest := []) gL_law_L_weightOf rfl (maxL := 4) hr1 (n := 3) (by decide +kernel) rfl M1 hc hsl hP hD hS hl.1 rfl (Nat.le_of_ble_eq_true rfl) dL_law_520 (fun H locs hP hD hS => ?_)
  refine lv_istore (lv' := [(6, .int kr), (0, .ref b), (1, .ref o), (2, .ref q0), (3, .ref out), (4, .ref outd), (5, .int (nI (4 * j)))]) hx hb dL_law_523 hl (by decide) rfl (fun ls hl => ?_)
  refine lv_aload_n hx hb dL_law_525 rfl (lv_at hl 3 rfl) ?_
  refine lv_aload_n hx hb dL_law_526 rfl (lv_at hl 1 rfl) ?_
  refine lv_iload hx hb dL_law_527 (lv_at hl 6 rfl) ?_
  refine lv_iconst (v := 1) hx hb dL_law_529 (by decide) ?_
  refine ni_add hx hb (4 * j) 1 dL_law_530 ?_
  refine l_sld C9 hS (4 * j + 1) (by omega) hL dL_law_531 ?_
  have hP := l_swP hP
  have hD := l_swD hD
  refine lw_Vi C9 (As := [.int (xs (4 * j + 1))]) (rest := []) gL_law_X13_weightOf rfl (maxL := 2) hr2 (n := 1) (by decide +kernel) rfl h2 (r9 := _) rfl rfl (M2 _) hc hsl hP hD hS hl.1 rfl (Nat.le_of_ble_eq_true rfl) dL_law_532 (fun H locs hP hD hS => ?_)
  refine lv_istore (lv' := [(7, .int br), (6, .int kr), (0, .ref b), (1, .ref o), (2, .ref q0), (3, .ref out), (4, .ref outd), (5, .int (nI (4 * j)))]) hx hb dL_law_535 hl (by decide) rfl (fun ls hl => ?_)
  refine lv_aload_n hx hb dL_law_537 rfl (lv_at hl 4 rfl) ?_
  refine lw_Ri C9 (As := []) (rest := []) gL_law_X13_thrown rfl (maxL := 1) hr3 (n := 0) (by decide +kernel) rfl h3 (r9 := _) rfl rfl M3 hc hsl (l_P1 (wr := we) (by rw [← hm]; exact l_P1 hP)) hl.1 rfl (Nat.le_of_ble_eq_true rfl) dL_law_538 ?_
  refine lv_iload hx hb dL_law_541 (lv_at hl 1 rfl) ?_
  refine lv_icmp_eq (tgt := 548) hx hb dL_law_543 (by decide) (fun c_1 => ?_) (fun c_1 => ?_)
  · skip
    refine lv_iload hx hb dL_law_548 (lv_at hl 1 rfl) ?_
    refine lv_if_ne (tgt := 565) hx hb dL_law_550 (by decide) (fun c_2 => ?_) (fun c_2 => ?_)
    · skip
      refine lv_goto (tgt := 2694) hx hb dL_law_565 (by decide) ?_
      have hP := l_swP hP
      have hD := l_swD hD
      exact kk ls H locs (lv_sub hl [2, 3, 4, 5, 6, 7] rfl) hP hD hS
    · skip
      refine lv_aload_n hx hb dL_law_553 rfl (lv_at hl 5 rfl) ?_
      refine lv_iconst (v := 0) hx hb dL_law_554 (by decide) ?_
      have hP := l_swP hP
      have hD := l_swD hD
      refine l_la C9 (l_P1 hP) ho dL_law_555 ?_
      refine lv_iload hx hb dL_law_556 (lv_at hl 0 rfl) ?_
      refine lv_i2l hx hb dL_law_558 rfl ?_
      refine W.lcmp hx hb dL_law_559 ?_
      refine lv_if_eq (tgt := 565) hx hb dL_law_560 (by decide) (fun c_3 => ?_) (fun c_3 => ?_)
      · skip
        refine lv_goto (tgt := 2694) hx hb dL_law_565 (by decide) ?_
        exact kk ls H locs (lv_sub hl [2, 3, 4, 5, 6, 7] rfl) hP hD hS
      · exact absurd (l_cmp0 (heq c_2)) c_3
  · exact absurd hth c_1

end LAWC

/-! The law's cases 5 to 19, over worlds in pieces. -/
section LAWC
variable {p : Program} {l : Launch} {e : Env} {s : State} {m : MethodId} {below : List Frame} {meth : Method} {c : Code} {H : Heap} {locs : List Loc} {cells slots : Nat} {Q : State → Prop}
variable {ls : Array Slot} {D : va_G} {k : Nat → ClassId} {A : Nat → Prop} {wc wc' wd wd' wm we wr : va_W} {ks kv kf : Nat → Nat} {ka kw b L o q0 out outd i9 : Nat} {xs : Nat → Int32} {fs1 fs2 fs3 : List Value} {kr th bv : Int32} {rm1 rm2 rm3 : Room}

set_option maxHeartbeats 4000000 in
set_option maxRecDepth 100000 in
theorem lc_5 {br : Int32} {ou : Nat → Int64} (ho : wc'[i9]? = some (out, .inl (k 3, 1, .inr (.inl ou)))) (C9 : LC ks kv kf ka kw D k p s m c A b L xs)
    (hc : cells + 1 ≤ 603072)
    (hsl : slots + 6 ≤ 7182442)
    (j : Nat)
    (hj : 4 * j + 4 ≤ L)
    (hL : L ≤ 2048)
    (hr1 : rm1.cells = 1 ∧ rm1.slots = 6 ∧ rm1.frames + 1 ≤ 2048 ∧ 8 + (4 + 11) + rm1.locals ≤ 94400) (M1 : Met l yL_layerOf wsL_layerOf rm1 (LPc ks kv kf ka kw D k [.ref o, .int (xs (4 * j + 1)), .ref out] wc H.size) (WI D k wc' kr (va_A wc H.size)) 1 6 (va_A wc H.size))
    (hr2 : rm2.cells = 0 ∧ rm2.slots = 0 ∧ rm2.frames + 1 ≤ 2048 ∧ 8 + (2 + 11) + rm2.locals ≤ 94400) (M2 : ∀ sz : Nat, Met l yX13_layerOf wsX13_layerOf rm2 (WPc D k [.ref q0, .int (xs (4 * j + 1))] wd sz) (WI D k wd' br (va_A wd sz)) 0 0 (va_A wd sz)) (h2 : wd[0]? = some (q0, .inr (11, fs2)))
    (hr3 : rm3.cells = 0 ∧ rm3.slots = 0 ∧ rm3.frames + 1 ≤ 2048 ∧ 8 + (1 + 11) + rm3.locals ≤ 94400) (M3 : Met l yX13_thrown wsX13_thrown rm3 (RPc D k [.ref q0] wm) (EI th) 0 0 noA) (hm : wd' = wm ++ we) (h3 : wm[0]? = some (q0, .inr (11, fs3)))
    (hth : th = kr)
    (heq : kr = 0 → ou 0 = br.toInt64)
    (hP : va_P D vwCl (wc ++ (wd ++ wr)) H)
    (hD : va_D A (wc ++ (wd ++ wr)))
    (hS : va_S A s.heap H locs)
    (hl : lv_has ls 10 [(0, .ref b), (1, .ref o), (2, .ref q0), (3, .ref out), (4, .ref outd), (5, .int (nI (4 * j)))])
    (kk : ∀ (ls : Array Slot) (H : Heap) (locs : List Loc), lv_has ls 10 [(0, .ref b), (1, .ref o), (2, .ref q0), (3, .ref out), (4, .ref outd), (5, .int (nI (4 * j)))] → va_P D vwCl (wc' ++ (wd' ++ wr)) H → va_D A (wc' ++ (wd' ++ wr)) → va_S A s.heap H locs → W p l e room_1 s m #[Value.ref b] below meth c H locs (cells + 1) (slots + 6) Q (F0 m 2694 ls [])) : W p l e room_1 s m #[Value.ref b] below meth c H locs cells slots Q (F0 m 568 ls []) := by
  obtain ⟨hF, hK, hN, hXN, hNC, hZ, hKC, hA, hX, hbl, hbA⟩ := id C9
  obtain ⟨hx, hb, hml, hown, hts⟩ := id hF
  refine lv_aload_n hx hb dL_law_568 rfl (lv_at hl 1 rfl) ?_
  refine lv_aload_n hx hb dL_law_569 rfl (lv_at hl 0 rfl) ?_
  refine lv_iload hx hb dL_law_570 (lv_at hl 5 rfl) ?_
  refine lv_iconst (v := 1) hx hb dL_law_572 (by decide) ?_
  refine ni_add hx hb (4 * j) 1 dL_law_573 ?_
  refine l_sld C9 hS (4 * j + 1) (by omega) hL dL_law_574 ?_
  refine lv_aload_n hx hb dL_law_575 rfl (lv_at hl 3 rfl) ?_
  refine lw_S C9 (As := [.ref o, .int (xs (4 * j + 1)), .ref out]) (rest := []) gL_law_L_layerOf rfl (maxL := 4) hr1 (n := 3) (by decide +kernel) rfl M1 hc hsl hP hD hS hl.1 rfl (Nat.le_of_ble_eq_true rfl) dL_law_576 (fun H locs hP hD hS => ?_)
  refine lv_istore (lv' := [(6, .int kr), (0, .ref b), (1, .ref o), (2, .ref q0), (3, .ref out), (4, .ref outd), (5, .int (nI (4 * j)))]) hx hb dL_law_579 hl (by decide) rfl (fun ls hl => ?_)
  refine lv_aload_n hx hb dL_law_581 rfl (lv_at hl 3 rfl) ?_
  refine lv_aload_n hx hb dL_law_582 rfl (lv_at hl 1 rfl) ?_
  refine lv_iload hx hb dL_law_583 (lv_at hl 6 rfl) ?_
  refine lv_iconst (v := 1) hx hb dL_law_585 (by decide) ?_
  refine ni_add hx hb (4 * j) 1 dL_law_586 ?_
  refine l_sld C9 hS (4 * j + 1) (by omega) hL dL_law_587 ?_
  have hP := l_swP hP
  have hD := l_swD hD
  refine lw_Vi C9 (As := [.int (xs (4 * j + 1))]) (rest := []) gL_law_X13_layerOf rfl (maxL := 2) hr2 (n := 1) (by decide +kernel) rfl h2 (r9 := _) rfl rfl (M2 _) hc hsl hP hD hS hl.1 rfl (Nat.le_of_ble_eq_true rfl) dL_law_588 (fun H locs hP hD hS => ?_)
  refine lv_istore (lv' := [(7, .int br), (6, .int kr), (0, .ref b), (1, .ref o), (2, .ref q0), (3, .ref out), (4, .ref outd), (5, .int (nI (4 * j)))]) hx hb dL_law_591 hl (by decide) rfl (fun ls hl => ?_)
  refine lv_aload_n hx hb dL_law_593 rfl (lv_at hl 4 rfl) ?_
  refine lw_Ri C9 (As := []) (rest := []) gL_law_X13_thrown rfl (maxL := 1) hr3 (n := 0) (by decide +kernel) rfl h3 (r9 := _) rfl rfl M3 hc hsl (l_P1 (wr := we) (by rw [← hm]; exact l_P1 hP)) hl.1 rfl (Nat.le_of_ble_eq_true rfl) dL_law_594 ?_
  refine lv_iload hx hb dL_law_597 (lv_at hl 1 rfl) ?_
  refine lv_icmp_eq (tgt := 604) hx hb dL_law_599 (by decide) (fun c_1 => ?_) (fun c_1 => ?_)
  · skip
    refine lv_iload hx hb dL_law_604 (lv_at hl 1 rfl) ?_
    refine lv_if_ne (tgt := 621) hx hb dL_law_606 (by decide) (fun c_2 => ?_) (fun c_2 => ?_)
    · skip
      refine lv_goto (tgt := 2694) hx hb dL_law_621 (by decide) ?_
      have hP := l_swP hP
      have hD := l_swD hD
      exact kk ls H locs (lv_sub hl [2, 3, 4, 5, 6, 7] rfl) hP hD hS
    · skip
      refine lv_aload_n hx hb dL_law_609 rfl (lv_at hl 5 rfl) ?_
      refine lv_iconst (v := 0) hx hb dL_law_610 (by decide) ?_
      have hP := l_swP hP
      have hD := l_swD hD
      refine l_la C9 (l_P1 hP) ho dL_law_611 ?_
      refine lv_iload hx hb dL_law_612 (lv_at hl 0 rfl) ?_
      refine lv_i2l hx hb dL_law_614 rfl ?_
      refine W.lcmp hx hb dL_law_615 ?_
      refine lv_if_eq (tgt := 621) hx hb dL_law_616 (by decide) (fun c_3 => ?_) (fun c_3 => ?_)
      · skip
        refine lv_goto (tgt := 2694) hx hb dL_law_621 (by decide) ?_
        exact kk ls H locs (lv_sub hl [2, 3, 4, 5, 6, 7] rfl) hP hD hS
      · exact absurd (l_cmp0 (heq c_2)) c_3
  · exact absurd hth c_1

set_option maxHeartbeats 4000000 in
set_option maxRecDepth 100000 in
theorem lc_6 {br : Int32} {ou : Nat → Int64} (ho : wc'[i9]? = some (out, .inl (k 3, 1, .inr (.inl ou)))) (C9 : LC ks kv kf ka kw D k p s m c A b L xs)
    (hc : cells + 1 ≤ 603072)
    (hsl : slots + 6 ≤ 7182442)
    (j : Nat)
    (hj : 4 * j + 4 ≤ L)
    (hL : L ≤ 2048)
    (hr1 : rm1.cells = 1 ∧ rm1.slots = 6 ∧ rm1.frames + 1 ≤ 2048 ∧ 8 + (5 + 11) + rm1.locals ≤ 94400) (M1 : Met l yL_attacks wsL_attacks rm1 (LPc ks kv kf ka kw D k [.ref o, .int (xs (4 * j + 1)), .int (xs (4 * j + 2)), .ref out] wc H.size) (WI D k wc' kr (va_A wc H.size)) 1 6 (va_A wc H.size))
    (hr2 : rm2.cells = 0 ∧ rm2.slots = 0 ∧ rm2.frames + 1 ≤ 2048 ∧ 8 + (3 + 11) + rm2.locals ≤ 94400) (M2 : ∀ sz : Nat, Met l yX13_attacks wsX13_attacks rm2 (WPc D k [.ref q0, .int (xs (4 * j + 1)), .int (xs (4 * j + 2))] wd sz) (WI D k wd' br (va_A wd sz)) 0 0 (va_A wd sz)) (h2 : wd[0]? = some (q0, .inr (11, fs2)))
    (hr3 : rm3.cells = 0 ∧ rm3.slots = 0 ∧ rm3.frames + 1 ≤ 2048 ∧ 8 + (1 + 11) + rm3.locals ≤ 94400) (M3 : Met l yX13_thrown wsX13_thrown rm3 (RPc D k [.ref q0] wm) (EI th) 0 0 noA) (hm : wd' = wm ++ we) (h3 : wm[0]? = some (q0, .inr (11, fs3)))
    (hth : th = kr)
    (heq : kr = 0 → ou 0 = if br = 0 then 0 else 1)
    (hP : va_P D vwCl (wc ++ (wd ++ wr)) H)
    (hD : va_D A (wc ++ (wd ++ wr)))
    (hS : va_S A s.heap H locs)
    (hl : lv_has ls 10 [(0, .ref b), (1, .ref o), (2, .ref q0), (3, .ref out), (4, .ref outd), (5, .int (nI (4 * j)))])
    (kk : ∀ (ls : Array Slot) (H : Heap) (locs : List Loc), lv_has ls 10 [(0, .ref b), (1, .ref o), (2, .ref q0), (3, .ref out), (4, .ref outd), (5, .int (nI (4 * j)))] → va_P D vwCl (wc' ++ (wd' ++ wr)) H → va_D A (wc' ++ (wd' ++ wr)) → va_S A s.heap H locs → W p l e room_1 s m #[Value.ref b] below meth c H locs (cells + 1) (slots + 6) Q (F0 m 2694 ls [])) : W p l e room_1 s m #[Value.ref b] below meth c H locs cells slots Q (F0 m 624 ls []) := by
  obtain ⟨hF, hK, hN, hXN, hNC, hZ, hKC, hA, hX, hbl, hbA⟩ := id C9
  obtain ⟨hx, hb, hml, hown, hts⟩ := id hF
  refine lv_aload_n hx hb dL_law_624 rfl (lv_at hl 1 rfl) ?_
  refine lv_aload_n hx hb dL_law_625 rfl (lv_at hl 0 rfl) ?_
  refine lv_iload hx hb dL_law_626 (lv_at hl 5 rfl) ?_
  refine lv_iconst (v := 1) hx hb dL_law_628 (by decide) ?_
  refine ni_add hx hb (4 * j) 1 dL_law_629 ?_
  refine l_sld C9 hS (4 * j + 1) (by omega) hL dL_law_630 ?_
  refine lv_aload_n hx hb dL_law_631 rfl (lv_at hl 0 rfl) ?_
  refine lv_iload hx hb dL_law_632 (lv_at hl 5 rfl) ?_
  refine lv_iconst (v := 2) hx hb dL_law_634 (by decide) ?_
  refine ni_add hx hb (4 * j) 2 dL_law_635 ?_
  refine l_sld C9 hS (4 * j + 2) (by omega) hL dL_law_636 ?_
  refine lv_aload_n hx hb dL_law_637 rfl (lv_at hl 3 rfl) ?_
  refine lw_S C9 (As := [.ref o, .int (xs (4 * j + 1)), .int (xs (4 * j + 2)), .ref out]) (rest := []) gL_law_L_attacks rfl (maxL := 5) hr1 (n := 4) (by decide +kernel) rfl M1 hc hsl hP hD hS hl.1 rfl (Nat.le_of_ble_eq_true rfl) dL_law_638 (fun H locs hP hD hS => ?_)
  refine lv_istore (lv' := [(6, .int kr), (0, .ref b), (1, .ref o), (2, .ref q0), (3, .ref out), (4, .ref outd), (5, .int (nI (4 * j)))]) hx hb dL_law_641 hl (by decide) rfl (fun ls hl => ?_)
  refine lv_aload_n hx hb dL_law_643 rfl (lv_at hl 3 rfl) ?_
  refine lv_aload_n hx hb dL_law_644 rfl (lv_at hl 1 rfl) ?_
  refine lv_iload hx hb dL_law_645 (lv_at hl 6 rfl) ?_
  refine lv_iconst (v := 1) hx hb dL_law_647 (by decide) ?_
  refine ni_add hx hb (4 * j) 1 dL_law_648 ?_
  refine l_sld C9 hS (4 * j + 1) (by omega) hL dL_law_649 ?_
  refine lv_aload_n hx hb dL_law_650 rfl (lv_at hl 1 rfl) ?_
  refine lv_iload hx hb dL_law_651 (lv_at hl 6 rfl) ?_
  refine lv_iconst (v := 2) hx hb dL_law_653 (by decide) ?_
  refine ni_add hx hb (4 * j) 2 dL_law_654 ?_
  refine l_sld C9 hS (4 * j + 2) (by omega) hL dL_law_655 ?_
  have hP := l_swP hP
  have hD := l_swD hD
  refine lw_Vi C9 (As := [.int (xs (4 * j + 1)), .int (xs (4 * j + 2))]) (rest := []) gL_law_X13_attacks rfl (maxL := 3) hr2 (n := 2) (by decide +kernel) rfl h2 (r9 := _) rfl rfl (M2 _) hc hsl hP hD hS hl.1 rfl (Nat.le_of_ble_eq_true rfl) dL_law_656 (fun H locs hP hD hS => ?_)
  refine lv_istore (lv' := [(7, .int br), (6, .int kr), (0, .ref b), (1, .ref o), (2, .ref q0), (3, .ref out), (4, .ref outd), (5, .int (nI (4 * j)))]) hx hb dL_law_659 hl (by decide) rfl (fun ls hl => ?_)
  refine lv_aload_n hx hb dL_law_661 rfl (lv_at hl 4 rfl) ?_
  refine lw_Ri C9 (As := []) (rest := []) gL_law_X13_thrown rfl (maxL := 1) hr3 (n := 0) (by decide +kernel) rfl h3 (r9 := _) rfl rfl M3 hc hsl (l_P1 (wr := we) (by rw [← hm]; exact l_P1 hP)) hl.1 rfl (Nat.le_of_ble_eq_true rfl) dL_law_662 ?_
  refine lv_iload hx hb dL_law_665 (lv_at hl 1 rfl) ?_
  refine lv_icmp_eq (tgt := 672) hx hb dL_law_667 (by decide) (fun c_1 => ?_) (fun c_1 => ?_)
  · skip
    refine lv_iload hx hb dL_law_672 (lv_at hl 1 rfl) ?_
    refine lv_if_ne (tgt := 696) hx hb dL_law_674 (by decide) (fun c_2 => ?_) (fun c_2 => ?_)
    · skip
      refine lv_goto (tgt := 2694) hx hb dL_law_696 (by decide) ?_
      have hP := l_swP hP
      have hD := l_swD hD
      exact kk ls H locs (lv_sub hl [2, 3, 4, 5, 6, 7] rfl) hP hD hS
    · skip
      refine lv_aload_n hx hb dL_law_677 rfl (lv_at hl 5 rfl) ?_
      refine lv_iconst (v := 0) hx hb dL_law_678 (by decide) ?_
      have hP := l_swP hP
      have hD := l_swD hD
      refine l_la C9 (l_P1 hP) ho dL_law_679 ?_
      refine lv_iload hx hb dL_law_680 (lv_at hl 0 rfl) ?_
      refine lv_if_eq (tgt := 689) hx hb dL_law_682 (by decide) (fun c_3 => ?_) (fun c_3 => ?_)
      · skip
        refine lv_lconst (v := 0) hx hb dL_law_689 (by decide) ?_
        refine W.lcmp hx hb dL_law_690 ?_
        refine lv_if_eq (tgt := 696) hx hb dL_law_691 (by decide) (fun c_4 => ?_) (fun c_4 => ?_)
        · skip
          refine lv_goto (tgt := 2694) hx hb dL_law_696 (by decide) ?_
          exact kk ls H locs (lv_sub hl [2, 3, 4, 5, 6, 7] rfl) hP hD hS
        · exact absurd (l_cmp0 ((heq c_2).trans (if_pos c_3))) c_4
      · skip
        refine lv_lconst (v := 1) hx hb dL_law_685 (by decide) ?_
        refine lv_goto (tgt := 690) hx hb dL_law_686 (by decide) ?_
        refine W.lcmp hx hb dL_law_690 ?_
        refine lv_if_eq (tgt := 696) hx hb dL_law_691 (by decide) (fun c_5 => ?_) (fun c_5 => ?_)
        · skip
          refine lv_goto (tgt := 2694) hx hb dL_law_696 (by decide) ?_
          exact kk ls H locs (lv_sub hl [2, 3, 4, 5, 6, 7] rfl) hP hD hS
        · exact absurd (l_cmp0 ((heq c_2).trans (if_neg c_3))) c_5
  · exact absurd hth c_1

set_option maxHeartbeats 4000000 in
set_option maxRecDepth 100000 in
theorem lc_7 {br : Int32} {xr : Int32} (C9 : LC ks kv kf ka kw D k p s m c A b L xs)
    (hc : cells ≤ 603072)
    (hsl : slots ≤ 7182442)
    (j : Nat)
    (hj : 4 * j + 4 ≤ L)
    (hL : L ≤ 2048)
    (hr1 : rm1.cells = 0 ∧ rm1.slots = 0 ∧ rm1.frames + 1 ≤ 2048 ∧ 8 + (1 + 11) + rm1.locals ≤ 94400) (M1 : Met l yX12_acceptedBits wsX12_acceptedBits rm1 (RPc D k [.ref o] wc) (EI xr) 0 0 noA) (h1 : wc[0]? = some (o, .inr (10, fs1)))
    (hr2 : rm2.cells = 0 ∧ rm2.slots = 0 ∧ rm2.frames + 1 ≤ 2048 ∧ 8 + (1 + 11) + rm2.locals ≤ 94400) (M2 : ∀ sz : Nat, Met l yX13_acceptedBits wsX13_acceptedBits rm2 (WPc D k [.ref q0] wd sz) (WI D k wd' br (va_A wd sz)) 0 0 (va_A wd sz)) (h2 : wd[0]? = some (q0, .inr (11, fs2)))
    (heq : xr = br)
    (hP : va_P D vwCl (wc ++ (wd ++ wr)) H)
    (hD : va_D A (wc ++ (wd ++ wr)))
    (hS : va_S A s.heap H locs)
    (hl : lv_has ls 10 [(0, .ref b), (1, .ref o), (2, .ref q0), (3, .ref out), (4, .ref outd), (5, .int (nI (4 * j)))])
    (kk : ∀ (ls : Array Slot) (H : Heap) (locs : List Loc), lv_has ls 10 [(0, .ref b), (1, .ref o), (2, .ref q0), (3, .ref out), (4, .ref outd), (5, .int (nI (4 * j)))] → va_P D vwCl (wc ++ (wd' ++ wr)) H → va_D A (wc ++ (wd' ++ wr)) → va_S A s.heap H locs → W p l e room_1 s m #[Value.ref b] below meth c H locs cells slots Q (F0 m 2694 ls [])) : W p l e room_1 s m #[Value.ref b] below meth c H locs cells slots Q (F0 m 699 ls []) := by
  obtain ⟨hF, hK, hN, hXN, hNC, hZ, hKC, hA, hX, hbl, hbA⟩ := id C9
  obtain ⟨hx, hb, hml, hown, hts⟩ := id hF
  refine lv_aload_n hx hb dL_law_699 rfl (lv_at hl 1 rfl) ?_
  refine lw_Ri C9 (As := []) (rest := []) gL_law_X12_acceptedBits rfl (maxL := 1) hr1 (n := 0) (by decide +kernel) rfl h1 (r9 := _) rfl rfl M1 hc hsl (l_P1 hP) hl.1 rfl (Nat.le_of_ble_eq_true rfl) dL_law_700 ?_
  refine lv_aload_n hx hb dL_law_703 rfl (lv_at hl 2 rfl) ?_
  have hP := l_swP hP
  have hD := l_swD hD
  refine lw_Vi C9 (As := []) (rest := [.int xr]) gL_law_X13_acceptedBits rfl (maxL := 1) hr2 (n := 0) (by decide +kernel) rfl h2 (r9 := _) rfl rfl (M2 _) hc hsl hP hD hS hl.1 rfl (Nat.le_of_ble_eq_true rfl) dL_law_704 (fun H locs hP hD hS => ?_)
  refine lv_icmp_eq (tgt := 2694) hx hb dL_law_707 (by decide) (fun c_1 => ?_) (fun c_1 => ?_)
  · skip
    have hP := l_swP hP
    have hD := l_swD hD
    exact kk ls H locs (lv_sub hl [0, 1, 2, 3, 4, 5] rfl) hP hD hS
  · exact absurd heq c_1

set_option maxHeartbeats 4000000 in
set_option maxRecDepth 100000 in
theorem lc_8 {br : Int32} {xr : Int32} (C9 : LC ks kv kf ka kw D k p s m c A b L xs)
    (hc : cells ≤ 603072)
    (hsl : slots ≤ 7182442)
    (j : Nat)
    (hj : 4 * j + 4 ≤ L)
    (hL : L ≤ 2048)
    (hr1 : rm1.cells = 0 ∧ rm1.slots = 0 ∧ rm1.frames + 1 ≤ 2048 ∧ 8 + (1 + 11) + rm1.locals ≤ 94400) (M1 : Met l yX12_acceptedBitsByLabels wsX12_acceptedBitsByLabels rm1 (WPc D k [.ref o] wc H.size) (WI D k wc' xr (va_A wc H.size)) 0 0 (va_A wc H.size)) (h1 : wc[0]? = some (o, .inr (10, fs1)))
    (hr2 : rm2.cells = 0 ∧ rm2.slots = 0 ∧ rm2.frames + 1 ≤ 2048 ∧ 8 + (1 + 11) + rm2.locals ≤ 94400) (M2 : ∀ sz : Nat, Met l yX13_acceptedBitsByLabels wsX13_acceptedBitsByLabels rm2 (WPc D k [.ref q0] wd sz) (WI D k wd' br (va_A wd sz)) 0 0 (va_A wd sz)) (h2 : wd[0]? = some (q0, .inr (11, fs2)))
    (heq : xr = br)
    (hP : va_P D vwCl (wc ++ (wd ++ wr)) H)
    (hD : va_D A (wc ++ (wd ++ wr)))
    (hS : va_S A s.heap H locs)
    (hl : lv_has ls 10 [(0, .ref b), (1, .ref o), (2, .ref q0), (3, .ref out), (4, .ref outd), (5, .int (nI (4 * j)))])
    (kk : ∀ (ls : Array Slot) (H : Heap) (locs : List Loc), lv_has ls 10 [(0, .ref b), (1, .ref o), (2, .ref q0), (3, .ref out), (4, .ref outd), (5, .int (nI (4 * j)))] → va_P D vwCl (wc' ++ (wd' ++ wr)) H → va_D A (wc' ++ (wd' ++ wr)) → va_S A s.heap H locs → W p l e room_1 s m #[Value.ref b] below meth c H locs cells slots Q (F0 m 2694 ls [])) : W p l e room_1 s m #[Value.ref b] below meth c H locs cells slots Q (F0 m 712 ls []) := by
  obtain ⟨hF, hK, hN, hXN, hNC, hZ, hKC, hA, hX, hbl, hbA⟩ := id C9
  obtain ⟨hx, hb, hml, hown, hts⟩ := id hF
  refine lv_aload_n hx hb dL_law_712 rfl (lv_at hl 1 rfl) ?_
  refine lw_Vi C9 (As := []) (rest := []) gL_law_X12_acceptedBitsByLabels rfl (maxL := 1) hr1 (n := 0) (by decide +kernel) rfl h1 (r9 := _) rfl rfl M1 hc hsl hP hD hS hl.1 rfl (Nat.le_of_ble_eq_true rfl) dL_law_713 (fun H locs hP hD hS => ?_)
  refine lv_aload_n hx hb dL_law_716 rfl (lv_at hl 2 rfl) ?_
  have hP := l_swP hP
  have hD := l_swD hD
  refine lw_Vi C9 (As := []) (rest := [.int xr]) gL_law_X13_acceptedBitsByLabels rfl (maxL := 1) hr2 (n := 0) (by decide +kernel) rfl h2 (r9 := _) rfl rfl (M2 _) hc hsl hP hD hS hl.1 rfl (Nat.le_of_ble_eq_true rfl) dL_law_717 (fun H locs hP hD hS => ?_)
  refine lv_icmp_eq (tgt := 2694) hx hb dL_law_720 (by decide) (fun c_1 => ?_) (fun c_1 => ?_)
  · skip
    have hP := l_swP hP
    have hD := l_swD hD
    exact kk ls H locs (lv_sub hl [0, 1, 2, 3, 4, 5] rfl) hP hD hS
  · exact absurd heq c_1

set_option maxHeartbeats 4000000 in
set_option maxRecDepth 100000 in
theorem lc_9 {br : Int32} {ou : Nat → Int64} (ho : wc'[i9]? = some (out, .inl (k 3, 1, .inr (.inl ou)))) (C9 : LC ks kv kf ka kw D k p s m c A b L xs)
    (hc : cells + 1 ≤ 603072)
    (hsl : slots + 6 ≤ 7182442)
    (j : Nat)
    (hj : 4 * j + 4 ≤ L)
    (hL : L ≤ 2048)
    (hr1 : rm1.cells = 1 ∧ rm1.slots = 6 ∧ rm1.frames + 1 ≤ 2048 ∧ 8 + (4 + 11) + rm1.locals ≤ 94400) (M1 : Met l yL_isRejected wsL_isRejected rm1 (LPc ks kv kf ka kw D k [.ref o, .int (xs (4 * j + 1)), .ref out] wc H.size) (WI D k wc' kr (va_A wc H.size)) 1 6 (va_A wc H.size))
    (hr2 : rm2.cells = 0 ∧ rm2.slots = 0 ∧ rm2.frames + 1 ≤ 2048 ∧ 8 + (2 + 11) + rm2.locals ≤ 94400) (M2 : ∀ sz : Nat, Met l yX13_isRejected wsX13_isRejected rm2 (WPc D k [.ref q0, .int (xs (4 * j + 1))] wd sz) (WI D k wd' br (va_A wd sz)) 0 0 (va_A wd sz)) (h2 : wd[0]? = some (q0, .inr (11, fs2)))
    (hr3 : rm3.cells = 0 ∧ rm3.slots = 0 ∧ rm3.frames + 1 ≤ 2048 ∧ 8 + (1 + 11) + rm3.locals ≤ 94400) (M3 : Met l yX13_thrown wsX13_thrown rm3 (RPc D k [.ref q0] wm) (EI th) 0 0 noA) (hm : wd' = wm ++ we) (h3 : wm[0]? = some (q0, .inr (11, fs3)))
    (hth : th = kr)
    (heq : kr = 0 → ou 0 = if br = 0 then 0 else 1)
    (hP : va_P D vwCl (wc ++ (wd ++ wr)) H)
    (hD : va_D A (wc ++ (wd ++ wr)))
    (hS : va_S A s.heap H locs)
    (hl : lv_has ls 10 [(0, .ref b), (1, .ref o), (2, .ref q0), (3, .ref out), (4, .ref outd), (5, .int (nI (4 * j)))])
    (kk : ∀ (ls : Array Slot) (H : Heap) (locs : List Loc), lv_has ls 10 [(0, .ref b), (1, .ref o), (2, .ref q0), (3, .ref out), (4, .ref outd), (5, .int (nI (4 * j)))] → va_P D vwCl (wc' ++ (wd' ++ wr)) H → va_D A (wc' ++ (wd' ++ wr)) → va_S A s.heap H locs → W p l e room_1 s m #[Value.ref b] below meth c H locs (cells + 1) (slots + 6) Q (F0 m 2694 ls [])) : W p l e room_1 s m #[Value.ref b] below meth c H locs cells slots Q (F0 m 725 ls []) := by
  obtain ⟨hF, hK, hN, hXN, hNC, hZ, hKC, hA, hX, hbl, hbA⟩ := id C9
  obtain ⟨hx, hb, hml, hown, hts⟩ := id hF
  refine lv_aload_n hx hb dL_law_725 rfl (lv_at hl 1 rfl) ?_
  refine lv_aload_n hx hb dL_law_726 rfl (lv_at hl 0 rfl) ?_
  refine lv_iload hx hb dL_law_727 (lv_at hl 5 rfl) ?_
  refine lv_iconst (v := 1) hx hb dL_law_729 (by decide) ?_
  refine ni_add hx hb (4 * j) 1 dL_law_730 ?_
  refine l_sld C9 hS (4 * j + 1) (by omega) hL dL_law_731 ?_
  refine lv_aload_n hx hb dL_law_732 rfl (lv_at hl 3 rfl) ?_
  refine lw_S C9 (As := [.ref o, .int (xs (4 * j + 1)), .ref out]) (rest := []) gL_law_L_isRejected rfl (maxL := 4) hr1 (n := 3) (by decide +kernel) rfl M1 hc hsl hP hD hS hl.1 rfl (Nat.le_of_ble_eq_true rfl) dL_law_733 (fun H locs hP hD hS => ?_)
  refine lv_istore (lv' := [(6, .int kr), (0, .ref b), (1, .ref o), (2, .ref q0), (3, .ref out), (4, .ref outd), (5, .int (nI (4 * j)))]) hx hb dL_law_736 hl (by decide) rfl (fun ls hl => ?_)
  refine lv_aload_n hx hb dL_law_738 rfl (lv_at hl 3 rfl) ?_
  refine lv_aload_n hx hb dL_law_739 rfl (lv_at hl 1 rfl) ?_
  refine lv_iload hx hb dL_law_740 (lv_at hl 6 rfl) ?_
  refine lv_iconst (v := 1) hx hb dL_law_742 (by decide) ?_
  refine ni_add hx hb (4 * j) 1 dL_law_743 ?_
  refine l_sld C9 hS (4 * j + 1) (by omega) hL dL_law_744 ?_
  have hP := l_swP hP
  have hD := l_swD hD
  refine lw_Vi C9 (As := [.int (xs (4 * j + 1))]) (rest := []) gL_law_X13_isRejected rfl (maxL := 2) hr2 (n := 1) (by decide +kernel) rfl h2 (r9 := _) rfl rfl (M2 _) hc hsl hP hD hS hl.1 rfl (Nat.le_of_ble_eq_true rfl) dL_law_745 (fun H locs hP hD hS => ?_)
  refine lv_istore (lv' := [(7, .int br), (6, .int kr), (0, .ref b), (1, .ref o), (2, .ref q0), (3, .ref out), (4, .ref outd), (5, .int (nI (4 * j)))]) hx hb dL_law_748 hl (by decide) rfl (fun ls hl => ?_)
  refine lv_aload_n hx hb dL_law_750 rfl (lv_at hl 4 rfl) ?_
  refine lw_Ri C9 (As := []) (rest := []) gL_law_X13_thrown rfl (maxL := 1) hr3 (n := 0) (by decide +kernel) rfl h3 (r9 := _) rfl rfl M3 hc hsl (l_P1 (wr := we) (by rw [← hm]; exact l_P1 hP)) hl.1 rfl (Nat.le_of_ble_eq_true rfl) dL_law_751 ?_
  refine lv_iload hx hb dL_law_754 (lv_at hl 1 rfl) ?_
  refine lv_icmp_eq (tgt := 761) hx hb dL_law_756 (by decide) (fun c_1 => ?_) (fun c_1 => ?_)
  · skip
    refine lv_iload hx hb dL_law_761 (lv_at hl 1 rfl) ?_
    refine lv_if_ne (tgt := 785) hx hb dL_law_763 (by decide) (fun c_2 => ?_) (fun c_2 => ?_)
    · skip
      refine lv_goto (tgt := 2694) hx hb dL_law_785 (by decide) ?_
      have hP := l_swP hP
      have hD := l_swD hD
      exact kk ls H locs (lv_sub hl [2, 3, 4, 5, 6, 7] rfl) hP hD hS
    · skip
      refine lv_aload_n hx hb dL_law_766 rfl (lv_at hl 5 rfl) ?_
      refine lv_iconst (v := 0) hx hb dL_law_767 (by decide) ?_
      have hP := l_swP hP
      have hD := l_swD hD
      refine l_la C9 (l_P1 hP) ho dL_law_768 ?_
      refine lv_iload hx hb dL_law_769 (lv_at hl 0 rfl) ?_
      refine lv_if_eq (tgt := 778) hx hb dL_law_771 (by decide) (fun c_3 => ?_) (fun c_3 => ?_)
      · skip
        refine lv_lconst (v := 0) hx hb dL_law_778 (by decide) ?_
        refine W.lcmp hx hb dL_law_779 ?_
        refine lv_if_eq (tgt := 785) hx hb dL_law_780 (by decide) (fun c_4 => ?_) (fun c_4 => ?_)
        · skip
          refine lv_goto (tgt := 2694) hx hb dL_law_785 (by decide) ?_
          exact kk ls H locs (lv_sub hl [2, 3, 4, 5, 6, 7] rfl) hP hD hS
        · exact absurd (l_cmp0 ((heq c_2).trans (if_pos c_3))) c_4
      · skip
        refine lv_lconst (v := 1) hx hb dL_law_774 (by decide) ?_
        refine lv_goto (tgt := 779) hx hb dL_law_775 (by decide) ?_
        refine W.lcmp hx hb dL_law_779 ?_
        refine lv_if_eq (tgt := 785) hx hb dL_law_780 (by decide) (fun c_5 => ?_) (fun c_5 => ?_)
        · skip
          refine lv_goto (tgt := 2694) hx hb dL_law_785 (by decide) ?_
          exact kk ls H locs (lv_sub hl [2, 3, 4, 5, 6, 7] rfl) hP hD hS
        · exact absurd (l_cmp0 ((heq c_2).trans (if_neg c_3))) c_5
  · exact absurd hth c_1

set_option maxHeartbeats 4000000 in
set_option maxRecDepth 100000 in
theorem lc_10 {br : Int32} {xr : Int32} (C9 : LC ks kv kf ka kw D k p s m c A b L xs)
    (hc : cells ≤ 603072)
    (hsl : slots ≤ 7182442)
    (j : Nat)
    (hj : 4 * j + 4 ≤ L)
    (hL : L ≤ 2048)
    (hr1 : rm1.cells = 0 ∧ rm1.slots = 0 ∧ rm1.frames + 1 ≤ 2048 ∧ 8 + (1 + 11) + rm1.locals ≤ 94400) (M1 : Met l yX12_undecidedCount wsX12_undecidedCount rm1 (RPc D k [.ref o] wc) (EI xr) 0 0 noA) (h1 : wc[0]? = some (o, .inr (10, fs1)))
    (hr2 : rm2.cells = 0 ∧ rm2.slots = 0 ∧ rm2.frames + 1 ≤ 2048 ∧ 8 + (1 + 11) + rm2.locals ≤ 94400) (M2 : ∀ sz : Nat, Met l yX13_undecidedCount wsX13_undecidedCount rm2 (WPc D k [.ref q0] wd sz) (WI D k wd' br (va_A wd sz)) 0 0 (va_A wd sz)) (h2 : wd[0]? = some (q0, .inr (11, fs2)))
    (heq : xr = br)
    (hP : va_P D vwCl (wc ++ (wd ++ wr)) H)
    (hD : va_D A (wc ++ (wd ++ wr)))
    (hS : va_S A s.heap H locs)
    (hl : lv_has ls 10 [(0, .ref b), (1, .ref o), (2, .ref q0), (3, .ref out), (4, .ref outd), (5, .int (nI (4 * j)))])
    (kk : ∀ (ls : Array Slot) (H : Heap) (locs : List Loc), lv_has ls 10 [(0, .ref b), (1, .ref o), (2, .ref q0), (3, .ref out), (4, .ref outd), (5, .int (nI (4 * j)))] → va_P D vwCl (wc ++ (wd' ++ wr)) H → va_D A (wc ++ (wd' ++ wr)) → va_S A s.heap H locs → W p l e room_1 s m #[Value.ref b] below meth c H locs cells slots Q (F0 m 2694 ls [])) : W p l e room_1 s m #[Value.ref b] below meth c H locs cells slots Q (F0 m 788 ls []) := by
  obtain ⟨hF, hK, hN, hXN, hNC, hZ, hKC, hA, hX, hbl, hbA⟩ := id C9
  obtain ⟨hx, hb, hml, hown, hts⟩ := id hF
  refine lv_aload_n hx hb dL_law_788 rfl (lv_at hl 1 rfl) ?_
  refine lw_Ri C9 (As := []) (rest := []) gL_law_X12_undecidedCount rfl (maxL := 1) hr1 (n := 0) (by decide +kernel) rfl h1 (r9 := _) rfl rfl M1 hc hsl (l_P1 hP) hl.1 rfl (Nat.le_of_ble_eq_true rfl) dL_law_789 ?_
  refine lv_aload_n hx hb dL_law_792 rfl (lv_at hl 2 rfl) ?_
  have hP := l_swP hP
  have hD := l_swD hD
  refine lw_Vi C9 (As := []) (rest := [.int xr]) gL_law_X13_undecidedCount rfl (maxL := 1) hr2 (n := 0) (by decide +kernel) rfl h2 (r9 := _) rfl rfl (M2 _) hc hsl hP hD hS hl.1 rfl (Nat.le_of_ble_eq_true rfl) dL_law_793 (fun H locs hP hD hS => ?_)
  refine lv_icmp_eq (tgt := 2694) hx hb dL_law_796 (by decide) (fun c_1 => ?_) (fun c_1 => ?_)
  · skip
    have hP := l_swP hP
    have hD := l_swD hD
    exact kk ls H locs (lv_sub hl [0, 1, 2, 3, 4, 5] rfl) hP hD hS
  · exact absurd heq c_1

set_option maxHeartbeats 4000000 in
set_option maxRecDepth 100000 in
theorem lc_11 {br : Int32} {xr : Int32} (C9 : LC ks kv kf ka kw D k p s m c A b L xs)
    (hc : cells ≤ 603072)
    (hsl : slots ≤ 7182442)
    (j : Nat)
    (hj : 4 * j + 4 ≤ L)
    (hL : L ≤ 2048)
    (hr1 : rm1.cells = 0 ∧ rm1.slots = 0 ∧ rm1.frames + 1 ≤ 2048 ∧ 8 + (1 + 11) + rm1.locals ≤ 94400) (M1 : Met l yX12_positions wsX12_positions rm1 (RPc D k [.ref o] wc) (EI xr) 0 0 noA) (h1 : wc[0]? = some (o, .inr (10, fs1)))
    (hr2 : rm2.cells = 0 ∧ rm2.slots = 0 ∧ rm2.frames + 1 ≤ 2048 ∧ 8 + (3 + 11) + rm2.locals ≤ 94400) (M2 : ∀ sz : Nat, Met l yX13_positions wsX13_positions rm2 (WPc D k [.ref q0] wd sz) (WI D k wd' br (va_A wd sz)) 0 0 (va_A wd sz)) (h2 : wd[0]? = some (q0, .inr (11, fs2)))
    (heq : xr = br)
    (hP : va_P D vwCl (wc ++ (wd ++ wr)) H)
    (hD : va_D A (wc ++ (wd ++ wr)))
    (hS : va_S A s.heap H locs)
    (hl : lv_has ls 10 [(0, .ref b), (1, .ref o), (2, .ref q0), (3, .ref out), (4, .ref outd), (5, .int (nI (4 * j)))])
    (kk : ∀ (ls : Array Slot) (H : Heap) (locs : List Loc), lv_has ls 10 [(0, .ref b), (1, .ref o), (2, .ref q0), (3, .ref out), (4, .ref outd), (5, .int (nI (4 * j)))] → va_P D vwCl (wc ++ (wd' ++ wr)) H → va_D A (wc ++ (wd' ++ wr)) → va_S A s.heap H locs → W p l e room_1 s m #[Value.ref b] below meth c H locs cells slots Q (F0 m 2694 ls [])) : W p l e room_1 s m #[Value.ref b] below meth c H locs cells slots Q (F0 m 801 ls []) := by
  obtain ⟨hF, hK, hN, hXN, hNC, hZ, hKC, hA, hX, hbl, hbA⟩ := id C9
  obtain ⟨hx, hb, hml, hown, hts⟩ := id hF
  refine lv_aload_n hx hb dL_law_801 rfl (lv_at hl 1 rfl) ?_
  refine lw_Ri C9 (As := []) (rest := []) gL_law_X12_positions rfl (maxL := 1) hr1 (n := 0) (by decide +kernel) rfl h1 (r9 := _) rfl rfl M1 hc hsl (l_P1 hP) hl.1 rfl (Nat.le_of_ble_eq_true rfl) dL_law_802 ?_
  refine lv_aload_n hx hb dL_law_805 rfl (lv_at hl 2 rfl) ?_
  have hP := l_swP hP
  have hD := l_swD hD
  refine lw_Vi C9 (As := []) (rest := [.int xr]) gL_law_X13_positions rfl (maxL := 3) hr2 (n := 0) (by decide +kernel) rfl h2 (r9 := _) rfl rfl (M2 _) hc hsl hP hD hS hl.1 rfl (Nat.le_of_ble_eq_true rfl) dL_law_806 (fun H locs hP hD hS => ?_)
  refine lv_icmp_eq (tgt := 2694) hx hb dL_law_809 (by decide) (fun c_1 => ?_) (fun c_1 => ?_)
  · skip
    have hP := l_swP hP
    have hD := l_swD hD
    exact kk ls H locs (lv_sub hl [0, 1, 2, 3, 4, 5] rfl) hP hD hS
  · exact absurd heq c_1

set_option maxHeartbeats 4000000 in
set_option maxRecDepth 100000 in
theorem lc_12 {br : Int32} {xr : Int32} (C9 : LC ks kv kf ka kw D k p s m c A b L xs)
    (hc : cells ≤ 603072)
    (hsl : slots ≤ 7182442)
    (j : Nat)
    (hj : 4 * j + 4 ≤ L)
    (hL : L ≤ 2048)
    (hr1 : rm1.cells = 0 ∧ rm1.slots = 0 ∧ rm1.frames + 1 ≤ 2048 ∧ 8 + (1 + 11) + rm1.locals ≤ 94400) (M1 : Met l yX12_positionsByDeciding wsX12_positionsByDeciding rm1 (RPc D k [.ref o] wc) (EI xr) 0 0 noA) (h1 : wc[0]? = some (o, .inr (10, fs1)))
    (hr2 : rm2.cells = 0 ∧ rm2.slots = 0 ∧ rm2.frames + 1 ≤ 2048 ∧ 8 + (1 + 11) + rm2.locals ≤ 94400) (M2 : ∀ sz : Nat, Met l yX13_positionsByDeciding wsX13_positionsByDeciding rm2 (WPc D k [.ref q0] wd sz) (WI D k wd' br (va_A wd sz)) 0 0 (va_A wd sz)) (h2 : wd[0]? = some (q0, .inr (11, fs2)))
    (heq : xr = br)
    (hP : va_P D vwCl (wc ++ (wd ++ wr)) H)
    (hD : va_D A (wc ++ (wd ++ wr)))
    (hS : va_S A s.heap H locs)
    (hl : lv_has ls 10 [(0, .ref b), (1, .ref o), (2, .ref q0), (3, .ref out), (4, .ref outd), (5, .int (nI (4 * j)))])
    (kk : ∀ (ls : Array Slot) (H : Heap) (locs : List Loc), lv_has ls 10 [(0, .ref b), (1, .ref o), (2, .ref q0), (3, .ref out), (4, .ref outd), (5, .int (nI (4 * j)))] → va_P D vwCl (wc ++ (wd' ++ wr)) H → va_D A (wc ++ (wd' ++ wr)) → va_S A s.heap H locs → W p l e room_1 s m #[Value.ref b] below meth c H locs cells slots Q (F0 m 2694 ls [])) : W p l e room_1 s m #[Value.ref b] below meth c H locs cells slots Q (F0 m 814 ls []) := by
  obtain ⟨hF, hK, hN, hXN, hNC, hZ, hKC, hA, hX, hbl, hbA⟩ := id C9
  obtain ⟨hx, hb, hml, hown, hts⟩ := id hF
  refine lv_aload_n hx hb dL_law_814 rfl (lv_at hl 1 rfl) ?_
  refine lw_Ri C9 (As := []) (rest := []) gL_law_X12_positionsByDeciding rfl (maxL := 1) hr1 (n := 0) (by decide +kernel) rfl h1 (r9 := _) rfl rfl M1 hc hsl (l_P1 hP) hl.1 rfl (Nat.le_of_ble_eq_true rfl) dL_law_815 ?_
  refine lv_aload_n hx hb dL_law_818 rfl (lv_at hl 2 rfl) ?_
  have hP := l_swP hP
  have hD := l_swD hD
  refine lw_Vi C9 (As := []) (rest := [.int xr]) gL_law_X13_positionsByDeciding rfl (maxL := 1) hr2 (n := 0) (by decide +kernel) rfl h2 (r9 := _) rfl rfl (M2 _) hc hsl hP hD hS hl.1 rfl (Nat.le_of_ble_eq_true rfl) dL_law_819 (fun H locs hP hD hS => ?_)
  refine lv_icmp_eq (tgt := 2694) hx hb dL_law_822 (by decide) (fun c_1 => ?_) (fun c_1 => ?_)
  · skip
    have hP := l_swP hP
    have hD := l_swD hD
    exact kk ls H locs (lv_sub hl [0, 1, 2, 3, 4, 5] rfl) hP hD hS
  · exact absurd heq c_1

set_option maxHeartbeats 4000000 in
set_option maxRecDepth 100000 in
theorem lc_13 {br : Int32} {xr : Int32} (C9 : LC ks kv kf ka kw D k p s m c A b L xs)
    (hc : cells ≤ 603072)
    (hsl : slots ≤ 7182442)
    (j : Nat)
    (hj : 4 * j + 4 ≤ L)
    (hL : L ≤ 2048)
    (hr1 : rm1.cells = 0 ∧ rm1.slots = 0 ∧ rm1.frames + 1 ≤ 2048 ∧ 8 + (1 + 11) + rm1.locals ≤ 94400) (M1 : Met l yX12_heaviestWeight wsX12_heaviestWeight rm1 (RPc D k [.ref o] wc) (EI xr) 0 0 noA) (h1 : wc[0]? = some (o, .inr (10, fs1)))
    (hr2 : rm2.cells = 0 ∧ rm2.slots = 0 ∧ rm2.frames + 1 ≤ 2048 ∧ 8 + (1 + 11) + rm2.locals ≤ 94400) (M2 : ∀ sz : Nat, Met l yX13_heaviestWeight wsX13_heaviestWeight rm2 (WPc D k [.ref q0] wd sz) (WI D k wd' br (va_A wd sz)) 0 0 (va_A wd sz)) (h2 : wd[0]? = some (q0, .inr (11, fs2)))
    (heq : xr = br)
    (hP : va_P D vwCl (wc ++ (wd ++ wr)) H)
    (hD : va_D A (wc ++ (wd ++ wr)))
    (hS : va_S A s.heap H locs)
    (hl : lv_has ls 10 [(0, .ref b), (1, .ref o), (2, .ref q0), (3, .ref out), (4, .ref outd), (5, .int (nI (4 * j)))])
    (kk : ∀ (ls : Array Slot) (H : Heap) (locs : List Loc), lv_has ls 10 [(0, .ref b), (1, .ref o), (2, .ref q0), (3, .ref out), (4, .ref outd), (5, .int (nI (4 * j)))] → va_P D vwCl (wc ++ (wd' ++ wr)) H → va_D A (wc ++ (wd' ++ wr)) → va_S A s.heap H locs → W p l e room_1 s m #[Value.ref b] below meth c H locs cells slots Q (F0 m 2694 ls [])) : W p l e room_1 s m #[Value.ref b] below meth c H locs cells slots Q (F0 m 827 ls []) := by
  obtain ⟨hF, hK, hN, hXN, hNC, hZ, hKC, hA, hX, hbl, hbA⟩ := id C9
  obtain ⟨hx, hb, hml, hown, hts⟩ := id hF
  refine lv_aload_n hx hb dL_law_827 rfl (lv_at hl 1 rfl) ?_
  refine lw_Ri C9 (As := []) (rest := []) gL_law_X12_heaviestWeight rfl (maxL := 1) hr1 (n := 0) (by decide +kernel) rfl h1 (r9 := _) rfl rfl M1 hc hsl (l_P1 hP) hl.1 rfl (Nat.le_of_ble_eq_true rfl) dL_law_828 ?_
  refine lv_aload_n hx hb dL_law_831 rfl (lv_at hl 2 rfl) ?_
  have hP := l_swP hP
  have hD := l_swD hD
  refine lw_Vi C9 (As := []) (rest := [.int xr]) gL_law_X13_heaviestWeight rfl (maxL := 1) hr2 (n := 0) (by decide +kernel) rfl h2 (r9 := _) rfl rfl (M2 _) hc hsl hP hD hS hl.1 rfl (Nat.le_of_ble_eq_true rfl) dL_law_832 (fun H locs hP hD hS => ?_)
  refine lv_icmp_eq (tgt := 2694) hx hb dL_law_835 (by decide) (fun c_1 => ?_) (fun c_1 => ?_)
  · skip
    have hP := l_swP hP
    have hD := l_swD hD
    exact kk ls H locs (lv_sub hl [0, 1, 2, 3, 4, 5] rfl) hP hD hS
  · exact absurd heq c_1

set_option maxHeartbeats 4000000 in
set_option maxRecDepth 100000 in
theorem lc_14 {br : Int32} {xr : Int32} (C9 : LC ks kv kf ka kw D k p s m c A b L xs)
    (hc : cells ≤ 603072)
    (hsl : slots ≤ 7182442)
    (j : Nat)
    (hj : 4 * j + 4 ≤ L)
    (hL : L ≤ 2048)
    (hr1 : rm1.cells = 0 ∧ rm1.slots = 0 ∧ rm1.frames + 1 ≤ 2048 ∧ 8 + (1 + 11) + rm1.locals ≤ 94400) (M1 : Met l yX12_heaviestBits wsX12_heaviestBits rm1 (RPc D k [.ref o] wc) (EI xr) 0 0 noA) (h1 : wc[0]? = some (o, .inr (10, fs1)))
    (hr2 : rm2.cells = 0 ∧ rm2.slots = 0 ∧ rm2.frames + 1 ≤ 2048 ∧ 8 + (1 + 11) + rm2.locals ≤ 94400) (M2 : ∀ sz : Nat, Met l yX13_heaviestBits wsX13_heaviestBits rm2 (WPc D k [.ref q0] wd sz) (WI D k wd' br (va_A wd sz)) 0 0 (va_A wd sz)) (h2 : wd[0]? = some (q0, .inr (11, fs2)))
    (heq : xr = br)
    (hP : va_P D vwCl (wc ++ (wd ++ wr)) H)
    (hD : va_D A (wc ++ (wd ++ wr)))
    (hS : va_S A s.heap H locs)
    (hl : lv_has ls 10 [(0, .ref b), (1, .ref o), (2, .ref q0), (3, .ref out), (4, .ref outd), (5, .int (nI (4 * j)))])
    (kk : ∀ (ls : Array Slot) (H : Heap) (locs : List Loc), lv_has ls 10 [(0, .ref b), (1, .ref o), (2, .ref q0), (3, .ref out), (4, .ref outd), (5, .int (nI (4 * j)))] → va_P D vwCl (wc ++ (wd' ++ wr)) H → va_D A (wc ++ (wd' ++ wr)) → va_S A s.heap H locs → W p l e room_1 s m #[Value.ref b] below meth c H locs cells slots Q (F0 m 2694 ls [])) : W p l e room_1 s m #[Value.ref b] below meth c H locs cells slots Q (F0 m 840 ls []) := by
  obtain ⟨hF, hK, hN, hXN, hNC, hZ, hKC, hA, hX, hbl, hbA⟩ := id C9
  obtain ⟨hx, hb, hml, hown, hts⟩ := id hF
  refine lv_aload_n hx hb dL_law_840 rfl (lv_at hl 1 rfl) ?_
  refine lw_Ri C9 (As := []) (rest := []) gL_law_X12_heaviestBits rfl (maxL := 1) hr1 (n := 0) (by decide +kernel) rfl h1 (r9 := _) rfl rfl M1 hc hsl (l_P1 hP) hl.1 rfl (Nat.le_of_ble_eq_true rfl) dL_law_841 ?_
  refine lv_aload_n hx hb dL_law_844 rfl (lv_at hl 2 rfl) ?_
  have hP := l_swP hP
  have hD := l_swD hD
  refine lw_Vi C9 (As := []) (rest := [.int xr]) gL_law_X13_heaviestBits rfl (maxL := 1) hr2 (n := 0) (by decide +kernel) rfl h2 (r9 := _) rfl rfl (M2 _) hc hsl hP hD hS hl.1 rfl (Nat.le_of_ble_eq_true rfl) dL_law_845 (fun H locs hP hD hS => ?_)
  refine lv_icmp_eq (tgt := 2694) hx hb dL_law_848 (by decide) (fun c_1 => ?_) (fun c_1 => ?_)
  · skip
    have hP := l_swP hP
    have hD := l_swD hD
    exact kk ls H locs (lv_sub hl [0, 1, 2, 3, 4, 5] rfl) hP hD hS
  · exact absurd heq c_1

set_option maxHeartbeats 4000000 in
set_option maxRecDepth 100000 in
theorem lc_15 {br : Int32} {ou : Nat → Int64} (ho : wc'[i9]? = some (out, .inl (k 3, 1, .inr (.inl ou)))) (C9 : LC ks kv kf ka kw D k p s m c A b L xs)
    (hc : cells + 1 ≤ 603072)
    (hsl : slots + 6 ≤ 7182442)
    (j : Nat)
    (hj : 4 * j + 4 ≤ L)
    (hL : L ≤ 2048)
    (hr1 : rm1.cells = 1 ∧ rm1.slots = 6 ∧ rm1.frames + 1 ≤ 2048 ∧ 8 + (4 + 11) + rm1.locals ≤ 94400) (M1 : Met l yL_isPosition wsL_isPosition rm1 (LPc ks kv kf ka kw D k [.ref o, .int (xs (4 * j + 1)), .ref out] wc H.size) (WI D k wc' kr (va_A wc H.size)) 1 6 (va_A wc H.size))
    (hr2 : rm2.cells = 0 ∧ rm2.slots = 0 ∧ rm2.frames + 1 ≤ 2048 ∧ 8 + (2 + 11) + rm2.locals ≤ 94400) (M2 : ∀ sz : Nat, Met l yX13_isPosition wsX13_isPosition rm2 (WPc D k [.ref q0, .int (xs (4 * j + 1))] wd sz) (WI D k wd' br (va_A wd sz)) 0 0 (va_A wd sz)) (h2 : wd[0]? = some (q0, .inr (11, fs2)))
    (hr3 : rm3.cells = 0 ∧ rm3.slots = 0 ∧ rm3.frames + 1 ≤ 2048 ∧ 8 + (1 + 11) + rm3.locals ≤ 94400) (M3 : Met l yX13_thrown wsX13_thrown rm3 (RPc D k [.ref q0] wm) (EI th) 0 0 noA) (hm : wd' = wm ++ we) (h3 : wm[0]? = some (q0, .inr (11, fs3)))
    (hth : th = kr)
    (heq : kr = 0 → ou 0 = if br = 0 then 0 else 1)
    (hP : va_P D vwCl (wc ++ (wd ++ wr)) H)
    (hD : va_D A (wc ++ (wd ++ wr)))
    (hS : va_S A s.heap H locs)
    (hl : lv_has ls 10 [(0, .ref b), (1, .ref o), (2, .ref q0), (3, .ref out), (4, .ref outd), (5, .int (nI (4 * j)))])
    (kk : ∀ (ls : Array Slot) (H : Heap) (locs : List Loc), lv_has ls 10 [(0, .ref b), (1, .ref o), (2, .ref q0), (3, .ref out), (4, .ref outd), (5, .int (nI (4 * j)))] → va_P D vwCl (wc' ++ (wd' ++ wr)) H → va_D A (wc' ++ (wd' ++ wr)) → va_S A s.heap H locs → W p l e room_1 s m #[Value.ref b] below meth c H locs (cells + 1) (slots + 6) Q (F0 m 2694 ls [])) : W p l e room_1 s m #[Value.ref b] below meth c H locs cells slots Q (F0 m 853 ls []) := by
  obtain ⟨hF, hK, hN, hXN, hNC, hZ, hKC, hA, hX, hbl, hbA⟩ := id C9
  obtain ⟨hx, hb, hml, hown, hts⟩ := id hF
  refine lv_aload_n hx hb dL_law_853 rfl (lv_at hl 1 rfl) ?_
  refine lv_aload_n hx hb dL_law_854 rfl (lv_at hl 0 rfl) ?_
  refine lv_iload hx hb dL_law_855 (lv_at hl 5 rfl) ?_
  refine lv_iconst (v := 1) hx hb dL_law_857 (by decide) ?_
  refine ni_add hx hb (4 * j) 1 dL_law_858 ?_
  refine l_sld C9 hS (4 * j + 1) (by omega) hL dL_law_859 ?_
  refine lv_aload_n hx hb dL_law_860 rfl (lv_at hl 3 rfl) ?_
  refine lw_S C9 (As := [.ref o, .int (xs (4 * j + 1)), .ref out]) (rest := []) gL_law_L_isPosition rfl (maxL := 4) hr1 (n := 3) (by decide +kernel) rfl M1 hc hsl hP hD hS hl.1 rfl (Nat.le_of_ble_eq_true rfl) dL_law_861 (fun H locs hP hD hS => ?_)
  refine lv_istore (lv' := [(6, .int kr), (0, .ref b), (1, .ref o), (2, .ref q0), (3, .ref out), (4, .ref outd), (5, .int (nI (4 * j)))]) hx hb dL_law_864 hl (by decide) rfl (fun ls hl => ?_)
  refine lv_aload_n hx hb dL_law_866 rfl (lv_at hl 3 rfl) ?_
  refine lv_aload_n hx hb dL_law_867 rfl (lv_at hl 1 rfl) ?_
  refine lv_iload hx hb dL_law_868 (lv_at hl 6 rfl) ?_
  refine lv_iconst (v := 1) hx hb dL_law_870 (by decide) ?_
  refine ni_add hx hb (4 * j) 1 dL_law_871 ?_
  refine l_sld C9 hS (4 * j + 1) (by omega) hL dL_law_872 ?_
  have hP := l_swP hP
  have hD := l_swD hD
  refine lw_Vi C9 (As := [.int (xs (4 * j + 1))]) (rest := []) gL_law_X13_isPosition rfl (maxL := 2) hr2 (n := 1) (by decide +kernel) rfl h2 (r9 := _) rfl rfl (M2 _) hc hsl hP hD hS hl.1 rfl (Nat.le_of_ble_eq_true rfl) dL_law_873 (fun H locs hP hD hS => ?_)
  refine lv_istore (lv' := [(7, .int br), (6, .int kr), (0, .ref b), (1, .ref o), (2, .ref q0), (3, .ref out), (4, .ref outd), (5, .int (nI (4 * j)))]) hx hb dL_law_876 hl (by decide) rfl (fun ls hl => ?_)
  refine lv_aload_n hx hb dL_law_878 rfl (lv_at hl 4 rfl) ?_
  refine lw_Ri C9 (As := []) (rest := []) gL_law_X13_thrown rfl (maxL := 1) hr3 (n := 0) (by decide +kernel) rfl h3 (r9 := _) rfl rfl M3 hc hsl (l_P1 (wr := we) (by rw [← hm]; exact l_P1 hP)) hl.1 rfl (Nat.le_of_ble_eq_true rfl) dL_law_879 ?_
  refine lv_iload hx hb dL_law_882 (lv_at hl 1 rfl) ?_
  refine lv_icmp_eq (tgt := 889) hx hb dL_law_884 (by decide) (fun c_1 => ?_) (fun c_1 => ?_)
  · skip
    refine lv_iload hx hb dL_law_889 (lv_at hl 1 rfl) ?_
    refine lv_if_ne (tgt := 913) hx hb dL_law_891 (by decide) (fun c_2 => ?_) (fun c_2 => ?_)
    · skip
      refine lv_goto (tgt := 2694) hx hb dL_law_913 (by decide) ?_
      have hP := l_swP hP
      have hD := l_swD hD
      exact kk ls H locs (lv_sub hl [2, 3, 4, 5, 6, 7] rfl) hP hD hS
    · skip
      refine lv_aload_n hx hb dL_law_894 rfl (lv_at hl 5 rfl) ?_
      refine lv_iconst (v := 0) hx hb dL_law_895 (by decide) ?_
      have hP := l_swP hP
      have hD := l_swD hD
      refine l_la C9 (l_P1 hP) ho dL_law_896 ?_
      refine lv_iload hx hb dL_law_897 (lv_at hl 0 rfl) ?_
      refine lv_if_eq (tgt := 906) hx hb dL_law_899 (by decide) (fun c_3 => ?_) (fun c_3 => ?_)
      · skip
        refine lv_lconst (v := 0) hx hb dL_law_906 (by decide) ?_
        refine W.lcmp hx hb dL_law_907 ?_
        refine lv_if_eq (tgt := 913) hx hb dL_law_908 (by decide) (fun c_4 => ?_) (fun c_4 => ?_)
        · skip
          refine lv_goto (tgt := 2694) hx hb dL_law_913 (by decide) ?_
          exact kk ls H locs (lv_sub hl [2, 3, 4, 5, 6, 7] rfl) hP hD hS
        · exact absurd (l_cmp0 ((heq c_2).trans (if_pos c_3))) c_4
      · skip
        refine lv_lconst (v := 1) hx hb dL_law_902 (by decide) ?_
        refine lv_goto (tgt := 907) hx hb dL_law_903 (by decide) ?_
        refine W.lcmp hx hb dL_law_907 ?_
        refine lv_if_eq (tgt := 913) hx hb dL_law_908 (by decide) (fun c_5 => ?_) (fun c_5 => ?_)
        · skip
          refine lv_goto (tgt := 2694) hx hb dL_law_913 (by decide) ?_
          exact kk ls H locs (lv_sub hl [2, 3, 4, 5, 6, 7] rfl) hP hD hS
        · exact absurd (l_cmp0 ((heq c_2).trans (if_neg c_3))) c_5
  · exact absurd hth c_1

set_option maxHeartbeats 4000000 in
set_option maxRecDepth 100000 in
theorem lc_16 {br : Int32} {xr : Int32} (C9 : LC ks kv kf ka kw D k p s m c A b L xs)
    (hc : cells ≤ 603072)
    (hsl : slots ≤ 7182442)
    (j : Nat)
    (hj : 4 * j + 4 ≤ L)
    (hL : L ≤ 2048)
    (hr1 : rm1.cells = 0 ∧ rm1.slots = 0 ∧ rm1.frames + 1 ≤ 2048 ∧ 8 + (1 + 11) + rm1.locals ≤ 94400) (M1 : Met l yX12_circles wsX12_circles rm1 (RPc D k [.ref o] wc) (EI xr) 0 0 noA) (h1 : wc[0]? = some (o, .inr (10, fs1)))
    (hr2 : rm2.cells = 0 ∧ rm2.slots = 0 ∧ rm2.frames + 1 ≤ 2048 ∧ 8 + (3 + 11) + rm2.locals ≤ 94400) (M2 : ∀ sz : Nat, Met l yX13_circles wsX13_circles rm2 (WPc D k [.ref q0] wd sz) (WI D k wd' br (va_A wd sz)) 0 0 (va_A wd sz)) (h2 : wd[0]? = some (q0, .inr (11, fs2)))
    (heq : xr = br)
    (hP : va_P D vwCl (wc ++ (wd ++ wr)) H)
    (hD : va_D A (wc ++ (wd ++ wr)))
    (hS : va_S A s.heap H locs)
    (hl : lv_has ls 10 [(0, .ref b), (1, .ref o), (2, .ref q0), (3, .ref out), (4, .ref outd), (5, .int (nI (4 * j)))])
    (kk : ∀ (ls : Array Slot) (H : Heap) (locs : List Loc), lv_has ls 10 [(0, .ref b), (1, .ref o), (2, .ref q0), (3, .ref out), (4, .ref outd), (5, .int (nI (4 * j)))] → va_P D vwCl (wc ++ (wd' ++ wr)) H → va_D A (wc ++ (wd' ++ wr)) → va_S A s.heap H locs → W p l e room_1 s m #[Value.ref b] below meth c H locs cells slots Q (F0 m 2694 ls [])) : W p l e room_1 s m #[Value.ref b] below meth c H locs cells slots Q (F0 m 916 ls []) := by
  obtain ⟨hF, hK, hN, hXN, hNC, hZ, hKC, hA, hX, hbl, hbA⟩ := id C9
  obtain ⟨hx, hb, hml, hown, hts⟩ := id hF
  refine lv_aload_n hx hb dL_law_916 rfl (lv_at hl 1 rfl) ?_
  refine lw_Ri C9 (As := []) (rest := []) gL_law_X12_circles rfl (maxL := 1) hr1 (n := 0) (by decide +kernel) rfl h1 (r9 := _) rfl rfl M1 hc hsl (l_P1 hP) hl.1 rfl (Nat.le_of_ble_eq_true rfl) dL_law_917 ?_
  refine lv_aload_n hx hb dL_law_920 rfl (lv_at hl 2 rfl) ?_
  have hP := l_swP hP
  have hD := l_swD hD
  refine lw_Vi C9 (As := []) (rest := [.int xr]) gL_law_X13_circles rfl (maxL := 3) hr2 (n := 0) (by decide +kernel) rfl h2 (r9 := _) rfl rfl (M2 _) hc hsl hP hD hS hl.1 rfl (Nat.le_of_ble_eq_true rfl) dL_law_921 (fun H locs hP hD hS => ?_)
  refine lv_icmp_eq (tgt := 2694) hx hb dL_law_924 (by decide) (fun c_1 => ?_) (fun c_1 => ?_)
  · skip
    have hP := l_swP hP
    have hD := l_swD hD
    exact kk ls H locs (lv_sub hl [0, 1, 2, 3, 4, 5] rfl) hP hD hS
  · exact absurd heq c_1

set_option maxHeartbeats 4000000 in
set_option maxRecDepth 100000 in
theorem lc_17 {br : Int32} {xr : Int32} (C9 : LC ks kv kf ka kw D k p s m c A b L xs)
    (hc : cells ≤ 603072)
    (hsl : slots ≤ 7182442)
    (j : Nat)
    (hj : 4 * j + 4 ≤ L)
    (hL : L ≤ 2048)
    (hr1 : rm1.cells = 0 ∧ rm1.slots = 0 ∧ rm1.frames + 1 ≤ 2048 ∧ 8 + (1 + 11) + rm1.locals ≤ 94400) (M1 : Met l yX12_circlesByReach wsX12_circlesByReach rm1 (WPc D k [.ref o] wc H.size) (WI D k wc' xr (va_A wc H.size)) 0 0 (va_A wc H.size)) (h1 : wc[0]? = some (o, .inr (10, fs1)))
    (hr2 : rm2.cells = 0 ∧ rm2.slots = 0 ∧ rm2.frames + 1 ≤ 2048 ∧ 8 + (1 + 11) + rm2.locals ≤ 94400) (M2 : ∀ sz : Nat, Met l yX13_circlesByReach wsX13_circlesByReach rm2 (WPc D k [.ref q0] wd sz) (WI D k wd' br (va_A wd sz)) 0 0 (va_A wd sz)) (h2 : wd[0]? = some (q0, .inr (11, fs2)))
    (heq : xr = br)
    (hP : va_P D vwCl (wc ++ (wd ++ wr)) H)
    (hD : va_D A (wc ++ (wd ++ wr)))
    (hS : va_S A s.heap H locs)
    (hl : lv_has ls 10 [(0, .ref b), (1, .ref o), (2, .ref q0), (3, .ref out), (4, .ref outd), (5, .int (nI (4 * j)))])
    (kk : ∀ (ls : Array Slot) (H : Heap) (locs : List Loc), lv_has ls 10 [(0, .ref b), (1, .ref o), (2, .ref q0), (3, .ref out), (4, .ref outd), (5, .int (nI (4 * j)))] → va_P D vwCl (wc' ++ (wd' ++ wr)) H → va_D A (wc' ++ (wd' ++ wr)) → va_S A s.heap H locs → W p l e room_1 s m #[Value.ref b] below meth c H locs cells slots Q (F0 m 2694 ls [])) : W p l e room_1 s m #[Value.ref b] below meth c H locs cells slots Q (F0 m 929 ls []) := by
  obtain ⟨hF, hK, hN, hXN, hNC, hZ, hKC, hA, hX, hbl, hbA⟩ := id C9
  obtain ⟨hx, hb, hml, hown, hts⟩ := id hF
  refine lv_aload_n hx hb dL_law_929 rfl (lv_at hl 1 rfl) ?_
  refine lw_Vi C9 (As := []) (rest := []) gL_law_X12_circlesByReach rfl (maxL := 1) hr1 (n := 0) (by decide +kernel) rfl h1 (r9 := _) rfl rfl M1 hc hsl hP hD hS hl.1 rfl (Nat.le_of_ble_eq_true rfl) dL_law_930 (fun H locs hP hD hS => ?_)
  refine lv_aload_n hx hb dL_law_933 rfl (lv_at hl 2 rfl) ?_
  have hP := l_swP hP
  have hD := l_swD hD
  refine lw_Vi C9 (As := []) (rest := [.int xr]) gL_law_X13_circlesByReach rfl (maxL := 1) hr2 (n := 0) (by decide +kernel) rfl h2 (r9 := _) rfl rfl (M2 _) hc hsl hP hD hS hl.1 rfl (Nat.le_of_ble_eq_true rfl) dL_law_934 (fun H locs hP hD hS => ?_)
  refine lv_icmp_eq (tgt := 2694) hx hb dL_law_937 (by decide) (fun c_1 => ?_) (fun c_1 => ?_)
  · skip
    have hP := l_swP hP
    have hD := l_swD hD
    exact kk ls H locs (lv_sub hl [0, 1, 2, 3, 4, 5] rfl) hP hD hS
  · exact absurd heq c_1

set_option maxHeartbeats 4000000 in
set_option maxRecDepth 100000 in
theorem lc_18 {br : Int32} {ou : Nat → Int64} (ho : wc'[i9]? = some (out, .inl (k 3, 1, .inr (.inl ou)))) (C9 : LC ks kv kf ka kw D k p s m c A b L xs)
    (hc : cells + 1 ≤ 603072)
    (hsl : slots + 6 ≤ 7182442)
    (j : Nat)
    (hj : 4 * j + 4 ≤ L)
    (hL : L ≤ 2048)
    (hr1 : rm1.cells = 1 ∧ rm1.slots = 6 ∧ rm1.frames + 1 ≤ 2048 ∧ 8 + (4 + 11) + rm1.locals ≤ 94400) (M1 : Met l yL_circleSize wsL_circleSize rm1 (LPc ks kv kf ka kw D k [.ref o, .int (xs (4 * j + 1)), .ref out] wc H.size) (WI D k wc' kr (va_A wc H.size)) 1 6 (va_A wc H.size))
    (hr2 : rm2.cells = 0 ∧ rm2.slots = 0 ∧ rm2.frames + 1 ≤ 2048 ∧ 8 + (2 + 11) + rm2.locals ≤ 94400) (M2 : ∀ sz : Nat, Met l yX13_circleSize wsX13_circleSize rm2 (WPc D k [.ref q0, .int (xs (4 * j + 1))] wd sz) (WI D k wd' br (va_A wd sz)) 0 0 (va_A wd sz)) (h2 : wd[0]? = some (q0, .inr (11, fs2)))
    (hr3 : rm3.cells = 0 ∧ rm3.slots = 0 ∧ rm3.frames + 1 ≤ 2048 ∧ 8 + (1 + 11) + rm3.locals ≤ 94400) (M3 : Met l yX13_thrown wsX13_thrown rm3 (RPc D k [.ref q0] wm) (EI th) 0 0 noA) (hm : wd' = wm ++ we) (h3 : wm[0]? = some (q0, .inr (11, fs3)))
    (hth : th = kr)
    (heq : kr = 0 → ou 0 = br.toInt64)
    (hP : va_P D vwCl (wc ++ (wd ++ wr)) H)
    (hD : va_D A (wc ++ (wd ++ wr)))
    (hS : va_S A s.heap H locs)
    (hl : lv_has ls 10 [(0, .ref b), (1, .ref o), (2, .ref q0), (3, .ref out), (4, .ref outd), (5, .int (nI (4 * j)))])
    (kk : ∀ (ls : Array Slot) (H : Heap) (locs : List Loc), lv_has ls 10 [(0, .ref b), (1, .ref o), (2, .ref q0), (3, .ref out), (4, .ref outd), (5, .int (nI (4 * j)))] → va_P D vwCl (wc' ++ (wd' ++ wr)) H → va_D A (wc' ++ (wd' ++ wr)) → va_S A s.heap H locs → W p l e room_1 s m #[Value.ref b] below meth c H locs (cells + 1) (slots + 6) Q (F0 m 2694 ls [])) : W p l e room_1 s m #[Value.ref b] below meth c H locs cells slots Q (F0 m 942 ls []) := by
  obtain ⟨hF, hK, hN, hXN, hNC, hZ, hKC, hA, hX, hbl, hbA⟩ := id C9
  obtain ⟨hx, hb, hml, hown, hts⟩ := id hF
  refine lv_aload_n hx hb dL_law_942 rfl (lv_at hl 1 rfl) ?_
  refine lv_aload_n hx hb dL_law_943 rfl (lv_at hl 0 rfl) ?_
  refine lv_iload hx hb dL_law_944 (lv_at hl 5 rfl) ?_
  refine lv_iconst (v := 1) hx hb dL_law_946 (by decide) ?_
  refine ni_add hx hb (4 * j) 1 dL_law_947 ?_
  refine l_sld C9 hS (4 * j + 1) (by omega) hL dL_law_948 ?_
  refine lv_aload_n hx hb dL_law_949 rfl (lv_at hl 3 rfl) ?_
  refine lw_S C9 (As := [.ref o, .int (xs (4 * j + 1)), .ref out]) (rest := []) gL_law_L_circleSize rfl (maxL := 4) hr1 (n := 3) (by decide +kernel) rfl M1 hc hsl hP hD hS hl.1 rfl (Nat.le_of_ble_eq_true rfl) dL_law_950 (fun H locs hP hD hS => ?_)
  refine lv_istore (lv' := [(6, .int kr), (0, .ref b), (1, .ref o), (2, .ref q0), (3, .ref out), (4, .ref outd), (5, .int (nI (4 * j)))]) hx hb dL_law_953 hl (by decide) rfl (fun ls hl => ?_)
  refine lv_aload_n hx hb dL_law_955 rfl (lv_at hl 3 rfl) ?_
  refine lv_aload_n hx hb dL_law_956 rfl (lv_at hl 1 rfl) ?_
  refine lv_iload hx hb dL_law_957 (lv_at hl 6 rfl) ?_
  refine lv_iconst (v := 1) hx hb dL_law_959 (by decide) ?_
  refine ni_add hx hb (4 * j) 1 dL_law_960 ?_
  refine l_sld C9 hS (4 * j + 1) (by omega) hL dL_law_961 ?_
  have hP := l_swP hP
  have hD := l_swD hD
  refine lw_Vi C9 (As := [.int (xs (4 * j + 1))]) (rest := []) gL_law_X13_circleSize rfl (maxL := 2) hr2 (n := 1) (by decide +kernel) rfl h2 (r9 := _) rfl rfl (M2 _) hc hsl hP hD hS hl.1 rfl (Nat.le_of_ble_eq_true rfl) dL_law_962 (fun H locs hP hD hS => ?_)
  refine lv_istore (lv' := [(7, .int br), (6, .int kr), (0, .ref b), (1, .ref o), (2, .ref q0), (3, .ref out), (4, .ref outd), (5, .int (nI (4 * j)))]) hx hb dL_law_965 hl (by decide) rfl (fun ls hl => ?_)
  refine lv_aload_n hx hb dL_law_967 rfl (lv_at hl 4 rfl) ?_
  refine lw_Ri C9 (As := []) (rest := []) gL_law_X13_thrown rfl (maxL := 1) hr3 (n := 0) (by decide +kernel) rfl h3 (r9 := _) rfl rfl M3 hc hsl (l_P1 (wr := we) (by rw [← hm]; exact l_P1 hP)) hl.1 rfl (Nat.le_of_ble_eq_true rfl) dL_law_968 ?_
  refine lv_iload hx hb dL_law_971 (lv_at hl 1 rfl) ?_
  refine lv_icmp_eq (tgt := 978) hx hb dL_law_973 (by decide) (fun c_1 => ?_) (fun c_1 => ?_)
  · skip
    refine lv_iload hx hb dL_law_978 (lv_at hl 1 rfl) ?_
    refine lv_if_ne (tgt := 995) hx hb dL_law_980 (by decide) (fun c_2 => ?_) (fun c_2 => ?_)
    · skip
      refine lv_goto (tgt := 2694) hx hb dL_law_995 (by decide) ?_
      have hP := l_swP hP
      have hD := l_swD hD
      exact kk ls H locs (lv_sub hl [2, 3, 4, 5, 6, 7] rfl) hP hD hS
    · skip
      refine lv_aload_n hx hb dL_law_983 rfl (lv_at hl 5 rfl) ?_
      refine lv_iconst (v := 0) hx hb dL_law_984 (by decide) ?_
      have hP := l_swP hP
      have hD := l_swD hD
      refine l_la C9 (l_P1 hP) ho dL_law_985 ?_
      refine lv_iload hx hb dL_law_986 (lv_at hl 0 rfl) ?_
      refine lv_i2l hx hb dL_law_988 rfl ?_
      refine W.lcmp hx hb dL_law_989 ?_
      refine lv_if_eq (tgt := 995) hx hb dL_law_990 (by decide) (fun c_3 => ?_) (fun c_3 => ?_)
      · skip
        refine lv_goto (tgt := 2694) hx hb dL_law_995 (by decide) ?_
        exact kk ls H locs (lv_sub hl [2, 3, 4, 5, 6, 7] rfl) hP hD hS
      · exact absurd (l_cmp0 (heq c_2)) c_3
  · exact absurd hth c_1

set_option maxHeartbeats 4000000 in
set_option maxRecDepth 100000 in
theorem lc_19 {br : Int32} {ou : Nat → Int64} (ho : wc'[i9]? = some (out, .inl (k 3, 1, .inr (.inl ou)))) (C9 : LC ks kv kf ka kw D k p s m c A b L xs)
    (hc : cells + 1 ≤ 603072)
    (hsl : slots + 6 ≤ 7182442)
    (j : Nat)
    (hj : 4 * j + 4 ≤ L)
    (hL : L ≤ 2048)
    (hr1 : rm1.cells = 1 ∧ rm1.slots = 6 ∧ rm1.frames + 1 ≤ 2048 ∧ 8 + (6 + 11) + rm1.locals ≤ 94400) (M1 : Met l yL_chains wsL_chains rm1 (LPc ks kv kf ka kw D k [.ref o, .int (xs (4 * j + 1)), .int (xs (4 * j + 2)), .int (xs (4 * j + 3)), .ref out] wc H.size) (WI D k wc' kr (va_A wc H.size)) 1 6 (va_A wc H.size))
    (hr2 : rm2.cells = 0 ∧ rm2.slots = 0 ∧ rm2.frames + 1 ≤ 2048 ∧ 8 + (7 + 11) + rm2.locals ≤ 94400) (M2 : ∀ sz : Nat, Met l yX13_chains wsX13_chains rm2 (WPc D k [.ref q0, .int (xs (4 * j + 1)), .int (xs (4 * j + 2)), .int (xs (4 * j + 3))] wd sz) (WI D k wd' br (va_A wd sz)) 0 0 (va_A wd sz)) (h2 : wd[0]? = some (q0, .inr (11, fs2)))
    (hr3 : rm3.cells = 0 ∧ rm3.slots = 0 ∧ rm3.frames + 1 ≤ 2048 ∧ 8 + (1 + 11) + rm3.locals ≤ 94400) (M3 : Met l yX13_thrown wsX13_thrown rm3 (RPc D k [.ref q0] wm) (EI th) 0 0 noA) (hm : wd' = wm ++ we) (h3 : wm[0]? = some (q0, .inr (11, fs3)))
    (hth : th = kr)
    (heq : kr = 0 → ou 0 = br.toInt64)
    (hP : va_P D vwCl (wc ++ (wd ++ wr)) H)
    (hD : va_D A (wc ++ (wd ++ wr)))
    (hS : va_S A s.heap H locs)
    (hl : lv_has ls 10 [(0, .ref b), (1, .ref o), (2, .ref q0), (3, .ref out), (4, .ref outd), (5, .int (nI (4 * j)))])
    (kk : ∀ (ls : Array Slot) (H : Heap) (locs : List Loc), lv_has ls 10 [(0, .ref b), (1, .ref o), (2, .ref q0), (3, .ref out), (4, .ref outd), (5, .int (nI (4 * j)))] → va_P D vwCl (wc' ++ (wd' ++ wr)) H → va_D A (wc' ++ (wd' ++ wr)) → va_S A s.heap H locs → W p l e room_1 s m #[Value.ref b] below meth c H locs (cells + 1) (slots + 6) Q (F0 m 2694 ls [])) : W p l e room_1 s m #[Value.ref b] below meth c H locs cells slots Q (F0 m 998 ls []) := by
  obtain ⟨hF, hK, hN, hXN, hNC, hZ, hKC, hA, hX, hbl, hbA⟩ := id C9
  obtain ⟨hx, hb, hml, hown, hts⟩ := id hF
  refine lv_aload_n hx hb dL_law_998 rfl (lv_at hl 1 rfl) ?_
  refine lv_aload_n hx hb dL_law_999 rfl (lv_at hl 0 rfl) ?_
  refine lv_iload hx hb dL_law_1000 (lv_at hl 5 rfl) ?_
  refine lv_iconst (v := 1) hx hb dL_law_1002 (by decide) ?_
  refine ni_add hx hb (4 * j) 1 dL_law_1003 ?_
  refine l_sld C9 hS (4 * j + 1) (by omega) hL dL_law_1004 ?_
  refine lv_aload_n hx hb dL_law_1005 rfl (lv_at hl 0 rfl) ?_
  refine lv_iload hx hb dL_law_1006 (lv_at hl 5 rfl) ?_
  refine lv_iconst (v := 2) hx hb dL_law_1008 (by decide) ?_
  refine ni_add hx hb (4 * j) 2 dL_law_1009 ?_
  refine l_sld C9 hS (4 * j + 2) (by omega) hL dL_law_1010 ?_
  refine lv_aload_n hx hb dL_law_1011 rfl (lv_at hl 0 rfl) ?_
  refine lv_iload hx hb dL_law_1012 (lv_at hl 5 rfl) ?_
  refine lv_iconst (v := 3) hx hb dL_law_1014 (by decide) ?_
  refine ni_add hx hb (4 * j) 3 dL_law_1015 ?_
  refine l_sld C9 hS (4 * j + 3) (by omega) hL dL_law_1016 ?_
  refine lv_aload_n hx hb dL_law_1017 rfl (lv_at hl 3 rfl) ?_
  refine lw_S C9 (As := [.ref o, .int (xs (4 * j + 1)), .int (xs (4 * j + 2)), .int (xs (4 * j + 3)), .ref out]) (rest := []) gL_law_L_chains rfl (maxL := 6) hr1 (n := 5) (by decide +kernel) rfl M1 hc hsl hP hD hS hl.1 rfl (Nat.le_of_ble_eq_true rfl) dL_law_1018 (fun H locs hP hD hS => ?_)
  refine lv_istore (lv' := [(6, .int kr), (0, .ref b), (1, .ref o), (2, .ref q0), (3, .ref out), (4, .ref outd), (5, .int (nI (4 * j)))]) hx hb dL_law_1021 hl (by decide) rfl (fun ls hl => ?_)
  refine lv_aload_n hx hb dL_law_1023 rfl (lv_at hl 3 rfl) ?_
  refine lv_aload_n hx hb dL_law_1024 rfl (lv_at hl 1 rfl) ?_
  refine lv_iload hx hb dL_law_1025 (lv_at hl 6 rfl) ?_
  refine lv_iconst (v := 1) hx hb dL_law_1027 (by decide) ?_
  refine ni_add hx hb (4 * j) 1 dL_law_1028 ?_
  refine l_sld C9 hS (4 * j + 1) (by omega) hL dL_law_1029 ?_
  refine lv_aload_n hx hb dL_law_1030 rfl (lv_at hl 1 rfl) ?_
  refine lv_iload hx hb dL_law_1031 (lv_at hl 6 rfl) ?_
  refine lv_iconst (v := 2) hx hb dL_law_1033 (by decide) ?_
  refine ni_add hx hb (4 * j) 2 dL_law_1034 ?_
  refine l_sld C9 hS (4 * j + 2) (by omega) hL dL_law_1035 ?_
  refine lv_aload_n hx hb dL_law_1036 rfl (lv_at hl 1 rfl) ?_
  refine lv_iload hx hb dL_law_1037 (lv_at hl 6 rfl) ?_
  refine lv_iconst (v := 3) hx hb dL_law_1039 (by decide) ?_
  refine ni_add hx hb (4 * j) 3 dL_law_1040 ?_
  refine l_sld C9 hS (4 * j + 3) (by omega) hL dL_law_1041 ?_
  have hP := l_swP hP
  have hD := l_swD hD
  refine lw_Vi C9 (As := [.int (xs (4 * j + 1)), .int (xs (4 * j + 2)), .int (xs (4 * j + 3))]) (rest := []) gL_law_X13_chains rfl (maxL := 7) hr2 (n := 3) (by decide +kernel) rfl h2 (r9 := _) rfl rfl (M2 _) hc hsl hP hD hS hl.1 rfl (Nat.le_of_ble_eq_true rfl) dL_law_1042 (fun H locs hP hD hS => ?_)
  refine lv_istore (lv' := [(7, .int br), (6, .int kr), (0, .ref b), (1, .ref o), (2, .ref q0), (3, .ref out), (4, .ref outd), (5, .int (nI (4 * j)))]) hx hb dL_law_1045 hl (by decide) rfl (fun ls hl => ?_)
  refine lv_aload_n hx hb dL_law_1047 rfl (lv_at hl 4 rfl) ?_
  refine lw_Ri C9 (As := []) (rest := []) gL_law_X13_thrown rfl (maxL := 1) hr3 (n := 0) (by decide +kernel) rfl h3 (r9 := _) rfl rfl M3 hc hsl (l_P1 (wr := we) (by rw [← hm]; exact l_P1 hP)) hl.1 rfl (Nat.le_of_ble_eq_true rfl) dL_law_1048 ?_
  refine lv_iload hx hb dL_law_1051 (lv_at hl 1 rfl) ?_
  refine lv_icmp_eq (tgt := 1058) hx hb dL_law_1053 (by decide) (fun c_1 => ?_) (fun c_1 => ?_)
  · skip
    refine lv_iload hx hb dL_law_1058 (lv_at hl 1 rfl) ?_
    refine lv_if_ne (tgt := 1075) hx hb dL_law_1060 (by decide) (fun c_2 => ?_) (fun c_2 => ?_)
    · skip
      refine lv_goto (tgt := 2694) hx hb dL_law_1075 (by decide) ?_
      have hP := l_swP hP
      have hD := l_swD hD
      exact kk ls H locs (lv_sub hl [2, 3, 4, 5, 6, 7] rfl) hP hD hS
    · skip
      refine lv_aload_n hx hb dL_law_1063 rfl (lv_at hl 5 rfl) ?_
      refine lv_iconst (v := 0) hx hb dL_law_1064 (by decide) ?_
      have hP := l_swP hP
      have hD := l_swD hD
      refine l_la C9 (l_P1 hP) ho dL_law_1065 ?_
      refine lv_iload hx hb dL_law_1066 (lv_at hl 0 rfl) ?_
      refine lv_i2l hx hb dL_law_1068 rfl ?_
      refine W.lcmp hx hb dL_law_1069 ?_
      refine lv_if_eq (tgt := 1075) hx hb dL_law_1070 (by decide) (fun c_3 => ?_) (fun c_3 => ?_)
      · skip
        refine lv_goto (tgt := 2694) hx hb dL_law_1075 (by decide) ?_
        exact kk ls H locs (lv_sub hl [2, 3, 4, 5, 6, 7] rfl) hP hD hS
      · exact absurd (l_cmp0 (heq c_2)) c_3
  · exact absurd hth c_1

end LAWC

/-! The model: accepting, positions, the heaviest. -/
theorem bt_pw {n : Nat} (h : n ≤ 10) : ((1 : Int32) <<< (nI n &&& 31)) = nI (pw n) := by
  have : ∀ n : Nat, n ≤ 10 → ((1 : Int32) <<< (nI n &&& 31)) = nI (pw n) := by decide +kernel
  exact this n h
theorem orc (x y : Int32) : x ||| y = y ||| x := by
  apply tb_ext
  intro c _
  rw [tb_or, tb_or, Bool.or_comm]
def cntM (n : Nat) (t : Nat → Int32) (m : Nat) : Nat := up (fun i acc => if hldM n t (nI i) then acc + 1 else acc) 0 m
theorem cntM_s (n : Nat) (t : Nat → Int32) (m : Nat) : cntM n t (m + 1) = if hldM n t (nI m) then cntM n t m + 1 else cntM n t m := rfl
theorem cntM_le (n : Nat) (t : Nat → Int32) (m : Nat) : cntM n t m ≤ m := by
  induction m with
  | zero => exact Nat.le_refl _
  | succ m ih => rw [cntM_s]; split <;> omega
/-- the model passes over a set -/
def skM (n : Nat) (w t : Nat → Int32) (x y : Int32) : Bool := decide (adS n w x - adS n w y < 0) || (decide (adS n w x - adS n w y = 0) && decide (x &&& (x ^^^ y) &&& -(x ^^^ y) = 0)) || !hldM n t x
def hvM (n : Nat) (w t : Nat → Int32) (m : Nat) : Int32 := up (fun i acc => if skM n w t (nI (i + 1)) acc then acc else nI (i + 1)) 0 m
theorem hvM_s (n : Nat) (w t : Nat → Int32) (m : Nat) : hvM n w t (m + 1) = if skM n w t (nI (m + 1)) (hvM n w t m) then hvM n w t m else nI (m + 1) := rfl

set_option maxHeartbeats 4000000 in
set_option maxRecDepth 100000 in
theorem m_X13_accepted (l9 : Launch) (D : va_G) (k : Nat → ClassId) (q : Nat → Nat) (th ea fa : Int32) (ch tn he en ln : Nat) (sv wr dg : Bool) (v : Nat → Int32) (n : Nat) (hn : n ≤ 10) (hv0 : v 0 = nI n) : Met l9 yX13_accepted wsX13_accepted ({ frames := 3, cells := 0, slots := 0, locals := 68 }) (RPc D k [.ref (q 0)] (bMO k q th ea fa ch tn he en ln sv wr dg ++ bI83 k (q 1) v)) (EI (accM n (vt v))) 0 0 noA := by
  refine rMet (y := yX13_accepted) (cc := cX13_accepted) (maxL := 4) (ret := (some .int)) [.ref (q 0)] (by decide) rfl (Nat.le_of_ble_eq_true rfl) ?_
  intro p9 e9 s9 m9 bl9 me9 c9 ls hF hr hlocks hP hK hN hl
  have hl : lv_has ls 4 [(0, .ref (q 0))] := hl
  obtain ⟨hx, hb, hml, hown, hts⟩ := id hF
  have k_fieldLink_16 : (Cond.fieldLink RX13 16 "OpinionReactorModel" "v" "[I").before _ s9 = true := hts (.fieldLink RX13 16 "OpinionReactorModel" "v" "[I") (by decide +kernel)
  have kc_RX13 : ∀ w ∈ u_ws RX13 TX13 29, w ∈ wsX13_accepted := by decide +kernel
  have loop_4 : ∀ (fuel : Nat) (r : Nat) (w0 : Int32), (r ≤ n + 1) → (wasM n (vt v) r w0) → n + 2 - r < fuel → ∀ (ls : Array Slot), lv_has ls 4 [(0, .ref (q 0)), (1, .int (itM n (vt v) r)), (2, .int w0)] → W p9 l9 e9 ({ frames := 3, cells := 0, slots := 0, locals := 68 }) s9 m9 ([.ref (q 0)] : List Value).toArray bl9 me9 c9 s9.heap [] 0 0 (MQ bl9 (EI (accM n (vt v))) ([.ref (q 0)] : List Value).toArray s9 0 0 noA) (F0 m9 4 ls []) := by
    intro fuel
    induction fuel with
    | zero => intro r w0 hr0 hw0 hfuel_4; exact absurd hfuel_4 (Nat.not_lt_zero _)
    | succ fuel ih_4 =>
      intro r w0 hr0 hw0 hfuel_4 ls hl
      have loop_13 : ∀ (fuel : Nat) (i : Nat), (i ≤ n) → (¬ itM n (vt v) r = w0) → n - i < fuel → ∀ (ls : Array Slot), lv_has ls 4 [(0, .ref (q 0)), (1, .int (dfM n i (vt v) (itM n (vt v) r))), (2, .int (itM n (vt v) r)), (3, .int (nI i))] → W p9 l9 e9 ({ frames := 3, cells := 0, slots := 0, locals := 68 }) s9 m9 ([.ref (q 0)] : List Value).toArray bl9 me9 c9 s9.heap [] 0 0 (MQ bl9 (EI (accM n (vt v))) ([.ref (q 0)] : List Value).toArray s9 0 0 noA) (F0 m9 13 ls []) := by
        intro fuel
        induction fuel with
        | zero => intro i hi hne hfuel_13; exact absurd hfuel_13 (Nat.not_lt_zero _)
        | succ fuel ih_13 =>
          intro i hi hne hfuel_13 ls hl
          refine lv_iload_n hx hb dX13_accepted_13 rfl (lv_at hl 3 rfl) ?_
          refine lv_aload_n hx hb dX13_accepted_14 rfl (lv_at hl 0 rfl) ?_
          refine va_get (D := D) (ci := 11) (v := .ref (q 1)) (C := RX13) (T := TX13) (N := 29) hx hb hts kc_RX13 hown hK hP 0 rfl rfl 5 (by decide) k_fieldLink_16 (fun _ h9 => h9) rfl dX13_accepted_15 ?_
          refine lv_iconst (v := 0) hx hb dX13_accepted_18 (by decide) ?_
          refine ia_ld hx hb hK hP 1 rfl 0 (by omega) (by decide) dX13_accepted_19 ?_
          rw [hv0]
          refine lv_icmp_ge (tgt := 48) hx hb dX13_accepted_20 (by decide) (fun c_1 => ?_) (fun c_1 => ?_)
          · skip
            have c_1 : n ≤ i := (nI_leI (a := n) (b := i) (by omega) (by omega)).mp c_1
            refine lv_goto (tgt := 4) hx hb dX13_accepted_48 (by decide) ?_
            have e_2 : (dfM n i (vt v) (itM n (vt v) r) : Int32) = itM n (vt v) (r + 1) := by first | (with_reducible rfl) | (rw [itM_s]; rw [show i = n by omega])
            exact ih_4 (r + 1) (itM n (vt v) r) (by have := wasM_ne hn hr0 hw0 (by assumption); omega) (wasM_s _ _ _) (by have := wasM_ne hn hr0 hw0 (by assumption); omega) ls (lv_one hl 0 rfl rfl (lv_one hl 1 rfl (congrArg Value.int e_2) (lv_one hl 2 rfl rfl (lv_nil hl))))
          · skip
            have c_1 : ¬ n ≤ i := fun h => c_1 ((nI_leI (a := n) (b := i) (by omega) (by omega)).mpr h)
            refine lv_iload_n hx hb dX13_accepted_23 rfl (lv_at hl 1 rfl) ?_
            refine lv_aload_n hx hb dX13_accepted_24 rfl (lv_at hl 0 rfl) ?_
            refine lv_iload_n hx hb dX13_accepted_25 rfl (lv_at hl 2 rfl) ?_
            refine lv_iload_n hx hb dX13_accepted_26 rfl (lv_at hl 3 rfl) ?_
            refine vp_callSi (W.runV (As := [.int (itM n (vt v) r), .int (nI i)]) (rest := [.int (dfM n i (vt v) (itM n (vt v) r))]) hF (m_X13_defends l9 D k q th ea fa ch tn he en ln sv wr dg v n (itM n (vt v) r) i hn hv0 (by omega)) (cwV 2 hts gX13_accepted_X13_defends rfl rfl rfl (by decide +kernel) ⟨Nat.le_of_ble_eq_true rfl, Nat.le_of_ble_eq_true rfl⟩) (rPreV hK hN hP [0, 1] rfl 0 11 rfl rfl) rfl rfl hl.1 rfl (lv_room (Nat.le_of_ble_eq_true rfl)) dX13_accepted_27 ⟨Nat.zero_le _, Nat.zero_le _⟩) (fun r_3 hr_3 => ?_)
            subst hr_3
            refine lv_if_eq (tgt := 39) hx hb dX13_accepted_30 (by decide) (fun c_4 => ?_) (fun c_4 => ?_)
            · skip
              have c_4 : (dfc n (vt v) (itM n (vt v) r) i) = false := bI_0 c_4
              refine lv_iconst (v := 0) hx hb dX13_accepted_39 (by decide) ?_
              refine lv_ior hx hb dX13_accepted_40 ?_
              refine lv_istore_n (lv' := [(1, .int ((dfM n i (vt v) (itM n (vt v) r)) ||| 0)), (0, .ref (q 0)), (2, .int (itM n (vt v) r)), (3, .int (nI i))]) hx hb dX13_accepted_41 rfl hl (by decide) rfl (fun ls hl => ?_)
              refine lv_iinc (v := nI (i + 1)) (lv' := [(3, .int (nI (i + 1))), (1, .int ((dfM n i (vt v) (itM n (vt v) r)) ||| 0)), (0, .ref (q 0)), (2, .int (itM n (vt v) r))]) hx hb dX13_accepted_42 hl (k := 3) rfl (nI_inc i) (by decide) rfl (fun ls hl => ?_)
              refine lv_goto (tgt := 13) hx hb dX13_accepted_45 (by decide) ?_
              have e_5 : ((dfM n i (vt v) (itM n (vt v) r)) ||| 0 : Int32) = dfM n (i + 1) (vt v) (itM n (vt v) r) := by first | (with_reducible rfl) | (rw [dfM_s]; simp [*, bt])
              exact ih_13 (i + 1) (by omega) hne (by omega) ls (lv_one hl 2 rfl rfl (lv_one hl 1 rfl (congrArg Value.int e_5) (lv_one hl 3 rfl rfl (lv_one hl 0 rfl rfl (lv_nil hl)))))
            · skip
              have c_4 : (dfc n (vt v) (itM n (vt v) r) i) = true := bI_1 c_4
              refine lv_iconst (v := 1) hx hb dX13_accepted_33 (by decide) ?_
              refine lv_iload_n hx hb dX13_accepted_34 rfl (lv_at hl 3 rfl) ?_
              refine lv_ishl hx hb dX13_accepted_35 ?_
              refine lv_goto (tgt := 40) hx hb dX13_accepted_36 (by decide) ?_
              refine lv_ior hx hb dX13_accepted_40 ?_
              refine lv_istore_n (lv' := [(1, .int ((dfM n i (vt v) (itM n (vt v) r)) ||| (1 <<< ((nI i) &&& 31)))), (0, .ref (q 0)), (2, .int (itM n (vt v) r)), (3, .int (nI i))]) hx hb dX13_accepted_41 rfl hl (by decide) rfl (fun ls hl => ?_)
              refine lv_iinc (v := nI (i + 1)) (lv' := [(3, .int (nI (i + 1))), (1, .int ((dfM n i (vt v) (itM n (vt v) r)) ||| (1 <<< ((nI i) &&& 31)))), (0, .ref (q 0)), (2, .int (itM n (vt v) r))]) hx hb dX13_accepted_42 hl (k := 3) rfl (nI_inc i) (by decide) rfl (fun ls hl => ?_)
              refine lv_goto (tgt := 13) hx hb dX13_accepted_45 (by decide) ?_
              have e_6 : ((dfM n i (vt v) (itM n (vt v) r)) ||| (1 <<< ((nI i) &&& 31)) : Int32) = dfM n (i + 1) (vt v) (itM n (vt v) r) := by first | (with_reducible rfl) | (rw [dfM_s]; simp [*, bt])
              exact ih_13 (i + 1) (by omega) hne (by omega) ls (lv_one hl 2 rfl rfl (lv_one hl 1 rfl (congrArg Value.int e_6) (lv_one hl 3 rfl rfl (lv_one hl 0 rfl rfl (lv_nil hl)))))
      refine lv_iload_n hx hb dX13_accepted_4 rfl (lv_at hl 1 rfl) ?_
      refine lv_iload_n hx hb dX13_accepted_5 rfl (lv_at hl 2 rfl) ?_
      refine lv_icmp_eq (tgt := 51) hx hb dX13_accepted_6 (by decide) (fun c_7 => ?_) (fun c_7 => ?_)
      · skip
        refine lv_iload_n hx hb dX13_accepted_51 rfl (lv_at hl 1 rfl) ?_
        exact W.iret (v := itM n (vt v) r) hx hb hr (fun t9 ht hW => ⟨_, rfl, (by exact wasM_eq hr0 hw0 (by assumption)), ht⟩) (fun _ h => by cases h) dX13_accepted_52 hlocks
      · skip
        refine lv_iload_n hx hb dX13_accepted_9 rfl (lv_at hl 1 rfl) ?_
        refine lv_istore_n (lv' := [(2, .int (itM n (vt v) r)), (0, .ref (q 0)), (1, .int (itM n (vt v) r))]) hx hb dX13_accepted_10 rfl hl (by decide) rfl (fun ls hl => ?_)
        refine lv_iconst (v := 0) hx hb dX13_accepted_11 (by decide) ?_
        refine lv_istore_n (lv' := [(3, .int 0), (2, .int (itM n (vt v) r)), (0, .ref (q 0)), (1, .int (itM n (vt v) r))]) hx hb dX13_accepted_12 rfl hl (by decide) rfl (fun ls hl => ?_)
        have e_8 : (itM n (vt v) r : Int32) = dfM n 0 (vt v) (itM n (vt v) r) := by first | (with_reducible rfl) | (rfl)
        exact loop_13 ((n - 0) + 1) 0 (by omega) (by assumption) (Nat.lt_succ_self _) ls (lv_one hl 2 rfl rfl (lv_one hl 3 rfl (congrArg Value.int e_8) (lv_one hl 1 rfl rfl (lv_one hl 0 rfl rfl (lv_nil hl)))))
  refine lv_iconst (v := 0) hx hb dX13_accepted_0 (by decide) ?_
  refine lv_istore_n (lv' := [(1, .int 0), (0, .ref (q 0))]) hx hb dX13_accepted_1 rfl hl (by decide) rfl (fun ls hl => ?_)
  refine lv_iconst (v := (-1)) hx hb dX13_accepted_2 (by decide) ?_
  refine lv_istore_n (lv' := [(2, .int (-1)), (1, .int 0), (0, .ref (q 0))]) hx hb dX13_accepted_3 rfl hl (by decide) rfl (fun ls hl => ?_)
  have e_9 : (0 : Int32) = itM n (vt v) 0 := by first | (with_reducible rfl) | (rfl)
  exact loop_4 ((n + 2 - 0) + 1) 0 (-1) (by omega) (wasM_0 _ _) (Nat.lt_succ_self _) ls (lv_one hl 2 rfl rfl (lv_one hl 1 rfl (congrArg Value.int e_9) (lv_one hl 0 rfl rfl (lv_nil hl))))

set_option maxHeartbeats 4000000 in
set_option maxRecDepth 100000 in
theorem m_X13_positions (l9 : Launch) (D : va_G) (k : Nat → ClassId) (sz : Nat) (q : Nat → Nat) (th ea fa : Int32) (ch tn he en ln : Nat) (sv wr dg : Bool) (v : Nat → Int32) (n : Nat) (hn : n ≤ 10) (hv0 : v 0 = nI n) : Met l9 yX13_positions wsX13_positions ({ frames := 4, cells := 0, slots := 0, locals := 90 }) (WPc D k [.ref (q 0)] (bMO k q th ea fa ch tn he en ln sv wr dg ++ bI83 k (q 1) v) sz) (WI D k (bMO k q 0 ea fa ch tn he en ln sv wr dg ++ bI83 k (q 1) v) (nI (cntM n (vt v) (pw n))) (va_A (bMO k q th ea fa ch tn he en ln sv wr dg ++ bI83 k (q 1) v) sz)) 0 0 (va_A (bMO k q th ea fa ch tn he en ln sv wr dg ++ bI83 k (q 1) v) sz) := by
  have hpw := pw_le hn
  have hpw1 := pw_pos n
  refine wMet (y := yX13_positions) (cc := cX13_positions) (maxL := 3) (ret := (some .int)) (Qc := fun A => WI D k (bMO k q 0 ea fa ch tn he en ln sv wr dg ++ bI83 k (q 1) v) (nI (cntM n (vt v) (pw n))) A) [.ref (q 0)] (by decide) rfl (Nat.le_of_ble_eq_true rfl) ?_
  intro p9 e9 s9 m9 bl9 me9 c9 ls A H hF hr hlocks hP hK hN hD hA hS hl hin
  have hl : lv_has ls 3 [(0, .ref (q 0))] := hl
  obtain ⟨hx, hb, hml, hown, hts⟩ := id hF
  have k_fieldLink_16 : (Cond.fieldLink RX13 16 "OpinionReactorModel" "v" "[I").before _ s9 = true := hts (.fieldLink RX13 16 "OpinionReactorModel" "v" "[I") (by decide +kernel)
  have kc_RX13 : ∀ w ∈ u_ws RX13 TX13 29, w ∈ wsX13_positions := by decide +kernel
  have k_fieldLink_77 : (Cond.fieldLink RX13 77 "OpinionReactorModel" "thrown" "I").before _ s9 = true := hts (.fieldLink RX13 77 "OpinionReactorModel" "thrown" "I") (by decide +kernel)
  have loop_9 : ∀ (fuel : Nat) (i : Nat), (i ≤ pw n) → pw n - i < fuel → ∀ (ls : Array Slot), ∀ (H : Heap) (locs : List Loc), va_P D vwCl (bMO k q 0 ea fa ch tn he en ln sv wr dg ++ bI83 k (q 1) v) H → va_D A (bMO k q 0 ea fa ch tn he en ln sv wr dg ++ bI83 k (q 1) v) → va_S A s9.heap H locs → lv_has ls 3 [(0, .ref (q 0)), (1, .int (nI (cntM n (vt v) i))), (2, .int (nI i))] → W p9 l9 e9 ({ frames := 4, cells := 0, slots := 0, locals := 90 }) s9 m9 ([.ref (q 0)] : List Value).toArray bl9 me9 c9 H locs 0 0 (MQ bl9 (WI D k (bMO k q 0 ea fa ch tn he en ln sv wr dg ++ bI83 k (q 1) v) (nI (cntM n (vt v) (pw n))) A) ([.ref (q 0)] : List Value).toArray s9 0 0 A) (F0 m9 9 ls []) := by
    intro fuel
    induction fuel with
    | zero => intro i hi hfuel_9; exact absurd hfuel_9 (Nat.not_lt_zero _)
    | succ fuel ih_9 =>
      intro i hi hfuel_9 ls H locs hP hD hS hl
      refine lv_iload_n hx hb dX13_positions_9 rfl (lv_at hl 2 rfl) ?_
      refine lv_iconst (v := 1) hx hb dX13_positions_10 (by decide) ?_
      refine lv_aload_n hx hb dX13_positions_11 rfl (lv_at hl 0 rfl) ?_
      refine va_get (D := D) (ci := 11) (v := .ref (q 1)) (C := RX13) (T := TX13) (N := 29) hx hb hts kc_RX13 hown hK hP 0 rfl rfl 5 (by decide) k_fieldLink_16 (fun _ h9 => h9) rfl dX13_positions_12 ?_
      refine lv_iconst (v := 0) hx hb dX13_positions_15 (by decide) ?_
      refine ia_ld hx hb hK hP 1 rfl 0 (by omega) (by decide) dX13_positions_16 ?_
      rw [hv0]
      refine lv_ishl hx hb dX13_positions_17 ?_
      rw [show ((1 : Int32) <<< (nI n &&& 31)) = nI (pw n) from bt_pw hn]
      refine lv_icmp_ge (tgt := 43) hx hb dX13_positions_18 (by decide) (fun c_1 => ?_) (fun c_1 => ?_)
      · skip
        have c_1 : (pw n) ≤ i := (nI_leI (a := pw n) (b := i) (by omega) (by omega)).mp c_1
        refine lv_iload_n hx hb dX13_positions_43 rfl (lv_at hl 1 rfl) ?_
        exact W.iret (v := nI (cntM n (vt v) i)) hx hb hr (fun t9 ht hW => ⟨⟨_, (), rfl, (by rw [show i = pw n by omega]), ⟨by rw [ht]; exact hP, va_K.moved hW.alike hK, hD⟩⟩, hS.F ht⟩) hS.2.2 dX13_positions_44 hlocks
      · skip
        have c_1 : ¬ (pw n) ≤ i := fun h => c_1 ((nI_leI (a := pw n) (b := i) (by omega) (by omega)).mpr h)
        refine lv_iload_n hx hb dX13_positions_21 rfl (lv_at hl 1 rfl) ?_
        refine lv_aload_n hx hb dX13_positions_22 rfl (lv_at hl 0 rfl) ?_
        refine lv_iload_n hx hb dX13_positions_23 rfl (lv_at hl 2 rfl) ?_
        refine vp_callSi (W.runV (As := [.int (nI i)]) (rest := [.int (nI (cntM n (vt v) i))]) hF (m_X13_holds l9 D k q 0 ea fa ch tn he en ln sv wr dg v n (nI i) hn hv0) (cwV 1 hts gX13_positions_X13_holds rfl rfl rfl (by decide +kernel) ⟨Nat.le_of_ble_eq_true rfl, Nat.le_of_ble_eq_true rfl⟩) (rPreV hK hN hP [0, 1] rfl 0 11 rfl rfl) rfl rfl hl.1 rfl (lv_room (Nat.le_of_ble_eq_true rfl)) dX13_positions_24 ⟨Nat.zero_le _, Nat.zero_le _⟩) (fun r_2 hr_2 => ?_)
        subst hr_2
        refine lv_if_eq (tgt := 34) hx hb dX13_positions_27 (by decide) (fun c_3 => ?_) (fun c_3 => ?_)
        · skip
          have c_3 : (hldM n (vt v) (nI i)) = false := bI_0 c_3
          refine lv_iconst (v := 0) hx hb dX13_positions_34 (by decide) ?_
          refine ni_add hx hb (cntM n (vt v) i) 0 dX13_positions_35 ?_
          refine lv_istore_n (lv' := [(1, .int (nI ((cntM n (vt v) i) + 0))), (0, .ref (q 0)), (2, .int (nI i))]) hx hb dX13_positions_36 rfl hl (by decide) rfl (fun ls hl => ?_)
          refine lv_iinc (v := nI (i + 1)) (lv' := [(2, .int (nI (i + 1))), (1, .int (nI ((cntM n (vt v) i) + 0))), (0, .ref (q 0))]) hx hb dX13_positions_37 hl (k := 2) rfl (nI_inc i) (by decide) rfl (fun ls hl => ?_)
          refine lv_goto (tgt := 9) hx hb dX13_positions_40 (by decide) ?_
          have e_4 : (nI ((cntM n (vt v) i) + 0) : Int32) = nI (cntM n (vt v) (i + 1)) := by first | (with_reducible rfl) | (rw [cntM_s]; simp [*])
          exact ih_9 (i + 1) (by omega) (by omega) ls _ _ hP hD hS (lv_one hl 2 rfl rfl (lv_one hl 1 rfl (congrArg Value.int e_4) (lv_one hl 0 rfl rfl (lv_nil hl))))
        · skip
          have c_3 : (hldM n (vt v) (nI i)) = true := bI_1 c_3
          refine lv_iconst (v := 1) hx hb dX13_positions_30 (by decide) ?_
          refine lv_goto (tgt := 35) hx hb dX13_positions_31 (by decide) ?_
          refine ni_add hx hb (cntM n (vt v) i) 1 dX13_positions_35 ?_
          refine lv_istore_n (lv' := [(1, .int (nI ((cntM n (vt v) i) + 1))), (0, .ref (q 0)), (2, .int (nI i))]) hx hb dX13_positions_36 rfl hl (by decide) rfl (fun ls hl => ?_)
          refine lv_iinc (v := nI (i + 1)) (lv' := [(2, .int (nI (i + 1))), (1, .int (nI ((cntM n (vt v) i) + 1))), (0, .ref (q 0))]) hx hb dX13_positions_37 hl (k := 2) rfl (nI_inc i) (by decide) rfl (fun ls hl => ?_)
          refine lv_goto (tgt := 9) hx hb dX13_positions_40 (by decide) ?_
          have e_5 : (nI ((cntM n (vt v) i) + 1) : Int32) = nI (cntM n (vt v) (i + 1)) := by first | (with_reducible rfl) | (rw [cntM_s]; simp [*])
          exact ih_9 (i + 1) (by omega) (by omega) ls _ _ hP hD hS (lv_one hl 2 rfl rfl (lv_one hl 1 rfl (congrArg Value.int e_5) (lv_one hl 0 rfl rfl (lv_nil hl))))
  refine lv_aload_n hx hb dX13_positions_0 rfl (lv_at hl 0 rfl) ?_
  refine lv_iconst (v := 0) hx hb dX13_positions_1 (by decide) ?_
  refine va_put (D := D) (ci := 11) (v := .int 0) (ty := .int) (C := RX13) (T := TX13) (N := 29) hx hb hts kc_RX13 tyX13 tyX13_ok nmX13 hown hK hP hD hS 0 rfl rfl 0 (by decide) k_fieldLink_77 (fun _ h9 => h9) rfl (by decide +kernel) rfl rfl (Nat.le_of_ble_eq_true rfl) dX13_positions_2 (fun H locs hP hD hS => ?_)
  have hP : va_P D vwCl (bMO k q 0 ea fa ch tn he en ln sv wr dg ++ bI83 k (q 1) v) H := hP
  have hD : va_D A (bMO k q 0 ea fa ch tn he en ln sv wr dg ++ bI83 k (q 1) v) := hD
  refine lv_iconst (v := 0) hx hb dX13_positions_5 (by decide) ?_
  refine lv_istore_n (lv' := [(1, .int 0), (0, .ref (q 0))]) hx hb dX13_positions_6 rfl hl (by decide) rfl (fun ls hl => ?_)
  refine lv_iconst (v := 0) hx hb dX13_positions_7 (by decide) ?_
  refine lv_istore_n (lv' := [(2, .int 0), (1, .int 0), (0, .ref (q 0))]) hx hb dX13_positions_8 rfl hl (by decide) rfl (fun ls hl => ?_)
  have e_6 : (0 : Int32) = nI (cntM n (vt v) 0) := by first | (with_reducible rfl) | (rfl)
  exact loop_9 ((pw n - 0) + 1) 0 (by omega) (Nat.lt_succ_self _) ls _ _ hP hD hS (lv_one hl 2 rfl rfl (lv_one hl 1 rfl (congrArg Value.int e_6) (lv_one hl 0 rfl rfl (lv_nil hl))))

set_option maxHeartbeats 4000000 in
set_option maxRecDepth 100000 in
theorem m_X13_heaviest (l9 : Launch) (D : va_G) (k : Nat → ClassId) (q : Nat → Nat) (th ea fa : Int32) (ch tn he en ln : Nat) (sv wr dg : Bool) (v : Nat → Int32) (n : Nat) (hn : n ≤ 10) (hv0 : v 0 = nI n) : Met l9 yX13_heaviest wsX13_heaviest ({ frames := 4, cells := 0, slots := 0, locals := 90 }) (RPc D k [.ref (q 0)] (bMO k q th ea fa ch tn he en ln sv wr dg ++ bI83 k (q 1) v)) (EI (hvM n (vw v) (vt v) (pw n - 1))) 0 0 noA := by
  have hpw := pw_le hn
  have hpw1 := pw_pos n
  refine rMet (y := yX13_heaviest) (cc := cX13_heaviest) (maxL := 5) (ret := (some .int)) [.ref (q 0)] (by decide) rfl (Nat.le_of_ble_eq_true rfl) ?_
  intro p9 e9 s9 m9 bl9 me9 c9 ls hF hr hlocks hP hK hN hl
  have hl : lv_has ls 5 [(0, .ref (q 0))] := hl
  obtain ⟨hx, hb, hml, hown, hts⟩ := id hF
  have k_fieldLink_16 : (Cond.fieldLink RX13 16 "OpinionReactorModel" "v" "[I").before _ s9 = true := hts (.fieldLink RX13 16 "OpinionReactorModel" "v" "[I") (by decide +kernel)
  have kc_RX13 : ∀ w ∈ u_ws RX13 TX13 29, w ∈ wsX13_heaviest := by decide +kernel
  have loop_4 : ∀ (fuel : Nat) (i : Nat), (i + 1 ≤ pw n) → pw n - i < fuel → ∀ (ls : Array Slot), lv_has ls 5 [(0, .ref (q 0)), (1, .int (hvM n (vw v) (vt v) i)), (2, .int (nI (i + 1)))] → W p9 l9 e9 ({ frames := 4, cells := 0, slots := 0, locals := 90 }) s9 m9 ([.ref (q 0)] : List Value).toArray bl9 me9 c9 s9.heap [] 0 0 (MQ bl9 (EI (hvM n (vw v) (vt v) (pw n - 1))) ([.ref (q 0)] : List Value).toArray s9 0 0 noA) (F0 m9 4 ls []) := by
    intro fuel
    induction fuel with
    | zero => intro i hi hfuel_4; exact absurd hfuel_4 (Nat.not_lt_zero _)
    | succ fuel ih_4 =>
      intro i hi hfuel_4 ls hl
      refine lv_iload_n hx hb dX13_heaviest_4 rfl (lv_at hl 2 rfl) ?_
      refine lv_iconst (v := 1) hx hb dX13_heaviest_5 (by decide) ?_
      refine lv_aload_n hx hb dX13_heaviest_6 rfl (lv_at hl 0 rfl) ?_
      refine va_get (D := D) (ci := 11) (v := .ref (q 1)) (C := RX13) (T := TX13) (N := 29) hx hb hts kc_RX13 hown hK hP 0 rfl rfl 5 (by decide) k_fieldLink_16 (fun _ h9 => h9) rfl dX13_heaviest_7 ?_
      refine lv_iconst (v := 0) hx hb dX13_heaviest_10 (by decide) ?_
      refine ia_ld hx hb hK hP 1 rfl 0 (by omega) (by decide) dX13_heaviest_11 ?_
      rw [hv0]
      refine lv_ishl hx hb dX13_heaviest_12 ?_
      rw [show ((1 : Int32) <<< (nI n &&& 31)) = nI (pw n) from bt_pw hn]
      refine lv_icmp_ge (tgt := 71) hx hb dX13_heaviest_13 (by decide) (fun c_1 => ?_) (fun c_1 => ?_)
      · skip
        have c_1 : (pw n) ≤ (i + 1) := (nI_leI (a := pw n) (b := i + 1) (by omega) (by omega)).mp c_1
        refine lv_iload_n hx hb dX13_heaviest_71 rfl (lv_at hl 1 rfl) ?_
        exact W.iret (v := hvM n (vw v) (vt v) i) hx hb hr (fun t9 ht hW => ⟨_, rfl, (by rw [show i = pw n - 1 by omega]), ht⟩) (fun _ h => by cases h) dX13_heaviest_72 hlocks
      · skip
        have c_1 : ¬ (pw n) ≤ (i + 1) := fun h => c_1 ((nI_leI (a := pw n) (b := i + 1) (by omega) (by omega)).mpr h)
        refine lv_aload_n hx hb dX13_heaviest_16 rfl (lv_at hl 0 rfl) ?_
        refine lv_iload_n hx hb dX13_heaviest_17 rfl (lv_at hl 2 rfl) ?_
        refine vp_callSi (W.runV (As := [.int (nI (i + 1))]) (rest := []) hF (m_X13_weight l9 D k q th ea fa ch tn he en ln sv wr dg v n (nI (i + 1)) hn hv0) (cwV 1 hts gX13_heaviest_X13_weight rfl rfl rfl (by decide +kernel) ⟨Nat.le_of_ble_eq_true rfl, Nat.le_of_ble_eq_true rfl⟩) (rPreV hK hN hP [0, 1] rfl 0 11 rfl rfl) rfl rfl hl.1 rfl (lv_room (Nat.le_of_ble_eq_true rfl)) dX13_heaviest_18 ⟨Nat.zero_le _, Nat.zero_le _⟩) (fun r_2 hr_2 => ?_)
        subst hr_2
        refine lv_aload_n hx hb dX13_heaviest_21 rfl (lv_at hl 0 rfl) ?_
        refine lv_iload_n hx hb dX13_heaviest_22 rfl (lv_at hl 1 rfl) ?_
        refine vp_callSi (W.runV (As := [.int (hvM n (vw v) (vt v) i)]) (rest := [.int (adS n (vw v) (nI (i + 1)))]) hF (m_X13_weight l9 D k q th ea fa ch tn he en ln sv wr dg v n (hvM n (vw v) (vt v) i) hn hv0) (cwV 1 hts gX13_heaviest_X13_weight rfl rfl rfl (by decide +kernel) ⟨Nat.le_of_ble_eq_true rfl, Nat.le_of_ble_eq_true rfl⟩) (rPreV hK hN hP [0, 1] rfl 0 11 rfl rfl) rfl rfl hl.1 rfl (lv_room (Nat.le_of_ble_eq_true rfl)) dX13_heaviest_23 ⟨Nat.zero_le _, Nat.zero_le _⟩) (fun r_3 hr_3 => ?_)
        subst hr_3
        refine lv_isub hx hb dX13_heaviest_26 ?_
        refine lv_istore_n (lv' := [(3, .int ((adS n (vw v) (nI (i + 1))) - (adS n (vw v) (hvM n (vw v) (vt v) i)))), (0, .ref (q 0)), (1, .int (hvM n (vw v) (vt v) i)), (2, .int (nI (i + 1)))]) hx hb dX13_heaviest_27 rfl hl (by decide) rfl (fun ls hl => ?_)
        refine lv_iload_n hx hb dX13_heaviest_28 rfl (lv_at hl 3 rfl) ?_
        refine lv_iload_n hx hb dX13_heaviest_29 rfl (lv_at hl 2 rfl) ?_
        refine lv_ixor hx hb dX13_heaviest_30 ?_
        refine lv_istore (lv' := [(4, .int ((nI (i + 1)) ^^^ (hvM n (vw v) (vt v) i))), (3, .int ((adS n (vw v) (nI (i + 1))) - (adS n (vw v) (hvM n (vw v) (vt v) i)))), (0, .ref (q 0)), (1, .int (hvM n (vw v) (vt v) i)), (2, .int (nI (i + 1)))]) hx hb dX13_heaviest_31 hl (by decide) rfl (fun ls hl => ?_)
        refine lv_iload_n hx hb dX13_heaviest_33 rfl (lv_at hl 1 rfl) ?_
        refine lv_if_lt (tgt := 65) hx hb dX13_heaviest_34 (by decide) (fun c_4 => ?_) (fun c_4 => ?_)
        · skip
          refine lv_iinc (v := nI ((i + 1) + 1)) (lv' := [(2, .int (nI ((i + 1) + 1))), (4, .int ((nI (i + 1)) ^^^ (hvM n (vw v) (vt v) i))), (3, .int ((adS n (vw v) (nI (i + 1))) - (adS n (vw v) (hvM n (vw v) (vt v) i)))), (0, .ref (q 0)), (1, .int (hvM n (vw v) (vt v) i))]) hx hb dX13_heaviest_65 hl (k := 4) rfl (nI_inc (i + 1)) (by decide) rfl (fun ls hl => ?_)
          refine lv_goto (tgt := 4) hx hb dX13_heaviest_68 (by decide) ?_
          have e_5 : (hvM n (vw v) (vt v) i : Int32) = hvM n (vw v) (vt v) (i + 1) := by first | (with_reducible rfl) | (rw [hvM_s]; simp [*, skM])
          exact ih_4 (i + 1) (by omega) (by omega) ls (lv_one hl 3 rfl rfl (lv_one hl 4 rfl (congrArg Value.int e_5) (lv_one hl 0 rfl rfl (lv_nil hl))))
        · skip
          refine lv_iload_n hx hb dX13_heaviest_37 rfl (lv_at hl 1 rfl) ?_
          refine lv_if_ne (tgt := 52) hx hb dX13_heaviest_38 (by decide) (fun c_6 => ?_) (fun c_6 => ?_)
          · skip
            refine lv_aload_n hx hb dX13_heaviest_52 rfl (lv_at hl 2 rfl) ?_
            refine lv_iload_n hx hb dX13_heaviest_53 rfl (lv_at hl 4 rfl) ?_
            refine vp_callSi (W.runV (As := [.int (nI (i + 1))]) (rest := []) hF (m_X13_holds l9 D k q th ea fa ch tn he en ln sv wr dg v n (nI (i + 1)) hn hv0) (cwV 1 hts gX13_heaviest_X13_holds rfl rfl rfl (by decide +kernel) ⟨Nat.le_of_ble_eq_true rfl, Nat.le_of_ble_eq_true rfl⟩) (rPreV hK hN hP [0, 1] rfl 0 11 rfl rfl) rfl rfl hl.1 rfl (lv_room (Nat.le_of_ble_eq_true rfl)) dX13_heaviest_54 ⟨Nat.zero_le _, Nat.zero_le _⟩) (fun r_7 hr_7 => ?_)
            subst hr_7
            refine lv_if_ne (tgt := 63) hx hb dX13_heaviest_57 (by decide) (fun c_8 => ?_) (fun c_8 => ?_)
            · skip
              have c_8 : (hldM n (vt v) (nI (i + 1))) = true := bI_1 c_8
              refine lv_iload_n hx hb dX13_heaviest_63 rfl (lv_at hl 4 rfl) ?_
              refine lv_istore_n (lv' := [(1, .int (nI (i + 1))), (4, .int ((nI (i + 1)) ^^^ (hvM n (vw v) (vt v) i))), (3, .int ((adS n (vw v) (nI (i + 1))) - (adS n (vw v) (hvM n (vw v) (vt v) i)))), (0, .ref (q 0)), (2, .int (nI (i + 1)))]) hx hb dX13_heaviest_64 rfl hl (by decide) rfl (fun ls hl => ?_)
              refine lv_iinc (v := nI ((i + 1) + 1)) (lv' := [(2, .int (nI ((i + 1) + 1))), (1, .int (nI (i + 1))), (4, .int ((nI (i + 1)) ^^^ (hvM n (vw v) (vt v) i))), (3, .int ((adS n (vw v) (nI (i + 1))) - (adS n (vw v) (hvM n (vw v) (vt v) i)))), (0, .ref (q 0))]) hx hb dX13_heaviest_65 hl (k := 4) rfl (nI_inc (i + 1)) (by decide) rfl (fun ls hl => ?_)
              refine lv_goto (tgt := 4) hx hb dX13_heaviest_68 (by decide) ?_
              have e_9 : (nI (i + 1) : Int32) = hvM n (vw v) (vt v) (i + 1) := by first | (with_reducible rfl) | (rw [hvM_s]; simp [*, skM])
              exact ih_4 (i + 1) (by omega) (by omega) ls (lv_one hl 4 rfl rfl (lv_one hl 1 rfl (congrArg Value.int e_9) (lv_one hl 0 rfl rfl (lv_nil hl))))
            · skip
              have c_8 : (hldM n (vt v) (nI (i + 1))) = false := bI_0 c_8
              refine lv_goto (tgt := 65) hx hb dX13_heaviest_60 (by decide) ?_
              refine lv_iinc (v := nI ((i + 1) + 1)) (lv' := [(2, .int (nI ((i + 1) + 1))), (4, .int ((nI (i + 1)) ^^^ (hvM n (vw v) (vt v) i))), (3, .int ((adS n (vw v) (nI (i + 1))) - (adS n (vw v) (hvM n (vw v) (vt v) i)))), (0, .ref (q 0)), (1, .int (hvM n (vw v) (vt v) i))]) hx hb dX13_heaviest_65 hl (k := 4) rfl (nI_inc (i + 1)) (by decide) rfl (fun ls hl => ?_)
              refine lv_goto (tgt := 4) hx hb dX13_heaviest_68 (by decide) ?_
              have e_10 : (hvM n (vw v) (vt v) i : Int32) = hvM n (vw v) (vt v) (i + 1) := by first | (with_reducible rfl) | (rw [hvM_s]; simp [*, skM])
              exact ih_4 (i + 1) (by omega) (by omega) ls (lv_one hl 3 rfl rfl (lv_one hl 4 rfl (congrArg Value.int e_10) (lv_one hl 0 rfl rfl (lv_nil hl))))
          · skip
            refine lv_iload_n hx hb dX13_heaviest_41 rfl (lv_at hl 4 rfl) ?_
            refine lv_iload hx hb dX13_heaviest_42 (lv_at hl 0 rfl) ?_
            refine lv_iand hx hb dX13_heaviest_44 ?_
            refine lv_iload hx hb dX13_heaviest_45 (lv_at hl 0 rfl) ?_
            refine lv_ineg hx hb dX13_heaviest_47 ?_
            refine lv_iand hx hb dX13_heaviest_48 ?_
            refine lv_if_eq (tgt := 65) hx hb dX13_heaviest_49 (by decide) (fun c_11 => ?_) (fun c_11 => ?_)
            · skip
              refine lv_iinc (v := nI ((i + 1) + 1)) (lv' := [(2, .int (nI ((i + 1) + 1))), (4, .int ((nI (i + 1)) ^^^ (hvM n (vw v) (vt v) i))), (3, .int ((adS n (vw v) (nI (i + 1))) - (adS n (vw v) (hvM n (vw v) (vt v) i)))), (0, .ref (q 0)), (1, .int (hvM n (vw v) (vt v) i))]) hx hb dX13_heaviest_65 hl (k := 4) rfl (nI_inc (i + 1)) (by decide) rfl (fun ls hl => ?_)
              refine lv_goto (tgt := 4) hx hb dX13_heaviest_68 (by decide) ?_
              have e_12 : (hvM n (vw v) (vt v) i : Int32) = hvM n (vw v) (vt v) (i + 1) := by first | (with_reducible rfl) | (rw [hvM_s]; simp [*, skM])
              exact ih_4 (i + 1) (by omega) (by omega) ls (lv_one hl 3 rfl rfl (lv_one hl 4 rfl (congrArg Value.int e_12) (lv_one hl 0 rfl rfl (lv_nil hl))))
            · skip
              refine lv_aload_n hx hb dX13_heaviest_52 rfl (lv_at hl 2 rfl) ?_
              refine lv_iload_n hx hb dX13_heaviest_53 rfl (lv_at hl 4 rfl) ?_
              refine vp_callSi (W.runV (As := [.int (nI (i + 1))]) (rest := []) hF (m_X13_holds l9 D k q th ea fa ch tn he en ln sv wr dg v n (nI (i + 1)) hn hv0) (cwV 1 hts gX13_heaviest_X13_holds rfl rfl rfl (by decide +kernel) ⟨Nat.le_of_ble_eq_true rfl, Nat.le_of_ble_eq_true rfl⟩) (rPreV hK hN hP [0, 1] rfl 0 11 rfl rfl) rfl rfl hl.1 rfl (lv_room (Nat.le_of_ble_eq_true rfl)) dX13_heaviest_54 ⟨Nat.zero_le _, Nat.zero_le _⟩) (fun r_13 hr_13 => ?_)
              subst hr_13
              refine lv_if_ne (tgt := 63) hx hb dX13_heaviest_57 (by decide) (fun c_14 => ?_) (fun c_14 => ?_)
              · skip
                have c_14 : (hldM n (vt v) (nI (i + 1))) = true := bI_1 c_14
                refine lv_iload_n hx hb dX13_heaviest_63 rfl (lv_at hl 4 rfl) ?_
                refine lv_istore_n (lv' := [(1, .int (nI (i + 1))), (4, .int ((nI (i + 1)) ^^^ (hvM n (vw v) (vt v) i))), (3, .int ((adS n (vw v) (nI (i + 1))) - (adS n (vw v) (hvM n (vw v) (vt v) i)))), (0, .ref (q 0)), (2, .int (nI (i + 1)))]) hx hb dX13_heaviest_64 rfl hl (by decide) rfl (fun ls hl => ?_)
                refine lv_iinc (v := nI ((i + 1) + 1)) (lv' := [(2, .int (nI ((i + 1) + 1))), (1, .int (nI (i + 1))), (4, .int ((nI (i + 1)) ^^^ (hvM n (vw v) (vt v) i))), (3, .int ((adS n (vw v) (nI (i + 1))) - (adS n (vw v) (hvM n (vw v) (vt v) i)))), (0, .ref (q 0))]) hx hb dX13_heaviest_65 hl (k := 4) rfl (nI_inc (i + 1)) (by decide) rfl (fun ls hl => ?_)
                refine lv_goto (tgt := 4) hx hb dX13_heaviest_68 (by decide) ?_
                have e_15 : (nI (i + 1) : Int32) = hvM n (vw v) (vt v) (i + 1) := by first | (with_reducible rfl) | (rw [hvM_s]; simp [*, skM])
                exact ih_4 (i + 1) (by omega) (by omega) ls (lv_one hl 4 rfl rfl (lv_one hl 1 rfl (congrArg Value.int e_15) (lv_one hl 0 rfl rfl (lv_nil hl))))
              · skip
                have c_14 : (hldM n (vt v) (nI (i + 1))) = false := bI_0 c_14
                refine lv_goto (tgt := 65) hx hb dX13_heaviest_60 (by decide) ?_
                refine lv_iinc (v := nI ((i + 1) + 1)) (lv' := [(2, .int (nI ((i + 1) + 1))), (4, .int ((nI (i + 1)) ^^^ (hvM n (vw v) (vt v) i))), (3, .int ((adS n (vw v) (nI (i + 1))) - (adS n (vw v) (hvM n (vw v) (vt v) i)))), (0, .ref (q 0)), (1, .int (hvM n (vw v) (vt v) i))]) hx hb dX13_heaviest_65 hl (k := 4) rfl (nI_inc (i + 1)) (by decide) rfl (fun ls hl => ?_)
                refine lv_goto (tgt := 4) hx hb dX13_heaviest_68 (by decide) ?_
                have e_16 : (hvM n (vw v) (vt v) i : Int32) = hvM n (vw v) (vt v) (i + 1) := by first | (with_reducible rfl) | (rw [hvM_s]; simp [*, skM])
                exact ih_4 (i + 1) (by omega) (by omega) ls (lv_one hl 3 rfl rfl (lv_one hl 4 rfl (congrArg Value.int e_16) (lv_one hl 0 rfl rfl (lv_nil hl))))
  refine lv_iconst (v := 0) hx hb dX13_heaviest_0 (by decide) ?_
  refine lv_istore_n (lv' := [(1, .int 0), (0, .ref (q 0))]) hx hb dX13_heaviest_1 rfl hl (by decide) rfl (fun ls hl => ?_)
  refine lv_iconst (v := 1) hx hb dX13_heaviest_2 (by decide) ?_
  refine lv_istore_n (lv' := [(2, .int 1), (1, .int 0), (0, .ref (q 0))]) hx hb dX13_heaviest_3 rfl hl (by decide) rfl (fun ls hl => ?_)
  have e_17 : (0 : Int32) = hvM n (vw v) (vt v) 0 := by first | (with_reducible rfl) | (rfl)
  have e_18 : (1 : Int32) = nI (0 + 1) := by first | (with_reducible rfl) | (rfl)
  exact loop_4 ((pw n - 0) + 1) 0 (by omega) (Nat.lt_succ_self _) ls (lv_one hl 2 rfl rfl (lv_one hl 1 rfl (congrArg Value.int e_17) (lv_one hl 0 rfl (congrArg Value.int e_18) (lv_nil hl))))

/-! The model's face: racks in words, mean, ranks, levels, undo, snapshots, chains. -/
abbrev WD (D : va_G) (k : Nat → ClassId) (wc' : va_W) (x : UInt64) (A : Nat → Prop) : Array Value → State → Outcome → State → Prop := va_Qd (fun r (_ : Unit) => r = x) (WB D k A wc') A
/-- the first claim of rank x -/
def rkM (n : Nat) (f : Nat → UInt32) (w : Nat → Int32) (x : Int32) : Nat := fsN (fun c => decide (nI (cntR f w c n) = x)) n
theorem rkM_at {n : Nat} {f : Nat → UInt32} {w : Nat → Int32} {x : Int32} {i : Nat} (h : ∀ c, c < i → decide (nI (cntR f w c n) = x) = false) (hi : nI (cntR f w i n) = x) (q : i < n) : rkM n f w x = i := fsN_some h (decide_eq_true hi) q
theorem rkM_no {n : Nat} {f : Nat → UInt32} {w : Nat → Int32} {x : Int32} (h : ∀ c, c < n → decide (nI (cntR f w c n) = x) = false) : rkM n f w x = n := fsN_none h
/-- the newest row of the past -/
def bkI (pa : Nat → Int32) (ch : Nat) : Nat → Int32 := fun j => pa ((ch - 1) * 83 + j)
def bkF (fp : Nat → UInt32) (ch : Nat) : Nat → UInt32 := fun j => fp ((ch - 1) * 10 + j)
/-- the mean weight -/
def mnM (n : Nat) (w : Nat → Int32) : UInt64 := FP.ddiv (FP.i2d (adS n w ((1 : Int32) <<< (nI n &&& 31) - 1))) (FP.i2d (nI n))
def wtOk (n : Nat) (w : Nat → Int32) : Prop := ∀ c, c < n → ∃ j, 1 ≤ j ∧ j ≤ 99 ∧ w c = nI j
theorem adS_nat {n : Nat} {w : Nat → Int32} (h : wtOk n w) (x : Int32) : ∃ j, j ≤ 99 * n ∧ adS n w x = nI j := by
  induction n with
  | zero => exact ⟨0, by decide, rfl⟩
  | succ n ih =>
    obtain ⟨j, hj, e⟩ := ih (fun c hc => h c (Nat.lt_succ_of_lt hc))
    obtain ⟨i, _, hi, ei⟩ := h n (Nat.lt_succ_self n)
    rw [adS_s]
    split
    · exact ⟨j + i, by omega, by rw [e, ei, nI_add]⟩
    · exact ⟨j, by omega, e⟩
theorem okD_mn {n : Nat} {w : Nat → Int32} (h : wtOk n w) (h0 : 1 ≤ n) (hn : n ≤ 10) : okD (mnM n w) := by
  obtain ⟨j, hj, e⟩ := adS_nat h ((1 : Int32) <<< (nI n &&& 31) - 1)
  unfold mnM
  rw [e]
  exact okD_div (okD_i2d (by omega)) (psG_i2d h0 hn)

set_option maxHeartbeats 4000000 in
set_option maxRecDepth 100000 in
theorem m_X13_describeRacks (l9 : Launch) (D : va_G) (k : Nat → ClassId) (sz : Nat) (q : Nat → Nat) (th ea fa : Int32) (ch tn he en ln : Nat) (sv wr dg : Bool) (v li : Nat → Int32) : Met l9 yX13_describeRacks wsX13_describeRacks ({ frames := 1, cells := 0, slots := 0, locals := 21 }) (WPc D k [.ref (q 0)] (bMO k q th ea fa ch tn he en ln sv wr dg ++ bI83 k (q 1) v ++ bI24 k (q 15) li) sz) (WI D k (bMO k q 0 ea fa ch tn he en ((drO v li 4).2) sv wr dg ++ bI83 k (q 1) v ++ bI24 k (q 15) ((drO v li 4).1)) (nI ((drO v li 4).2)) (va_A (bMO k q th ea fa ch tn he en ln sv wr dg ++ bI83 k (q 1) v ++ bI24 k (q 15) li) sz)) 0 0 (va_A (bMO k q th ea fa ch tn he en ln sv wr dg ++ bI83 k (q 1) v ++ bI24 k (q 15) li) sz) := by
  refine wMet (y := yX13_describeRacks) (cc := cX13_describeRacks) (maxL := 3) (ret := (some .int)) (Qc := fun A => WI D k (bMO k q 0 ea fa ch tn he en ((drO v li 4).2) sv wr dg ++ bI83 k (q 1) v ++ bI24 k (q 15) ((drO v li 4).1)) (nI ((drO v li 4).2)) A) [.ref (q 0)] (by decide) rfl (Nat.le_of_ble_eq_true rfl) ?_
  intro p9 e9 s9 m9 bl9 me9 c9 ls A H hF hr hlocks hP hK hN hD hA hS hl hin
  have hl : lv_has ls 3 [(0, .ref (q 0))] := hl
  obtain ⟨hx, hb, hml, hown, hts⟩ := id hF
  have k_fieldLink_16 : (Cond.fieldLink RX13 16 "OpinionReactorModel" "v" "[I").before _ s9 = true := hts (.fieldLink RX13 16 "OpinionReactorModel" "v" "[I") (by decide +kernel)
  have kc_RX13 : ∀ w ∈ u_ws RX13 TX13 29, w ∈ wsX13_describeRacks := by decide +kernel
  have k_fieldLink_274 : (Cond.fieldLink RX13 274 "OpinionReactorModel" "lineN" "I").before _ s9 = true := hts (.fieldLink RX13 274 "OpinionReactorModel" "lineN" "I") (by decide +kernel)
  have k_fieldLink_77 : (Cond.fieldLink RX13 77 "OpinionReactorModel" "thrown" "I").before _ s9 = true := hts (.fieldLink RX13 77 "OpinionReactorModel" "thrown" "I") (by decide +kernel)
  have loop_12 : ∀ (fuel : Nat) (i : Nat), (i ≤ 4) → 4 - i < fuel → ∀ (ls : Array Slot), ∀ (H : Heap) (locs : List Loc), va_P D vwCl (bMO k q 0 ea fa ch tn he en ((drO v li i).2) sv wr dg ++ bI83 k (q 1) v ++ bI24 k (q 15) ((drO v li i).1)) H → va_D A (bMO k q 0 ea fa ch tn he en ((drO v li i).2) sv wr dg ++ bI83 k (q 1) v ++ bI24 k (q 15) ((drO v li i).1)) → va_S A s9.heap H locs → lv_has ls 3 [(0, .ref (q 0)), (1, .int (nI i))] → W p9 l9 e9 ({ frames := 1, cells := 0, slots := 0, locals := 21 }) s9 m9 ([.ref (q 0)] : List Value).toArray bl9 me9 c9 H locs 0 0 (MQ bl9 (WI D k (bMO k q 0 ea fa ch tn he en ((drO v li 4).2) sv wr dg ++ bI83 k (q 1) v ++ bI24 k (q 15) ((drO v li 4).1)) (nI ((drO v li 4).2)) A) ([.ref (q 0)] : List Value).toArray s9 0 0 A) (F0 m9 12 ls []) := by
    intro fuel
    induction fuel with
    | zero => intro i hi hfuel_12; exact absurd hfuel_12 (Nat.not_lt_zero _)
    | succ fuel ih_12 =>
      intro i hi hfuel_12 ls H locs hP hD hS hl
      have hdr := drO_n v li hi
      have loop_29 : ∀ (fuel : Nat) (u : Nat), (u ≤ 4) → (i < 4) → 4 - u < fuel → ∀ (ls : Array Slot), ∀ (H : Heap) (locs : List Loc), va_P D vwCl (bMO k q 0 ea fa ch tn he en ((drI v i (drA i (drO v li i)) u).2) sv wr dg ++ bI83 k (q 1) v ++ bI24 k (q 15) ((drI v i (drA i (drO v li i)) u).1)) H → va_D A (bMO k q 0 ea fa ch tn he en ((drI v i (drA i (drO v li i)) u).2) sv wr dg ++ bI83 k (q 1) v ++ bI24 k (q 15) ((drI v i (drA i (drO v li i)) u).1)) → va_S A s9.heap H locs → lv_has ls 3 [(0, .ref (q 0)), (1, .int (nI i)), (2, .int (nI u))] → W p9 l9 e9 ({ frames := 1, cells := 0, slots := 0, locals := 21 }) s9 m9 ([.ref (q 0)] : List Value).toArray bl9 me9 c9 H locs 0 0 (MQ bl9 (WI D k (bMO k q 0 ea fa ch tn he en ((drO v li 4).2) sv wr dg ++ bI83 k (q 1) v ++ bI24 k (q 15) ((drO v li 4).1)) (nI ((drO v li 4).2)) A) ([.ref (q 0)] : List Value).toArray s9 0 0 A) (F0 m9 29 ls []) := by
        intro fuel
        induction fuel with
        | zero => intro u hu hil hfuel_29; exact absurd hfuel_29 (Nat.not_lt_zero _)
        | succ fuel ih_29 =>
          intro u hu hil hfuel_29 ls H locs hP hD hS hl
          refine lv_iload_n hx hb dX13_describeRacks_29 rfl (lv_at hl 2 rfl) ?_
          refine lv_iconst (v := 3) hx hb dX13_describeRacks_30 (by decide) ?_
          refine lv_icmp_gt (tgt := 72) hx hb dX13_describeRacks_31 (by decide) (fun c_1 => ?_) (fun c_1 => ?_)
          · skip
            have c_1 : 3 < u := (nI_ltI (a := 3) (b := u) (by omega) (by omega)).mp c_1
            refine lv_iinc (v := nI (i + 1)) (lv' := [(1, .int (nI (i + 1))), (0, .ref (q 0)), (2, .int (nI u))]) hx hb dX13_describeRacks_72 hl (k := 1) rfl (nI_inc i) (by decide) rfl (fun ls hl => ?_)
            refine lv_goto (tgt := 12) hx hb dX13_describeRacks_75 (by decide) ?_
            have e_2 : ((drI v i (drA i (drO v li i)) u).2 : Nat) = (drO v li (i + 1)).2 := by first | (with_reducible rfl) | (rw [drO_s, show u = 4 by omega])
            have hP := Eq.mp (congrArg (fun z9 => va_P D vwCl (bMO k q 0 ea fa ch tn he en z9 sv wr dg ++ bI83 k (q 1) v ++ bI24 k (q 15) ((drI v i (drA i (drO v li i)) u).1)) H) e_2) hP
            have hD := Eq.mp (congrArg (fun z9 => va_D A (bMO k q 0 ea fa ch tn he en z9 sv wr dg ++ bI83 k (q 1) v ++ bI24 k (q 15) ((drI v i (drA i (drO v li i)) u).1))) e_2) hD
            have e_3 : ((drI v i (drA i (drO v li i)) u).1 : Nat → Int32) = (drO v li (i + 1)).1 := by first | (with_reducible rfl) | (rw [drO_s, show u = 4 by omega])
            have hP := Eq.mp (congrArg (fun z9 => va_P D vwCl (bMO k q 0 ea fa ch tn he en ((drO v li (i + 1)).2) sv wr dg ++ bI83 k (q 1) v ++ bI24 k (q 15) z9) H) e_3) hP
            have hD := Eq.mp (congrArg (fun z9 => va_D A (bMO k q 0 ea fa ch tn he en ((drO v li (i + 1)).2) sv wr dg ++ bI83 k (q 1) v ++ bI24 k (q 15) z9)) e_3) hD
            exact ih_12 (i + 1) (by omega) (by omega) ls _ _ hP hD hS (lv_one hl 1 rfl rfl (lv_one hl 0 rfl rfl (lv_nil hl)))
          · skip
            have c_1 : ¬ 3 < u := fun h => c_1 ((nI_ltI (a := 3) (b := u) (by omega) (by omega)).mpr h)
            refine lv_aload_n hx hb dX13_describeRacks_34 rfl (lv_at hl 0 rfl) ?_
            refine lv_aload_n hx hb dX13_describeRacks_35 rfl (lv_at hl 0 rfl) ?_
            refine va_get (D := D) (ci := 11) (v := .ref (q 1)) (C := RX13) (T := TX13) (N := 29) hx hb hts kc_RX13 hown hK hP 0 rfl rfl 5 (by decide) k_fieldLink_16 (fun _ h9 => h9) rfl dX13_describeRacks_36 ?_
            refine lv_iload_n hx hb dX13_describeRacks_39 rfl (lv_at hl 1 rfl) ?_
            refine lv_iload_n hx hb dX13_describeRacks_40 rfl (lv_at hl 2 rfl) ?_
            refine vp_callSi (W.runS (As := [.int (nI i), .int (nI u)]) (rest := [.ref (q 1), .ref (q 0)]) hF (m_X13_rackAt l9 D k i u ) (va_cwS 2 hts gX13_describeRacks_X13_rackAt rfl rfl rfl (by decide +kernel) ⟨Nat.le_of_ble_eq_true rfl, Nat.le_of_ble_eq_true rfl⟩) (rPreS hK hN hP [] rfl) rfl rfl hl.1 rfl (lv_room (Nat.le_of_ble_eq_true rfl)) dX13_describeRacks_41 ⟨Nat.zero_le _, Nat.zero_le _⟩) (fun r_4 hr_4 => ?_)
            subst hr_4
            refine ia_ld hx hb hK hP 1 rfl (35 + 4 * i + u) (by omega) (by decide) dX13_describeRacks_44 ?_
            refine lv_if_ne (tgt := 53) hx hb dX13_describeRacks_45 (by decide) (fun c_5 => ?_) (fun c_5 => ?_)
            · skip
              refine lv_aload_n hx hb dX13_describeRacks_53 rfl (lv_at hl 0 rfl) ?_
              refine va_get (D := D) (ci := 11) (v := .ref (q 1)) (C := RX13) (T := TX13) (N := 29) hx hb hts kc_RX13 hown hK hP 0 rfl rfl 5 (by decide) k_fieldLink_16 (fun _ h9 => h9) rfl dX13_describeRacks_54 ?_
              refine lv_iload_n hx hb dX13_describeRacks_57 rfl (lv_at hl 1 rfl) ?_
              refine lv_iload_n hx hb dX13_describeRacks_58 rfl (lv_at hl 2 rfl) ?_
              refine vp_callSi (W.runS (As := [.int (nI i), .int (nI u)]) (rest := [.ref (q 1), .ref (q 0)]) hF (m_X13_rackAt l9 D k i u ) (va_cwS 2 hts gX13_describeRacks_X13_rackAt rfl rfl rfl (by decide +kernel) ⟨Nat.le_of_ble_eq_true rfl, Nat.le_of_ble_eq_true rfl⟩) (rPreS hK hN hP [] rfl) rfl rfl hl.1 rfl (lv_room (Nat.le_of_ble_eq_true rfl)) dX13_describeRacks_59 ⟨Nat.zero_le _, Nat.zero_le _⟩) (fun r_6 hr_6 => ?_)
              subst hr_6
              refine ia_ld hx hb hK hP 1 rfl (35 + 4 * i + u) (by omega) (by decide) dX13_describeRacks_62 ?_
              have hFc := va_free (wc := bMO k q 0 ea fa ch tn he en ((drI v i (drA i (drO v li i)) u).2) sv wr dg ++ bI24 k (q 15) ((drI v i (drA i (drO v li i)) u).1)) hD hS hA [0, 2] rfl
              refine va_callv (va_runV (As := [.int (v (35 + 4 * i + u))]) (rest := []) hF (m_X13_writes l9 D k H.size q 0 ea fa ch tn he en ((drI v i (drA i (drO v li i)) u).2) sv wr dg ((drI v i (drA i (drO v li i)) u).1) (v (35 + 4 * i + u)) (by rw [drI_n]; omega)) (cwV 1 hts gX13_describeRacks_X13_writes rfl rfl rfl (by decide +kernel) ⟨Nat.le_of_ble_eq_true rfl, Nat.le_of_ble_eq_true rfl⟩) (wPreV hK hN hP hD [0, 2] rfl (by decide) rfl 0 11 rfl rfl) rfl rfl hl.1 rfl (lv_room (Nat.le_of_ble_eq_true rfl)) dX13_describeRacks_63 ⟨Nat.zero_le _, Nat.zero_le _⟩) hS (fun q _ h => hFc q h) hFc (fun u9 t9 H1 locs ht hvm hw hB hz1 hk1 hS => ?_)
              obtain ⟨hP, hD⟩ := wjoin (wr := bI83 k (q 1) v) (wf := bMO k q 0 ea fa ch tn he en ((wrS (((drI v i (drA i (drO v li i)) u).1), ((drI v i (drA i (drO v li i)) u).2)) (v (35 + 4 * i + u))).2) sv wr dg ++ bI83 k (q 1) v ++ bI24 k (q 15) ((wrS (((drI v i (drA i (drO v li i)) u).1), ((drI v i (drA i (drO v li i)) u).2)) (v (35 + 4 * i + u))).1)) hP hD [0, 2] [1] [1, 0, 2] rfl rfl (by decide) (by decide) hk1 hFc hB ht rfl rfl (by decide)
              clear hB hk1 hz1 hvm hFc
              clear ht
              clear t9
              generalize H1 = H at hP hS ⊢
              refine lv_iinc (v := nI (u + 1)) (lv' := [(2, .int (nI (u + 1))), (0, .ref (q 0)), (1, .int (nI i))]) hx hb dX13_describeRacks_66 hl (k := 2) rfl (nI_inc u) (by decide) rfl (fun ls hl => ?_)
              refine lv_goto (tgt := 29) hx hb dX13_describeRacks_69 (by decide) ?_
              have e_7 : ((wrS (((drI v i (drA i (drO v li i)) u).1), ((drI v i (drA i (drO v li i)) u).2)) (v (35 + 4 * i + u))).2 : Nat) = (drI v i (drA i (drO v li i)) (u + 1)).2 := by first | (with_reducible rfl) | (rw [drI_s]; rfl)
              have hP := Eq.mp (congrArg (fun z9 => va_P D vwCl (bMO k q 0 ea fa ch tn he en z9 sv wr dg ++ bI83 k (q 1) v ++ bI24 k (q 15) ((wrS (((drI v i (drA i (drO v li i)) u).1), ((drI v i (drA i (drO v li i)) u).2)) (v (35 + 4 * i + u))).1)) H) e_7) hP
              have hD := Eq.mp (congrArg (fun z9 => va_D A (bMO k q 0 ea fa ch tn he en z9 sv wr dg ++ bI83 k (q 1) v ++ bI24 k (q 15) ((wrS (((drI v i (drA i (drO v li i)) u).1), ((drI v i (drA i (drO v li i)) u).2)) (v (35 + 4 * i + u))).1))) e_7) hD
              have e_8 : ((wrS (((drI v i (drA i (drO v li i)) u).1), ((drI v i (drA i (drO v li i)) u).2)) (v (35 + 4 * i + u))).1 : Nat → Int32) = (drI v i (drA i (drO v li i)) (u + 1)).1 := by first | (with_reducible rfl) | (rw [drI_s, show rkS v i u = v (35 + 4 * i + u) from rfl]; first | (rw [if_pos (by assumption)] <;> rfl) | (rw [if_neg (by assumption)] <;> rfl))
              have hP := Eq.mp (congrArg (fun z9 => va_P D vwCl (bMO k q 0 ea fa ch tn he en ((drI v i (drA i (drO v li i)) (u + 1)).2) sv wr dg ++ bI83 k (q 1) v ++ bI24 k (q 15) z9) H) e_8) hP
              have hD := Eq.mp (congrArg (fun z9 => va_D A (bMO k q 0 ea fa ch tn he en ((drI v i (drA i (drO v li i)) (u + 1)).2) sv wr dg ++ bI83 k (q 1) v ++ bI24 k (q 15) z9)) e_8) hD
              exact ih_29 (u + 1) (by omega) hil (by omega) ls _ _ hP hD hS (lv_one hl 1 rfl rfl (lv_one hl 2 rfl rfl (lv_one hl 0 rfl rfl (lv_nil hl))))
            · skip
              refine lv_bipush (v := 46) hx hb dX13_describeRacks_48 (by decide) ?_
              refine lv_goto (tgt := 63) hx hb dX13_describeRacks_50 (by decide) ?_
              have hFc := va_free (wc := bMO k q 0 ea fa ch tn he en ((drI v i (drA i (drO v li i)) u).2) sv wr dg ++ bI24 k (q 15) ((drI v i (drA i (drO v li i)) u).1)) hD hS hA [0, 2] rfl
              refine va_callv (va_runV (As := [.int 46]) (rest := []) hF (m_X13_writes l9 D k H.size q 0 ea fa ch tn he en ((drI v i (drA i (drO v li i)) u).2) sv wr dg ((drI v i (drA i (drO v li i)) u).1) 46 (by rw [drI_n]; omega)) (cwV 1 hts gX13_describeRacks_X13_writes rfl rfl rfl (by decide +kernel) ⟨Nat.le_of_ble_eq_true rfl, Nat.le_of_ble_eq_true rfl⟩) (wPreV hK hN hP hD [0, 2] rfl (by decide) rfl 0 11 rfl rfl) rfl rfl hl.1 rfl (lv_room (Nat.le_of_ble_eq_true rfl)) dX13_describeRacks_63 ⟨Nat.zero_le _, Nat.zero_le _⟩) hS (fun q _ h => hFc q h) hFc (fun u9 t9 H1 locs ht hvm hw hB hz1 hk1 hS => ?_)
              obtain ⟨hP, hD⟩ := wjoin (wr := bI83 k (q 1) v) (wf := bMO k q 0 ea fa ch tn he en ((wrS (((drI v i (drA i (drO v li i)) u).1), ((drI v i (drA i (drO v li i)) u).2)) 46).2) sv wr dg ++ bI83 k (q 1) v ++ bI24 k (q 15) ((wrS (((drI v i (drA i (drO v li i)) u).1), ((drI v i (drA i (drO v li i)) u).2)) 46).1)) hP hD [0, 2] [1] [1, 0, 2] rfl rfl (by decide) (by decide) hk1 hFc hB ht rfl rfl (by decide)
              clear hB hk1 hz1 hvm hFc
              clear ht
              clear t9
              generalize H1 = H at hP hS ⊢
              refine lv_iinc (v := nI (u + 1)) (lv' := [(2, .int (nI (u + 1))), (0, .ref (q 0)), (1, .int (nI i))]) hx hb dX13_describeRacks_66 hl (k := 2) rfl (nI_inc u) (by decide) rfl (fun ls hl => ?_)
              refine lv_goto (tgt := 29) hx hb dX13_describeRacks_69 (by decide) ?_
              have e_9 : ((wrS (((drI v i (drA i (drO v li i)) u).1), ((drI v i (drA i (drO v li i)) u).2)) 46).2 : Nat) = (drI v i (drA i (drO v li i)) (u + 1)).2 := by first | (with_reducible rfl) | (rw [drI_s]; rfl)
              have hP := Eq.mp (congrArg (fun z9 => va_P D vwCl (bMO k q 0 ea fa ch tn he en z9 sv wr dg ++ bI83 k (q 1) v ++ bI24 k (q 15) ((wrS (((drI v i (drA i (drO v li i)) u).1), ((drI v i (drA i (drO v li i)) u).2)) 46).1)) H) e_9) hP
              have hD := Eq.mp (congrArg (fun z9 => va_D A (bMO k q 0 ea fa ch tn he en z9 sv wr dg ++ bI83 k (q 1) v ++ bI24 k (q 15) ((wrS (((drI v i (drA i (drO v li i)) u).1), ((drI v i (drA i (drO v li i)) u).2)) 46).1))) e_9) hD
              have e_10 : ((wrS (((drI v i (drA i (drO v li i)) u).1), ((drI v i (drA i (drO v li i)) u).2)) 46).1 : Nat → Int32) = (drI v i (drA i (drO v li i)) (u + 1)).1 := by first | (with_reducible rfl) | (rw [drI_s, show rkS v i u = v (35 + 4 * i + u) from rfl]; first | (rw [if_pos (by assumption)] <;> rfl) | (rw [if_neg (by assumption)] <;> rfl))
              have hP := Eq.mp (congrArg (fun z9 => va_P D vwCl (bMO k q 0 ea fa ch tn he en ((drI v i (drA i (drO v li i)) (u + 1)).2) sv wr dg ++ bI83 k (q 1) v ++ bI24 k (q 15) z9) H) e_10) hP
              have hD := Eq.mp (congrArg (fun z9 => va_D A (bMO k q 0 ea fa ch tn he en ((drI v i (drA i (drO v li i)) (u + 1)).2) sv wr dg ++ bI83 k (q 1) v ++ bI24 k (q 15) z9)) e_10) hD
              exact ih_29 (u + 1) (by omega) hil (by omega) ls _ _ hP hD hS (lv_one hl 1 rfl rfl (lv_one hl 2 rfl rfl (lv_one hl 0 rfl rfl (lv_nil hl))))
      refine lv_iload_n hx hb dX13_describeRacks_12 rfl (lv_at hl 1 rfl) ?_
      refine lv_iconst (v := 4) hx hb dX13_describeRacks_13 (by decide) ?_
      refine lv_icmp_ge (tgt := 78) hx hb dX13_describeRacks_14 (by decide) (fun c_11 => ?_) (fun c_11 => ?_)
      · skip
        have c_11 : 4 ≤ i := (nI_leI (a := 4) (b := i) (by omega) (by omega)).mp c_11
        refine lv_aload_n hx hb dX13_describeRacks_78 rfl (lv_at hl 0 rfl) ?_
        refine va_get (D := D) (ci := 11) (v := .int (nI ((drO v li i).2))) (C := RX13) (T := TX13) (N := 29) hx hb hts kc_RX13 hown hK hP 0 rfl rfl 26 (by decide) k_fieldLink_274 (fun _ h9 => h9) rfl dX13_describeRacks_79 ?_
        have e_12 : ((drO v li i).2 : Nat) = (drO v li 4).2 := by first | (with_reducible rfl) | (rw [show i = 4 by omega])
        have hP := Eq.mp (congrArg (fun z9 => va_P D vwCl (bMO k q 0 ea fa ch tn he en z9 sv wr dg ++ bI83 k (q 1) v ++ bI24 k (q 15) ((drO v li i).1)) H) e_12) hP
        have hD := Eq.mp (congrArg (fun z9 => va_D A (bMO k q 0 ea fa ch tn he en z9 sv wr dg ++ bI83 k (q 1) v ++ bI24 k (q 15) ((drO v li i).1))) e_12) hD
        have e_13 : ((drO v li i).1 : Nat → Int32) = (drO v li 4).1 := by first | (with_reducible rfl) | (rw [show i = 4 by omega])
        have hP := Eq.mp (congrArg (fun z9 => va_P D vwCl (bMO k q 0 ea fa ch tn he en ((drO v li 4).2) sv wr dg ++ bI83 k (q 1) v ++ bI24 k (q 15) z9) H) e_13) hP
        have hD := Eq.mp (congrArg (fun z9 => va_D A (bMO k q 0 ea fa ch tn he en ((drO v li 4).2) sv wr dg ++ bI83 k (q 1) v ++ bI24 k (q 15) z9)) e_13) hD
        exact W.iret (v := nI ((drO v li i).2)) hx hb hr (fun t9 ht hW => ⟨⟨_, (), rfl, (by rw [show i = 4 by omega]), ⟨by rw [ht]; exact hP, va_K.moved hW.alike hK, hD⟩⟩, hS.F ht⟩) hS.2.2 dX13_describeRacks_82 hlocks
      · skip
        have c_11 : ¬ 4 ≤ i := fun h => c_11 ((nI_leI (a := 4) (b := i) (by omega) (by omega)).mpr h)
        refine lv_iload_n hx hb dX13_describeRacks_17 rfl (lv_at hl 1 rfl) ?_
        refine lv_if_le (tgt := 27) hx hb dX13_describeRacks_18 (by decide) (fun c_14 => ?_) (fun c_14 => ?_)
        · skip
          have c_14 : i ≤ 0 := (nI_leI (a := i) (b := 0) (by omega) (by decide)).mp c_14
          refine lv_iconst (v := 0) hx hb dX13_describeRacks_27 (by decide) ?_
          refine lv_istore_n (lv' := [(2, .int 0), (0, .ref (q 0)), (1, .int (nI i))]) hx hb dX13_describeRacks_28 rfl hl (by decide) rfl (fun ls hl => ?_)
          have e_15 : ((drO v li i).2 : Nat) = (drI v i (drA i (drO v li i)) 0).2 := by first | (with_reducible rfl) | (show _ = (drA i (drO v li i)).2; unfold drA; rw [if_pos (show i = 0 by omega)])
          have hP := Eq.mp (congrArg (fun z9 => va_P D vwCl (bMO k q 0 ea fa ch tn he en z9 sv wr dg ++ bI83 k (q 1) v ++ bI24 k (q 15) ((drO v li i).1)) H) e_15) hP
          have hD := Eq.mp (congrArg (fun z9 => va_D A (bMO k q 0 ea fa ch tn he en z9 sv wr dg ++ bI83 k (q 1) v ++ bI24 k (q 15) ((drO v li i).1))) e_15) hD
          have e_16 : ((drO v li i).1 : Nat → Int32) = (drI v i (drA i (drO v li i)) 0).1 := by first | (with_reducible rfl) | (show _ = (drA i (drO v li i)).1; unfold drA; rw [if_pos (show i = 0 by omega)])
          have hP := Eq.mp (congrArg (fun z9 => va_P D vwCl (bMO k q 0 ea fa ch tn he en ((drI v i (drA i (drO v li i)) 0).2) sv wr dg ++ bI83 k (q 1) v ++ bI24 k (q 15) z9) H) e_16) hP
          have hD := Eq.mp (congrArg (fun z9 => va_D A (bMO k q 0 ea fa ch tn he en ((drI v i (drA i (drO v li i)) 0).2) sv wr dg ++ bI83 k (q 1) v ++ bI24 k (q 15) z9)) e_16) hD
          exact loop_29 ((4 - 0) + 1) 0 (by omega) (by omega) (Nat.lt_succ_self _) ls _ _ hP hD hS (lv_one hl 1 rfl rfl (lv_one hl 2 rfl rfl (lv_one hl 0 rfl rfl (lv_nil hl))))
        · skip
          have c_14 : ¬ i ≤ 0 := fun h => c_14 ((nI_leI (a := i) (b := 0) (by omega) (by decide)).mpr h)
          refine lv_aload_n hx hb dX13_describeRacks_21 rfl (lv_at hl 0 rfl) ?_
          refine lv_bipush (v := 32) hx hb dX13_describeRacks_22 (by decide) ?_
          have hFc := va_free (wc := bMO k q 0 ea fa ch tn he en ((drO v li i).2) sv wr dg ++ bI24 k (q 15) ((drO v li i).1)) hD hS hA [0, 2] rfl
          refine va_callv (va_runV (As := [.int 32]) (rest := []) hF (m_X13_writes l9 D k H.size q 0 ea fa ch tn he en ((drO v li i).2) sv wr dg ((drO v li i).1) 32 (by omega)) (cwV 1 hts gX13_describeRacks_X13_writes rfl rfl rfl (by decide +kernel) ⟨Nat.le_of_ble_eq_true rfl, Nat.le_of_ble_eq_true rfl⟩) (wPreV hK hN hP hD [0, 2] rfl (by decide) rfl 0 11 rfl rfl) rfl rfl hl.1 rfl (lv_room (Nat.le_of_ble_eq_true rfl)) dX13_describeRacks_24 ⟨Nat.zero_le _, Nat.zero_le _⟩) hS (fun q _ h => hFc q h) hFc (fun u9 t9 H1 locs ht hvm hw hB hz1 hk1 hS => ?_)
          obtain ⟨hP, hD⟩ := wjoin (wr := bI83 k (q 1) v) (wf := bMO k q 0 ea fa ch tn he en ((wrS (((drO v li i).1), ((drO v li i).2)) 32).2) sv wr dg ++ bI83 k (q 1) v ++ bI24 k (q 15) ((wrS (((drO v li i).1), ((drO v li i).2)) 32).1)) hP hD [0, 2] [1] [1, 0, 2] rfl rfl (by decide) (by decide) hk1 hFc hB ht rfl rfl (by decide)
          clear hB hk1 hz1 hvm hFc
          clear ht
          clear t9
          generalize H1 = H at hP hS ⊢
          refine lv_iconst (v := 0) hx hb dX13_describeRacks_27 (by decide) ?_
          refine lv_istore_n (lv' := [(2, .int 0), (0, .ref (q 0)), (1, .int (nI i))]) hx hb dX13_describeRacks_28 rfl hl (by decide) rfl (fun ls hl => ?_)
          have e_17 : ((wrS (((drO v li i).1), ((drO v li i).2)) 32).2 : Nat) = (drI v i (drA i (drO v li i)) 0).2 := by first | (with_reducible rfl) | (show _ = (drA i (drO v li i)).2; unfold drA; rw [if_neg (show ¬ i = 0 by omega)])
          have hP := Eq.mp (congrArg (fun z9 => va_P D vwCl (bMO k q 0 ea fa ch tn he en z9 sv wr dg ++ bI83 k (q 1) v ++ bI24 k (q 15) ((wrS (((drO v li i).1), ((drO v li i).2)) 32).1)) H) e_17) hP
          have hD := Eq.mp (congrArg (fun z9 => va_D A (bMO k q 0 ea fa ch tn he en z9 sv wr dg ++ bI83 k (q 1) v ++ bI24 k (q 15) ((wrS (((drO v li i).1), ((drO v li i).2)) 32).1))) e_17) hD
          have e_18 : ((wrS (((drO v li i).1), ((drO v li i).2)) 32).1 : Nat → Int32) = (drI v i (drA i (drO v li i)) 0).1 := by first | (with_reducible rfl) | (show _ = (drA i (drO v li i)).1; unfold drA; rw [if_neg (show ¬ i = 0 by omega)])
          have hP := Eq.mp (congrArg (fun z9 => va_P D vwCl (bMO k q 0 ea fa ch tn he en ((drI v i (drA i (drO v li i)) 0).2) sv wr dg ++ bI83 k (q 1) v ++ bI24 k (q 15) z9) H) e_18) hP
          have hD := Eq.mp (congrArg (fun z9 => va_D A (bMO k q 0 ea fa ch tn he en ((drI v i (drA i (drO v li i)) 0).2) sv wr dg ++ bI83 k (q 1) v ++ bI24 k (q 15) z9)) e_18) hD
          exact loop_29 ((4 - 0) + 1) 0 (by omega) (by omega) (Nat.lt_succ_self _) ls _ _ hP hD hS (lv_one hl 1 rfl rfl (lv_one hl 2 rfl rfl (lv_one hl 0 rfl rfl (lv_nil hl))))
  refine lv_aload_n hx hb dX13_describeRacks_0 rfl (lv_at hl 0 rfl) ?_
  refine lv_iconst (v := 0) hx hb dX13_describeRacks_1 (by decide) ?_
  refine va_put (D := D) (ci := 11) (v := .int 0) (ty := .int) (C := RX13) (T := TX13) (N := 29) hx hb hts kc_RX13 tyX13 tyX13_ok nmX13 hown hK hP hD hS 0 rfl rfl 0 (by decide) k_fieldLink_77 (fun _ h9 => h9) rfl (by decide +kernel) rfl rfl (Nat.le_of_ble_eq_true rfl) dX13_describeRacks_2 (fun H locs hP hD hS => ?_)
  have hP : va_P D vwCl (bMO k q 0 ea fa ch tn he en ln sv wr dg ++ bI83 k (q 1) v ++ bI24 k (q 15) li) H := hP
  have hD : va_D A (bMO k q 0 ea fa ch tn he en ln sv wr dg ++ bI83 k (q 1) v ++ bI24 k (q 15) li) := hD
  refine lv_aload_n hx hb dX13_describeRacks_5 rfl (lv_at hl 0 rfl) ?_
  refine lv_iconst (v := 0) hx hb dX13_describeRacks_6 (by decide) ?_
  refine va_put (D := D) (ci := 11) (v := .int 0) (ty := .int) (C := RX13) (T := TX13) (N := 29) hx hb hts kc_RX13 tyX13 tyX13_ok nmX13 hown hK hP hD hS 0 rfl rfl 26 (by decide) k_fieldLink_274 (fun _ h9 => h9) rfl (by decide +kernel) rfl rfl (Nat.le_of_ble_eq_true rfl) dX13_describeRacks_7 (fun H locs hP hD hS => ?_)
  have hP : va_P D vwCl (bMO k q 0 ea fa ch tn he en 0 sv wr dg ++ bI83 k (q 1) v ++ bI24 k (q 15) li) H := hP
  have hD : va_D A (bMO k q 0 ea fa ch tn he en 0 sv wr dg ++ bI83 k (q 1) v ++ bI24 k (q 15) li) := hD
  refine lv_iconst (v := 0) hx hb dX13_describeRacks_10 (by decide) ?_
  refine lv_istore_n (lv' := [(1, .int 0), (0, .ref (q 0))]) hx hb dX13_describeRacks_11 rfl hl (by decide) rfl (fun ls hl => ?_)
  have e_19 : (0 : Nat) = (drO v li 0).2 := by first | (with_reducible rfl) | (rfl)
  have hP := Eq.mp (congrArg (fun z9 => va_P D vwCl (bMO k q 0 ea fa ch tn he en z9 sv wr dg ++ bI83 k (q 1) v ++ bI24 k (q 15) li) H) e_19) hP
  have hD := Eq.mp (congrArg (fun z9 => va_D A (bMO k q 0 ea fa ch tn he en z9 sv wr dg ++ bI83 k (q 1) v ++ bI24 k (q 15) li)) e_19) hD
  have e_20 : (li : Nat → Int32) = (drO v li 0).1 := by first | (with_reducible rfl) | (rfl)
  have hP := Eq.mp (congrArg (fun z9 => va_P D vwCl (bMO k q 0 ea fa ch tn he en ((drO v li 0).2) sv wr dg ++ bI83 k (q 1) v ++ bI24 k (q 15) z9) H) e_20) hP
  have hD := Eq.mp (congrArg (fun z9 => va_D A (bMO k q 0 ea fa ch tn he en ((drO v li 0).2) sv wr dg ++ bI83 k (q 1) v ++ bI24 k (q 15) z9)) e_20) hD
  exact loop_12 ((4 - 0) + 1) 0 (by omega) (Nat.lt_succ_self _) ls _ _ hP hD hS (lv_one hl 1 rfl rfl (lv_one hl 0 rfl rfl (lv_nil hl)))

set_option maxHeartbeats 4000000 in
set_option maxRecDepth 100000 in
theorem m_X13_lineAt (l9 : Launch) (D : va_G) (k : Nat → ClassId) (sz : Nat) (q : Nat → Nat) (th ea fa : Int32) (ch tn he en ln : Nat) (sv wr dg : Bool) (li : Nat → Int32) (x : Int32) (hln : ln ≤ 24) : Met l9 yX13_lineAt wsX13_lineAt ({ frames := 1, cells := 0, slots := 0, locals := 22 }) (WPc D k [.ref (q 0), .int x] (bMO k q th ea fa ch tn he en ln sv wr dg ++ bI24 k (q 15) li) sz) (WI D k (bMO k q (if inC ln x = true then 0 else 1) ea fa ch tn he en ln sv wr dg ++ bI24 k (q 15) li) (if inC ln x = true then (Int32.toUInt32 (li x.toNatClampNeg) % 65536).toInt32 else 97) (va_A (bMO k q th ea fa ch tn he en ln sv wr dg ++ bI24 k (q 15) li) sz)) 0 0 (va_A (bMO k q th ea fa ch tn he en ln sv wr dg ++ bI24 k (q 15) li) sz) := by
  refine wMet (y := yX13_lineAt) (cc := cX13_lineAt) (maxL := 2) (ret := (some .char)) (Qc := fun A => WI D k (bMO k q (if inC ln x = true then 0 else 1) ea fa ch tn he en ln sv wr dg ++ bI24 k (q 15) li) (if inC ln x = true then (Int32.toUInt32 (li x.toNatClampNeg) % 65536).toInt32 else 97) A) [.ref (q 0), .int x] (by decide) rfl (Nat.le_of_ble_eq_true rfl) ?_
  intro p9 e9 s9 m9 bl9 me9 c9 ls A H hF hr hlocks hP hK hN hD hA hS hl hin
  have hl : lv_has ls 2 [(0, .ref (q 0)), (1, .int x)] := hl
  obtain ⟨hx, hb, hml, hown, hts⟩ := id hF
  have k_fieldLink_274 : (Cond.fieldLink RX13 274 "OpinionReactorModel" "lineN" "I").before _ s9 = true := hts (.fieldLink RX13 274 "OpinionReactorModel" "lineN" "I") (by decide +kernel)
  have kc_RX13 : ∀ w ∈ u_ws RX13 TX13 29, w ∈ wsX13_lineAt := by decide +kernel
  have k_fieldLink_77 : (Cond.fieldLink RX13 77 "OpinionReactorModel" "thrown" "I").before _ s9 = true := hts (.fieldLink RX13 77 "OpinionReactorModel" "thrown" "I") (by decide +kernel)
  have k_fieldLink_61 : (Cond.fieldLink RX13 61 "OpinionReactorModel" "line" "[I").before _ s9 = true := hts (.fieldLink RX13 61 "OpinionReactorModel" "line" "[I") (by decide +kernel)
  refine lv_aload_n hx hb dX13_lineAt_0 rfl (lv_at hl 0 rfl) ?_
  refine lv_iload_n hx hb dX13_lineAt_1 rfl (lv_at hl 1 rfl) ?_
  refine lv_iconst (v := 0) hx hb dX13_lineAt_2 (by decide) ?_
  refine lv_aload_n hx hb dX13_lineAt_3 rfl (lv_at hl 0 rfl) ?_
  refine va_get (D := D) (ci := 11) (v := .int (nI ln)) (C := RX13) (T := TX13) (N := 29) hx hb hts kc_RX13 hown hK hP 0 rfl rfl 26 (by decide) k_fieldLink_274 (fun _ h9 => h9) rfl dX13_lineAt_4 ?_
  refine lv_iconst (v := 1) hx hb dX13_lineAt_7 (by decide) ?_
  refine lv_isub hx hb dX13_lineAt_8 ?_
  refine vp_callSi (W.runS (As := [.int x, .int 0, .int ((nI ln) - 1)]) (rest := [.ref (q 0)]) hF (m_X13_isIn l9 D k x 0 ((nI ln) - 1) ) (va_cwS 3 hts gX13_lineAt_X13_isIn rfl rfl rfl (by decide +kernel) ⟨Nat.le_of_ble_eq_true rfl, Nat.le_of_ble_eq_true rfl⟩) (rPreS hK hN hP [] rfl) rfl rfl hl.1 rfl (lv_room (Nat.le_of_ble_eq_true rfl)) dX13_lineAt_9 ⟨Nat.zero_le _, Nat.zero_le _⟩) (fun r_1 hr_1 => ?_)
  subst hr_1
  refine lv_tope (show Value.int (bI (rg 0 x ((nI ln) - 1))) = Value.int (bI (inC ln x)) from congrArg Value.int (by rw [isC_in2 (by omega)])) ?_
  refine lv_if_eq (tgt := 19) hx hb dX13_lineAt_12 (by decide) (fun c_2 => ?_) (fun c_2 => ?_)
  · skip
    have c_2 : (inC ln x) = false := bI_0 c_2
    refine lv_iconst (v := 1) hx hb dX13_lineAt_19 (by decide) ?_
    refine va_put (D := D) (ci := 11) (v := .int 1) (ty := .int) (C := RX13) (T := TX13) (N := 29) hx hb hts kc_RX13 tyX13 tyX13_ok nmX13 hown hK hP hD hS 0 rfl rfl 0 (by decide) k_fieldLink_77 (fun _ h9 => h9) rfl (by decide +kernel) rfl rfl (Nat.le_of_ble_eq_true rfl) dX13_lineAt_20 (fun H locs hP hD hS => ?_)
    have hP : va_P D vwCl (bMO k q 1 ea fa ch tn he en ln sv wr dg ++ bI24 k (q 15) li) H := hP
    have hD : va_D A (bMO k q 1 ea fa ch tn he en ln sv wr dg ++ bI24 k (q 15) li) := hD
    refine lv_aload_n hx hb dX13_lineAt_23 rfl (lv_at hl 0 rfl) ?_
    refine va_get (D := D) (ci := 11) (v := .int 1) (C := RX13) (T := TX13) (N := 29) hx hb hts kc_RX13 hown hK hP 0 rfl rfl 0 (by decide) k_fieldLink_77 (fun _ h9 => h9) rfl dX13_lineAt_24 ?_
    refine lv_if_ne (tgt := 40) hx hb dX13_lineAt_27 (by decide) (fun c_3 => ?_) (fun c_3 => ?_)
    · skip
      refine lv_bipush (v := 97) hx hb dX13_lineAt_40 (by decide) ?_
      have e_4 : (1 : Int32) = if inC ln x = true then 0 else 1 := by first | (with_reducible rfl) | ((try simp only []); (repeat (first | rw [if_pos (by first | assumption | exact Eq.trans (b := false) (by assumption) (Eq.symm (by assumption)) | exact Eq.trans (b := true) (by assumption) (Eq.symm (by assumption)) | exact ⟨by assumption, by assumption⟩ | exact Or.inl (by assumption) | exact Or.inr (by assumption) | exact Or.inr (Or.inl (by assumption)) | exact Or.inr (Or.inr (by assumption)) | (simp only [Int32.lt_iff_toInt_lt, Int32.le_iff_toInt_le, i32_0, i32_1, i32_2, i32_3, i32_4, i32_9, i32_10, i32_99, i32_100, i32_1000, i32_9999] at *; omega))] | rw [if_neg (by first | assumption | (rintro (h9 | h9 | h9) <;> contradiction) | (rintro (h9 | h9) <;> contradiction) | (intro h9; exact Bool.noConfusion (Eq.trans (c := false) h9.symm (by assumption))) | (rintro ⟨h8, h9⟩; exact Bool.noConfusion (Eq.trans (c := false) h8.symm (by assumption))) | (rintro ⟨h8, h9⟩; exact Bool.noConfusion (Eq.trans (c := false) h9.symm (by assumption))) | (simp only [Int32.lt_iff_toInt_lt, Int32.le_iff_toInt_le, i32_0, i32_1, i32_2, i32_3, i32_4, i32_9, i32_10, i32_99, i32_100, i32_1000, i32_9999] at *; omega))])); (try rfl))
      have hP := Eq.mp (congrArg (fun z9 => va_P D vwCl (bMO k q z9 ea fa ch tn he en ln sv wr dg ++ bI24 k (q 15) li) H) e_4) hP
      have hD := Eq.mp (congrArg (fun z9 => va_D A (bMO k q z9 ea fa ch tn he en ln sv wr dg ++ bI24 k (q 15) li)) e_4) hD
      exact W.zret (v := 97) hx hb hr (rfl) (fun t9 ht hW => ⟨⟨_, (), rfl, (by (try simp only []); (repeat (first | rw [if_pos (by first | assumption | exact Eq.trans (b := false) (by assumption) (Eq.symm (by assumption)) | exact Eq.trans (b := true) (by assumption) (Eq.symm (by assumption)) | exact ⟨by assumption, by assumption⟩ | exact Or.inl (by assumption) | exact Or.inr (by assumption) | exact Or.inr (Or.inl (by assumption)) | exact Or.inr (Or.inr (by assumption)) | (simp only [Int32.lt_iff_toInt_lt, Int32.le_iff_toInt_le, i32_0, i32_1, i32_2, i32_3, i32_4, i32_9, i32_10, i32_99, i32_100, i32_1000, i32_9999] at *; omega))] | rw [if_neg (by first | assumption | (rintro (h9 | h9 | h9) <;> contradiction) | (rintro (h9 | h9) <;> contradiction) | (intro h9; exact Bool.noConfusion (Eq.trans (c := false) h9.symm (by assumption))) | (rintro ⟨h8, h9⟩; exact Bool.noConfusion (Eq.trans (c := false) h8.symm (by assumption))) | (rintro ⟨h8, h9⟩; exact Bool.noConfusion (Eq.trans (c := false) h9.symm (by assumption))) | (simp only [Int32.lt_iff_toInt_lt, Int32.le_iff_toInt_le, i32_0, i32_1, i32_2, i32_3, i32_4, i32_9, i32_10, i32_99, i32_100, i32_1000, i32_9999] at *; omega))])); (try rfl)), ⟨by rw [ht]; exact hP, va_K.moved hW.alike hK, hD⟩⟩, hS.F ht⟩) hS.2.2 dX13_lineAt_42 hlocks
    · first | exact absurd c_3 (by decide) | exact absurd (by decide) c_3
  · skip
    have c_2 : (inC ln x) = true := bI_1 c_2
    refine lv_iconst (v := 0) hx hb dX13_lineAt_15 (by decide) ?_
    refine lv_goto (tgt := 20) hx hb dX13_lineAt_16 (by decide) ?_
    refine va_put (D := D) (ci := 11) (v := .int 0) (ty := .int) (C := RX13) (T := TX13) (N := 29) hx hb hts kc_RX13 tyX13 tyX13_ok nmX13 hown hK hP hD hS 0 rfl rfl 0 (by decide) k_fieldLink_77 (fun _ h9 => h9) rfl (by decide +kernel) rfl rfl (Nat.le_of_ble_eq_true rfl) dX13_lineAt_20 (fun H locs hP hD hS => ?_)
    have hP : va_P D vwCl (bMO k q 0 ea fa ch tn he en ln sv wr dg ++ bI24 k (q 15) li) H := hP
    have hD : va_D A (bMO k q 0 ea fa ch tn he en ln sv wr dg ++ bI24 k (q 15) li) := hD
    refine lv_aload_n hx hb dX13_lineAt_23 rfl (lv_at hl 0 rfl) ?_
    refine va_get (D := D) (ci := 11) (v := .int 0) (C := RX13) (T := TX13) (N := 29) hx hb hts kc_RX13 hown hK hP 0 rfl rfl 0 (by decide) k_fieldLink_77 (fun _ h9 => h9) rfl dX13_lineAt_24 ?_
    refine lv_if_ne (tgt := 40) hx hb dX13_lineAt_27 (by decide) (fun c_5 => ?_) (fun c_5 => ?_)
    · first | exact absurd c_5 (by decide) | exact absurd (by decide) c_5
    · skip
      obtain ⟨j, hj, rfl⟩ := inC_of2 (by omega) c_2
      have clj : (nI j).toNatClampNeg = j := clN (by omega)
      refine lv_aload_n hx hb dX13_lineAt_30 rfl (lv_at hl 0 rfl) ?_
      refine va_get (D := D) (ci := 11) (v := .ref (q 15)) (C := RX13) (T := TX13) (N := 29) hx hb hts kc_RX13 hown hK hP 0 rfl rfl 19 (by decide) k_fieldLink_61 (fun _ h9 => h9) rfl dX13_lineAt_31 ?_
      refine lv_iload_n hx hb dX13_lineAt_34 rfl (lv_at hl 1 rfl) ?_
      refine ia_ld hx hb hK hP 1 rfl j (by omega) (by decide) dX13_lineAt_35 ?_
      refine lv_i2c hx hb dX13_lineAt_36 rfl ?_
      refine lv_goto (tgt := 42) hx hb dX13_lineAt_37 (by decide) ?_
      have e_6 : (0 : Int32) = if inC ln (nI j) = true then 0 else 1 := by first | (with_reducible rfl) | ((try simp only [clj]); (repeat (first | rw [if_pos (by first | assumption | exact Eq.trans (b := false) (by assumption) (Eq.symm (by assumption)) | exact Eq.trans (b := true) (by assumption) (Eq.symm (by assumption)) | exact ⟨by assumption, by assumption⟩ | exact Or.inl (by assumption) | exact Or.inr (by assumption) | exact Or.inr (Or.inl (by assumption)) | exact Or.inr (Or.inr (by assumption)) | (simp only [Int32.lt_iff_toInt_lt, Int32.le_iff_toInt_le, i32_0, i32_1, i32_2, i32_3, i32_4, i32_9, i32_10, i32_99, i32_100, i32_1000, i32_9999] at *; omega))] | rw [if_neg (by first | assumption | (rintro (h9 | h9 | h9) <;> contradiction) | (rintro (h9 | h9) <;> contradiction) | (intro h9; exact Bool.noConfusion (Eq.trans (c := false) h9.symm (by assumption))) | (rintro ⟨h8, h9⟩; exact Bool.noConfusion (Eq.trans (c := false) h8.symm (by assumption))) | (rintro ⟨h8, h9⟩; exact Bool.noConfusion (Eq.trans (c := false) h9.symm (by assumption))) | (simp only [Int32.lt_iff_toInt_lt, Int32.le_iff_toInt_le, i32_0, i32_1, i32_2, i32_3, i32_4, i32_9, i32_10, i32_99, i32_100, i32_1000, i32_9999] at *; omega))])); (try rfl))
      have hP := Eq.mp (congrArg (fun z9 => va_P D vwCl (bMO k q z9 ea fa ch tn he en ln sv wr dg ++ bI24 k (q 15) li) H) e_6) hP
      have hD := Eq.mp (congrArg (fun z9 => va_D A (bMO k q z9 ea fa ch tn he en ln sv wr dg ++ bI24 k (q 15) li)) e_6) hD
      exact W.zret (v := ((li j).toUInt32 % 65536).toInt32) hx hb hr (pk_nc _) (fun t9 ht hW => ⟨⟨_, (), rfl, (by (try simp only [clj]); (repeat (first | rw [if_pos (by first | assumption | exact Eq.trans (b := false) (by assumption) (Eq.symm (by assumption)) | exact Eq.trans (b := true) (by assumption) (Eq.symm (by assumption)) | exact ⟨by assumption, by assumption⟩ | exact Or.inl (by assumption) | exact Or.inr (by assumption) | exact Or.inr (Or.inl (by assumption)) | exact Or.inr (Or.inr (by assumption)) | (simp only [Int32.lt_iff_toInt_lt, Int32.le_iff_toInt_le, i32_0, i32_1, i32_2, i32_3, i32_4, i32_9, i32_10, i32_99, i32_100, i32_1000, i32_9999] at *; omega))] | rw [if_neg (by first | assumption | (rintro (h9 | h9 | h9) <;> contradiction) | (rintro (h9 | h9) <;> contradiction) | (intro h9; exact Bool.noConfusion (Eq.trans (c := false) h9.symm (by assumption))) | (rintro ⟨h8, h9⟩; exact Bool.noConfusion (Eq.trans (c := false) h8.symm (by assumption))) | (rintro ⟨h8, h9⟩; exact Bool.noConfusion (Eq.trans (c := false) h9.symm (by assumption))) | (simp only [Int32.lt_iff_toInt_lt, Int32.le_iff_toInt_le, i32_0, i32_1, i32_2, i32_3, i32_4, i32_9, i32_10, i32_99, i32_100, i32_1000, i32_9999] at *; omega))])); (try rfl)), ⟨by rw [ht]; exact hP, va_K.moved hW.alike hK, hD⟩⟩, hS.F ht⟩) hS.2.2 dX13_lineAt_42 hlocks

set_option maxHeartbeats 4000000 in
set_option maxRecDepth 100000 in
theorem m_X13_meanWeight (l9 : Launch) (D : va_G) (k : Nat → ClassId) (sz : Nat) (q : Nat → Nat) (th ea fa : Int32) (ch tn he en ln : Nat) (sv wr dg : Bool) (v : Nat → Int32) (n : Nat) (hn : n ≤ 10) (hv0 : v 0 = nI n) (hw : wtOk n (vw v)) : Met l9 yX13_meanWeight wsX13_meanWeight ({ frames := 2, cells := 0, slots := 0, locals := 44 }) (WPc D k [.ref (q 0)] (bMO k q th ea fa ch tn he en ln sv wr dg ++ bI83 k (q 1) v) sz) (WD D k (bMO k q (if n = 0 then 1 else 0) ea fa ch tn he en ln sv wr dg ++ bI83 k (q 1) v) (if n = 0 then FP.dconst0 else mnM n (vw v)) (va_A (bMO k q th ea fa ch tn he en ln sv wr dg ++ bI83 k (q 1) v) sz)) 0 0 (va_A (bMO k q th ea fa ch tn he en ln sv wr dg ++ bI83 k (q 1) v) sz) := by
  refine wMet (y := yX13_meanWeight) (cc := cX13_meanWeight) (maxL := 1) (ret := (some .double)) (Qc := fun A => WD D k (bMO k q (if n = 0 then 1 else 0) ea fa ch tn he en ln sv wr dg ++ bI83 k (q 1) v) (if n = 0 then FP.dconst0 else mnM n (vw v)) A) [.ref (q 0)] (by decide) rfl (Nat.le_of_ble_eq_true rfl) ?_
  intro p9 e9 s9 m9 bl9 me9 c9 ls A H hF hr hlocks hP hK hN hD hA hS hl hin
  have hl : lv_has ls 1 [(0, .ref (q 0))] := hl
  obtain ⟨hx, hb, hml, hown, hts⟩ := id hF
  have k_fieldLink_16 : (Cond.fieldLink RX13 16 "OpinionReactorModel" "v" "[I").before _ s9 = true := hts (.fieldLink RX13 16 "OpinionReactorModel" "v" "[I") (by decide +kernel)
  have kc_RX13 : ∀ w ∈ u_ws RX13 TX13 29, w ∈ wsX13_meanWeight := by decide +kernel
  have k_fieldLink_77 : (Cond.fieldLink RX13 77 "OpinionReactorModel" "thrown" "I").before _ s9 = true := hts (.fieldLink RX13 77 "OpinionReactorModel" "thrown" "I") (by decide +kernel)
  refine lv_aload_n hx hb dX13_meanWeight_0 rfl (lv_at hl 0 rfl) ?_
  refine lv_aload_n hx hb dX13_meanWeight_1 rfl (lv_at hl 0 rfl) ?_
  refine va_get (D := D) (ci := 11) (v := .ref (q 1)) (C := RX13) (T := TX13) (N := 29) hx hb hts kc_RX13 hown hK hP 0 rfl rfl 5 (by decide) k_fieldLink_16 (fun _ h9 => h9) rfl dX13_meanWeight_2 ?_
  refine lv_iconst (v := 0) hx hb dX13_meanWeight_5 (by decide) ?_
  refine ia_ld hx hb hK hP 1 rfl 0 (by omega) (by decide) dX13_meanWeight_6 ?_
  rw [hv0]
  refine lv_if_ne (tgt := 14) hx hb dX13_meanWeight_7 (by decide) (fun c_1 => ?_) (fun c_1 => ?_)
  · skip
    have c_1 : ¬ n = 0 := fun h => c_1 ((nI_eq (a := n) (b := 0) (by omega) (by decide)).mpr h)
    refine lv_iconst (v := 0) hx hb dX13_meanWeight_14 (by decide) ?_
    refine va_put (D := D) (ci := 11) (v := .int 0) (ty := .int) (C := RX13) (T := TX13) (N := 29) hx hb hts kc_RX13 tyX13 tyX13_ok nmX13 hown hK hP hD hS 0 rfl rfl 0 (by decide) k_fieldLink_77 (fun _ h9 => h9) rfl (by decide +kernel) rfl rfl (Nat.le_of_ble_eq_true rfl) dX13_meanWeight_15 (fun H locs hP hD hS => ?_)
    have hP : va_P D vwCl (bMO k q 0 ea fa ch tn he en ln sv wr dg ++ bI83 k (q 1) v) H := hP
    have hD : va_D A (bMO k q 0 ea fa ch tn he en ln sv wr dg ++ bI83 k (q 1) v) := hD
    refine lv_aload_n hx hb dX13_meanWeight_18 rfl (lv_at hl 0 rfl) ?_
    refine va_get (D := D) (ci := 11) (v := .int 0) (C := RX13) (T := TX13) (N := 29) hx hb hts kc_RX13 hown hK hP 0 rfl rfl 0 (by decide) k_fieldLink_77 (fun _ h9 => h9) rfl dX13_meanWeight_19 ?_
    refine lv_if_ne (tgt := 51) hx hb dX13_meanWeight_22 (by decide) (fun c_2 => ?_) (fun c_2 => ?_)
    · first | exact absurd c_2 (by decide) | exact absurd (by decide) c_2
    · skip
      refine lv_aload_n hx hb dX13_meanWeight_25 rfl (lv_at hl 0 rfl) ?_
      refine lv_iconst (v := 1) hx hb dX13_meanWeight_26 (by decide) ?_
      refine lv_aload_n hx hb dX13_meanWeight_27 rfl (lv_at hl 0 rfl) ?_
      refine va_get (D := D) (ci := 11) (v := .ref (q 1)) (C := RX13) (T := TX13) (N := 29) hx hb hts kc_RX13 hown hK hP 0 rfl rfl 5 (by decide) k_fieldLink_16 (fun _ h9 => h9) rfl dX13_meanWeight_28 ?_
      refine lv_iconst (v := 0) hx hb dX13_meanWeight_31 (by decide) ?_
      refine ia_ld hx hb hK hP 1 rfl 0 (by omega) (by decide) dX13_meanWeight_32 ?_
      rw [hv0]
      refine lv_ishl hx hb dX13_meanWeight_33 ?_
      refine lv_iconst (v := 1) hx hb dX13_meanWeight_34 (by decide) ?_
      refine lv_isub hx hb dX13_meanWeight_35 ?_
      refine vp_callSi (W.runV (As := [.int ((1 <<< ((nI n) &&& 31)) - 1)]) (rest := []) hF (m_X13_weight l9 D k q 0 ea fa ch tn he en ln sv wr dg v n ((1 <<< ((nI n) &&& 31)) - 1) hn hv0) (cwV 1 hts gX13_meanWeight_X13_weight rfl rfl rfl (by decide +kernel) ⟨Nat.le_of_ble_eq_true rfl, Nat.le_of_ble_eq_true rfl⟩) (rPreV hK hN hP [0, 1] rfl 0 11 rfl rfl) rfl rfl hl.1 rfl (lv_room (Nat.le_of_ble_eq_true rfl)) dX13_meanWeight_36 ⟨Nat.zero_le _, Nat.zero_le _⟩) (fun r_3 hr_3 => ?_)
      subst hr_3
      refine lv_i2d hx hb dX13_meanWeight_39 ?_
      refine lv_aload_n hx hb dX13_meanWeight_40 rfl (lv_at hl 0 rfl) ?_
      refine va_get (D := D) (ci := 11) (v := .ref (q 1)) (C := RX13) (T := TX13) (N := 29) hx hb hts kc_RX13 hown hK hP 0 rfl rfl 5 (by decide) k_fieldLink_16 (fun _ h9 => h9) rfl dX13_meanWeight_41 ?_
      refine lv_iconst (v := 0) hx hb dX13_meanWeight_44 (by decide) ?_
      refine ia_ld hx hb hK hP 1 rfl 0 (by omega) (by decide) dX13_meanWeight_45 ?_
      rw [hv0]
      refine lv_i2d hx hb dX13_meanWeight_46 ?_
      refine lv_ddiv hx hb dX13_meanWeight_47 (okD_n64 (okD_mn hw (by omega) hn)) ?_
      refine lv_goto (tgt := 52) hx hb dX13_meanWeight_48 (by decide) ?_
      have e_4 : (0 : Int32) = if n = 0 then 1 else 0 := by first | (with_reducible rfl) | ((try simp only [mnM]); (repeat (first | rw [if_pos (by first | assumption | exact Eq.trans (b := false) (by assumption) (Eq.symm (by assumption)) | exact Eq.trans (b := true) (by assumption) (Eq.symm (by assumption)) | exact ⟨by assumption, by assumption⟩ | exact Or.inl (by assumption) | exact Or.inr (by assumption) | exact Or.inr (Or.inl (by assumption)) | exact Or.inr (Or.inr (by assumption)) | (simp only [Int32.lt_iff_toInt_lt, Int32.le_iff_toInt_le, i32_0, i32_1, i32_2, i32_3, i32_4, i32_9, i32_10, i32_99, i32_100, i32_1000, i32_9999] at *; omega))] | rw [if_neg (by first | assumption | (rintro (h9 | h9 | h9) <;> contradiction) | (rintro (h9 | h9) <;> contradiction) | (intro h9; exact Bool.noConfusion (Eq.trans (c := false) h9.symm (by assumption))) | (rintro ⟨h8, h9⟩; exact Bool.noConfusion (Eq.trans (c := false) h8.symm (by assumption))) | (rintro ⟨h8, h9⟩; exact Bool.noConfusion (Eq.trans (c := false) h9.symm (by assumption))) | (simp only [Int32.lt_iff_toInt_lt, Int32.le_iff_toInt_le, i32_0, i32_1, i32_2, i32_3, i32_4, i32_9, i32_10, i32_99, i32_100, i32_1000, i32_9999] at *; omega))])); (try rfl))
      have hP := Eq.mp (congrArg (fun z9 => va_P D vwCl (bMO k q z9 ea fa ch tn he en ln sv wr dg ++ bI83 k (q 1) v) H) e_4) hP
      have hD := Eq.mp (congrArg (fun z9 => va_D A (bMO k q z9 ea fa ch tn he en ln sv wr dg ++ bI83 k (q 1) v)) e_4) hD
      exact W.dret (v := FP.ddiv (FP.i2d (adS n (vw v) ((1 <<< ((nI n) &&& 31)) - 1))) (FP.i2d (nI n))) hx hb hr (fun t9 ht hW => ⟨⟨_, (), rfl, (by (try simp only [mnM]); (repeat (first | rw [if_pos (by first | assumption | exact Eq.trans (b := false) (by assumption) (Eq.symm (by assumption)) | exact Eq.trans (b := true) (by assumption) (Eq.symm (by assumption)) | exact ⟨by assumption, by assumption⟩ | exact Or.inl (by assumption) | exact Or.inr (by assumption) | exact Or.inr (Or.inl (by assumption)) | exact Or.inr (Or.inr (by assumption)) | (simp only [Int32.lt_iff_toInt_lt, Int32.le_iff_toInt_le, i32_0, i32_1, i32_2, i32_3, i32_4, i32_9, i32_10, i32_99, i32_100, i32_1000, i32_9999] at *; omega))] | rw [if_neg (by first | assumption | (rintro (h9 | h9 | h9) <;> contradiction) | (rintro (h9 | h9) <;> contradiction) | (intro h9; exact Bool.noConfusion (Eq.trans (c := false) h9.symm (by assumption))) | (rintro ⟨h8, h9⟩; exact Bool.noConfusion (Eq.trans (c := false) h8.symm (by assumption))) | (rintro ⟨h8, h9⟩; exact Bool.noConfusion (Eq.trans (c := false) h9.symm (by assumption))) | (simp only [Int32.lt_iff_toInt_lt, Int32.le_iff_toInt_le, i32_0, i32_1, i32_2, i32_3, i32_4, i32_9, i32_10, i32_99, i32_100, i32_1000, i32_9999] at *; omega))])); (try rfl)), ⟨by rw [ht]; exact hP, va_K.moved hW.alike hK, hD⟩⟩, hS.F ht⟩) hS.2.2 dX13_meanWeight_52 hlocks
  · skip
    have c_1 : n = 0 := (nI_eq (a := n) (b := 0) (by omega) (by decide)).mp c_1
    refine lv_iconst (v := 1) hx hb dX13_meanWeight_10 (by decide) ?_
    refine lv_goto (tgt := 15) hx hb dX13_meanWeight_11 (by decide) ?_
    refine va_put (D := D) (ci := 11) (v := .int 1) (ty := .int) (C := RX13) (T := TX13) (N := 29) hx hb hts kc_RX13 tyX13 tyX13_ok nmX13 hown hK hP hD hS 0 rfl rfl 0 (by decide) k_fieldLink_77 (fun _ h9 => h9) rfl (by decide +kernel) rfl rfl (Nat.le_of_ble_eq_true rfl) dX13_meanWeight_15 (fun H locs hP hD hS => ?_)
    have hP : va_P D vwCl (bMO k q 1 ea fa ch tn he en ln sv wr dg ++ bI83 k (q 1) v) H := hP
    have hD : va_D A (bMO k q 1 ea fa ch tn he en ln sv wr dg ++ bI83 k (q 1) v) := hD
    refine lv_aload_n hx hb dX13_meanWeight_18 rfl (lv_at hl 0 rfl) ?_
    refine va_get (D := D) (ci := 11) (v := .int 1) (C := RX13) (T := TX13) (N := 29) hx hb hts kc_RX13 hown hK hP 0 rfl rfl 0 (by decide) k_fieldLink_77 (fun _ h9 => h9) rfl dX13_meanWeight_19 ?_
    refine lv_if_ne (tgt := 51) hx hb dX13_meanWeight_22 (by decide) (fun c_5 => ?_) (fun c_5 => ?_)
    · skip
      refine lv_dconst0 hx hb dX13_meanWeight_51 ?_
      have e_6 : (1 : Int32) = if n = 0 then 1 else 0 := by first | (with_reducible rfl) | ((try simp only [mnM]); (repeat (first | rw [if_pos (by first | assumption | exact Eq.trans (b := false) (by assumption) (Eq.symm (by assumption)) | exact Eq.trans (b := true) (by assumption) (Eq.symm (by assumption)) | exact ⟨by assumption, by assumption⟩ | exact Or.inl (by assumption) | exact Or.inr (by assumption) | exact Or.inr (Or.inl (by assumption)) | exact Or.inr (Or.inr (by assumption)) | (simp only [Int32.lt_iff_toInt_lt, Int32.le_iff_toInt_le, i32_0, i32_1, i32_2, i32_3, i32_4, i32_9, i32_10, i32_99, i32_100, i32_1000, i32_9999] at *; omega))] | rw [if_neg (by first | assumption | (rintro (h9 | h9 | h9) <;> contradiction) | (rintro (h9 | h9) <;> contradiction) | (intro h9; exact Bool.noConfusion (Eq.trans (c := false) h9.symm (by assumption))) | (rintro ⟨h8, h9⟩; exact Bool.noConfusion (Eq.trans (c := false) h8.symm (by assumption))) | (rintro ⟨h8, h9⟩; exact Bool.noConfusion (Eq.trans (c := false) h9.symm (by assumption))) | (simp only [Int32.lt_iff_toInt_lt, Int32.le_iff_toInt_le, i32_0, i32_1, i32_2, i32_3, i32_4, i32_9, i32_10, i32_99, i32_100, i32_1000, i32_9999] at *; omega))])); (try rfl))
      have hP := Eq.mp (congrArg (fun z9 => va_P D vwCl (bMO k q z9 ea fa ch tn he en ln sv wr dg ++ bI83 k (q 1) v) H) e_6) hP
      have hD := Eq.mp (congrArg (fun z9 => va_D A (bMO k q z9 ea fa ch tn he en ln sv wr dg ++ bI83 k (q 1) v)) e_6) hD
      exact W.dret (v := FP.dconst0) hx hb hr (fun t9 ht hW => ⟨⟨_, (), rfl, (by (try simp only [mnM]); (repeat (first | rw [if_pos (by first | assumption | exact Eq.trans (b := false) (by assumption) (Eq.symm (by assumption)) | exact Eq.trans (b := true) (by assumption) (Eq.symm (by assumption)) | exact ⟨by assumption, by assumption⟩ | exact Or.inl (by assumption) | exact Or.inr (by assumption) | exact Or.inr (Or.inl (by assumption)) | exact Or.inr (Or.inr (by assumption)) | (simp only [Int32.lt_iff_toInt_lt, Int32.le_iff_toInt_le, i32_0, i32_1, i32_2, i32_3, i32_4, i32_9, i32_10, i32_99, i32_100, i32_1000, i32_9999] at *; omega))] | rw [if_neg (by first | assumption | (rintro (h9 | h9 | h9) <;> contradiction) | (rintro (h9 | h9) <;> contradiction) | (intro h9; exact Bool.noConfusion (Eq.trans (c := false) h9.symm (by assumption))) | (rintro ⟨h8, h9⟩; exact Bool.noConfusion (Eq.trans (c := false) h8.symm (by assumption))) | (rintro ⟨h8, h9⟩; exact Bool.noConfusion (Eq.trans (c := false) h9.symm (by assumption))) | (simp only [Int32.lt_iff_toInt_lt, Int32.le_iff_toInt_le, i32_0, i32_1, i32_2, i32_3, i32_4, i32_9, i32_10, i32_99, i32_100, i32_1000, i32_9999] at *; omega))])); (try rfl)), ⟨by rw [ht]; exact hP, va_K.moved hW.alike hK, hD⟩⟩, hS.F ht⟩) hS.2.2 dX13_meanWeight_52 hlocks
    · first | exact absurd c_5 (by decide) | exact absurd (by decide) c_5

set_option maxHeartbeats 4000000 in
set_option maxRecDepth 100000 in
theorem m_X13_isConsistent (l9 : Launch) (D : va_G) (k : Nat → ClassId) (sz : Nat) (q : Nat → Nat) (th ea fa : Int32) (ch tn he en ln : Nat) (sv wr dg : Bool) (v : Nat → Int32) (fl : Nat → UInt32) (n : Nat) (hn : n ≤ 10) (hv0 : v 0 = nI n) (hf : ∀ c, c < n → okF (fl c)) : Met l9 yX13_isConsistent wsX13_isConsistent ({ frames := 4, cells := 0, slots := 0, locals := 91 }) (WPc D k [.ref (q 0)] (bMO k q th ea fa ch tn he en ln sv wr dg ++ bI83 k (q 1) v ++ bF10 k (q 6) fl) sz) (WI D k (bMO k q 0 ea fa ch tn he en ln sv wr dg ++ bI83 k (q 1) v ++ bF10 k (q 6) fl) (bI (hldM n (vt v) (accM n (vt v)))) (va_A (bMO k q th ea fa ch tn he en ln sv wr dg ++ bI83 k (q 1) v ++ bF10 k (q 6) fl) sz)) 0 0 (va_A (bMO k q th ea fa ch tn he en ln sv wr dg ++ bI83 k (q 1) v ++ bF10 k (q 6) fl) sz) := by
  refine wMet (y := yX13_isConsistent) (cc := cX13_isConsistent) (maxL := 1) (ret := (some .boolean)) (Qc := fun A => WI D k (bMO k q 0 ea fa ch tn he en ln sv wr dg ++ bI83 k (q 1) v ++ bF10 k (q 6) fl) (bI (hldM n (vt v) (accM n (vt v)))) A) [.ref (q 0)] (by decide) rfl (Nat.le_of_ble_eq_true rfl) ?_
  intro p9 e9 s9 m9 bl9 me9 c9 ls A H hF hr hlocks hP hK hN hD hA hS hl hin
  have hl : lv_has ls 1 [(0, .ref (q 0))] := hl
  obtain ⟨hx, hb, hml, hown, hts⟩ := id hF
  have k_fieldLink_77 : (Cond.fieldLink RX13 77 "OpinionReactorModel" "thrown" "I").before _ s9 = true := hts (.fieldLink RX13 77 "OpinionReactorModel" "thrown" "I") (by decide +kernel)
  have kc_RX13 : ∀ w ∈ u_ws RX13 TX13 29, w ∈ wsX13_isConsistent := by decide +kernel
  refine lv_aload_n hx hb dX13_isConsistent_0 rfl (lv_at hl 0 rfl) ?_
  refine lv_iconst (v := 0) hx hb dX13_isConsistent_1 (by decide) ?_
  refine va_put (D := D) (ci := 11) (v := .int 0) (ty := .int) (C := RX13) (T := TX13) (N := 29) hx hb hts kc_RX13 tyX13 tyX13_ok nmX13 hown hK hP hD hS 0 rfl rfl 0 (by decide) k_fieldLink_77 (fun _ h9 => h9) rfl (by decide +kernel) rfl rfl (Nat.le_of_ble_eq_true rfl) dX13_isConsistent_2 (fun H locs hP hD hS => ?_)
  have hP : va_P D vwCl (bMO k q 0 ea fa ch tn he en ln sv wr dg ++ bI83 k (q 1) v ++ bF10 k (q 6) fl) H := hP
  have hD : va_D A (bMO k q 0 ea fa ch tn he en ln sv wr dg ++ bI83 k (q 1) v ++ bF10 k (q 6) fl) := hD
  refine lv_aload_n hx hb dX13_isConsistent_5 rfl (lv_at hl 0 rfl) ?_
  refine lv_aload_n hx hb dX13_isConsistent_6 rfl (lv_at hl 0 rfl) ?_
  refine vp_callSi (W.runV (As := []) (rest := [.ref (q 0)]) hF (m_X13_accepted l9 D k q 0 ea fa ch tn he en ln sv wr dg v n hn hv0) (cwV 0 hts gX13_isConsistent_X13_accepted rfl rfl rfl (by decide +kernel) ⟨Nat.le_of_ble_eq_true rfl, Nat.le_of_ble_eq_true rfl⟩) (rPreV hK hN hP [0, 1] rfl 0 11 rfl rfl) rfl rfl hl.1 rfl (lv_room (Nat.le_of_ble_eq_true rfl)) dX13_isConsistent_7 ⟨Nat.zero_le _, Nat.zero_le _⟩) (fun r_1 hr_1 => ?_)
  subst hr_1
  refine vp_callSi (W.runV (As := [.int (accM n (vt v))]) (rest := []) hF (m_X13_holds l9 D k q 0 ea fa ch tn he en ln sv wr dg v n (accM n (vt v)) hn hv0) (cwV 1 hts gX13_isConsistent_X13_holds rfl rfl rfl (by decide +kernel) ⟨Nat.le_of_ble_eq_true rfl, Nat.le_of_ble_eq_true rfl⟩) (rPreV hK hN hP [0, 1] rfl 0 11 rfl rfl) rfl rfl hl.1 rfl (lv_room (Nat.le_of_ble_eq_true rfl)) dX13_isConsistent_10 ⟨Nat.zero_le _, Nat.zero_le _⟩) (fun r_2 hr_2 => ?_)
  subst hr_2
  refine lv_if_eq (tgt := 29) hx hb dX13_isConsistent_13 (by decide) (fun c_3 => ?_) (fun c_3 => ?_)
  · skip
    have c_3 : (hldM n (vt v) (accM n (vt v))) = false := bI_0 c_3
    refine lv_iconst (v := 0) hx hb dX13_isConsistent_29 (by decide) ?_
    exact W.zret (v := 0) hx hb hr (rfl) (fun t9 ht hW => ⟨⟨_, (), rfl, (by first | (rw [show hldM n (vt v) (accM n (vt v)) = true by assumption]; rfl) | (rw [show hldM n (vt v) (accM n (vt v)) = false by assumption]; rfl)), ⟨by rw [ht]; exact hP, va_K.moved hW.alike hK, hD⟩⟩, hS.F ht⟩) hS.2.2 dX13_isConsistent_30 hlocks
  · skip
    have c_3 : (hldM n (vt v) (accM n (vt v))) = true := bI_1 c_3
    refine lv_aload_n hx hb dX13_isConsistent_16 rfl (lv_at hl 0 rfl) ?_
    refine vp_callSf (W.runV (As := []) (rest := []) hF (m_X13_sum l9 D k q 0 ea fa ch tn he en ln sv wr dg v fl n hn hv0 hf) (cwV 0 hts gX13_isConsistent_X13_sum rfl rfl rfl (by decide +kernel) ⟨Nat.le_of_ble_eq_true rfl, Nat.le_of_ble_eq_true rfl⟩) (rPreV hK hN hP [0, 1, 2] rfl 0 11 rfl rfl) rfl rfl hl.1 rfl (lv_room (Nat.le_of_ble_eq_true rfl)) dX13_isConsistent_17 ⟨Nat.zero_le _, Nat.zero_le _⟩) (fun r_4 hr_4 => ?_)
    subst hr_4
    refine lv_fconst0 hx hb dX13_isConsistent_20 ?_
    refine lv_fcmp hx hb dX13_isConsistent_21 ?_
    refine lv_if_lt (tgt := 29) hx hb dX13_isConsistent_22 (by decide) (fun c_5 => ?_) (fun c_5 => ?_)
    · skip
      have c_5 : ((FP.fcmp (smF fl n) FP.fconst0) = some .lt ∨ (FP.fcmp (smF fl n) FP.fconst0) = none) := (cmv_ltl _).mp c_5
      exact absurd c_5 (okF_nlt (okF_sm hf))
    · skip
      have c_5 : ¬ ((FP.fcmp (smF fl n) FP.fconst0) = some .lt ∨ (FP.fcmp (smF fl n) FP.fconst0) = none) := fun h => c_5 ((cmv_ltl _).mpr h)
      refine lv_iconst (v := 1) hx hb dX13_isConsistent_25 (by decide) ?_
      refine lv_goto (tgt := 30) hx hb dX13_isConsistent_26 (by decide) ?_
      exact W.zret (v := 1) hx hb hr (rfl) (fun t9 ht hW => ⟨⟨_, (), rfl, (by first | (rw [show hldM n (vt v) (accM n (vt v)) = true by assumption]; rfl) | (rw [show hldM n (vt v) (accM n (vt v)) = false by assumption]; rfl)), ⟨by rw [ht]; exact hP, va_K.moved hW.alike hK, hD⟩⟩, hS.F ht⟩) hS.2.2 dX13_isConsistent_30 hlocks

set_option maxHeartbeats 4000000 in
set_option maxRecDepth 100000 in
theorem m_X13_claimAtRank (l9 : Launch) (D : va_G) (k : Nat → ClassId) (sz : Nat) (q : Nat → Nat) (th ea fa : Int32) (ch tn he en ln : Nat) (sv wr dg : Bool) (v : Nat → Int32) (fl : Nat → UInt32) (n : Nat) (x : Int32) (hn : n ≤ 10) (hv0 : v 0 = nI n) : Met l9 yX13_claimAtRank wsX13_claimAtRank ({ frames := 1, cells := 0, slots := 0, locals := 21 }) (WPc D k [.ref (q 0), .int x] (bMO k q th ea fa ch tn he en ln sv wr dg ++ bI83 k (q 1) v ++ bF10 k (q 6) fl) sz) (WI D k (bMO k q (if (rkM n fl (vw v) x) < n then 0 else 1) ea fa ch tn he en ln sv wr dg ++ bI83 k (q 1) v ++ bF10 k (q 6) fl) (if (rkM n fl (vw v) x) < n then nI (rkM n fl (vw v) x) else 0) (va_A (bMO k q th ea fa ch tn he en ln sv wr dg ++ bI83 k (q 1) v ++ bF10 k (q 6) fl) sz)) 0 0 (va_A (bMO k q th ea fa ch tn he en ln sv wr dg ++ bI83 k (q 1) v ++ bF10 k (q 6) fl) sz) := by
  refine wMet (y := yX13_claimAtRank) (cc := cX13_claimAtRank) (maxL := 6) (ret := (some .int)) (Qc := fun A => WI D k (bMO k q (if (rkM n fl (vw v) x) < n then 0 else 1) ea fa ch tn he en ln sv wr dg ++ bI83 k (q 1) v ++ bF10 k (q 6) fl) (if (rkM n fl (vw v) x) < n then nI (rkM n fl (vw v) x) else 0) A) [.ref (q 0), .int x] (by decide) rfl (Nat.le_of_ble_eq_true rfl) ?_
  intro p9 e9 s9 m9 bl9 me9 c9 ls A H hF hr hlocks hP hK hN hD hA hS hl hin
  have hl : lv_has ls 6 [(0, .ref (q 0)), (1, .int x)] := hl
  obtain ⟨hx, hb, hml, hown, hts⟩ := id hF
  have k_fieldLink_16 : (Cond.fieldLink RX13 16 "OpinionReactorModel" "v" "[I").before _ s9 = true := hts (.fieldLink RX13 16 "OpinionReactorModel" "v" "[I") (by decide +kernel)
  have kc_RX13 : ∀ w ∈ u_ws RX13 TX13 29, w ∈ wsX13_claimAtRank := by decide +kernel
  have k_fieldLink_32 : (Cond.fieldLink RX13 32 "OpinionReactorModel" "flux" "[F").before _ s9 = true := hts (.fieldLink RX13 32 "OpinionReactorModel" "flux" "[F") (by decide +kernel)
  have k_fieldLink_77 : (Cond.fieldLink RX13 77 "OpinionReactorModel" "thrown" "I").before _ s9 = true := hts (.fieldLink RX13 77 "OpinionReactorModel" "thrown" "I") (by decide +kernel)
  have loop_7 : ∀ (fuel : Nat) (i : Nat), (i ≤ n) → (∀ c, c < i → decide (nI (cntR fl (vw v) c n) = x) = false) → n - i < fuel → ∀ (ls : Array Slot), ∀ (H : Heap) (locs : List Loc), va_P D vwCl (bMO k q 0 ea fa ch tn he en ln sv wr dg ++ bI83 k (q 1) v ++ bF10 k (q 6) fl) H → va_D A (bMO k q 0 ea fa ch tn he en ln sv wr dg ++ bI83 k (q 1) v ++ bF10 k (q 6) fl) → va_S A s9.heap H locs → lv_has ls 6 [(0, .ref (q 0)), (1, .int x), (2, .int (nI i))] → W p9 l9 e9 ({ frames := 1, cells := 0, slots := 0, locals := 21 }) s9 m9 ([.ref (q 0), .int x] : List Value).toArray bl9 me9 c9 H locs 0 0 (MQ bl9 (WI D k (bMO k q (if (rkM n fl (vw v) x) < n then 0 else 1) ea fa ch tn he en ln sv wr dg ++ bI83 k (q 1) v ++ bF10 k (q 6) fl) (if (rkM n fl (vw v) x) < n then nI (rkM n fl (vw v) x) else 0) A) ([.ref (q 0), .int x] : List Value).toArray s9 0 0 A) (F0 m9 7 ls []) := by
    intro fuel
    induction fuel with
    | zero => intro i hi hno hfuel_7; exact absurd hfuel_7 (Nat.not_lt_zero _)
    | succ fuel ih_7 =>
      intro i hi hno hfuel_7 ls H locs hP hD hS hl
      have loop_22 : ∀ (fuel : Nat) (u : Nat), (u ≤ n) → (i < n) → n - u < fuel → ∀ (ls : Array Slot), ∀ (H : Heap) (locs : List Loc), va_P D vwCl (bMO k q 0 ea fa ch tn he en ln sv wr dg ++ bI83 k (q 1) v ++ bF10 k (q 6) fl) H → va_D A (bMO k q 0 ea fa ch tn he en ln sv wr dg ++ bI83 k (q 1) v ++ bF10 k (q 6) fl) → va_S A s9.heap H locs → lv_has ls 6 [(0, .ref (q 0)), (1, .int x), (2, .int (nI i)), (3, .int (nI (cntR fl (vw v) i u))), (4, .int (nI u))] → W p9 l9 e9 ({ frames := 1, cells := 0, slots := 0, locals := 21 }) s9 m9 ([.ref (q 0), .int x] : List Value).toArray bl9 me9 c9 H locs 0 0 (MQ bl9 (WI D k (bMO k q (if (rkM n fl (vw v) x) < n then 0 else 1) ea fa ch tn he en ln sv wr dg ++ bI83 k (q 1) v ++ bF10 k (q 6) fl) (if (rkM n fl (vw v) x) < n then nI (rkM n fl (vw v) x) else 0) A) ([.ref (q 0), .int x] : List Value).toArray s9 0 0 A) (F0 m9 22 ls []) := by
        intro fuel
        induction fuel with
        | zero => intro u hu hil hfuel_22; exact absurd hfuel_22 (Nat.not_lt_zero _)
        | succ fuel ih_22 =>
          intro u hu hil hfuel_22 ls H locs hP hD hS hl
          refine lv_iload hx hb dX13_claimAtRank_22 (lv_at hl 4 rfl) ?_
          refine lv_aload_n hx hb dX13_claimAtRank_24 rfl (lv_at hl 0 rfl) ?_
          refine va_get (D := D) (ci := 11) (v := .ref (q 1)) (C := RX13) (T := TX13) (N := 29) hx hb hts kc_RX13 hown hK hP 0 rfl rfl 5 (by decide) k_fieldLink_16 (fun _ h9 => h9) rfl dX13_claimAtRank_25 ?_
          refine lv_iconst (v := 0) hx hb dX13_claimAtRank_28 (by decide) ?_
          refine ia_ld hx hb hK hP 1 rfl 0 (by omega) (by decide) dX13_claimAtRank_29 ?_
          rw [hv0]
          refine lv_icmp_ge (tgt := 147) hx hb dX13_claimAtRank_30 (by decide) (fun c_1 => ?_) (fun c_1 => ?_)
          · skip
            have c_1 : n ≤ u := (nI_leI (a := n) (b := u) (by omega) (by omega)).mp c_1
            refine lv_iload_n hx hb dX13_claimAtRank_147 rfl (lv_at hl 3 rfl) ?_
            refine lv_iload_n hx hb dX13_claimAtRank_148 rfl (lv_at hl 1 rfl) ?_
            refine lv_icmp_ne (tgt := 154) hx hb dX13_claimAtRank_149 (by decide) (fun c_2 => ?_) (fun c_2 => ?_)
            · skip
              refine lv_iinc (v := nI (i + 1)) (lv' := [(2, .int (nI (i + 1))), (0, .ref (q 0)), (1, .int x), (3, .int (nI (cntR fl (vw v) i u))), (4, .int (nI u))]) hx hb dX13_claimAtRank_154 hl (k := 2) rfl (nI_inc i) (by decide) rfl (fun ls hl => ?_)
              refine lv_goto (tgt := 7) hx hb dX13_claimAtRank_157 (by decide) ?_
              exact ih_7 (i + 1) (by omega) (fun c hc => (Nat.lt_succ_iff_lt_or_eq.mp hc).elim (hno c) (fun e => by rw [e]; exact decide_eq_false (by rw [show n = u by omega]; assumption))) (by omega) ls _ _ hP hD hS (lv_one hl 1 rfl rfl (lv_one hl 2 rfl rfl (lv_one hl 0 rfl rfl (lv_nil hl))))
            · skip
              refine lv_iload_n hx hb dX13_claimAtRank_152 rfl (lv_at hl 2 rfl) ?_
              have e_3 : (0 : Int32) = if (rkM n fl (vw v) x) < n then 0 else 1 := by first | (with_reducible rfl) | (rw [rkM_at hno (by rw [show n = u by omega]; assumption) hil, if_pos hil])
              have hP := Eq.mp (congrArg (fun z9 => va_P D vwCl (bMO k q z9 ea fa ch tn he en ln sv wr dg ++ bI83 k (q 1) v ++ bF10 k (q 6) fl) H) e_3) hP
              have hD := Eq.mp (congrArg (fun z9 => va_D A (bMO k q z9 ea fa ch tn he en ln sv wr dg ++ bI83 k (q 1) v ++ bF10 k (q 6) fl)) e_3) hD
              exact W.iret (v := nI i) hx hb hr (fun t9 ht hW => ⟨⟨_, (), rfl, (by rw [rkM_at hno (by rw [show n = u by omega]; assumption) hil, if_pos hil]), ⟨by rw [ht]; exact hP, va_K.moved hW.alike hK, hD⟩⟩, hS.F ht⟩) hS.2.2 dX13_claimAtRank_153 hlocks
          · skip
            have c_1 : ¬ n ≤ u := fun h => c_1 ((nI_leI (a := n) (b := u) (by omega) (by omega)).mpr h)
            refine lv_aload_n hx hb dX13_claimAtRank_33 rfl (lv_at hl 0 rfl) ?_
            refine va_get (D := D) (ci := 11) (v := .ref (q 1)) (C := RX13) (T := TX13) (N := 29) hx hb hts kc_RX13 hown hK hP 0 rfl rfl 5 (by decide) k_fieldLink_16 (fun _ h9 => h9) rfl dX13_claimAtRank_34 ?_
            refine lv_iload hx hb dX13_claimAtRank_37 (lv_at hl 4 rfl) ?_
            refine lv_iconst (v := 0) hx hb dX13_claimAtRank_39 (by decide) ?_
            refine vp_callSi (W.runS (As := [.int (nI u), .int 0]) (rest := [.ref (q 1)]) hF (m_X13_of l9 D k u 0 ) (va_cwS 2 hts gX13_claimAtRank_X13_of rfl rfl rfl (by decide +kernel) ⟨Nat.le_of_ble_eq_true rfl, Nat.le_of_ble_eq_true rfl⟩) (rPreS hK hN hP [] rfl) rfl rfl hl.1 rfl (lv_room (Nat.le_of_ble_eq_true rfl)) dX13_claimAtRank_40 ⟨Nat.zero_le _, Nat.zero_le _⟩) (fun r_4 hr_4 => ?_)
            subst hr_4
            refine ia_ld hx hb hK hP 1 rfl (5 + 3 * u + 0) (by omega) (by decide) dX13_claimAtRank_43 ?_
            refine lv_aload_n hx hb dX13_claimAtRank_44 rfl (lv_at hl 0 rfl) ?_
            refine va_get (D := D) (ci := 11) (v := .ref (q 1)) (C := RX13) (T := TX13) (N := 29) hx hb hts kc_RX13 hown hK hP 0 rfl rfl 5 (by decide) k_fieldLink_16 (fun _ h9 => h9) rfl dX13_claimAtRank_45 ?_
            refine lv_iload_n hx hb dX13_claimAtRank_48 rfl (lv_at hl 2 rfl) ?_
            refine lv_iconst (v := 0) hx hb dX13_claimAtRank_49 (by decide) ?_
            refine vp_callSi (W.runS (As := [.int (nI i), .int 0]) (rest := [.ref (q 1), .int (v (5 + 3 * u + 0))]) hF (m_X13_of l9 D k i 0 ) (va_cwS 2 hts gX13_claimAtRank_X13_of rfl rfl rfl (by decide +kernel) ⟨Nat.le_of_ble_eq_true rfl, Nat.le_of_ble_eq_true rfl⟩) (rPreS hK hN hP [] rfl) rfl rfl hl.1 rfl (lv_room (Nat.le_of_ble_eq_true rfl)) dX13_claimAtRank_50 ⟨Nat.zero_le _, Nat.zero_le _⟩) (fun r_5 hr_5 => ?_)
            subst hr_5
            refine ia_ld hx hb hK hP 1 rfl (5 + 3 * i + 0) (by omega) (by decide) dX13_claimAtRank_53 ?_
            refine lv_icmp_gt (tgt := 87) hx hb dX13_claimAtRank_54 (by decide) (fun c_6 => ?_) (fun c_6 => ?_)
            · skip
              refine lv_iconst (v := 1) hx hb dX13_claimAtRank_87 (by decide) ?_
              refine lv_goto (tgt := 92) hx hb dX13_claimAtRank_88 (by decide) ?_
              refine lv_istore (lv' := [(5, .int 1), (0, .ref (q 0)), (1, .int x), (2, .int (nI i)), (3, .int (nI (cntR fl (vw v) i u))), (4, .int (nI u))]) hx hb dX13_claimAtRank_92 hl (by decide) rfl (fun ls hl => ?_)
              refine lv_iload_n hx hb dX13_claimAtRank_94 rfl (lv_at hl 4 rfl) ?_
              refine lv_aload_n hx hb dX13_claimAtRank_95 rfl (lv_at hl 1 rfl) ?_
              refine va_get (D := D) (ci := 11) (v := .ref (q 6)) (C := RX13) (T := TX13) (N := 29) hx hb hts kc_RX13 hown hK hP 0 rfl rfl 10 (by decide) k_fieldLink_32 (fun _ h9 => h9) rfl dX13_claimAtRank_96 ?_
              refine lv_iload hx hb dX13_claimAtRank_99 (lv_at hl 5 rfl) ?_
              refine fa_ld hx hb hK hP 2 rfl u (by omega) (by decide) dX13_claimAtRank_101 ?_
              refine lv_aload_n hx hb dX13_claimAtRank_102 rfl (lv_at hl 1 rfl) ?_
              refine va_get (D := D) (ci := 11) (v := .ref (q 6)) (C := RX13) (T := TX13) (N := 29) hx hb hts kc_RX13 hown hK hP 0 rfl rfl 10 (by decide) k_fieldLink_32 (fun _ h9 => h9) rfl dX13_claimAtRank_103 ?_
              refine lv_iload_n hx hb dX13_claimAtRank_106 rfl (lv_at hl 3 rfl) ?_
              refine fa_ld hx hb hK hP 2 rfl i (by omega) (by decide) dX13_claimAtRank_107 ?_
              refine lv_fcmp hx hb dX13_claimAtRank_108 ?_
              refine lv_if_gt (tgt := 134) hx hb dX13_claimAtRank_109 (by decide) (fun c_7 => ?_) (fun c_7 => ?_)
              · skip
                have c_7 : (FP.fcmp (fl u) (fl i)) = some .gt := (cmv_gt _).mp c_7
                refine lv_iconst (v := 1) hx hb dX13_claimAtRank_134 (by decide) ?_
                refine lv_goto (tgt := 139) hx hb dX13_claimAtRank_135 (by decide) ?_
                refine ni_add hx hb (cntR fl (vw v) i u) 1 dX13_claimAtRank_139 ?_
                refine lv_istore_n (lv' := [(3, .int (nI ((cntR fl (vw v) i u) + 1))), (5, .int 1), (0, .ref (q 0)), (1, .int x), (2, .int (nI i)), (4, .int (nI u))]) hx hb dX13_claimAtRank_140 rfl hl (by decide) rfl (fun ls hl => ?_)
                refine lv_iinc (v := nI (u + 1)) (lv' := [(4, .int (nI (u + 1))), (3, .int (nI ((cntR fl (vw v) i u) + 1))), (5, .int 1), (0, .ref (q 0)), (1, .int x), (2, .int (nI i))]) hx hb dX13_claimAtRank_141 hl (k := 5) rfl (nI_inc u) (by decide) rfl (fun ls hl => ?_)
                refine lv_goto (tgt := 22) hx hb dX13_claimAtRank_144 (by decide) ?_
                have e_8 : (nI ((cntR fl (vw v) i u) + 1) : Int32) = nI (cntR fl (vw v) i (u + 1)) := by first | (with_reducible rfl) | (first | (have h9 : ahM fl (vw v) u i = true := (by unfold ahM; (try simp only []); (repeat (first | rw [if_pos (by first | assumption | exact Eq.trans (b := false) (by assumption) (Eq.symm (by assumption)) | exact Eq.trans (b := true) (by assumption) (Eq.symm (by assumption)) | exact ⟨by assumption, by assumption⟩ | exact Or.inl (by assumption) | exact Or.inr (by assumption) | exact Or.inr (Or.inl (by assumption)) | exact Or.inr (Or.inr (by assumption)) | (simp only [Int32.lt_iff_toInt_lt, Int32.le_iff_toInt_le, i32_0, i32_1, i32_2, i32_3, i32_4, i32_9, i32_10, i32_99, i32_100, i32_1000, i32_9999] at *; omega))] | rw [if_neg (by first | assumption | (rintro (h9 | h9 | h9) <;> contradiction) | (rintro (h9 | h9) <;> contradiction) | (intro h9; exact Bool.noConfusion (Eq.trans (c := false) h9.symm (by assumption))) | (rintro ⟨h8, h9⟩; exact Bool.noConfusion (Eq.trans (c := false) h8.symm (by assumption))) | (rintro ⟨h8, h9⟩; exact Bool.noConfusion (Eq.trans (c := false) h9.symm (by assumption))) | (simp only [Int32.lt_iff_toInt_lt, Int32.le_iff_toInt_le, i32_0, i32_1, i32_2, i32_3, i32_4, i32_9, i32_10, i32_99, i32_100, i32_1000, i32_9999] at *; omega))])); (try rfl); first | done | exact decide_eq_true (by omega)); rw [cntR_s, if_pos h9]) | (have h9 : ahM fl (vw v) u i = false := (by unfold ahM; (try simp only []); (repeat (first | rw [if_pos (by first | assumption | exact Eq.trans (b := false) (by assumption) (Eq.symm (by assumption)) | exact Eq.trans (b := true) (by assumption) (Eq.symm (by assumption)) | exact ⟨by assumption, by assumption⟩ | exact Or.inl (by assumption) | exact Or.inr (by assumption) | exact Or.inr (Or.inl (by assumption)) | exact Or.inr (Or.inr (by assumption)) | (simp only [Int32.lt_iff_toInt_lt, Int32.le_iff_toInt_le, i32_0, i32_1, i32_2, i32_3, i32_4, i32_9, i32_10, i32_99, i32_100, i32_1000, i32_9999] at *; omega))] | rw [if_neg (by first | assumption | (rintro (h9 | h9 | h9) <;> contradiction) | (rintro (h9 | h9) <;> contradiction) | (intro h9; exact Bool.noConfusion (Eq.trans (c := false) h9.symm (by assumption))) | (rintro ⟨h8, h9⟩; exact Bool.noConfusion (Eq.trans (c := false) h8.symm (by assumption))) | (rintro ⟨h8, h9⟩; exact Bool.noConfusion (Eq.trans (c := false) h9.symm (by assumption))) | (simp only [Int32.lt_iff_toInt_lt, Int32.le_iff_toInt_le, i32_0, i32_1, i32_2, i32_3, i32_4, i32_9, i32_10, i32_99, i32_100, i32_1000, i32_9999] at *; omega))])); (try rfl); first | done | exact decide_eq_false (by omega)); rw [cntR_s, if_neg (by rw [h9]; decide)]; rfl))
                exact ih_22 (u + 1) (by omega) hil (by omega) ls _ _ hP hD hS (lv_one hl 3 rfl rfl (lv_one hl 4 rfl rfl (lv_one hl 5 rfl rfl (lv_one hl 1 rfl (congrArg Value.int e_8) (lv_one hl 0 rfl rfl (lv_nil hl))))))
              · skip
                have c_7 : ¬ (FP.fcmp (fl u) (fl i)) = some .gt := fun h => c_7 ((cmv_gt _).mpr h)
                refine lv_aload_n hx hb dX13_claimAtRank_112 rfl (lv_at hl 1 rfl) ?_
                refine va_get (D := D) (ci := 11) (v := .ref (q 6)) (C := RX13) (T := TX13) (N := 29) hx hb hts kc_RX13 hown hK hP 0 rfl rfl 10 (by decide) k_fieldLink_32 (fun _ h9 => h9) rfl dX13_claimAtRank_113 ?_
                refine lv_iload hx hb dX13_claimAtRank_116 (lv_at hl 5 rfl) ?_
                refine fa_ld hx hb hK hP 2 rfl u (by omega) (by decide) dX13_claimAtRank_118 ?_
                refine lv_aload_n hx hb dX13_claimAtRank_119 rfl (lv_at hl 1 rfl) ?_
                refine va_get (D := D) (ci := 11) (v := .ref (q 6)) (C := RX13) (T := TX13) (N := 29) hx hb hts kc_RX13 hown hK hP 0 rfl rfl 10 (by decide) k_fieldLink_32 (fun _ h9 => h9) rfl dX13_claimAtRank_120 ?_
                refine lv_iload_n hx hb dX13_claimAtRank_123 rfl (lv_at hl 3 rfl) ?_
                refine fa_ld hx hb hK hP 2 rfl i (by omega) (by decide) dX13_claimAtRank_124 ?_
                refine lv_fcmp hx hb dX13_claimAtRank_125 ?_
                refine lv_if_ne (tgt := 138) hx hb dX13_claimAtRank_126 (by decide) (fun c_9 => ?_) (fun c_9 => ?_)
                · skip
                  have c_9 : ¬ (FP.fcmp (fl u) (fl i)) = some .eq := fun h => c_9 ((cmv_eq _ _).mpr h)
                  refine lv_iconst (v := 0) hx hb dX13_claimAtRank_138 (by decide) ?_
                  refine ni_add hx hb (cntR fl (vw v) i u) 0 dX13_claimAtRank_139 ?_
                  refine lv_istore_n (lv' := [(3, .int (nI ((cntR fl (vw v) i u) + 0))), (5, .int 1), (0, .ref (q 0)), (1, .int x), (2, .int (nI i)), (4, .int (nI u))]) hx hb dX13_claimAtRank_140 rfl hl (by decide) rfl (fun ls hl => ?_)
                  refine lv_iinc (v := nI (u + 1)) (lv' := [(4, .int (nI (u + 1))), (3, .int (nI ((cntR fl (vw v) i u) + 0))), (5, .int 1), (0, .ref (q 0)), (1, .int x), (2, .int (nI i))]) hx hb dX13_claimAtRank_141 hl (k := 5) rfl (nI_inc u) (by decide) rfl (fun ls hl => ?_)
                  refine lv_goto (tgt := 22) hx hb dX13_claimAtRank_144 (by decide) ?_
                  have e_10 : (nI ((cntR fl (vw v) i u) + 0) : Int32) = nI (cntR fl (vw v) i (u + 1)) := by first | (with_reducible rfl) | (first | (have h9 : ahM fl (vw v) u i = true := (by unfold ahM; (try simp only []); (repeat (first | rw [if_pos (by first | assumption | exact Eq.trans (b := false) (by assumption) (Eq.symm (by assumption)) | exact Eq.trans (b := true) (by assumption) (Eq.symm (by assumption)) | exact ⟨by assumption, by assumption⟩ | exact Or.inl (by assumption) | exact Or.inr (by assumption) | exact Or.inr (Or.inl (by assumption)) | exact Or.inr (Or.inr (by assumption)) | (simp only [Int32.lt_iff_toInt_lt, Int32.le_iff_toInt_le, i32_0, i32_1, i32_2, i32_3, i32_4, i32_9, i32_10, i32_99, i32_100, i32_1000, i32_9999] at *; omega))] | rw [if_neg (by first | assumption | (rintro (h9 | h9 | h9) <;> contradiction) | (rintro (h9 | h9) <;> contradiction) | (intro h9; exact Bool.noConfusion (Eq.trans (c := false) h9.symm (by assumption))) | (rintro ⟨h8, h9⟩; exact Bool.noConfusion (Eq.trans (c := false) h8.symm (by assumption))) | (rintro ⟨h8, h9⟩; exact Bool.noConfusion (Eq.trans (c := false) h9.symm (by assumption))) | (simp only [Int32.lt_iff_toInt_lt, Int32.le_iff_toInt_le, i32_0, i32_1, i32_2, i32_3, i32_4, i32_9, i32_10, i32_99, i32_100, i32_1000, i32_9999] at *; omega))])); (try rfl); first | done | exact decide_eq_true (by omega)); rw [cntR_s, if_pos h9]) | (have h9 : ahM fl (vw v) u i = false := (by unfold ahM; (try simp only []); (repeat (first | rw [if_pos (by first | assumption | exact Eq.trans (b := false) (by assumption) (Eq.symm (by assumption)) | exact Eq.trans (b := true) (by assumption) (Eq.symm (by assumption)) | exact ⟨by assumption, by assumption⟩ | exact Or.inl (by assumption) | exact Or.inr (by assumption) | exact Or.inr (Or.inl (by assumption)) | exact Or.inr (Or.inr (by assumption)) | (simp only [Int32.lt_iff_toInt_lt, Int32.le_iff_toInt_le, i32_0, i32_1, i32_2, i32_3, i32_4, i32_9, i32_10, i32_99, i32_100, i32_1000, i32_9999] at *; omega))] | rw [if_neg (by first | assumption | (rintro (h9 | h9 | h9) <;> contradiction) | (rintro (h9 | h9) <;> contradiction) | (intro h9; exact Bool.noConfusion (Eq.trans (c := false) h9.symm (by assumption))) | (rintro ⟨h8, h9⟩; exact Bool.noConfusion (Eq.trans (c := false) h8.symm (by assumption))) | (rintro ⟨h8, h9⟩; exact Bool.noConfusion (Eq.trans (c := false) h9.symm (by assumption))) | (simp only [Int32.lt_iff_toInt_lt, Int32.le_iff_toInt_le, i32_0, i32_1, i32_2, i32_3, i32_4, i32_9, i32_10, i32_99, i32_100, i32_1000, i32_9999] at *; omega))])); (try rfl); first | done | exact decide_eq_false (by omega)); rw [cntR_s, if_neg (by rw [h9]; decide)]; rfl))
                  exact ih_22 (u + 1) (by omega) hil (by omega) ls _ _ hP hD hS (lv_one hl 3 rfl rfl (lv_one hl 4 rfl rfl (lv_one hl 5 rfl rfl (lv_one hl 1 rfl (congrArg Value.int e_10) (lv_one hl 0 rfl rfl (lv_nil hl))))))
                · skip
                  have c_9 : (FP.fcmp (fl u) (fl i)) = some .eq := (cmv_eq _ _).mp c_9
                  refine lv_iload hx hb dX13_claimAtRank_129 (lv_at hl 0 rfl) ?_
                  refine lv_if_eq (tgt := 138) hx hb dX13_claimAtRank_131 (by decide) (fun c_11 => ?_) (fun c_11 => ?_)
                  · first | exact absurd c_11 (by decide) | exact absurd (by decide) c_11
                  · skip
                    refine lv_iconst (v := 1) hx hb dX13_claimAtRank_134 (by decide) ?_
                    refine lv_goto (tgt := 139) hx hb dX13_claimAtRank_135 (by decide) ?_
                    refine ni_add hx hb (cntR fl (vw v) i u) 1 dX13_claimAtRank_139 ?_
                    refine lv_istore_n (lv' := [(3, .int (nI ((cntR fl (vw v) i u) + 1))), (5, .int 1), (0, .ref (q 0)), (1, .int x), (2, .int (nI i)), (4, .int (nI u))]) hx hb dX13_claimAtRank_140 rfl hl (by decide) rfl (fun ls hl => ?_)
                    refine lv_iinc (v := nI (u + 1)) (lv' := [(4, .int (nI (u + 1))), (3, .int (nI ((cntR fl (vw v) i u) + 1))), (5, .int 1), (0, .ref (q 0)), (1, .int x), (2, .int (nI i))]) hx hb dX13_claimAtRank_141 hl (k := 5) rfl (nI_inc u) (by decide) rfl (fun ls hl => ?_)
                    refine lv_goto (tgt := 22) hx hb dX13_claimAtRank_144 (by decide) ?_
                    have e_12 : (nI ((cntR fl (vw v) i u) + 1) : Int32) = nI (cntR fl (vw v) i (u + 1)) := by first | (with_reducible rfl) | (first | (have h9 : ahM fl (vw v) u i = true := (by unfold ahM; (try simp only []); (repeat (first | rw [if_pos (by first | assumption | exact Eq.trans (b := false) (by assumption) (Eq.symm (by assumption)) | exact Eq.trans (b := true) (by assumption) (Eq.symm (by assumption)) | exact ⟨by assumption, by assumption⟩ | exact Or.inl (by assumption) | exact Or.inr (by assumption) | exact Or.inr (Or.inl (by assumption)) | exact Or.inr (Or.inr (by assumption)) | (simp only [Int32.lt_iff_toInt_lt, Int32.le_iff_toInt_le, i32_0, i32_1, i32_2, i32_3, i32_4, i32_9, i32_10, i32_99, i32_100, i32_1000, i32_9999] at *; omega))] | rw [if_neg (by first | assumption | (rintro (h9 | h9 | h9) <;> contradiction) | (rintro (h9 | h9) <;> contradiction) | (intro h9; exact Bool.noConfusion (Eq.trans (c := false) h9.symm (by assumption))) | (rintro ⟨h8, h9⟩; exact Bool.noConfusion (Eq.trans (c := false) h8.symm (by assumption))) | (rintro ⟨h8, h9⟩; exact Bool.noConfusion (Eq.trans (c := false) h9.symm (by assumption))) | (simp only [Int32.lt_iff_toInt_lt, Int32.le_iff_toInt_le, i32_0, i32_1, i32_2, i32_3, i32_4, i32_9, i32_10, i32_99, i32_100, i32_1000, i32_9999] at *; omega))])); (try rfl); first | done | exact decide_eq_true (by omega)); rw [cntR_s, if_pos h9]) | (have h9 : ahM fl (vw v) u i = false := (by unfold ahM; (try simp only []); (repeat (first | rw [if_pos (by first | assumption | exact Eq.trans (b := false) (by assumption) (Eq.symm (by assumption)) | exact Eq.trans (b := true) (by assumption) (Eq.symm (by assumption)) | exact ⟨by assumption, by assumption⟩ | exact Or.inl (by assumption) | exact Or.inr (by assumption) | exact Or.inr (Or.inl (by assumption)) | exact Or.inr (Or.inr (by assumption)) | (simp only [Int32.lt_iff_toInt_lt, Int32.le_iff_toInt_le, i32_0, i32_1, i32_2, i32_3, i32_4, i32_9, i32_10, i32_99, i32_100, i32_1000, i32_9999] at *; omega))] | rw [if_neg (by first | assumption | (rintro (h9 | h9 | h9) <;> contradiction) | (rintro (h9 | h9) <;> contradiction) | (intro h9; exact Bool.noConfusion (Eq.trans (c := false) h9.symm (by assumption))) | (rintro ⟨h8, h9⟩; exact Bool.noConfusion (Eq.trans (c := false) h8.symm (by assumption))) | (rintro ⟨h8, h9⟩; exact Bool.noConfusion (Eq.trans (c := false) h9.symm (by assumption))) | (simp only [Int32.lt_iff_toInt_lt, Int32.le_iff_toInt_le, i32_0, i32_1, i32_2, i32_3, i32_4, i32_9, i32_10, i32_99, i32_100, i32_1000, i32_9999] at *; omega))])); (try rfl); first | done | exact decide_eq_false (by omega)); rw [cntR_s, if_neg (by rw [h9]; decide)]; rfl))
                    exact ih_22 (u + 1) (by omega) hil (by omega) ls _ _ hP hD hS (lv_one hl 3 rfl rfl (lv_one hl 4 rfl rfl (lv_one hl 5 rfl rfl (lv_one hl 1 rfl (congrArg Value.int e_12) (lv_one hl 0 rfl rfl (lv_nil hl))))))
            · skip
              refine lv_aload_n hx hb dX13_claimAtRank_57 rfl (lv_at hl 0 rfl) ?_
              refine va_get (D := D) (ci := 11) (v := .ref (q 1)) (C := RX13) (T := TX13) (N := 29) hx hb hts kc_RX13 hown hK hP 0 rfl rfl 5 (by decide) k_fieldLink_16 (fun _ h9 => h9) rfl dX13_claimAtRank_58 ?_
              refine lv_iload hx hb dX13_claimAtRank_61 (lv_at hl 4 rfl) ?_
              refine lv_iconst (v := 0) hx hb dX13_claimAtRank_63 (by decide) ?_
              refine vp_callSi (W.runS (As := [.int (nI u), .int 0]) (rest := [.ref (q 1)]) hF (m_X13_of l9 D k u 0 ) (va_cwS 2 hts gX13_claimAtRank_X13_of rfl rfl rfl (by decide +kernel) ⟨Nat.le_of_ble_eq_true rfl, Nat.le_of_ble_eq_true rfl⟩) (rPreS hK hN hP [] rfl) rfl rfl hl.1 rfl (lv_room (Nat.le_of_ble_eq_true rfl)) dX13_claimAtRank_64 ⟨Nat.zero_le _, Nat.zero_le _⟩) (fun r_13 hr_13 => ?_)
              subst hr_13
              refine ia_ld hx hb hK hP 1 rfl (5 + 3 * u + 0) (by omega) (by decide) dX13_claimAtRank_67 ?_
              refine lv_aload_n hx hb dX13_claimAtRank_68 rfl (lv_at hl 0 rfl) ?_
              refine va_get (D := D) (ci := 11) (v := .ref (q 1)) (C := RX13) (T := TX13) (N := 29) hx hb hts kc_RX13 hown hK hP 0 rfl rfl 5 (by decide) k_fieldLink_16 (fun _ h9 => h9) rfl dX13_claimAtRank_69 ?_
              refine lv_iload_n hx hb dX13_claimAtRank_72 rfl (lv_at hl 2 rfl) ?_
              refine lv_iconst (v := 0) hx hb dX13_claimAtRank_73 (by decide) ?_
              refine vp_callSi (W.runS (As := [.int (nI i), .int 0]) (rest := [.ref (q 1), .int (v (5 + 3 * u + 0))]) hF (m_X13_of l9 D k i 0 ) (va_cwS 2 hts gX13_claimAtRank_X13_of rfl rfl rfl (by decide +kernel) ⟨Nat.le_of_ble_eq_true rfl, Nat.le_of_ble_eq_true rfl⟩) (rPreS hK hN hP [] rfl) rfl rfl hl.1 rfl (lv_room (Nat.le_of_ble_eq_true rfl)) dX13_claimAtRank_74 ⟨Nat.zero_le _, Nat.zero_le _⟩) (fun r_14 hr_14 => ?_)
              subst hr_14
              refine ia_ld hx hb hK hP 1 rfl (5 + 3 * i + 0) (by omega) (by decide) dX13_claimAtRank_77 ?_
              refine lv_icmp_ne (tgt := 91) hx hb dX13_claimAtRank_78 (by decide) (fun c_15 => ?_) (fun c_15 => ?_)
              · skip
                refine lv_iconst (v := 0) hx hb dX13_claimAtRank_91 (by decide) ?_
                refine lv_istore (lv' := [(5, .int 0), (0, .ref (q 0)), (1, .int x), (2, .int (nI i)), (3, .int (nI (cntR fl (vw v) i u))), (4, .int (nI u))]) hx hb dX13_claimAtRank_92 hl (by decide) rfl (fun ls hl => ?_)
                refine lv_iload_n hx hb dX13_claimAtRank_94 rfl (lv_at hl 4 rfl) ?_
                refine lv_aload_n hx hb dX13_claimAtRank_95 rfl (lv_at hl 1 rfl) ?_
                refine va_get (D := D) (ci := 11) (v := .ref (q 6)) (C := RX13) (T := TX13) (N := 29) hx hb hts kc_RX13 hown hK hP 0 rfl rfl 10 (by decide) k_fieldLink_32 (fun _ h9 => h9) rfl dX13_claimAtRank_96 ?_
                refine lv_iload hx hb dX13_claimAtRank_99 (lv_at hl 5 rfl) ?_
                refine fa_ld hx hb hK hP 2 rfl u (by omega) (by decide) dX13_claimAtRank_101 ?_
                refine lv_aload_n hx hb dX13_claimAtRank_102 rfl (lv_at hl 1 rfl) ?_
                refine va_get (D := D) (ci := 11) (v := .ref (q 6)) (C := RX13) (T := TX13) (N := 29) hx hb hts kc_RX13 hown hK hP 0 rfl rfl 10 (by decide) k_fieldLink_32 (fun _ h9 => h9) rfl dX13_claimAtRank_103 ?_
                refine lv_iload_n hx hb dX13_claimAtRank_106 rfl (lv_at hl 3 rfl) ?_
                refine fa_ld hx hb hK hP 2 rfl i (by omega) (by decide) dX13_claimAtRank_107 ?_
                refine lv_fcmp hx hb dX13_claimAtRank_108 ?_
                refine lv_if_gt (tgt := 134) hx hb dX13_claimAtRank_109 (by decide) (fun c_16 => ?_) (fun c_16 => ?_)
                · skip
                  have c_16 : (FP.fcmp (fl u) (fl i)) = some .gt := (cmv_gt _).mp c_16
                  refine lv_iconst (v := 1) hx hb dX13_claimAtRank_134 (by decide) ?_
                  refine lv_goto (tgt := 139) hx hb dX13_claimAtRank_135 (by decide) ?_
                  refine ni_add hx hb (cntR fl (vw v) i u) 1 dX13_claimAtRank_139 ?_
                  refine lv_istore_n (lv' := [(3, .int (nI ((cntR fl (vw v) i u) + 1))), (5, .int 0), (0, .ref (q 0)), (1, .int x), (2, .int (nI i)), (4, .int (nI u))]) hx hb dX13_claimAtRank_140 rfl hl (by decide) rfl (fun ls hl => ?_)
                  refine lv_iinc (v := nI (u + 1)) (lv' := [(4, .int (nI (u + 1))), (3, .int (nI ((cntR fl (vw v) i u) + 1))), (5, .int 0), (0, .ref (q 0)), (1, .int x), (2, .int (nI i))]) hx hb dX13_claimAtRank_141 hl (k := 5) rfl (nI_inc u) (by decide) rfl (fun ls hl => ?_)
                  refine lv_goto (tgt := 22) hx hb dX13_claimAtRank_144 (by decide) ?_
                  have e_17 : (nI ((cntR fl (vw v) i u) + 1) : Int32) = nI (cntR fl (vw v) i (u + 1)) := by first | (with_reducible rfl) | (first | (have h9 : ahM fl (vw v) u i = true := (by unfold ahM; (try simp only []); (repeat (first | rw [if_pos (by first | assumption | exact Eq.trans (b := false) (by assumption) (Eq.symm (by assumption)) | exact Eq.trans (b := true) (by assumption) (Eq.symm (by assumption)) | exact ⟨by assumption, by assumption⟩ | exact Or.inl (by assumption) | exact Or.inr (by assumption) | exact Or.inr (Or.inl (by assumption)) | exact Or.inr (Or.inr (by assumption)) | (simp only [Int32.lt_iff_toInt_lt, Int32.le_iff_toInt_le, i32_0, i32_1, i32_2, i32_3, i32_4, i32_9, i32_10, i32_99, i32_100, i32_1000, i32_9999] at *; omega))] | rw [if_neg (by first | assumption | (rintro (h9 | h9 | h9) <;> contradiction) | (rintro (h9 | h9) <;> contradiction) | (intro h9; exact Bool.noConfusion (Eq.trans (c := false) h9.symm (by assumption))) | (rintro ⟨h8, h9⟩; exact Bool.noConfusion (Eq.trans (c := false) h8.symm (by assumption))) | (rintro ⟨h8, h9⟩; exact Bool.noConfusion (Eq.trans (c := false) h9.symm (by assumption))) | (simp only [Int32.lt_iff_toInt_lt, Int32.le_iff_toInt_le, i32_0, i32_1, i32_2, i32_3, i32_4, i32_9, i32_10, i32_99, i32_100, i32_1000, i32_9999] at *; omega))])); (try rfl); first | done | exact decide_eq_true (by omega)); rw [cntR_s, if_pos h9]) | (have h9 : ahM fl (vw v) u i = false := (by unfold ahM; (try simp only []); (repeat (first | rw [if_pos (by first | assumption | exact Eq.trans (b := false) (by assumption) (Eq.symm (by assumption)) | exact Eq.trans (b := true) (by assumption) (Eq.symm (by assumption)) | exact ⟨by assumption, by assumption⟩ | exact Or.inl (by assumption) | exact Or.inr (by assumption) | exact Or.inr (Or.inl (by assumption)) | exact Or.inr (Or.inr (by assumption)) | (simp only [Int32.lt_iff_toInt_lt, Int32.le_iff_toInt_le, i32_0, i32_1, i32_2, i32_3, i32_4, i32_9, i32_10, i32_99, i32_100, i32_1000, i32_9999] at *; omega))] | rw [if_neg (by first | assumption | (rintro (h9 | h9 | h9) <;> contradiction) | (rintro (h9 | h9) <;> contradiction) | (intro h9; exact Bool.noConfusion (Eq.trans (c := false) h9.symm (by assumption))) | (rintro ⟨h8, h9⟩; exact Bool.noConfusion (Eq.trans (c := false) h8.symm (by assumption))) | (rintro ⟨h8, h9⟩; exact Bool.noConfusion (Eq.trans (c := false) h9.symm (by assumption))) | (simp only [Int32.lt_iff_toInt_lt, Int32.le_iff_toInt_le, i32_0, i32_1, i32_2, i32_3, i32_4, i32_9, i32_10, i32_99, i32_100, i32_1000, i32_9999] at *; omega))])); (try rfl); first | done | exact decide_eq_false (by omega)); rw [cntR_s, if_neg (by rw [h9]; decide)]; rfl))
                  exact ih_22 (u + 1) (by omega) hil (by omega) ls _ _ hP hD hS (lv_one hl 3 rfl rfl (lv_one hl 4 rfl rfl (lv_one hl 5 rfl rfl (lv_one hl 1 rfl (congrArg Value.int e_17) (lv_one hl 0 rfl rfl (lv_nil hl))))))
                · skip
                  have c_16 : ¬ (FP.fcmp (fl u) (fl i)) = some .gt := fun h => c_16 ((cmv_gt _).mpr h)
                  refine lv_aload_n hx hb dX13_claimAtRank_112 rfl (lv_at hl 1 rfl) ?_
                  refine va_get (D := D) (ci := 11) (v := .ref (q 6)) (C := RX13) (T := TX13) (N := 29) hx hb hts kc_RX13 hown hK hP 0 rfl rfl 10 (by decide) k_fieldLink_32 (fun _ h9 => h9) rfl dX13_claimAtRank_113 ?_
                  refine lv_iload hx hb dX13_claimAtRank_116 (lv_at hl 5 rfl) ?_
                  refine fa_ld hx hb hK hP 2 rfl u (by omega) (by decide) dX13_claimAtRank_118 ?_
                  refine lv_aload_n hx hb dX13_claimAtRank_119 rfl (lv_at hl 1 rfl) ?_
                  refine va_get (D := D) (ci := 11) (v := .ref (q 6)) (C := RX13) (T := TX13) (N := 29) hx hb hts kc_RX13 hown hK hP 0 rfl rfl 10 (by decide) k_fieldLink_32 (fun _ h9 => h9) rfl dX13_claimAtRank_120 ?_
                  refine lv_iload_n hx hb dX13_claimAtRank_123 rfl (lv_at hl 3 rfl) ?_
                  refine fa_ld hx hb hK hP 2 rfl i (by omega) (by decide) dX13_claimAtRank_124 ?_
                  refine lv_fcmp hx hb dX13_claimAtRank_125 ?_
                  refine lv_if_ne (tgt := 138) hx hb dX13_claimAtRank_126 (by decide) (fun c_18 => ?_) (fun c_18 => ?_)
                  · skip
                    have c_18 : ¬ (FP.fcmp (fl u) (fl i)) = some .eq := fun h => c_18 ((cmv_eq _ _).mpr h)
                    refine lv_iconst (v := 0) hx hb dX13_claimAtRank_138 (by decide) ?_
                    refine ni_add hx hb (cntR fl (vw v) i u) 0 dX13_claimAtRank_139 ?_
                    refine lv_istore_n (lv' := [(3, .int (nI ((cntR fl (vw v) i u) + 0))), (5, .int 0), (0, .ref (q 0)), (1, .int x), (2, .int (nI i)), (4, .int (nI u))]) hx hb dX13_claimAtRank_140 rfl hl (by decide) rfl (fun ls hl => ?_)
                    refine lv_iinc (v := nI (u + 1)) (lv' := [(4, .int (nI (u + 1))), (3, .int (nI ((cntR fl (vw v) i u) + 0))), (5, .int 0), (0, .ref (q 0)), (1, .int x), (2, .int (nI i))]) hx hb dX13_claimAtRank_141 hl (k := 5) rfl (nI_inc u) (by decide) rfl (fun ls hl => ?_)
                    refine lv_goto (tgt := 22) hx hb dX13_claimAtRank_144 (by decide) ?_
                    have e_19 : (nI ((cntR fl (vw v) i u) + 0) : Int32) = nI (cntR fl (vw v) i (u + 1)) := by first | (with_reducible rfl) | (first | (have h9 : ahM fl (vw v) u i = true := (by unfold ahM; (try simp only []); (repeat (first | rw [if_pos (by first | assumption | exact Eq.trans (b := false) (by assumption) (Eq.symm (by assumption)) | exact Eq.trans (b := true) (by assumption) (Eq.symm (by assumption)) | exact ⟨by assumption, by assumption⟩ | exact Or.inl (by assumption) | exact Or.inr (by assumption) | exact Or.inr (Or.inl (by assumption)) | exact Or.inr (Or.inr (by assumption)) | (simp only [Int32.lt_iff_toInt_lt, Int32.le_iff_toInt_le, i32_0, i32_1, i32_2, i32_3, i32_4, i32_9, i32_10, i32_99, i32_100, i32_1000, i32_9999] at *; omega))] | rw [if_neg (by first | assumption | (rintro (h9 | h9 | h9) <;> contradiction) | (rintro (h9 | h9) <;> contradiction) | (intro h9; exact Bool.noConfusion (Eq.trans (c := false) h9.symm (by assumption))) | (rintro ⟨h8, h9⟩; exact Bool.noConfusion (Eq.trans (c := false) h8.symm (by assumption))) | (rintro ⟨h8, h9⟩; exact Bool.noConfusion (Eq.trans (c := false) h9.symm (by assumption))) | (simp only [Int32.lt_iff_toInt_lt, Int32.le_iff_toInt_le, i32_0, i32_1, i32_2, i32_3, i32_4, i32_9, i32_10, i32_99, i32_100, i32_1000, i32_9999] at *; omega))])); (try rfl); first | done | exact decide_eq_true (by omega)); rw [cntR_s, if_pos h9]) | (have h9 : ahM fl (vw v) u i = false := (by unfold ahM; (try simp only []); (repeat (first | rw [if_pos (by first | assumption | exact Eq.trans (b := false) (by assumption) (Eq.symm (by assumption)) | exact Eq.trans (b := true) (by assumption) (Eq.symm (by assumption)) | exact ⟨by assumption, by assumption⟩ | exact Or.inl (by assumption) | exact Or.inr (by assumption) | exact Or.inr (Or.inl (by assumption)) | exact Or.inr (Or.inr (by assumption)) | (simp only [Int32.lt_iff_toInt_lt, Int32.le_iff_toInt_le, i32_0, i32_1, i32_2, i32_3, i32_4, i32_9, i32_10, i32_99, i32_100, i32_1000, i32_9999] at *; omega))] | rw [if_neg (by first | assumption | (rintro (h9 | h9 | h9) <;> contradiction) | (rintro (h9 | h9) <;> contradiction) | (intro h9; exact Bool.noConfusion (Eq.trans (c := false) h9.symm (by assumption))) | (rintro ⟨h8, h9⟩; exact Bool.noConfusion (Eq.trans (c := false) h8.symm (by assumption))) | (rintro ⟨h8, h9⟩; exact Bool.noConfusion (Eq.trans (c := false) h9.symm (by assumption))) | (simp only [Int32.lt_iff_toInt_lt, Int32.le_iff_toInt_le, i32_0, i32_1, i32_2, i32_3, i32_4, i32_9, i32_10, i32_99, i32_100, i32_1000, i32_9999] at *; omega))])); (try rfl); first | done | exact decide_eq_false (by omega)); rw [cntR_s, if_neg (by rw [h9]; decide)]; rfl))
                    exact ih_22 (u + 1) (by omega) hil (by omega) ls _ _ hP hD hS (lv_one hl 3 rfl rfl (lv_one hl 4 rfl rfl (lv_one hl 5 rfl rfl (lv_one hl 1 rfl (congrArg Value.int e_19) (lv_one hl 0 rfl rfl (lv_nil hl))))))
                  · skip
                    have c_18 : (FP.fcmp (fl u) (fl i)) = some .eq := (cmv_eq _ _).mp c_18
                    refine lv_iload hx hb dX13_claimAtRank_129 (lv_at hl 0 rfl) ?_
                    refine lv_if_eq (tgt := 138) hx hb dX13_claimAtRank_131 (by decide) (fun c_20 => ?_) (fun c_20 => ?_)
                    · skip
                      refine lv_iconst (v := 0) hx hb dX13_claimAtRank_138 (by decide) ?_
                      refine ni_add hx hb (cntR fl (vw v) i u) 0 dX13_claimAtRank_139 ?_
                      refine lv_istore_n (lv' := [(3, .int (nI ((cntR fl (vw v) i u) + 0))), (5, .int 0), (0, .ref (q 0)), (1, .int x), (2, .int (nI i)), (4, .int (nI u))]) hx hb dX13_claimAtRank_140 rfl hl (by decide) rfl (fun ls hl => ?_)
                      refine lv_iinc (v := nI (u + 1)) (lv' := [(4, .int (nI (u + 1))), (3, .int (nI ((cntR fl (vw v) i u) + 0))), (5, .int 0), (0, .ref (q 0)), (1, .int x), (2, .int (nI i))]) hx hb dX13_claimAtRank_141 hl (k := 5) rfl (nI_inc u) (by decide) rfl (fun ls hl => ?_)
                      refine lv_goto (tgt := 22) hx hb dX13_claimAtRank_144 (by decide) ?_
                      have e_21 : (nI ((cntR fl (vw v) i u) + 0) : Int32) = nI (cntR fl (vw v) i (u + 1)) := by first | (with_reducible rfl) | (first | (have h9 : ahM fl (vw v) u i = true := (by unfold ahM; (try simp only []); (repeat (first | rw [if_pos (by first | assumption | exact Eq.trans (b := false) (by assumption) (Eq.symm (by assumption)) | exact Eq.trans (b := true) (by assumption) (Eq.symm (by assumption)) | exact ⟨by assumption, by assumption⟩ | exact Or.inl (by assumption) | exact Or.inr (by assumption) | exact Or.inr (Or.inl (by assumption)) | exact Or.inr (Or.inr (by assumption)) | (simp only [Int32.lt_iff_toInt_lt, Int32.le_iff_toInt_le, i32_0, i32_1, i32_2, i32_3, i32_4, i32_9, i32_10, i32_99, i32_100, i32_1000, i32_9999] at *; omega))] | rw [if_neg (by first | assumption | (rintro (h9 | h9 | h9) <;> contradiction) | (rintro (h9 | h9) <;> contradiction) | (intro h9; exact Bool.noConfusion (Eq.trans (c := false) h9.symm (by assumption))) | (rintro ⟨h8, h9⟩; exact Bool.noConfusion (Eq.trans (c := false) h8.symm (by assumption))) | (rintro ⟨h8, h9⟩; exact Bool.noConfusion (Eq.trans (c := false) h9.symm (by assumption))) | (simp only [Int32.lt_iff_toInt_lt, Int32.le_iff_toInt_le, i32_0, i32_1, i32_2, i32_3, i32_4, i32_9, i32_10, i32_99, i32_100, i32_1000, i32_9999] at *; omega))])); (try rfl); first | done | exact decide_eq_true (by omega)); rw [cntR_s, if_pos h9]) | (have h9 : ahM fl (vw v) u i = false := (by unfold ahM; (try simp only []); (repeat (first | rw [if_pos (by first | assumption | exact Eq.trans (b := false) (by assumption) (Eq.symm (by assumption)) | exact Eq.trans (b := true) (by assumption) (Eq.symm (by assumption)) | exact ⟨by assumption, by assumption⟩ | exact Or.inl (by assumption) | exact Or.inr (by assumption) | exact Or.inr (Or.inl (by assumption)) | exact Or.inr (Or.inr (by assumption)) | (simp only [Int32.lt_iff_toInt_lt, Int32.le_iff_toInt_le, i32_0, i32_1, i32_2, i32_3, i32_4, i32_9, i32_10, i32_99, i32_100, i32_1000, i32_9999] at *; omega))] | rw [if_neg (by first | assumption | (rintro (h9 | h9 | h9) <;> contradiction) | (rintro (h9 | h9) <;> contradiction) | (intro h9; exact Bool.noConfusion (Eq.trans (c := false) h9.symm (by assumption))) | (rintro ⟨h8, h9⟩; exact Bool.noConfusion (Eq.trans (c := false) h8.symm (by assumption))) | (rintro ⟨h8, h9⟩; exact Bool.noConfusion (Eq.trans (c := false) h9.symm (by assumption))) | (simp only [Int32.lt_iff_toInt_lt, Int32.le_iff_toInt_le, i32_0, i32_1, i32_2, i32_3, i32_4, i32_9, i32_10, i32_99, i32_100, i32_1000, i32_9999] at *; omega))])); (try rfl); first | done | exact decide_eq_false (by omega)); rw [cntR_s, if_neg (by rw [h9]; decide)]; rfl))
                      exact ih_22 (u + 1) (by omega) hil (by omega) ls _ _ hP hD hS (lv_one hl 3 rfl rfl (lv_one hl 4 rfl rfl (lv_one hl 5 rfl rfl (lv_one hl 1 rfl (congrArg Value.int e_21) (lv_one hl 0 rfl rfl (lv_nil hl))))))
                    · first | exact absurd c_20 (by decide) | exact absurd (by decide) c_20
              · skip
                refine lv_iload hx hb dX13_claimAtRank_81 (lv_at hl 4 rfl) ?_
                refine lv_iload_n hx hb dX13_claimAtRank_83 rfl (lv_at hl 2 rfl) ?_
                refine lv_icmp_ge (tgt := 91) hx hb dX13_claimAtRank_84 (by decide) (fun c_22 => ?_) (fun c_22 => ?_)
                · skip
                  have c_22 : i ≤ u := (nI_leI (a := i) (b := u) (by omega) (by omega)).mp c_22
                  refine lv_iconst (v := 0) hx hb dX13_claimAtRank_91 (by decide) ?_
                  refine lv_istore (lv' := [(5, .int 0), (0, .ref (q 0)), (1, .int x), (2, .int (nI i)), (3, .int (nI (cntR fl (vw v) i u))), (4, .int (nI u))]) hx hb dX13_claimAtRank_92 hl (by decide) rfl (fun ls hl => ?_)
                  refine lv_iload_n hx hb dX13_claimAtRank_94 rfl (lv_at hl 4 rfl) ?_
                  refine lv_aload_n hx hb dX13_claimAtRank_95 rfl (lv_at hl 1 rfl) ?_
                  refine va_get (D := D) (ci := 11) (v := .ref (q 6)) (C := RX13) (T := TX13) (N := 29) hx hb hts kc_RX13 hown hK hP 0 rfl rfl 10 (by decide) k_fieldLink_32 (fun _ h9 => h9) rfl dX13_claimAtRank_96 ?_
                  refine lv_iload hx hb dX13_claimAtRank_99 (lv_at hl 5 rfl) ?_
                  refine fa_ld hx hb hK hP 2 rfl u (by omega) (by decide) dX13_claimAtRank_101 ?_
                  refine lv_aload_n hx hb dX13_claimAtRank_102 rfl (lv_at hl 1 rfl) ?_
                  refine va_get (D := D) (ci := 11) (v := .ref (q 6)) (C := RX13) (T := TX13) (N := 29) hx hb hts kc_RX13 hown hK hP 0 rfl rfl 10 (by decide) k_fieldLink_32 (fun _ h9 => h9) rfl dX13_claimAtRank_103 ?_
                  refine lv_iload_n hx hb dX13_claimAtRank_106 rfl (lv_at hl 3 rfl) ?_
                  refine fa_ld hx hb hK hP 2 rfl i (by omega) (by decide) dX13_claimAtRank_107 ?_
                  refine lv_fcmp hx hb dX13_claimAtRank_108 ?_
                  refine lv_if_gt (tgt := 134) hx hb dX13_claimAtRank_109 (by decide) (fun c_23 => ?_) (fun c_23 => ?_)
                  · skip
                    have c_23 : (FP.fcmp (fl u) (fl i)) = some .gt := (cmv_gt _).mp c_23
                    refine lv_iconst (v := 1) hx hb dX13_claimAtRank_134 (by decide) ?_
                    refine lv_goto (tgt := 139) hx hb dX13_claimAtRank_135 (by decide) ?_
                    refine ni_add hx hb (cntR fl (vw v) i u) 1 dX13_claimAtRank_139 ?_
                    refine lv_istore_n (lv' := [(3, .int (nI ((cntR fl (vw v) i u) + 1))), (5, .int 0), (0, .ref (q 0)), (1, .int x), (2, .int (nI i)), (4, .int (nI u))]) hx hb dX13_claimAtRank_140 rfl hl (by decide) rfl (fun ls hl => ?_)
                    refine lv_iinc (v := nI (u + 1)) (lv' := [(4, .int (nI (u + 1))), (3, .int (nI ((cntR fl (vw v) i u) + 1))), (5, .int 0), (0, .ref (q 0)), (1, .int x), (2, .int (nI i))]) hx hb dX13_claimAtRank_141 hl (k := 5) rfl (nI_inc u) (by decide) rfl (fun ls hl => ?_)
                    refine lv_goto (tgt := 22) hx hb dX13_claimAtRank_144 (by decide) ?_
                    have e_24 : (nI ((cntR fl (vw v) i u) + 1) : Int32) = nI (cntR fl (vw v) i (u + 1)) := by first | (with_reducible rfl) | (first | (have h9 : ahM fl (vw v) u i = true := (by unfold ahM; (try simp only []); (repeat (first | rw [if_pos (by first | assumption | exact Eq.trans (b := false) (by assumption) (Eq.symm (by assumption)) | exact Eq.trans (b := true) (by assumption) (Eq.symm (by assumption)) | exact ⟨by assumption, by assumption⟩ | exact Or.inl (by assumption) | exact Or.inr (by assumption) | exact Or.inr (Or.inl (by assumption)) | exact Or.inr (Or.inr (by assumption)) | (simp only [Int32.lt_iff_toInt_lt, Int32.le_iff_toInt_le, i32_0, i32_1, i32_2, i32_3, i32_4, i32_9, i32_10, i32_99, i32_100, i32_1000, i32_9999] at *; omega))] | rw [if_neg (by first | assumption | (rintro (h9 | h9 | h9) <;> contradiction) | (rintro (h9 | h9) <;> contradiction) | (intro h9; exact Bool.noConfusion (Eq.trans (c := false) h9.symm (by assumption))) | (rintro ⟨h8, h9⟩; exact Bool.noConfusion (Eq.trans (c := false) h8.symm (by assumption))) | (rintro ⟨h8, h9⟩; exact Bool.noConfusion (Eq.trans (c := false) h9.symm (by assumption))) | (simp only [Int32.lt_iff_toInt_lt, Int32.le_iff_toInt_le, i32_0, i32_1, i32_2, i32_3, i32_4, i32_9, i32_10, i32_99, i32_100, i32_1000, i32_9999] at *; omega))])); (try rfl); first | done | exact decide_eq_true (by omega)); rw [cntR_s, if_pos h9]) | (have h9 : ahM fl (vw v) u i = false := (by unfold ahM; (try simp only []); (repeat (first | rw [if_pos (by first | assumption | exact Eq.trans (b := false) (by assumption) (Eq.symm (by assumption)) | exact Eq.trans (b := true) (by assumption) (Eq.symm (by assumption)) | exact ⟨by assumption, by assumption⟩ | exact Or.inl (by assumption) | exact Or.inr (by assumption) | exact Or.inr (Or.inl (by assumption)) | exact Or.inr (Or.inr (by assumption)) | (simp only [Int32.lt_iff_toInt_lt, Int32.le_iff_toInt_le, i32_0, i32_1, i32_2, i32_3, i32_4, i32_9, i32_10, i32_99, i32_100, i32_1000, i32_9999] at *; omega))] | rw [if_neg (by first | assumption | (rintro (h9 | h9 | h9) <;> contradiction) | (rintro (h9 | h9) <;> contradiction) | (intro h9; exact Bool.noConfusion (Eq.trans (c := false) h9.symm (by assumption))) | (rintro ⟨h8, h9⟩; exact Bool.noConfusion (Eq.trans (c := false) h8.symm (by assumption))) | (rintro ⟨h8, h9⟩; exact Bool.noConfusion (Eq.trans (c := false) h9.symm (by assumption))) | (simp only [Int32.lt_iff_toInt_lt, Int32.le_iff_toInt_le, i32_0, i32_1, i32_2, i32_3, i32_4, i32_9, i32_10, i32_99, i32_100, i32_1000, i32_9999] at *; omega))])); (try rfl); first | done | exact decide_eq_false (by omega)); rw [cntR_s, if_neg (by rw [h9]; decide)]; rfl))
                    exact ih_22 (u + 1) (by omega) hil (by omega) ls _ _ hP hD hS (lv_one hl 3 rfl rfl (lv_one hl 4 rfl rfl (lv_one hl 5 rfl rfl (lv_one hl 1 rfl (congrArg Value.int e_24) (lv_one hl 0 rfl rfl (lv_nil hl))))))
                  · skip
                    have c_23 : ¬ (FP.fcmp (fl u) (fl i)) = some .gt := fun h => c_23 ((cmv_gt _).mpr h)
                    refine lv_aload_n hx hb dX13_claimAtRank_112 rfl (lv_at hl 1 rfl) ?_
                    refine va_get (D := D) (ci := 11) (v := .ref (q 6)) (C := RX13) (T := TX13) (N := 29) hx hb hts kc_RX13 hown hK hP 0 rfl rfl 10 (by decide) k_fieldLink_32 (fun _ h9 => h9) rfl dX13_claimAtRank_113 ?_
                    refine lv_iload hx hb dX13_claimAtRank_116 (lv_at hl 5 rfl) ?_
                    refine fa_ld hx hb hK hP 2 rfl u (by omega) (by decide) dX13_claimAtRank_118 ?_
                    refine lv_aload_n hx hb dX13_claimAtRank_119 rfl (lv_at hl 1 rfl) ?_
                    refine va_get (D := D) (ci := 11) (v := .ref (q 6)) (C := RX13) (T := TX13) (N := 29) hx hb hts kc_RX13 hown hK hP 0 rfl rfl 10 (by decide) k_fieldLink_32 (fun _ h9 => h9) rfl dX13_claimAtRank_120 ?_
                    refine lv_iload_n hx hb dX13_claimAtRank_123 rfl (lv_at hl 3 rfl) ?_
                    refine fa_ld hx hb hK hP 2 rfl i (by omega) (by decide) dX13_claimAtRank_124 ?_
                    refine lv_fcmp hx hb dX13_claimAtRank_125 ?_
                    refine lv_if_ne (tgt := 138) hx hb dX13_claimAtRank_126 (by decide) (fun c_25 => ?_) (fun c_25 => ?_)
                    · skip
                      have c_25 : ¬ (FP.fcmp (fl u) (fl i)) = some .eq := fun h => c_25 ((cmv_eq _ _).mpr h)
                      refine lv_iconst (v := 0) hx hb dX13_claimAtRank_138 (by decide) ?_
                      refine ni_add hx hb (cntR fl (vw v) i u) 0 dX13_claimAtRank_139 ?_
                      refine lv_istore_n (lv' := [(3, .int (nI ((cntR fl (vw v) i u) + 0))), (5, .int 0), (0, .ref (q 0)), (1, .int x), (2, .int (nI i)), (4, .int (nI u))]) hx hb dX13_claimAtRank_140 rfl hl (by decide) rfl (fun ls hl => ?_)
                      refine lv_iinc (v := nI (u + 1)) (lv' := [(4, .int (nI (u + 1))), (3, .int (nI ((cntR fl (vw v) i u) + 0))), (5, .int 0), (0, .ref (q 0)), (1, .int x), (2, .int (nI i))]) hx hb dX13_claimAtRank_141 hl (k := 5) rfl (nI_inc u) (by decide) rfl (fun ls hl => ?_)
                      refine lv_goto (tgt := 22) hx hb dX13_claimAtRank_144 (by decide) ?_
                      have e_26 : (nI ((cntR fl (vw v) i u) + 0) : Int32) = nI (cntR fl (vw v) i (u + 1)) := by first | (with_reducible rfl) | (first | (have h9 : ahM fl (vw v) u i = true := (by unfold ahM; (try simp only []); (repeat (first | rw [if_pos (by first | assumption | exact Eq.trans (b := false) (by assumption) (Eq.symm (by assumption)) | exact Eq.trans (b := true) (by assumption) (Eq.symm (by assumption)) | exact ⟨by assumption, by assumption⟩ | exact Or.inl (by assumption) | exact Or.inr (by assumption) | exact Or.inr (Or.inl (by assumption)) | exact Or.inr (Or.inr (by assumption)) | (simp only [Int32.lt_iff_toInt_lt, Int32.le_iff_toInt_le, i32_0, i32_1, i32_2, i32_3, i32_4, i32_9, i32_10, i32_99, i32_100, i32_1000, i32_9999] at *; omega))] | rw [if_neg (by first | assumption | (rintro (h9 | h9 | h9) <;> contradiction) | (rintro (h9 | h9) <;> contradiction) | (intro h9; exact Bool.noConfusion (Eq.trans (c := false) h9.symm (by assumption))) | (rintro ⟨h8, h9⟩; exact Bool.noConfusion (Eq.trans (c := false) h8.symm (by assumption))) | (rintro ⟨h8, h9⟩; exact Bool.noConfusion (Eq.trans (c := false) h9.symm (by assumption))) | (simp only [Int32.lt_iff_toInt_lt, Int32.le_iff_toInt_le, i32_0, i32_1, i32_2, i32_3, i32_4, i32_9, i32_10, i32_99, i32_100, i32_1000, i32_9999] at *; omega))])); (try rfl); first | done | exact decide_eq_true (by omega)); rw [cntR_s, if_pos h9]) | (have h9 : ahM fl (vw v) u i = false := (by unfold ahM; (try simp only []); (repeat (first | rw [if_pos (by first | assumption | exact Eq.trans (b := false) (by assumption) (Eq.symm (by assumption)) | exact Eq.trans (b := true) (by assumption) (Eq.symm (by assumption)) | exact ⟨by assumption, by assumption⟩ | exact Or.inl (by assumption) | exact Or.inr (by assumption) | exact Or.inr (Or.inl (by assumption)) | exact Or.inr (Or.inr (by assumption)) | (simp only [Int32.lt_iff_toInt_lt, Int32.le_iff_toInt_le, i32_0, i32_1, i32_2, i32_3, i32_4, i32_9, i32_10, i32_99, i32_100, i32_1000, i32_9999] at *; omega))] | rw [if_neg (by first | assumption | (rintro (h9 | h9 | h9) <;> contradiction) | (rintro (h9 | h9) <;> contradiction) | (intro h9; exact Bool.noConfusion (Eq.trans (c := false) h9.symm (by assumption))) | (rintro ⟨h8, h9⟩; exact Bool.noConfusion (Eq.trans (c := false) h8.symm (by assumption))) | (rintro ⟨h8, h9⟩; exact Bool.noConfusion (Eq.trans (c := false) h9.symm (by assumption))) | (simp only [Int32.lt_iff_toInt_lt, Int32.le_iff_toInt_le, i32_0, i32_1, i32_2, i32_3, i32_4, i32_9, i32_10, i32_99, i32_100, i32_1000, i32_9999] at *; omega))])); (try rfl); first | done | exact decide_eq_false (by omega)); rw [cntR_s, if_neg (by rw [h9]; decide)]; rfl))
                      exact ih_22 (u + 1) (by omega) hil (by omega) ls _ _ hP hD hS (lv_one hl 3 rfl rfl (lv_one hl 4 rfl rfl (lv_one hl 5 rfl rfl (lv_one hl 1 rfl (congrArg Value.int e_26) (lv_one hl 0 rfl rfl (lv_nil hl))))))
                    · skip
                      have c_25 : (FP.fcmp (fl u) (fl i)) = some .eq := (cmv_eq _ _).mp c_25
                      refine lv_iload hx hb dX13_claimAtRank_129 (lv_at hl 0 rfl) ?_
                      refine lv_if_eq (tgt := 138) hx hb dX13_claimAtRank_131 (by decide) (fun c_27 => ?_) (fun c_27 => ?_)
                      · skip
                        refine lv_iconst (v := 0) hx hb dX13_claimAtRank_138 (by decide) ?_
                        refine ni_add hx hb (cntR fl (vw v) i u) 0 dX13_claimAtRank_139 ?_
                        refine lv_istore_n (lv' := [(3, .int (nI ((cntR fl (vw v) i u) + 0))), (5, .int 0), (0, .ref (q 0)), (1, .int x), (2, .int (nI i)), (4, .int (nI u))]) hx hb dX13_claimAtRank_140 rfl hl (by decide) rfl (fun ls hl => ?_)
                        refine lv_iinc (v := nI (u + 1)) (lv' := [(4, .int (nI (u + 1))), (3, .int (nI ((cntR fl (vw v) i u) + 0))), (5, .int 0), (0, .ref (q 0)), (1, .int x), (2, .int (nI i))]) hx hb dX13_claimAtRank_141 hl (k := 5) rfl (nI_inc u) (by decide) rfl (fun ls hl => ?_)
                        refine lv_goto (tgt := 22) hx hb dX13_claimAtRank_144 (by decide) ?_
                        have e_28 : (nI ((cntR fl (vw v) i u) + 0) : Int32) = nI (cntR fl (vw v) i (u + 1)) := by first | (with_reducible rfl) | (first | (have h9 : ahM fl (vw v) u i = true := (by unfold ahM; (try simp only []); (repeat (first | rw [if_pos (by first | assumption | exact Eq.trans (b := false) (by assumption) (Eq.symm (by assumption)) | exact Eq.trans (b := true) (by assumption) (Eq.symm (by assumption)) | exact ⟨by assumption, by assumption⟩ | exact Or.inl (by assumption) | exact Or.inr (by assumption) | exact Or.inr (Or.inl (by assumption)) | exact Or.inr (Or.inr (by assumption)) | (simp only [Int32.lt_iff_toInt_lt, Int32.le_iff_toInt_le, i32_0, i32_1, i32_2, i32_3, i32_4, i32_9, i32_10, i32_99, i32_100, i32_1000, i32_9999] at *; omega))] | rw [if_neg (by first | assumption | (rintro (h9 | h9 | h9) <;> contradiction) | (rintro (h9 | h9) <;> contradiction) | (intro h9; exact Bool.noConfusion (Eq.trans (c := false) h9.symm (by assumption))) | (rintro ⟨h8, h9⟩; exact Bool.noConfusion (Eq.trans (c := false) h8.symm (by assumption))) | (rintro ⟨h8, h9⟩; exact Bool.noConfusion (Eq.trans (c := false) h9.symm (by assumption))) | (simp only [Int32.lt_iff_toInt_lt, Int32.le_iff_toInt_le, i32_0, i32_1, i32_2, i32_3, i32_4, i32_9, i32_10, i32_99, i32_100, i32_1000, i32_9999] at *; omega))])); (try rfl); first | done | exact decide_eq_true (by omega)); rw [cntR_s, if_pos h9]) | (have h9 : ahM fl (vw v) u i = false := (by unfold ahM; (try simp only []); (repeat (first | rw [if_pos (by first | assumption | exact Eq.trans (b := false) (by assumption) (Eq.symm (by assumption)) | exact Eq.trans (b := true) (by assumption) (Eq.symm (by assumption)) | exact ⟨by assumption, by assumption⟩ | exact Or.inl (by assumption) | exact Or.inr (by assumption) | exact Or.inr (Or.inl (by assumption)) | exact Or.inr (Or.inr (by assumption)) | (simp only [Int32.lt_iff_toInt_lt, Int32.le_iff_toInt_le, i32_0, i32_1, i32_2, i32_3, i32_4, i32_9, i32_10, i32_99, i32_100, i32_1000, i32_9999] at *; omega))] | rw [if_neg (by first | assumption | (rintro (h9 | h9 | h9) <;> contradiction) | (rintro (h9 | h9) <;> contradiction) | (intro h9; exact Bool.noConfusion (Eq.trans (c := false) h9.symm (by assumption))) | (rintro ⟨h8, h9⟩; exact Bool.noConfusion (Eq.trans (c := false) h8.symm (by assumption))) | (rintro ⟨h8, h9⟩; exact Bool.noConfusion (Eq.trans (c := false) h9.symm (by assumption))) | (simp only [Int32.lt_iff_toInt_lt, Int32.le_iff_toInt_le, i32_0, i32_1, i32_2, i32_3, i32_4, i32_9, i32_10, i32_99, i32_100, i32_1000, i32_9999] at *; omega))])); (try rfl); first | done | exact decide_eq_false (by omega)); rw [cntR_s, if_neg (by rw [h9]; decide)]; rfl))
                        exact ih_22 (u + 1) (by omega) hil (by omega) ls _ _ hP hD hS (lv_one hl 3 rfl rfl (lv_one hl 4 rfl rfl (lv_one hl 5 rfl rfl (lv_one hl 1 rfl (congrArg Value.int e_28) (lv_one hl 0 rfl rfl (lv_nil hl))))))
                      · first | exact absurd c_27 (by decide) | exact absurd (by decide) c_27
                · skip
                  have c_22 : ¬ i ≤ u := fun h => c_22 ((nI_leI (a := i) (b := u) (by omega) (by omega)).mpr h)
                  refine lv_iconst (v := 1) hx hb dX13_claimAtRank_87 (by decide) ?_
                  refine lv_goto (tgt := 92) hx hb dX13_claimAtRank_88 (by decide) ?_
                  refine lv_istore (lv' := [(5, .int 1), (0, .ref (q 0)), (1, .int x), (2, .int (nI i)), (3, .int (nI (cntR fl (vw v) i u))), (4, .int (nI u))]) hx hb dX13_claimAtRank_92 hl (by decide) rfl (fun ls hl => ?_)
                  refine lv_iload_n hx hb dX13_claimAtRank_94 rfl (lv_at hl 4 rfl) ?_
                  refine lv_aload_n hx hb dX13_claimAtRank_95 rfl (lv_at hl 1 rfl) ?_
                  refine va_get (D := D) (ci := 11) (v := .ref (q 6)) (C := RX13) (T := TX13) (N := 29) hx hb hts kc_RX13 hown hK hP 0 rfl rfl 10 (by decide) k_fieldLink_32 (fun _ h9 => h9) rfl dX13_claimAtRank_96 ?_
                  refine lv_iload hx hb dX13_claimAtRank_99 (lv_at hl 5 rfl) ?_
                  refine fa_ld hx hb hK hP 2 rfl u (by omega) (by decide) dX13_claimAtRank_101 ?_
                  refine lv_aload_n hx hb dX13_claimAtRank_102 rfl (lv_at hl 1 rfl) ?_
                  refine va_get (D := D) (ci := 11) (v := .ref (q 6)) (C := RX13) (T := TX13) (N := 29) hx hb hts kc_RX13 hown hK hP 0 rfl rfl 10 (by decide) k_fieldLink_32 (fun _ h9 => h9) rfl dX13_claimAtRank_103 ?_
                  refine lv_iload_n hx hb dX13_claimAtRank_106 rfl (lv_at hl 3 rfl) ?_
                  refine fa_ld hx hb hK hP 2 rfl i (by omega) (by decide) dX13_claimAtRank_107 ?_
                  refine lv_fcmp hx hb dX13_claimAtRank_108 ?_
                  refine lv_if_gt (tgt := 134) hx hb dX13_claimAtRank_109 (by decide) (fun c_29 => ?_) (fun c_29 => ?_)
                  · skip
                    have c_29 : (FP.fcmp (fl u) (fl i)) = some .gt := (cmv_gt _).mp c_29
                    refine lv_iconst (v := 1) hx hb dX13_claimAtRank_134 (by decide) ?_
                    refine lv_goto (tgt := 139) hx hb dX13_claimAtRank_135 (by decide) ?_
                    refine ni_add hx hb (cntR fl (vw v) i u) 1 dX13_claimAtRank_139 ?_
                    refine lv_istore_n (lv' := [(3, .int (nI ((cntR fl (vw v) i u) + 1))), (5, .int 1), (0, .ref (q 0)), (1, .int x), (2, .int (nI i)), (4, .int (nI u))]) hx hb dX13_claimAtRank_140 rfl hl (by decide) rfl (fun ls hl => ?_)
                    refine lv_iinc (v := nI (u + 1)) (lv' := [(4, .int (nI (u + 1))), (3, .int (nI ((cntR fl (vw v) i u) + 1))), (5, .int 1), (0, .ref (q 0)), (1, .int x), (2, .int (nI i))]) hx hb dX13_claimAtRank_141 hl (k := 5) rfl (nI_inc u) (by decide) rfl (fun ls hl => ?_)
                    refine lv_goto (tgt := 22) hx hb dX13_claimAtRank_144 (by decide) ?_
                    have e_30 : (nI ((cntR fl (vw v) i u) + 1) : Int32) = nI (cntR fl (vw v) i (u + 1)) := by first | (with_reducible rfl) | (first | (have h9 : ahM fl (vw v) u i = true := (by unfold ahM; (try simp only []); (repeat (first | rw [if_pos (by first | assumption | exact Eq.trans (b := false) (by assumption) (Eq.symm (by assumption)) | exact Eq.trans (b := true) (by assumption) (Eq.symm (by assumption)) | exact ⟨by assumption, by assumption⟩ | exact Or.inl (by assumption) | exact Or.inr (by assumption) | exact Or.inr (Or.inl (by assumption)) | exact Or.inr (Or.inr (by assumption)) | (simp only [Int32.lt_iff_toInt_lt, Int32.le_iff_toInt_le, i32_0, i32_1, i32_2, i32_3, i32_4, i32_9, i32_10, i32_99, i32_100, i32_1000, i32_9999] at *; omega))] | rw [if_neg (by first | assumption | (rintro (h9 | h9 | h9) <;> contradiction) | (rintro (h9 | h9) <;> contradiction) | (intro h9; exact Bool.noConfusion (Eq.trans (c := false) h9.symm (by assumption))) | (rintro ⟨h8, h9⟩; exact Bool.noConfusion (Eq.trans (c := false) h8.symm (by assumption))) | (rintro ⟨h8, h9⟩; exact Bool.noConfusion (Eq.trans (c := false) h9.symm (by assumption))) | (simp only [Int32.lt_iff_toInt_lt, Int32.le_iff_toInt_le, i32_0, i32_1, i32_2, i32_3, i32_4, i32_9, i32_10, i32_99, i32_100, i32_1000, i32_9999] at *; omega))])); (try rfl); first | done | exact decide_eq_true (by omega)); rw [cntR_s, if_pos h9]) | (have h9 : ahM fl (vw v) u i = false := (by unfold ahM; (try simp only []); (repeat (first | rw [if_pos (by first | assumption | exact Eq.trans (b := false) (by assumption) (Eq.symm (by assumption)) | exact Eq.trans (b := true) (by assumption) (Eq.symm (by assumption)) | exact ⟨by assumption, by assumption⟩ | exact Or.inl (by assumption) | exact Or.inr (by assumption) | exact Or.inr (Or.inl (by assumption)) | exact Or.inr (Or.inr (by assumption)) | (simp only [Int32.lt_iff_toInt_lt, Int32.le_iff_toInt_le, i32_0, i32_1, i32_2, i32_3, i32_4, i32_9, i32_10, i32_99, i32_100, i32_1000, i32_9999] at *; omega))] | rw [if_neg (by first | assumption | (rintro (h9 | h9 | h9) <;> contradiction) | (rintro (h9 | h9) <;> contradiction) | (intro h9; exact Bool.noConfusion (Eq.trans (c := false) h9.symm (by assumption))) | (rintro ⟨h8, h9⟩; exact Bool.noConfusion (Eq.trans (c := false) h8.symm (by assumption))) | (rintro ⟨h8, h9⟩; exact Bool.noConfusion (Eq.trans (c := false) h9.symm (by assumption))) | (simp only [Int32.lt_iff_toInt_lt, Int32.le_iff_toInt_le, i32_0, i32_1, i32_2, i32_3, i32_4, i32_9, i32_10, i32_99, i32_100, i32_1000, i32_9999] at *; omega))])); (try rfl); first | done | exact decide_eq_false (by omega)); rw [cntR_s, if_neg (by rw [h9]; decide)]; rfl))
                    exact ih_22 (u + 1) (by omega) hil (by omega) ls _ _ hP hD hS (lv_one hl 3 rfl rfl (lv_one hl 4 rfl rfl (lv_one hl 5 rfl rfl (lv_one hl 1 rfl (congrArg Value.int e_30) (lv_one hl 0 rfl rfl (lv_nil hl))))))
                  · skip
                    have c_29 : ¬ (FP.fcmp (fl u) (fl i)) = some .gt := fun h => c_29 ((cmv_gt _).mpr h)
                    refine lv_aload_n hx hb dX13_claimAtRank_112 rfl (lv_at hl 1 rfl) ?_
                    refine va_get (D := D) (ci := 11) (v := .ref (q 6)) (C := RX13) (T := TX13) (N := 29) hx hb hts kc_RX13 hown hK hP 0 rfl rfl 10 (by decide) k_fieldLink_32 (fun _ h9 => h9) rfl dX13_claimAtRank_113 ?_
                    refine lv_iload hx hb dX13_claimAtRank_116 (lv_at hl 5 rfl) ?_
                    refine fa_ld hx hb hK hP 2 rfl u (by omega) (by decide) dX13_claimAtRank_118 ?_
                    refine lv_aload_n hx hb dX13_claimAtRank_119 rfl (lv_at hl 1 rfl) ?_
                    refine va_get (D := D) (ci := 11) (v := .ref (q 6)) (C := RX13) (T := TX13) (N := 29) hx hb hts kc_RX13 hown hK hP 0 rfl rfl 10 (by decide) k_fieldLink_32 (fun _ h9 => h9) rfl dX13_claimAtRank_120 ?_
                    refine lv_iload_n hx hb dX13_claimAtRank_123 rfl (lv_at hl 3 rfl) ?_
                    refine fa_ld hx hb hK hP 2 rfl i (by omega) (by decide) dX13_claimAtRank_124 ?_
                    refine lv_fcmp hx hb dX13_claimAtRank_125 ?_
                    refine lv_if_ne (tgt := 138) hx hb dX13_claimAtRank_126 (by decide) (fun c_31 => ?_) (fun c_31 => ?_)
                    · skip
                      have c_31 : ¬ (FP.fcmp (fl u) (fl i)) = some .eq := fun h => c_31 ((cmv_eq _ _).mpr h)
                      refine lv_iconst (v := 0) hx hb dX13_claimAtRank_138 (by decide) ?_
                      refine ni_add hx hb (cntR fl (vw v) i u) 0 dX13_claimAtRank_139 ?_
                      refine lv_istore_n (lv' := [(3, .int (nI ((cntR fl (vw v) i u) + 0))), (5, .int 1), (0, .ref (q 0)), (1, .int x), (2, .int (nI i)), (4, .int (nI u))]) hx hb dX13_claimAtRank_140 rfl hl (by decide) rfl (fun ls hl => ?_)
                      refine lv_iinc (v := nI (u + 1)) (lv' := [(4, .int (nI (u + 1))), (3, .int (nI ((cntR fl (vw v) i u) + 0))), (5, .int 1), (0, .ref (q 0)), (1, .int x), (2, .int (nI i))]) hx hb dX13_claimAtRank_141 hl (k := 5) rfl (nI_inc u) (by decide) rfl (fun ls hl => ?_)
                      refine lv_goto (tgt := 22) hx hb dX13_claimAtRank_144 (by decide) ?_
                      have e_32 : (nI ((cntR fl (vw v) i u) + 0) : Int32) = nI (cntR fl (vw v) i (u + 1)) := by first | (with_reducible rfl) | (first | (have h9 : ahM fl (vw v) u i = true := (by unfold ahM; (try simp only []); (repeat (first | rw [if_pos (by first | assumption | exact Eq.trans (b := false) (by assumption) (Eq.symm (by assumption)) | exact Eq.trans (b := true) (by assumption) (Eq.symm (by assumption)) | exact ⟨by assumption, by assumption⟩ | exact Or.inl (by assumption) | exact Or.inr (by assumption) | exact Or.inr (Or.inl (by assumption)) | exact Or.inr (Or.inr (by assumption)) | (simp only [Int32.lt_iff_toInt_lt, Int32.le_iff_toInt_le, i32_0, i32_1, i32_2, i32_3, i32_4, i32_9, i32_10, i32_99, i32_100, i32_1000, i32_9999] at *; omega))] | rw [if_neg (by first | assumption | (rintro (h9 | h9 | h9) <;> contradiction) | (rintro (h9 | h9) <;> contradiction) | (intro h9; exact Bool.noConfusion (Eq.trans (c := false) h9.symm (by assumption))) | (rintro ⟨h8, h9⟩; exact Bool.noConfusion (Eq.trans (c := false) h8.symm (by assumption))) | (rintro ⟨h8, h9⟩; exact Bool.noConfusion (Eq.trans (c := false) h9.symm (by assumption))) | (simp only [Int32.lt_iff_toInt_lt, Int32.le_iff_toInt_le, i32_0, i32_1, i32_2, i32_3, i32_4, i32_9, i32_10, i32_99, i32_100, i32_1000, i32_9999] at *; omega))])); (try rfl); first | done | exact decide_eq_true (by omega)); rw [cntR_s, if_pos h9]) | (have h9 : ahM fl (vw v) u i = false := (by unfold ahM; (try simp only []); (repeat (first | rw [if_pos (by first | assumption | exact Eq.trans (b := false) (by assumption) (Eq.symm (by assumption)) | exact Eq.trans (b := true) (by assumption) (Eq.symm (by assumption)) | exact ⟨by assumption, by assumption⟩ | exact Or.inl (by assumption) | exact Or.inr (by assumption) | exact Or.inr (Or.inl (by assumption)) | exact Or.inr (Or.inr (by assumption)) | (simp only [Int32.lt_iff_toInt_lt, Int32.le_iff_toInt_le, i32_0, i32_1, i32_2, i32_3, i32_4, i32_9, i32_10, i32_99, i32_100, i32_1000, i32_9999] at *; omega))] | rw [if_neg (by first | assumption | (rintro (h9 | h9 | h9) <;> contradiction) | (rintro (h9 | h9) <;> contradiction) | (intro h9; exact Bool.noConfusion (Eq.trans (c := false) h9.symm (by assumption))) | (rintro ⟨h8, h9⟩; exact Bool.noConfusion (Eq.trans (c := false) h8.symm (by assumption))) | (rintro ⟨h8, h9⟩; exact Bool.noConfusion (Eq.trans (c := false) h9.symm (by assumption))) | (simp only [Int32.lt_iff_toInt_lt, Int32.le_iff_toInt_le, i32_0, i32_1, i32_2, i32_3, i32_4, i32_9, i32_10, i32_99, i32_100, i32_1000, i32_9999] at *; omega))])); (try rfl); first | done | exact decide_eq_false (by omega)); rw [cntR_s, if_neg (by rw [h9]; decide)]; rfl))
                      exact ih_22 (u + 1) (by omega) hil (by omega) ls _ _ hP hD hS (lv_one hl 3 rfl rfl (lv_one hl 4 rfl rfl (lv_one hl 5 rfl rfl (lv_one hl 1 rfl (congrArg Value.int e_32) (lv_one hl 0 rfl rfl (lv_nil hl))))))
                    · skip
                      have c_31 : (FP.fcmp (fl u) (fl i)) = some .eq := (cmv_eq _ _).mp c_31
                      refine lv_iload hx hb dX13_claimAtRank_129 (lv_at hl 0 rfl) ?_
                      refine lv_if_eq (tgt := 138) hx hb dX13_claimAtRank_131 (by decide) (fun c_33 => ?_) (fun c_33 => ?_)
                      · first | exact absurd c_33 (by decide) | exact absurd (by decide) c_33
                      · skip
                        refine lv_iconst (v := 1) hx hb dX13_claimAtRank_134 (by decide) ?_
                        refine lv_goto (tgt := 139) hx hb dX13_claimAtRank_135 (by decide) ?_
                        refine ni_add hx hb (cntR fl (vw v) i u) 1 dX13_claimAtRank_139 ?_
                        refine lv_istore_n (lv' := [(3, .int (nI ((cntR fl (vw v) i u) + 1))), (5, .int 1), (0, .ref (q 0)), (1, .int x), (2, .int (nI i)), (4, .int (nI u))]) hx hb dX13_claimAtRank_140 rfl hl (by decide) rfl (fun ls hl => ?_)
                        refine lv_iinc (v := nI (u + 1)) (lv' := [(4, .int (nI (u + 1))), (3, .int (nI ((cntR fl (vw v) i u) + 1))), (5, .int 1), (0, .ref (q 0)), (1, .int x), (2, .int (nI i))]) hx hb dX13_claimAtRank_141 hl (k := 5) rfl (nI_inc u) (by decide) rfl (fun ls hl => ?_)
                        refine lv_goto (tgt := 22) hx hb dX13_claimAtRank_144 (by decide) ?_
                        have e_34 : (nI ((cntR fl (vw v) i u) + 1) : Int32) = nI (cntR fl (vw v) i (u + 1)) := by first | (with_reducible rfl) | (first | (have h9 : ahM fl (vw v) u i = true := (by unfold ahM; (try simp only []); (repeat (first | rw [if_pos (by first | assumption | exact Eq.trans (b := false) (by assumption) (Eq.symm (by assumption)) | exact Eq.trans (b := true) (by assumption) (Eq.symm (by assumption)) | exact ⟨by assumption, by assumption⟩ | exact Or.inl (by assumption) | exact Or.inr (by assumption) | exact Or.inr (Or.inl (by assumption)) | exact Or.inr (Or.inr (by assumption)) | (simp only [Int32.lt_iff_toInt_lt, Int32.le_iff_toInt_le, i32_0, i32_1, i32_2, i32_3, i32_4, i32_9, i32_10, i32_99, i32_100, i32_1000, i32_9999] at *; omega))] | rw [if_neg (by first | assumption | (rintro (h9 | h9 | h9) <;> contradiction) | (rintro (h9 | h9) <;> contradiction) | (intro h9; exact Bool.noConfusion (Eq.trans (c := false) h9.symm (by assumption))) | (rintro ⟨h8, h9⟩; exact Bool.noConfusion (Eq.trans (c := false) h8.symm (by assumption))) | (rintro ⟨h8, h9⟩; exact Bool.noConfusion (Eq.trans (c := false) h9.symm (by assumption))) | (simp only [Int32.lt_iff_toInt_lt, Int32.le_iff_toInt_le, i32_0, i32_1, i32_2, i32_3, i32_4, i32_9, i32_10, i32_99, i32_100, i32_1000, i32_9999] at *; omega))])); (try rfl); first | done | exact decide_eq_true (by omega)); rw [cntR_s, if_pos h9]) | (have h9 : ahM fl (vw v) u i = false := (by unfold ahM; (try simp only []); (repeat (first | rw [if_pos (by first | assumption | exact Eq.trans (b := false) (by assumption) (Eq.symm (by assumption)) | exact Eq.trans (b := true) (by assumption) (Eq.symm (by assumption)) | exact ⟨by assumption, by assumption⟩ | exact Or.inl (by assumption) | exact Or.inr (by assumption) | exact Or.inr (Or.inl (by assumption)) | exact Or.inr (Or.inr (by assumption)) | (simp only [Int32.lt_iff_toInt_lt, Int32.le_iff_toInt_le, i32_0, i32_1, i32_2, i32_3, i32_4, i32_9, i32_10, i32_99, i32_100, i32_1000, i32_9999] at *; omega))] | rw [if_neg (by first | assumption | (rintro (h9 | h9 | h9) <;> contradiction) | (rintro (h9 | h9) <;> contradiction) | (intro h9; exact Bool.noConfusion (Eq.trans (c := false) h9.symm (by assumption))) | (rintro ⟨h8, h9⟩; exact Bool.noConfusion (Eq.trans (c := false) h8.symm (by assumption))) | (rintro ⟨h8, h9⟩; exact Bool.noConfusion (Eq.trans (c := false) h9.symm (by assumption))) | (simp only [Int32.lt_iff_toInt_lt, Int32.le_iff_toInt_le, i32_0, i32_1, i32_2, i32_3, i32_4, i32_9, i32_10, i32_99, i32_100, i32_1000, i32_9999] at *; omega))])); (try rfl); first | done | exact decide_eq_false (by omega)); rw [cntR_s, if_neg (by rw [h9]; decide)]; rfl))
                        exact ih_22 (u + 1) (by omega) hil (by omega) ls _ _ hP hD hS (lv_one hl 3 rfl rfl (lv_one hl 4 rfl rfl (lv_one hl 5 rfl rfl (lv_one hl 1 rfl (congrArg Value.int e_34) (lv_one hl 0 rfl rfl (lv_nil hl))))))
      refine lv_iload_n hx hb dX13_claimAtRank_7 rfl (lv_at hl 2 rfl) ?_
      refine lv_aload_n hx hb dX13_claimAtRank_8 rfl (lv_at hl 0 rfl) ?_
      refine va_get (D := D) (ci := 11) (v := .ref (q 1)) (C := RX13) (T := TX13) (N := 29) hx hb hts kc_RX13 hown hK hP 0 rfl rfl 5 (by decide) k_fieldLink_16 (fun _ h9 => h9) rfl dX13_claimAtRank_9 ?_
      refine lv_iconst (v := 0) hx hb dX13_claimAtRank_12 (by decide) ?_
      refine ia_ld hx hb hK hP 1 rfl 0 (by omega) (by decide) dX13_claimAtRank_13 ?_
      rw [hv0]
      refine lv_icmp_ge (tgt := 160) hx hb dX13_claimAtRank_14 (by decide) (fun c_35 => ?_) (fun c_35 => ?_)
      · skip
        have c_35 : n ≤ i := (nI_leI (a := n) (b := i) (by omega) (by omega)).mp c_35
        refine lv_aload_n hx hb dX13_claimAtRank_160 rfl (lv_at hl 0 rfl) ?_
        refine lv_iconst (v := 1) hx hb dX13_claimAtRank_161 (by decide) ?_
        have hFc := va_free (wc := bMO k q 0 ea fa ch tn he en ln sv wr dg) hD hS hA [0] rfl
        refine va_calli (va_runV (As := [.int 1]) (rest := []) hF (m_X13_fail l9 D k H.size q 0 ea fa ch tn he en ln sv wr dg 1 ) (cwV 1 hts gX13_claimAtRank_X13_fail rfl rfl rfl (by decide +kernel) ⟨Nat.le_of_ble_eq_true rfl, Nat.le_of_ble_eq_true rfl⟩) (wPreV hK hN hP hD [0] rfl (by decide) rfl 0 11 rfl rfl) rfl rfl hl.1 rfl (lv_room (Nat.le_of_ble_eq_true rfl)) dX13_claimAtRank_162 ⟨Nat.zero_le _, Nat.zero_le _⟩) hS (fun q _ h => hFc q h) hFc (fun r u9 t9 H1 locs ht hvm hw hB hz1 hk1 hS => ?_)
        obtain ⟨hP, hD⟩ := wjoin (wr := bI83 k (q 1) v ++ bF10 k (q 6) fl) (wf := bMO k q 1 ea fa ch tn he en ln sv wr dg ++ bI83 k (q 1) v ++ bF10 k (q 6) fl) hP hD [0] [1, 2] [2, 0, 1] rfl rfl (by decide) (by decide) hk1 hFc hB ht rfl rfl (by decide)
        subst hw
        clear hB hk1 hz1 hvm hFc
        clear ht
        clear t9
        generalize H1 = H at hP hS ⊢
        have e_36 : (1 : Int32) = if (rkM n fl (vw v) x) < n then 0 else 1 := by first | (with_reducible rfl) | (rw [rkM_no (fun c hc => hno c (by omega)), if_neg (Nat.lt_irrefl n)])
        have hP := Eq.mp (congrArg (fun z9 => va_P D vwCl (bMO k q z9 ea fa ch tn he en ln sv wr dg ++ bI83 k (q 1) v ++ bF10 k (q 6) fl) H) e_36) hP
        have hD := Eq.mp (congrArg (fun z9 => va_D A (bMO k q z9 ea fa ch tn he en ln sv wr dg ++ bI83 k (q 1) v ++ bF10 k (q 6) fl)) e_36) hD
        exact W.iret (v := 0) hx hb hr (fun t9 ht hW => ⟨⟨_, (), rfl, (by rw [rkM_no (fun c hc => hno c (by omega)), if_neg (Nat.lt_irrefl n)]), ⟨by rw [ht]; exact hP, va_K.moved hW.alike hK, hD⟩⟩, hS.F ht⟩) hS.2.2 dX13_claimAtRank_165 hlocks
      · skip
        have c_35 : ¬ n ≤ i := fun h => c_35 ((nI_leI (a := n) (b := i) (by omega) (by omega)).mpr h)
        refine lv_iconst (v := 0) hx hb dX13_claimAtRank_17 (by decide) ?_
        refine lv_istore_n (lv' := [(3, .int 0), (0, .ref (q 0)), (1, .int x), (2, .int (nI i))]) hx hb dX13_claimAtRank_18 rfl hl (by decide) rfl (fun ls hl => ?_)
        refine lv_iconst (v := 0) hx hb dX13_claimAtRank_19 (by decide) ?_
        refine lv_istore (lv' := [(4, .int 0), (3, .int 0), (0, .ref (q 0)), (1, .int x), (2, .int (nI i))]) hx hb dX13_claimAtRank_20 hl (by decide) rfl (fun ls hl => ?_)
        have e_37 : (0 : Int32) = nI (cntR fl (vw v) i 0) := by first | (with_reducible rfl) | (rfl)
        exact loop_22 ((n - 0) + 1) 0 (by omega) (by omega) (Nat.lt_succ_self _) ls _ _ hP hD hS (lv_one hl 2 rfl rfl (lv_one hl 3 rfl rfl (lv_one hl 4 rfl rfl (lv_one hl 1 rfl (congrArg Value.int e_37) (lv_one hl 0 rfl rfl (lv_nil hl))))))
  refine lv_aload_n hx hb dX13_claimAtRank_0 rfl (lv_at hl 0 rfl) ?_
  refine lv_iconst (v := 0) hx hb dX13_claimAtRank_1 (by decide) ?_
  refine va_put (D := D) (ci := 11) (v := .int 0) (ty := .int) (C := RX13) (T := TX13) (N := 29) hx hb hts kc_RX13 tyX13 tyX13_ok nmX13 hown hK hP hD hS 0 rfl rfl 0 (by decide) k_fieldLink_77 (fun _ h9 => h9) rfl (by decide +kernel) rfl rfl (Nat.le_of_ble_eq_true rfl) dX13_claimAtRank_2 (fun H locs hP hD hS => ?_)
  have hP : va_P D vwCl (bMO k q 0 ea fa ch tn he en ln sv wr dg ++ bI83 k (q 1) v ++ bF10 k (q 6) fl) H := hP
  have hD : va_D A (bMO k q 0 ea fa ch tn he en ln sv wr dg ++ bI83 k (q 1) v ++ bF10 k (q 6) fl) := hD
  refine lv_iconst (v := 0) hx hb dX13_claimAtRank_5 (by decide) ?_
  refine lv_istore_n (lv' := [(2, .int 0), (0, .ref (q 0)), (1, .int x)]) hx hb dX13_claimAtRank_6 rfl hl (by decide) rfl (fun ls hl => ?_)
  exact loop_7 ((n - 0) + 1) 0 (by omega) (fun c hc => absurd hc (Nat.not_lt_zero c)) (Nat.lt_succ_self _) ls _ _ hP hD hS (lv_one hl 1 rfl rfl (lv_one hl 2 rfl rfl (lv_one hl 0 rfl rfl (lv_nil hl))))

set_option maxHeartbeats 4000000 in
set_option maxRecDepth 100000 in
theorem m_X13_shiftsUntilBelow (l9 : Launch) (D : va_G) (k : Nat → ClassId) (sz : Nat) (q : Nat → Nat) (th ea fa : Int32) (ch tn he en ln : Nat) (sv wr dg : Bool) (v be : Nat → Int32) (fl nx as : Nat → UInt32) (n nl : Nat) (x : Int32) (hn : n ≤ 10) (hv0 : v 0 = nI n) (hf : ∀ c, c < n → okF (fl c)) (hly : lyOk n (vl v)) (hnl : nl ≤ 16) (hv4 : v 4 = nI nl) : Met l9 yX13_shiftsUntilBelow wsX13_shiftsUntilBelow ({ frames := 3, cells := 0, slots := 0, locals := 67 }) (WPc D k [.ref (q 0), .int x] (bMO k q th ea fa ch tn he en ln sv wr dg ++ bI83 k (q 1) v ++ bI83 k (q 2) be ++ bF10 k (q 6) fl ++ bF10 k (q 10) nx ++ bF10 k (q 11) as) sz) (WI D k (bMO k q (if rg 1 x 9999 = true then (if (sbM n (v, fl, nx, nl) x) < 31 then 0 else 2) else 1) ea fa ch tn he en ln sv wr dg ++ bI83 k (q 1) v ++ bI83 k (q 2) (if rg 1 x 9999 = true then v else be) ++ bF10 k (q 6) fl ++ bF10 k (q 10) (if rg 1 x 9999 = true then (itD n (v, fl, nx, nl) (sbM n (v, fl, nx, nl) x)).2.2.1 else nx) ++ bF10 k (q 11) (if rg 1 x 9999 = true then fl else as)) (if rg 1 x 9999 = true then (if (sbM n (v, fl, nx, nl) x) < 31 then nI (sbM n (v, fl, nx, nl) x) else 0) else 0) (va_A (bMO k q th ea fa ch tn he en ln sv wr dg ++ bI83 k (q 1) v ++ bI83 k (q 2) be ++ bF10 k (q 6) fl ++ bF10 k (q 10) nx ++ bF10 k (q 11) as) sz)) 0 0 (va_A (bMO k q th ea fa ch tn he en ln sv wr dg ++ bI83 k (q 1) v ++ bI83 k (q 2) be ++ bF10 k (q 6) fl ++ bF10 k (q 10) nx ++ bF10 k (q 11) as) sz) := by
  refine wMet (y := yX13_shiftsUntilBelow) (cc := cX13_shiftsUntilBelow) (maxL := 3) (ret := (some .int)) (Qc := fun A => WI D k (bMO k q (if rg 1 x 9999 = true then (if (sbM n (v, fl, nx, nl) x) < 31 then 0 else 2) else 1) ea fa ch tn he en ln sv wr dg ++ bI83 k (q 1) v ++ bI83 k (q 2) (if rg 1 x 9999 = true then v else be) ++ bF10 k (q 6) fl ++ bF10 k (q 10) (if rg 1 x 9999 = true then (itD n (v, fl, nx, nl) (sbM n (v, fl, nx, nl) x)).2.2.1 else nx) ++ bF10 k (q 11) (if rg 1 x 9999 = true then fl else as)) (if rg 1 x 9999 = true then (if (sbM n (v, fl, nx, nl) x) < 31 then nI (sbM n (v, fl, nx, nl) x) else 0) else 0) A) [.ref (q 0), .int x] (by decide) rfl (Nat.le_of_ble_eq_true rfl) ?_
  intro p9 e9 s9 m9 bl9 me9 c9 ls A H hF hr hlocks hP hK hN hD hA hS hl hin
  have hl : lv_has ls 3 [(0, .ref (q 0)), (1, .int x)] := hl
  obtain ⟨hx, hb, hml, hown, hts⟩ := id hF
  have k_fieldLink_16 : (Cond.fieldLink RX13 16 "OpinionReactorModel" "v" "[I").before _ s9 = true := hts (.fieldLink RX13 16 "OpinionReactorModel" "v" "[I") (by decide +kernel)
  have kc_RX13 : ∀ w ∈ u_ws RX13 TX13 29, w ∈ wsX13_shiftsUntilBelow := by decide +kernel
  have k_fieldLink_20 : (Cond.fieldLink RX13 20 "OpinionReactorModel" "before" "[I").before _ s9 = true := hts (.fieldLink RX13 20 "OpinionReactorModel" "before" "[I") (by decide +kernel)
  have k_fieldLink_32 : (Cond.fieldLink RX13 32 "OpinionReactorModel" "flux" "[F").before _ s9 = true := hts (.fieldLink RX13 32 "OpinionReactorModel" "flux" "[F") (by decide +kernel)
  have k_fieldLink_48 : (Cond.fieldLink RX13 48 "OpinionReactorModel" "aside" "[F").before _ s9 = true := hts (.fieldLink RX13 48 "OpinionReactorModel" "aside" "[F") (by decide +kernel)
  have k_fieldLink_77 : (Cond.fieldLink RX13 77 "OpinionReactorModel" "thrown" "I").before _ s9 = true := hts (.fieldLink RX13 77 "OpinionReactorModel" "thrown" "I") (by decide +kernel)
  have loop_53 : ∀ (fuel : Nat) (i : Nat), (i ≤ 31) → (∀ c, c < i → sbP n (v, fl, nx, nl) x c = false) → (rg 1 x 9999 = true) → 31 - i < fuel → ∀ (ls : Array Slot), ∀ (H : Heap) (locs : List Loc), va_P D vwCl (bMO k q 0 ea fa ch tn he en ln sv wr dg ++ bI83 k (q 1) ((itD n (v, fl, nx, nl) i).1) ++ bI83 k (q 2) v ++ bF10 k (q 6) ((itD n (v, fl, nx, nl) i).2.1) ++ bF10 k (q 10) ((itD n (v, fl, nx, nl) i).2.2.1) ++ bF10 k (q 11) fl) H → va_D A (bMO k q 0 ea fa ch tn he en ln sv wr dg ++ bI83 k (q 1) ((itD n (v, fl, nx, nl) i).1) ++ bI83 k (q 2) v ++ bF10 k (q 6) ((itD n (v, fl, nx, nl) i).2.1) ++ bF10 k (q 10) ((itD n (v, fl, nx, nl) i).2.2.1) ++ bF10 k (q 11) fl) → va_S A s9.heap H locs → lv_has ls 3 [(0, .ref (q 0)), (1, .int x), (2, .int (nI i))] → W p9 l9 e9 ({ frames := 3, cells := 0, slots := 0, locals := 67 }) s9 m9 ([.ref (q 0), .int x] : List Value).toArray bl9 me9 c9 H locs 0 0 (MQ bl9 (WI D k (bMO k q (if rg 1 x 9999 = true then (if (sbM n (v, fl, nx, nl) x) < 31 then 0 else 2) else 1) ea fa ch tn he en ln sv wr dg ++ bI83 k (q 1) v ++ bI83 k (q 2) (if rg 1 x 9999 = true then v else be) ++ bF10 k (q 6) fl ++ bF10 k (q 10) (if rg 1 x 9999 = true then (itD n (v, fl, nx, nl) (sbM n (v, fl, nx, nl) x)).2.2.1 else nx) ++ bF10 k (q 11) (if rg 1 x 9999 = true then fl else as)) (if rg 1 x 9999 = true then (if (sbM n (v, fl, nx, nl) x) < 31 then nI (sbM n (v, fl, nx, nl) x) else 0) else 0) A) ([.ref (q 0), .int x] : List Value).toArray s9 0 0 A) (F0 m9 53 ls []) := by
    intro fuel
    induction fuel with
    | zero => intro i hi hno hxr hfuel_53; exact absurd hfuel_53 (Nat.not_lt_zero _)
    | succ fuel ih_53 =>
      intro i hi hno hxr hfuel_53 ls H locs hP hD hS hl
      have hT := okM_itD hn (s := (v, fl, nx, nl)) ⟨hv0, hv4, hnl, hf, hly⟩ i
      refine lv_iload_n hx hb dX13_shiftsUntilBelow_53 rfl (lv_at hl 2 rfl) ?_
      refine lv_bipush (v := 30) hx hb dX13_shiftsUntilBelow_54 (by decide) ?_
      refine lv_icmp_gt (tgt := 98) hx hb dX13_shiftsUntilBelow_56 (by decide) (fun c_1 => ?_) (fun c_1 => ?_)
      · skip
        have c_1 : 30 < i := (nI_ltI (a := 30) (b := i) (by omega) (by omega)).mp c_1
        refine lv_aload_n hx hb dX13_shiftsUntilBelow_98 rfl (lv_at hl 0 rfl) ?_
        refine va_get (D := D) (ci := 11) (v := .ref (q 1)) (C := RX13) (T := TX13) (N := 29) hx hb hts kc_RX13 hown hK hP 0 rfl rfl 5 (by decide) k_fieldLink_16 (fun _ h9 => h9) rfl dX13_shiftsUntilBelow_99 ?_
        refine lv_aload_n hx hb dX13_shiftsUntilBelow_102 rfl (lv_at hl 0 rfl) ?_
        refine va_get (D := D) (ci := 11) (v := .ref (q 2)) (C := RX13) (T := TX13) (N := 29) hx hb hts kc_RX13 hown hK hP 0 rfl rfl 6 (by decide) k_fieldLink_20 (fun _ h9 => h9) rfl dX13_shiftsUntilBelow_103 ?_
        have hFc := va_free (wc := bI83 k (q 1) ((itD n (v, fl, nx, nl) i).1) ++ bI83 k (q 2) v) hD hS hA [1, 2] rfl
        refine va_callv (va_runS (As := [.ref (q 1), .ref (q 2)]) (rest := []) hF (m_X13_lays l9 D k H.size (q 1) (q 2) ((itD n (v, fl, nx, nl) i).1) v ) (va_cwS 2 hts gX13_shiftsUntilBelow_X13_lays rfl rfl rfl (by decide +kernel) ⟨Nat.le_of_ble_eq_true rfl, Nat.le_of_ble_eq_true rfl⟩) (wPreS hK hN hP hD [1, 2] rfl (by decide) rfl) rfl rfl hl.1 rfl (lv_room (Nat.le_of_ble_eq_true rfl)) dX13_shiftsUntilBelow_106 ⟨Nat.zero_le _, Nat.zero_le _⟩) hS (fun q _ h => hFc q h) hFc (fun u9 t9 H1 locs ht hvm hw hB hz1 hk1 hS => ?_)
        obtain ⟨hP, hD⟩ := wjoin (wr := bMO k q 0 ea fa ch tn he en ln sv wr dg ++ bF10 k (q 6) ((itD n (v, fl, nx, nl) i).2.1) ++ bF10 k (q 10) ((itD n (v, fl, nx, nl) i).2.2.1) ++ bF10 k (q 11) fl) (wf := bMO k q 0 ea fa ch tn he en ln sv wr dg ++ bI83 k (q 1) v ++ bI83 k (q 2) v ++ bF10 k (q 6) ((itD n (v, fl, nx, nl) i).2.1) ++ bF10 k (q 10) ((itD n (v, fl, nx, nl) i).2.2.1) ++ bF10 k (q 11) fl) hP hD [1, 2] [0, 3, 4, 5] [0, 4, 5, 1, 2, 3] rfl rfl (by decide) (by decide) hk1 hFc hB ht rfl rfl (by decide)
        clear hB hk1 hz1 hvm hFc
        clear ht
        clear t9
        generalize H1 = H at hP hS ⊢
        refine lv_aload_n hx hb dX13_shiftsUntilBelow_109 rfl (lv_at hl 0 rfl) ?_
        refine va_get (D := D) (ci := 11) (v := .ref (q 6)) (C := RX13) (T := TX13) (N := 29) hx hb hts kc_RX13 hown hK hP 0 rfl rfl 10 (by decide) k_fieldLink_32 (fun _ h9 => h9) rfl dX13_shiftsUntilBelow_110 ?_
        refine lv_aload_n hx hb dX13_shiftsUntilBelow_113 rfl (lv_at hl 0 rfl) ?_
        refine va_get (D := D) (ci := 11) (v := .ref (q 11)) (C := RX13) (T := TX13) (N := 29) hx hb hts kc_RX13 hown hK hP 0 rfl rfl 15 (by decide) k_fieldLink_48 (fun _ h9 => h9) rfl dX13_shiftsUntilBelow_114 ?_
        have hFc := va_free (wc := bF10 k (q 6) ((itD n (v, fl, nx, nl) i).2.1) ++ bF10 k (q 11) fl) hD hS hA [3, 5] rfl
        refine va_callv (va_runS (As := [.ref (q 6), .ref (q 11)]) (rest := []) hF (m_X13_flows l9 D k H.size (q 6) (q 11) ((itD n (v, fl, nx, nl) i).2.1) fl ) (va_cwS 2 hts gX13_shiftsUntilBelow_X13_flows rfl rfl rfl (by decide +kernel) ⟨Nat.le_of_ble_eq_true rfl, Nat.le_of_ble_eq_true rfl⟩) (wPreS hK hN hP hD [3, 5] rfl (by decide) rfl) rfl rfl hl.1 rfl (lv_room (Nat.le_of_ble_eq_true rfl)) dX13_shiftsUntilBelow_117 ⟨Nat.zero_le _, Nat.zero_le _⟩) hS (fun q _ h => hFc q h) hFc (fun u9 t9 H1 locs ht hvm hw hB hz1 hk1 hS => ?_)
        obtain ⟨hP, hD⟩ := wjoin (wr := bMO k q 0 ea fa ch tn he en ln sv wr dg ++ bI83 k (q 1) v ++ bI83 k (q 2) v ++ bF10 k (q 10) ((itD n (v, fl, nx, nl) i).2.2.1)) (wf := bMO k q 0 ea fa ch tn he en ln sv wr dg ++ bI83 k (q 1) v ++ bI83 k (q 2) v ++ bF10 k (q 6) fl ++ bF10 k (q 10) ((itD n (v, fl, nx, nl) i).2.2.1) ++ bF10 k (q 11) fl) hP hD [3, 5] [0, 1, 2, 4] [0, 1, 2, 4, 3, 5] rfl rfl (by decide) (by decide) hk1 hFc hB ht rfl rfl (by decide)
        clear hB hk1 hz1 hvm hFc
        clear ht
        clear t9
        generalize H1 = H at hP hS ⊢
        refine lv_iload_n hx hb dX13_shiftsUntilBelow_120 rfl (lv_at hl 2 rfl) ?_
        refine lv_bipush (v := 30) hx hb dX13_shiftsUntilBelow_121 (by decide) ?_
        refine lv_icmp_le (tgt := 134) hx hb dX13_shiftsUntilBelow_123 (by decide) (fun c_2 => ?_) (fun c_2 => ?_)
        · skip
          have c_2 : i ≤ 30 := (nI_leI (a := i) (b := 30) (by omega) (by omega)).mp c_2
          refine lv_iload_n hx hb dX13_shiftsUntilBelow_134 rfl (lv_at hl 2 rfl) ?_
          have e_3 : (0 : Int32) = if rg 1 x 9999 = true then (if (sbM n (v, fl, nx, nl) x) < 31 then 0 else 2) else 1 := by first | (with_reducible rfl) | (first | (exfalso; omega) | (rw [if_pos hxr]; done) | (rw [if_pos hxr, sbM_at hno (decide_eq_true (by assumption)) (by omega)]; done) | (rw [if_pos hxr, sbM_at hno (decide_eq_true (by assumption)) (by omega), if_pos (by omega)]; done) | (rw [if_pos hxr, sbM_no hno (by omega), if_neg (by omega)]; done) | (rw [if_pos hxr, sbM_no hno (by omega), show i = 31 by omega]; done))
          have hP := Eq.mp (congrArg (fun z9 => va_P D vwCl (bMO k q z9 ea fa ch tn he en ln sv wr dg ++ bI83 k (q 1) v ++ bI83 k (q 2) v ++ bF10 k (q 6) fl ++ bF10 k (q 10) ((itD n (v, fl, nx, nl) i).2.2.1) ++ bF10 k (q 11) fl) H) e_3) hP
          have hD := Eq.mp (congrArg (fun z9 => va_D A (bMO k q z9 ea fa ch tn he en ln sv wr dg ++ bI83 k (q 1) v ++ bI83 k (q 2) v ++ bF10 k (q 6) fl ++ bF10 k (q 10) ((itD n (v, fl, nx, nl) i).2.2.1) ++ bF10 k (q 11) fl)) e_3) hD
          have e_4 : (v : Nat → Int32) = if rg 1 x 9999 = true then v else be := by first | (with_reducible rfl) | (first | (exfalso; omega) | (rw [if_pos hxr]; done) | (rw [if_pos hxr, sbM_at hno (decide_eq_true (by assumption)) (by omega)]; done) | (rw [if_pos hxr, sbM_at hno (decide_eq_true (by assumption)) (by omega), if_pos (by omega)]; done) | (rw [if_pos hxr, sbM_no hno (by omega), if_neg (by omega)]; done) | (rw [if_pos hxr, sbM_no hno (by omega), show i = 31 by omega]; done))
          have hP := Eq.mp (congrArg (fun z9 => va_P D vwCl (bMO k q (if rg 1 x 9999 = true then (if (sbM n (v, fl, nx, nl) x) < 31 then 0 else 2) else 1) ea fa ch tn he en ln sv wr dg ++ bI83 k (q 1) v ++ bI83 k (q 2) z9 ++ bF10 k (q 6) fl ++ bF10 k (q 10) ((itD n (v, fl, nx, nl) i).2.2.1) ++ bF10 k (q 11) fl) H) e_4) hP
          have hD := Eq.mp (congrArg (fun z9 => va_D A (bMO k q (if rg 1 x 9999 = true then (if (sbM n (v, fl, nx, nl) x) < 31 then 0 else 2) else 1) ea fa ch tn he en ln sv wr dg ++ bI83 k (q 1) v ++ bI83 k (q 2) z9 ++ bF10 k (q 6) fl ++ bF10 k (q 10) ((itD n (v, fl, nx, nl) i).2.2.1) ++ bF10 k (q 11) fl)) e_4) hD
          have e_5 : ((itD n (v, fl, nx, nl) i).2.2.1 : Nat → UInt32) = if rg 1 x 9999 = true then (itD n (v, fl, nx, nl) (sbM n (v, fl, nx, nl) x)).2.2.1 else nx := by first | (with_reducible rfl) | (first | (exfalso; omega) | (rw [if_pos hxr]; done) | (rw [if_pos hxr, sbM_at hno (decide_eq_true (by assumption)) (by omega)]; done) | (rw [if_pos hxr, sbM_at hno (decide_eq_true (by assumption)) (by omega), if_pos (by omega)]; done) | (rw [if_pos hxr, sbM_no hno (by omega), if_neg (by omega)]; done) | (rw [if_pos hxr, sbM_no hno (by omega), show i = 31 by omega]; done))
          have hP := Eq.mp (congrArg (fun z9 => va_P D vwCl (bMO k q (if rg 1 x 9999 = true then (if (sbM n (v, fl, nx, nl) x) < 31 then 0 else 2) else 1) ea fa ch tn he en ln sv wr dg ++ bI83 k (q 1) v ++ bI83 k (q 2) (if rg 1 x 9999 = true then v else be) ++ bF10 k (q 6) fl ++ bF10 k (q 10) z9 ++ bF10 k (q 11) fl) H) e_5) hP
          have hD := Eq.mp (congrArg (fun z9 => va_D A (bMO k q (if rg 1 x 9999 = true then (if (sbM n (v, fl, nx, nl) x) < 31 then 0 else 2) else 1) ea fa ch tn he en ln sv wr dg ++ bI83 k (q 1) v ++ bI83 k (q 2) (if rg 1 x 9999 = true then v else be) ++ bF10 k (q 6) fl ++ bF10 k (q 10) z9 ++ bF10 k (q 11) fl)) e_5) hD
          have e_6 : (fl : Nat → UInt32) = if rg 1 x 9999 = true then fl else as := by first | (with_reducible rfl) | (first | (exfalso; omega) | (rw [if_pos hxr]; done) | (rw [if_pos hxr, sbM_at hno (decide_eq_true (by assumption)) (by omega)]; done) | (rw [if_pos hxr, sbM_at hno (decide_eq_true (by assumption)) (by omega), if_pos (by omega)]; done) | (rw [if_pos hxr, sbM_no hno (by omega), if_neg (by omega)]; done) | (rw [if_pos hxr, sbM_no hno (by omega), show i = 31 by omega]; done))
          have hP := Eq.mp (congrArg (fun z9 => va_P D vwCl (bMO k q (if rg 1 x 9999 = true then (if (sbM n (v, fl, nx, nl) x) < 31 then 0 else 2) else 1) ea fa ch tn he en ln sv wr dg ++ bI83 k (q 1) v ++ bI83 k (q 2) (if rg 1 x 9999 = true then v else be) ++ bF10 k (q 6) fl ++ bF10 k (q 10) (if rg 1 x 9999 = true then (itD n (v, fl, nx, nl) (sbM n (v, fl, nx, nl) x)).2.2.1 else nx) ++ bF10 k (q 11) z9) H) e_6) hP
          have hD := Eq.mp (congrArg (fun z9 => va_D A (bMO k q (if rg 1 x 9999 = true then (if (sbM n (v, fl, nx, nl) x) < 31 then 0 else 2) else 1) ea fa ch tn he en ln sv wr dg ++ bI83 k (q 1) v ++ bI83 k (q 2) (if rg 1 x 9999 = true then v else be) ++ bF10 k (q 6) fl ++ bF10 k (q 10) (if rg 1 x 9999 = true then (itD n (v, fl, nx, nl) (sbM n (v, fl, nx, nl) x)).2.2.1 else nx) ++ bF10 k (q 11) z9)) e_6) hD
          exact W.iret (v := nI i) hx hb hr (fun t9 ht hW => ⟨⟨_, (), rfl, (by first | (exfalso; omega) | (rw [if_pos hxr]; done) | (rw [if_pos hxr, sbM_at hno (decide_eq_true (by assumption)) (by omega)]; done) | (rw [if_pos hxr, sbM_at hno (decide_eq_true (by assumption)) (by omega), if_pos (by omega)]; done) | (rw [if_pos hxr, sbM_no hno (by omega), if_neg (by omega)]; done) | (rw [if_pos hxr, sbM_no hno (by omega), show i = 31 by omega]; done)), ⟨by rw [ht]; exact hP, va_K.moved hW.alike hK, hD⟩⟩, hS.F ht⟩) hS.2.2 dX13_shiftsUntilBelow_135 hlocks
        · skip
          have c_2 : ¬ i ≤ 30 := fun h => c_2 ((nI_leI (a := i) (b := 30) (by omega) (by omega)).mpr h)
          refine lv_aload_n hx hb dX13_shiftsUntilBelow_126 rfl (lv_at hl 0 rfl) ?_
          refine lv_iconst (v := 2) hx hb dX13_shiftsUntilBelow_127 (by decide) ?_
          have hFc := va_free (wc := bMO k q 0 ea fa ch tn he en ln sv wr dg) hD hS hA [0] rfl
          refine va_calli (va_runV (As := [.int 2]) (rest := []) hF (m_X13_fail l9 D k H.size q 0 ea fa ch tn he en ln sv wr dg 2 ) (cwV 1 hts gX13_shiftsUntilBelow_X13_fail rfl rfl rfl (by decide +kernel) ⟨Nat.le_of_ble_eq_true rfl, Nat.le_of_ble_eq_true rfl⟩) (wPreV hK hN hP hD [0] rfl (by decide) rfl 0 11 rfl rfl) rfl rfl hl.1 rfl (lv_room (Nat.le_of_ble_eq_true rfl)) dX13_shiftsUntilBelow_128 ⟨Nat.zero_le _, Nat.zero_le _⟩) hS (fun q _ h => hFc q h) hFc (fun r u9 t9 H1 locs ht hvm hw hB hz1 hk1 hS => ?_)
          obtain ⟨hP, hD⟩ := wjoin (wr := bI83 k (q 1) v ++ bI83 k (q 2) v ++ bF10 k (q 6) fl ++ bF10 k (q 10) ((itD n (v, fl, nx, nl) i).2.2.1) ++ bF10 k (q 11) fl) (wf := bMO k q 2 ea fa ch tn he en ln sv wr dg ++ bI83 k (q 1) v ++ bI83 k (q 2) v ++ bF10 k (q 6) fl ++ bF10 k (q 10) ((itD n (v, fl, nx, nl) i).2.2.1) ++ bF10 k (q 11) fl) hP hD [0] [1, 2, 3, 4, 5] [5, 0, 1, 2, 3, 4] rfl rfl (by decide) (by decide) hk1 hFc hB ht rfl rfl (by decide)
          subst hw
          clear hB hk1 hz1 hvm hFc
          clear ht
          clear t9
          generalize H1 = H at hP hS ⊢
          refine lv_goto (tgt := 135) hx hb dX13_shiftsUntilBelow_131 (by decide) ?_
          have e_7 : (2 : Int32) = if rg 1 x 9999 = true then (if (sbM n (v, fl, nx, nl) x) < 31 then 0 else 2) else 1 := by first | (with_reducible rfl) | (first | (exfalso; omega) | (rw [if_pos hxr]; done) | (rw [if_pos hxr, sbM_at hno (decide_eq_true (by assumption)) (by omega)]; done) | (rw [if_pos hxr, sbM_at hno (decide_eq_true (by assumption)) (by omega), if_pos (by omega)]; done) | (rw [if_pos hxr, sbM_no hno (by omega), if_neg (by omega)]; done) | (rw [if_pos hxr, sbM_no hno (by omega), show i = 31 by omega]; done))
          have hP := Eq.mp (congrArg (fun z9 => va_P D vwCl (bMO k q z9 ea fa ch tn he en ln sv wr dg ++ bI83 k (q 1) v ++ bI83 k (q 2) v ++ bF10 k (q 6) fl ++ bF10 k (q 10) ((itD n (v, fl, nx, nl) i).2.2.1) ++ bF10 k (q 11) fl) H) e_7) hP
          have hD := Eq.mp (congrArg (fun z9 => va_D A (bMO k q z9 ea fa ch tn he en ln sv wr dg ++ bI83 k (q 1) v ++ bI83 k (q 2) v ++ bF10 k (q 6) fl ++ bF10 k (q 10) ((itD n (v, fl, nx, nl) i).2.2.1) ++ bF10 k (q 11) fl)) e_7) hD
          have e_8 : (v : Nat → Int32) = if rg 1 x 9999 = true then v else be := by first | (with_reducible rfl) | (first | (exfalso; omega) | (rw [if_pos hxr]; done) | (rw [if_pos hxr, sbM_at hno (decide_eq_true (by assumption)) (by omega)]; done) | (rw [if_pos hxr, sbM_at hno (decide_eq_true (by assumption)) (by omega), if_pos (by omega)]; done) | (rw [if_pos hxr, sbM_no hno (by omega), if_neg (by omega)]; done) | (rw [if_pos hxr, sbM_no hno (by omega), show i = 31 by omega]; done))
          have hP := Eq.mp (congrArg (fun z9 => va_P D vwCl (bMO k q (if rg 1 x 9999 = true then (if (sbM n (v, fl, nx, nl) x) < 31 then 0 else 2) else 1) ea fa ch tn he en ln sv wr dg ++ bI83 k (q 1) v ++ bI83 k (q 2) z9 ++ bF10 k (q 6) fl ++ bF10 k (q 10) ((itD n (v, fl, nx, nl) i).2.2.1) ++ bF10 k (q 11) fl) H) e_8) hP
          have hD := Eq.mp (congrArg (fun z9 => va_D A (bMO k q (if rg 1 x 9999 = true then (if (sbM n (v, fl, nx, nl) x) < 31 then 0 else 2) else 1) ea fa ch tn he en ln sv wr dg ++ bI83 k (q 1) v ++ bI83 k (q 2) z9 ++ bF10 k (q 6) fl ++ bF10 k (q 10) ((itD n (v, fl, nx, nl) i).2.2.1) ++ bF10 k (q 11) fl)) e_8) hD
          have e_9 : ((itD n (v, fl, nx, nl) i).2.2.1 : Nat → UInt32) = if rg 1 x 9999 = true then (itD n (v, fl, nx, nl) (sbM n (v, fl, nx, nl) x)).2.2.1 else nx := by first | (with_reducible rfl) | (first | (exfalso; omega) | (rw [if_pos hxr]; done) | (rw [if_pos hxr, sbM_at hno (decide_eq_true (by assumption)) (by omega)]; done) | (rw [if_pos hxr, sbM_at hno (decide_eq_true (by assumption)) (by omega), if_pos (by omega)]; done) | (rw [if_pos hxr, sbM_no hno (by omega), if_neg (by omega)]; done) | (rw [if_pos hxr, sbM_no hno (by omega), show i = 31 by omega]; done))
          have hP := Eq.mp (congrArg (fun z9 => va_P D vwCl (bMO k q (if rg 1 x 9999 = true then (if (sbM n (v, fl, nx, nl) x) < 31 then 0 else 2) else 1) ea fa ch tn he en ln sv wr dg ++ bI83 k (q 1) v ++ bI83 k (q 2) (if rg 1 x 9999 = true then v else be) ++ bF10 k (q 6) fl ++ bF10 k (q 10) z9 ++ bF10 k (q 11) fl) H) e_9) hP
          have hD := Eq.mp (congrArg (fun z9 => va_D A (bMO k q (if rg 1 x 9999 = true then (if (sbM n (v, fl, nx, nl) x) < 31 then 0 else 2) else 1) ea fa ch tn he en ln sv wr dg ++ bI83 k (q 1) v ++ bI83 k (q 2) (if rg 1 x 9999 = true then v else be) ++ bF10 k (q 6) fl ++ bF10 k (q 10) z9 ++ bF10 k (q 11) fl)) e_9) hD
          have e_10 : (fl : Nat → UInt32) = if rg 1 x 9999 = true then fl else as := by first | (with_reducible rfl) | (first | (exfalso; omega) | (rw [if_pos hxr]; done) | (rw [if_pos hxr, sbM_at hno (decide_eq_true (by assumption)) (by omega)]; done) | (rw [if_pos hxr, sbM_at hno (decide_eq_true (by assumption)) (by omega), if_pos (by omega)]; done) | (rw [if_pos hxr, sbM_no hno (by omega), if_neg (by omega)]; done) | (rw [if_pos hxr, sbM_no hno (by omega), show i = 31 by omega]; done))
          have hP := Eq.mp (congrArg (fun z9 => va_P D vwCl (bMO k q (if rg 1 x 9999 = true then (if (sbM n (v, fl, nx, nl) x) < 31 then 0 else 2) else 1) ea fa ch tn he en ln sv wr dg ++ bI83 k (q 1) v ++ bI83 k (q 2) (if rg 1 x 9999 = true then v else be) ++ bF10 k (q 6) fl ++ bF10 k (q 10) (if rg 1 x 9999 = true then (itD n (v, fl, nx, nl) (sbM n (v, fl, nx, nl) x)).2.2.1 else nx) ++ bF10 k (q 11) z9) H) e_10) hP
          have hD := Eq.mp (congrArg (fun z9 => va_D A (bMO k q (if rg 1 x 9999 = true then (if (sbM n (v, fl, nx, nl) x) < 31 then 0 else 2) else 1) ea fa ch tn he en ln sv wr dg ++ bI83 k (q 1) v ++ bI83 k (q 2) (if rg 1 x 9999 = true then v else be) ++ bF10 k (q 6) fl ++ bF10 k (q 10) (if rg 1 x 9999 = true then (itD n (v, fl, nx, nl) (sbM n (v, fl, nx, nl) x)).2.2.1 else nx) ++ bF10 k (q 11) z9)) e_10) hD
          exact W.iret (v := 0) hx hb hr (fun t9 ht hW => ⟨⟨_, (), rfl, (by first | (exfalso; omega) | (rw [if_pos hxr]; done) | (rw [if_pos hxr, sbM_at hno (decide_eq_true (by assumption)) (by omega)]; done) | (rw [if_pos hxr, sbM_at hno (decide_eq_true (by assumption)) (by omega), if_pos (by omega)]; done) | (rw [if_pos hxr, sbM_no hno (by omega), if_neg (by omega)]; done) | (rw [if_pos hxr, sbM_no hno (by omega), show i = 31 by omega]; done)), ⟨by rw [ht]; exact hP, va_K.moved hW.alike hK, hD⟩⟩, hS.F ht⟩) hS.2.2 dX13_shiftsUntilBelow_135 hlocks
      · skip
        have c_1 : ¬ 30 < i := fun h => c_1 ((nI_ltI (a := 30) (b := i) (by omega) (by omega)).mpr h)
        refine lv_aload_n hx hb dX13_shiftsUntilBelow_59 rfl (lv_at hl 0 rfl) ?_
        refine vp_callSf (W.runV (As := []) (rest := []) hF (m_X13_sum l9 D k q 0 ea fa ch tn he en ln sv wr dg ((itD n (v, fl, nx, nl) i).1) ((itD n (v, fl, nx, nl) i).2.1) n hn hT.1 hT.2.2.2.1) (cwV 0 hts gX13_shiftsUntilBelow_X13_sum rfl rfl rfl (by decide +kernel) ⟨Nat.le_of_ble_eq_true rfl, Nat.le_of_ble_eq_true rfl⟩) (rPreV hK hN hP [0, 1, 3] rfl 0 11 rfl rfl) rfl rfl hl.1 rfl (lv_room (Nat.le_of_ble_eq_true rfl)) dX13_shiftsUntilBelow_60 ⟨Nat.zero_le _, Nat.zero_le _⟩) (fun r_11 hr_11 => ?_)
        subst hr_11
        refine lv_iload_n hx hb dX13_shiftsUntilBelow_63 rfl (lv_at hl 1 rfl) ?_
        refine lv_i2f hx hb dX13_shiftsUntilBelow_64 ?_
        refine lv_fcmp hx hb dX13_shiftsUntilBelow_65 ?_
        refine lv_if_lt (tgt := 98) hx hb dX13_shiftsUntilBelow_66 (by decide) (fun c_12 => ?_) (fun c_12 => ?_)
        · skip
          have c_12 : ((FP.fcmp (smF ((itD n (v, fl, nx, nl) i).2.1) n) (FP.i2f x)) = some .lt ∨ (FP.fcmp (smF ((itD n (v, fl, nx, nl) i).2.1) n) (FP.i2f x)) = none) := (cmv_ltl _).mp c_12
          refine lv_aload_n hx hb dX13_shiftsUntilBelow_98 rfl (lv_at hl 0 rfl) ?_
          refine va_get (D := D) (ci := 11) (v := .ref (q 1)) (C := RX13) (T := TX13) (N := 29) hx hb hts kc_RX13 hown hK hP 0 rfl rfl 5 (by decide) k_fieldLink_16 (fun _ h9 => h9) rfl dX13_shiftsUntilBelow_99 ?_
          refine lv_aload_n hx hb dX13_shiftsUntilBelow_102 rfl (lv_at hl 0 rfl) ?_
          refine va_get (D := D) (ci := 11) (v := .ref (q 2)) (C := RX13) (T := TX13) (N := 29) hx hb hts kc_RX13 hown hK hP 0 rfl rfl 6 (by decide) k_fieldLink_20 (fun _ h9 => h9) rfl dX13_shiftsUntilBelow_103 ?_
          have hFc := va_free (wc := bI83 k (q 1) ((itD n (v, fl, nx, nl) i).1) ++ bI83 k (q 2) v) hD hS hA [1, 2] rfl
          refine va_callv (va_runS (As := [.ref (q 1), .ref (q 2)]) (rest := []) hF (m_X13_lays l9 D k H.size (q 1) (q 2) ((itD n (v, fl, nx, nl) i).1) v ) (va_cwS 2 hts gX13_shiftsUntilBelow_X13_lays rfl rfl rfl (by decide +kernel) ⟨Nat.le_of_ble_eq_true rfl, Nat.le_of_ble_eq_true rfl⟩) (wPreS hK hN hP hD [1, 2] rfl (by decide) rfl) rfl rfl hl.1 rfl (lv_room (Nat.le_of_ble_eq_true rfl)) dX13_shiftsUntilBelow_106 ⟨Nat.zero_le _, Nat.zero_le _⟩) hS (fun q _ h => hFc q h) hFc (fun u9 t9 H1 locs ht hvm hw hB hz1 hk1 hS => ?_)
          obtain ⟨hP, hD⟩ := wjoin (wr := bMO k q 0 ea fa ch tn he en ln sv wr dg ++ bF10 k (q 6) ((itD n (v, fl, nx, nl) i).2.1) ++ bF10 k (q 10) ((itD n (v, fl, nx, nl) i).2.2.1) ++ bF10 k (q 11) fl) (wf := bMO k q 0 ea fa ch tn he en ln sv wr dg ++ bI83 k (q 1) v ++ bI83 k (q 2) v ++ bF10 k (q 6) ((itD n (v, fl, nx, nl) i).2.1) ++ bF10 k (q 10) ((itD n (v, fl, nx, nl) i).2.2.1) ++ bF10 k (q 11) fl) hP hD [1, 2] [0, 3, 4, 5] [0, 4, 5, 1, 2, 3] rfl rfl (by decide) (by decide) hk1 hFc hB ht rfl rfl (by decide)
          clear hB hk1 hz1 hvm hFc
          clear ht
          clear t9
          generalize H1 = H at hP hS ⊢
          refine lv_aload_n hx hb dX13_shiftsUntilBelow_109 rfl (lv_at hl 0 rfl) ?_
          refine va_get (D := D) (ci := 11) (v := .ref (q 6)) (C := RX13) (T := TX13) (N := 29) hx hb hts kc_RX13 hown hK hP 0 rfl rfl 10 (by decide) k_fieldLink_32 (fun _ h9 => h9) rfl dX13_shiftsUntilBelow_110 ?_
          refine lv_aload_n hx hb dX13_shiftsUntilBelow_113 rfl (lv_at hl 0 rfl) ?_
          refine va_get (D := D) (ci := 11) (v := .ref (q 11)) (C := RX13) (T := TX13) (N := 29) hx hb hts kc_RX13 hown hK hP 0 rfl rfl 15 (by decide) k_fieldLink_48 (fun _ h9 => h9) rfl dX13_shiftsUntilBelow_114 ?_
          have hFc := va_free (wc := bF10 k (q 6) ((itD n (v, fl, nx, nl) i).2.1) ++ bF10 k (q 11) fl) hD hS hA [3, 5] rfl
          refine va_callv (va_runS (As := [.ref (q 6), .ref (q 11)]) (rest := []) hF (m_X13_flows l9 D k H.size (q 6) (q 11) ((itD n (v, fl, nx, nl) i).2.1) fl ) (va_cwS 2 hts gX13_shiftsUntilBelow_X13_flows rfl rfl rfl (by decide +kernel) ⟨Nat.le_of_ble_eq_true rfl, Nat.le_of_ble_eq_true rfl⟩) (wPreS hK hN hP hD [3, 5] rfl (by decide) rfl) rfl rfl hl.1 rfl (lv_room (Nat.le_of_ble_eq_true rfl)) dX13_shiftsUntilBelow_117 ⟨Nat.zero_le _, Nat.zero_le _⟩) hS (fun q _ h => hFc q h) hFc (fun u9 t9 H1 locs ht hvm hw hB hz1 hk1 hS => ?_)
          obtain ⟨hP, hD⟩ := wjoin (wr := bMO k q 0 ea fa ch tn he en ln sv wr dg ++ bI83 k (q 1) v ++ bI83 k (q 2) v ++ bF10 k (q 10) ((itD n (v, fl, nx, nl) i).2.2.1)) (wf := bMO k q 0 ea fa ch tn he en ln sv wr dg ++ bI83 k (q 1) v ++ bI83 k (q 2) v ++ bF10 k (q 6) fl ++ bF10 k (q 10) ((itD n (v, fl, nx, nl) i).2.2.1) ++ bF10 k (q 11) fl) hP hD [3, 5] [0, 1, 2, 4] [0, 1, 2, 4, 3, 5] rfl rfl (by decide) (by decide) hk1 hFc hB ht rfl rfl (by decide)
          clear hB hk1 hz1 hvm hFc
          clear ht
          clear t9
          generalize H1 = H at hP hS ⊢
          refine lv_iload_n hx hb dX13_shiftsUntilBelow_120 rfl (lv_at hl 2 rfl) ?_
          refine lv_bipush (v := 30) hx hb dX13_shiftsUntilBelow_121 (by decide) ?_
          refine lv_icmp_le (tgt := 134) hx hb dX13_shiftsUntilBelow_123 (by decide) (fun c_13 => ?_) (fun c_13 => ?_)
          · skip
            have c_13 : i ≤ 30 := (nI_leI (a := i) (b := 30) (by omega) (by omega)).mp c_13
            refine lv_iload_n hx hb dX13_shiftsUntilBelow_134 rfl (lv_at hl 2 rfl) ?_
            have e_14 : (0 : Int32) = if rg 1 x 9999 = true then (if (sbM n (v, fl, nx, nl) x) < 31 then 0 else 2) else 1 := by first | (with_reducible rfl) | (first | (exfalso; omega) | (rw [if_pos hxr]; done) | (rw [if_pos hxr, sbM_at hno (decide_eq_true (by assumption)) (by omega)]; done) | (rw [if_pos hxr, sbM_at hno (decide_eq_true (by assumption)) (by omega), if_pos (by omega)]; done) | (rw [if_pos hxr, sbM_no hno (by omega), if_neg (by omega)]; done) | (rw [if_pos hxr, sbM_no hno (by omega), show i = 31 by omega]; done))
            have hP := Eq.mp (congrArg (fun z9 => va_P D vwCl (bMO k q z9 ea fa ch tn he en ln sv wr dg ++ bI83 k (q 1) v ++ bI83 k (q 2) v ++ bF10 k (q 6) fl ++ bF10 k (q 10) ((itD n (v, fl, nx, nl) i).2.2.1) ++ bF10 k (q 11) fl) H) e_14) hP
            have hD := Eq.mp (congrArg (fun z9 => va_D A (bMO k q z9 ea fa ch tn he en ln sv wr dg ++ bI83 k (q 1) v ++ bI83 k (q 2) v ++ bF10 k (q 6) fl ++ bF10 k (q 10) ((itD n (v, fl, nx, nl) i).2.2.1) ++ bF10 k (q 11) fl)) e_14) hD
            have e_15 : (v : Nat → Int32) = if rg 1 x 9999 = true then v else be := by first | (with_reducible rfl) | (first | (exfalso; omega) | (rw [if_pos hxr]; done) | (rw [if_pos hxr, sbM_at hno (decide_eq_true (by assumption)) (by omega)]; done) | (rw [if_pos hxr, sbM_at hno (decide_eq_true (by assumption)) (by omega), if_pos (by omega)]; done) | (rw [if_pos hxr, sbM_no hno (by omega), if_neg (by omega)]; done) | (rw [if_pos hxr, sbM_no hno (by omega), show i = 31 by omega]; done))
            have hP := Eq.mp (congrArg (fun z9 => va_P D vwCl (bMO k q (if rg 1 x 9999 = true then (if (sbM n (v, fl, nx, nl) x) < 31 then 0 else 2) else 1) ea fa ch tn he en ln sv wr dg ++ bI83 k (q 1) v ++ bI83 k (q 2) z9 ++ bF10 k (q 6) fl ++ bF10 k (q 10) ((itD n (v, fl, nx, nl) i).2.2.1) ++ bF10 k (q 11) fl) H) e_15) hP
            have hD := Eq.mp (congrArg (fun z9 => va_D A (bMO k q (if rg 1 x 9999 = true then (if (sbM n (v, fl, nx, nl) x) < 31 then 0 else 2) else 1) ea fa ch tn he en ln sv wr dg ++ bI83 k (q 1) v ++ bI83 k (q 2) z9 ++ bF10 k (q 6) fl ++ bF10 k (q 10) ((itD n (v, fl, nx, nl) i).2.2.1) ++ bF10 k (q 11) fl)) e_15) hD
            have e_16 : ((itD n (v, fl, nx, nl) i).2.2.1 : Nat → UInt32) = if rg 1 x 9999 = true then (itD n (v, fl, nx, nl) (sbM n (v, fl, nx, nl) x)).2.2.1 else nx := by first | (with_reducible rfl) | (first | (exfalso; omega) | (rw [if_pos hxr]; done) | (rw [if_pos hxr, sbM_at hno (decide_eq_true (by assumption)) (by omega)]; done) | (rw [if_pos hxr, sbM_at hno (decide_eq_true (by assumption)) (by omega), if_pos (by omega)]; done) | (rw [if_pos hxr, sbM_no hno (by omega), if_neg (by omega)]; done) | (rw [if_pos hxr, sbM_no hno (by omega), show i = 31 by omega]; done))
            have hP := Eq.mp (congrArg (fun z9 => va_P D vwCl (bMO k q (if rg 1 x 9999 = true then (if (sbM n (v, fl, nx, nl) x) < 31 then 0 else 2) else 1) ea fa ch tn he en ln sv wr dg ++ bI83 k (q 1) v ++ bI83 k (q 2) (if rg 1 x 9999 = true then v else be) ++ bF10 k (q 6) fl ++ bF10 k (q 10) z9 ++ bF10 k (q 11) fl) H) e_16) hP
            have hD := Eq.mp (congrArg (fun z9 => va_D A (bMO k q (if rg 1 x 9999 = true then (if (sbM n (v, fl, nx, nl) x) < 31 then 0 else 2) else 1) ea fa ch tn he en ln sv wr dg ++ bI83 k (q 1) v ++ bI83 k (q 2) (if rg 1 x 9999 = true then v else be) ++ bF10 k (q 6) fl ++ bF10 k (q 10) z9 ++ bF10 k (q 11) fl)) e_16) hD
            have e_17 : (fl : Nat → UInt32) = if rg 1 x 9999 = true then fl else as := by first | (with_reducible rfl) | (first | (exfalso; omega) | (rw [if_pos hxr]; done) | (rw [if_pos hxr, sbM_at hno (decide_eq_true (by assumption)) (by omega)]; done) | (rw [if_pos hxr, sbM_at hno (decide_eq_true (by assumption)) (by omega), if_pos (by omega)]; done) | (rw [if_pos hxr, sbM_no hno (by omega), if_neg (by omega)]; done) | (rw [if_pos hxr, sbM_no hno (by omega), show i = 31 by omega]; done))
            have hP := Eq.mp (congrArg (fun z9 => va_P D vwCl (bMO k q (if rg 1 x 9999 = true then (if (sbM n (v, fl, nx, nl) x) < 31 then 0 else 2) else 1) ea fa ch tn he en ln sv wr dg ++ bI83 k (q 1) v ++ bI83 k (q 2) (if rg 1 x 9999 = true then v else be) ++ bF10 k (q 6) fl ++ bF10 k (q 10) (if rg 1 x 9999 = true then (itD n (v, fl, nx, nl) (sbM n (v, fl, nx, nl) x)).2.2.1 else nx) ++ bF10 k (q 11) z9) H) e_17) hP
            have hD := Eq.mp (congrArg (fun z9 => va_D A (bMO k q (if rg 1 x 9999 = true then (if (sbM n (v, fl, nx, nl) x) < 31 then 0 else 2) else 1) ea fa ch tn he en ln sv wr dg ++ bI83 k (q 1) v ++ bI83 k (q 2) (if rg 1 x 9999 = true then v else be) ++ bF10 k (q 6) fl ++ bF10 k (q 10) (if rg 1 x 9999 = true then (itD n (v, fl, nx, nl) (sbM n (v, fl, nx, nl) x)).2.2.1 else nx) ++ bF10 k (q 11) z9)) e_17) hD
            exact W.iret (v := nI i) hx hb hr (fun t9 ht hW => ⟨⟨_, (), rfl, (by first | (exfalso; omega) | (rw [if_pos hxr]; done) | (rw [if_pos hxr, sbM_at hno (decide_eq_true (by assumption)) (by omega)]; done) | (rw [if_pos hxr, sbM_at hno (decide_eq_true (by assumption)) (by omega), if_pos (by omega)]; done) | (rw [if_pos hxr, sbM_no hno (by omega), if_neg (by omega)]; done) | (rw [if_pos hxr, sbM_no hno (by omega), show i = 31 by omega]; done)), ⟨by rw [ht]; exact hP, va_K.moved hW.alike hK, hD⟩⟩, hS.F ht⟩) hS.2.2 dX13_shiftsUntilBelow_135 hlocks
          · skip
            have c_13 : ¬ i ≤ 30 := fun h => c_13 ((nI_leI (a := i) (b := 30) (by omega) (by omega)).mpr h)
            refine lv_aload_n hx hb dX13_shiftsUntilBelow_126 rfl (lv_at hl 0 rfl) ?_
            refine lv_iconst (v := 2) hx hb dX13_shiftsUntilBelow_127 (by decide) ?_
            have hFc := va_free (wc := bMO k q 0 ea fa ch tn he en ln sv wr dg) hD hS hA [0] rfl
            refine va_calli (va_runV (As := [.int 2]) (rest := []) hF (m_X13_fail l9 D k H.size q 0 ea fa ch tn he en ln sv wr dg 2 ) (cwV 1 hts gX13_shiftsUntilBelow_X13_fail rfl rfl rfl (by decide +kernel) ⟨Nat.le_of_ble_eq_true rfl, Nat.le_of_ble_eq_true rfl⟩) (wPreV hK hN hP hD [0] rfl (by decide) rfl 0 11 rfl rfl) rfl rfl hl.1 rfl (lv_room (Nat.le_of_ble_eq_true rfl)) dX13_shiftsUntilBelow_128 ⟨Nat.zero_le _, Nat.zero_le _⟩) hS (fun q _ h => hFc q h) hFc (fun r u9 t9 H1 locs ht hvm hw hB hz1 hk1 hS => ?_)
            obtain ⟨hP, hD⟩ := wjoin (wr := bI83 k (q 1) v ++ bI83 k (q 2) v ++ bF10 k (q 6) fl ++ bF10 k (q 10) ((itD n (v, fl, nx, nl) i).2.2.1) ++ bF10 k (q 11) fl) (wf := bMO k q 2 ea fa ch tn he en ln sv wr dg ++ bI83 k (q 1) v ++ bI83 k (q 2) v ++ bF10 k (q 6) fl ++ bF10 k (q 10) ((itD n (v, fl, nx, nl) i).2.2.1) ++ bF10 k (q 11) fl) hP hD [0] [1, 2, 3, 4, 5] [5, 0, 1, 2, 3, 4] rfl rfl (by decide) (by decide) hk1 hFc hB ht rfl rfl (by decide)
            subst hw
            clear hB hk1 hz1 hvm hFc
            clear ht
            clear t9
            generalize H1 = H at hP hS ⊢
            refine lv_goto (tgt := 135) hx hb dX13_shiftsUntilBelow_131 (by decide) ?_
            have e_18 : (2 : Int32) = if rg 1 x 9999 = true then (if (sbM n (v, fl, nx, nl) x) < 31 then 0 else 2) else 1 := by first | (with_reducible rfl) | (first | (exfalso; omega) | (rw [if_pos hxr]; done) | (rw [if_pos hxr, sbM_at hno (decide_eq_true (by assumption)) (by omega)]; done) | (rw [if_pos hxr, sbM_at hno (decide_eq_true (by assumption)) (by omega), if_pos (by omega)]; done) | (rw [if_pos hxr, sbM_no hno (by omega), if_neg (by omega)]; done) | (rw [if_pos hxr, sbM_no hno (by omega), show i = 31 by omega]; done))
            have hP := Eq.mp (congrArg (fun z9 => va_P D vwCl (bMO k q z9 ea fa ch tn he en ln sv wr dg ++ bI83 k (q 1) v ++ bI83 k (q 2) v ++ bF10 k (q 6) fl ++ bF10 k (q 10) ((itD n (v, fl, nx, nl) i).2.2.1) ++ bF10 k (q 11) fl) H) e_18) hP
            have hD := Eq.mp (congrArg (fun z9 => va_D A (bMO k q z9 ea fa ch tn he en ln sv wr dg ++ bI83 k (q 1) v ++ bI83 k (q 2) v ++ bF10 k (q 6) fl ++ bF10 k (q 10) ((itD n (v, fl, nx, nl) i).2.2.1) ++ bF10 k (q 11) fl)) e_18) hD
            have e_19 : (v : Nat → Int32) = if rg 1 x 9999 = true then v else be := by first | (with_reducible rfl) | (first | (exfalso; omega) | (rw [if_pos hxr]; done) | (rw [if_pos hxr, sbM_at hno (decide_eq_true (by assumption)) (by omega)]; done) | (rw [if_pos hxr, sbM_at hno (decide_eq_true (by assumption)) (by omega), if_pos (by omega)]; done) | (rw [if_pos hxr, sbM_no hno (by omega), if_neg (by omega)]; done) | (rw [if_pos hxr, sbM_no hno (by omega), show i = 31 by omega]; done))
            have hP := Eq.mp (congrArg (fun z9 => va_P D vwCl (bMO k q (if rg 1 x 9999 = true then (if (sbM n (v, fl, nx, nl) x) < 31 then 0 else 2) else 1) ea fa ch tn he en ln sv wr dg ++ bI83 k (q 1) v ++ bI83 k (q 2) z9 ++ bF10 k (q 6) fl ++ bF10 k (q 10) ((itD n (v, fl, nx, nl) i).2.2.1) ++ bF10 k (q 11) fl) H) e_19) hP
            have hD := Eq.mp (congrArg (fun z9 => va_D A (bMO k q (if rg 1 x 9999 = true then (if (sbM n (v, fl, nx, nl) x) < 31 then 0 else 2) else 1) ea fa ch tn he en ln sv wr dg ++ bI83 k (q 1) v ++ bI83 k (q 2) z9 ++ bF10 k (q 6) fl ++ bF10 k (q 10) ((itD n (v, fl, nx, nl) i).2.2.1) ++ bF10 k (q 11) fl)) e_19) hD
            have e_20 : ((itD n (v, fl, nx, nl) i).2.2.1 : Nat → UInt32) = if rg 1 x 9999 = true then (itD n (v, fl, nx, nl) (sbM n (v, fl, nx, nl) x)).2.2.1 else nx := by first | (with_reducible rfl) | (first | (exfalso; omega) | (rw [if_pos hxr]; done) | (rw [if_pos hxr, sbM_at hno (decide_eq_true (by assumption)) (by omega)]; done) | (rw [if_pos hxr, sbM_at hno (decide_eq_true (by assumption)) (by omega), if_pos (by omega)]; done) | (rw [if_pos hxr, sbM_no hno (by omega), if_neg (by omega)]; done) | (rw [if_pos hxr, sbM_no hno (by omega), show i = 31 by omega]; done))
            have hP := Eq.mp (congrArg (fun z9 => va_P D vwCl (bMO k q (if rg 1 x 9999 = true then (if (sbM n (v, fl, nx, nl) x) < 31 then 0 else 2) else 1) ea fa ch tn he en ln sv wr dg ++ bI83 k (q 1) v ++ bI83 k (q 2) (if rg 1 x 9999 = true then v else be) ++ bF10 k (q 6) fl ++ bF10 k (q 10) z9 ++ bF10 k (q 11) fl) H) e_20) hP
            have hD := Eq.mp (congrArg (fun z9 => va_D A (bMO k q (if rg 1 x 9999 = true then (if (sbM n (v, fl, nx, nl) x) < 31 then 0 else 2) else 1) ea fa ch tn he en ln sv wr dg ++ bI83 k (q 1) v ++ bI83 k (q 2) (if rg 1 x 9999 = true then v else be) ++ bF10 k (q 6) fl ++ bF10 k (q 10) z9 ++ bF10 k (q 11) fl)) e_20) hD
            have e_21 : (fl : Nat → UInt32) = if rg 1 x 9999 = true then fl else as := by first | (with_reducible rfl) | (first | (exfalso; omega) | (rw [if_pos hxr]; done) | (rw [if_pos hxr, sbM_at hno (decide_eq_true (by assumption)) (by omega)]; done) | (rw [if_pos hxr, sbM_at hno (decide_eq_true (by assumption)) (by omega), if_pos (by omega)]; done) | (rw [if_pos hxr, sbM_no hno (by omega), if_neg (by omega)]; done) | (rw [if_pos hxr, sbM_no hno (by omega), show i = 31 by omega]; done))
            have hP := Eq.mp (congrArg (fun z9 => va_P D vwCl (bMO k q (if rg 1 x 9999 = true then (if (sbM n (v, fl, nx, nl) x) < 31 then 0 else 2) else 1) ea fa ch tn he en ln sv wr dg ++ bI83 k (q 1) v ++ bI83 k (q 2) (if rg 1 x 9999 = true then v else be) ++ bF10 k (q 6) fl ++ bF10 k (q 10) (if rg 1 x 9999 = true then (itD n (v, fl, nx, nl) (sbM n (v, fl, nx, nl) x)).2.2.1 else nx) ++ bF10 k (q 11) z9) H) e_21) hP
            have hD := Eq.mp (congrArg (fun z9 => va_D A (bMO k q (if rg 1 x 9999 = true then (if (sbM n (v, fl, nx, nl) x) < 31 then 0 else 2) else 1) ea fa ch tn he en ln sv wr dg ++ bI83 k (q 1) v ++ bI83 k (q 2) (if rg 1 x 9999 = true then v else be) ++ bF10 k (q 6) fl ++ bF10 k (q 10) (if rg 1 x 9999 = true then (itD n (v, fl, nx, nl) (sbM n (v, fl, nx, nl) x)).2.2.1 else nx) ++ bF10 k (q 11) z9)) e_21) hD
            exact W.iret (v := 0) hx hb hr (fun t9 ht hW => ⟨⟨_, (), rfl, (by first | (exfalso; omega) | (rw [if_pos hxr]; done) | (rw [if_pos hxr, sbM_at hno (decide_eq_true (by assumption)) (by omega)]; done) | (rw [if_pos hxr, sbM_at hno (decide_eq_true (by assumption)) (by omega), if_pos (by omega)]; done) | (rw [if_pos hxr, sbM_no hno (by omega), if_neg (by omega)]; done) | (rw [if_pos hxr, sbM_no hno (by omega), show i = 31 by omega]; done)), ⟨by rw [ht]; exact hP, va_K.moved hW.alike hK, hD⟩⟩, hS.F ht⟩) hS.2.2 dX13_shiftsUntilBelow_135 hlocks
        · skip
          have c_12 : ¬ ((FP.fcmp (smF ((itD n (v, fl, nx, nl) i).2.1) n) (FP.i2f x)) = some .lt ∨ (FP.fcmp (smF ((itD n (v, fl, nx, nl) i).2.1) n) (FP.i2f x)) = none) := fun h => c_12 ((cmv_ltl _).mpr h)
          refine lv_aload_n hx hb dX13_shiftsUntilBelow_69 rfl (lv_at hl 0 rfl) ?_
          have hFc := va_free (wc := bMO k q 0 ea fa ch tn he en ln sv wr dg ++ bI83 k (q 1) ((itD n (v, fl, nx, nl) i).1) ++ bF10 k (q 6) ((itD n (v, fl, nx, nl) i).2.1) ++ bF10 k (q 10) ((itD n (v, fl, nx, nl) i).2.2.1)) hD hS hA [0, 1, 3, 4] rfl
          refine va_callv (va_runV (As := []) (rest := []) hF (m_X13_decays l9 D k H.size q 0 ea fa ch tn he en ln sv wr dg ((itD n (v, fl, nx, nl) i).1) ((itD n (v, fl, nx, nl) i).2.1) ((itD n (v, fl, nx, nl) i).2.2.1) n hn hT.1 hT.2.2.2.1 hT.2.2.2.2) (cwV 0 hts gX13_shiftsUntilBelow_X13_decays rfl rfl rfl (by decide +kernel) ⟨Nat.le_of_ble_eq_true rfl, Nat.le_of_ble_eq_true rfl⟩) (wPreV hK hN hP hD [0, 1, 3, 4] rfl (by decide) rfl 0 11 rfl rfl) rfl rfl hl.1 rfl (lv_room (Nat.le_of_ble_eq_true rfl)) dX13_shiftsUntilBelow_70 ⟨Nat.zero_le _, Nat.zero_le _⟩) hS (fun q _ h => hFc q h) hFc (fun u9 t9 H1 locs ht hvm hw hB hz1 hk1 hS => ?_)
          obtain ⟨hP, hD⟩ := wjoin (wr := bI83 k (q 2) v ++ bF10 k (q 11) fl) (wf := bMO k q 0 ea fa ch tn he en ln sv wr dg ++ bI83 k (q 1) ((itD n (v, fl, nx, nl) i).1) ++ bI83 k (q 2) v ++ bF10 k (q 6) (flM n ((itD n (v, fl, nx, nl) i).1) ((itD n (v, fl, nx, nl) i).2.1) ((itD n (v, fl, nx, nl) i).2.2.1)) ++ bF10 k (q 10) (frM n ((itD n (v, fl, nx, nl) i).1) ((itD n (v, fl, nx, nl) i).2.1) ((itD n (v, fl, nx, nl) i).2.2.1) n) ++ bF10 k (q 11) fl) hP hD [0, 1, 3, 4] [2, 5] [2, 3, 0, 4, 5, 1] rfl rfl (by decide) (by decide) hk1 hFc hB ht rfl rfl (by decide)
          clear hB hk1 hz1 hvm hFc
          clear ht
          clear t9
          generalize H1 = H at hP hS ⊢
          refine lv_aload_n hx hb dX13_shiftsUntilBelow_73 rfl (lv_at hl 0 rfl) ?_
          refine vp_callSf (W.runV (As := []) (rest := []) hF (m_X13_sum l9 D k q 0 ea fa ch tn he en ln sv wr dg ((itD n (v, fl, nx, nl) i).1) (flM n ((itD n (v, fl, nx, nl) i).1) ((itD n (v, fl, nx, nl) i).2.1) ((itD n (v, fl, nx, nl) i).2.2.1)) n hn hT.1 (okF_flM hT.2.2.2.1 _)) (cwV 0 hts gX13_shiftsUntilBelow_X13_sum rfl rfl rfl (by decide +kernel) ⟨Nat.le_of_ble_eq_true rfl, Nat.le_of_ble_eq_true rfl⟩) (rPreV hK hN hP [0, 1, 3] rfl 0 11 rfl rfl) rfl rfl hl.1 rfl (lv_room (Nat.le_of_ble_eq_true rfl)) dX13_shiftsUntilBelow_74 ⟨Nat.zero_le _, Nat.zero_le _⟩) (fun r_22 hr_22 => ?_)
          subst hr_22
          refine lv_aload_n hx hb dX13_shiftsUntilBelow_77 rfl (lv_at hl 0 rfl) ?_
          refine va_get (D := D) (ci := 11) (v := .ref (q 1)) (C := RX13) (T := TX13) (N := 29) hx hb hts kc_RX13 hown hK hP 0 rfl rfl 5 (by decide) k_fieldLink_16 (fun _ h9 => h9) rfl dX13_shiftsUntilBelow_78 ?_
          refine lv_iconst (v := 1) hx hb dX13_shiftsUntilBelow_81 (by decide) ?_
          refine ia_ld hx hb hK hP 1 rfl 1 (by omega) (by decide) dX13_shiftsUntilBelow_82 ?_
          refine lv_i2f hx hb dX13_shiftsUntilBelow_83 ?_
          refine lv_fcmp hx hb dX13_shiftsUntilBelow_84 ?_
          refine lv_if_le (tgt := 92) hx hb dX13_shiftsUntilBelow_85 (by decide) (fun c_23 => ?_) (fun c_23 => ?_)
          · skip
            have c_23 : ¬ (FP.fcmp (smF (flM n ((itD n (v, fl, nx, nl) i).1) ((itD n (v, fl, nx, nl) i).2.1) ((itD n (v, fl, nx, nl) i).2.2.1)) n) (FP.i2f (((itD n (v, fl, nx, nl) i).1) 1))) = some .gt := (cmv_le _).mp c_23
            have hov : ovM n (itD n (v, fl, nx, nl) i) = false := decide_eq_false c_23
            refine lv_iinc (v := nI (i + 1)) (lv' := [(2, .int (nI (i + 1))), (0, .ref (q 0)), (1, .int x)]) hx hb dX13_shiftsUntilBelow_92 hl (k := 2) rfl (nI_inc i) (by decide) rfl (fun ls hl => ?_)
            refine lv_goto (tgt := 53) hx hb dX13_shiftsUntilBelow_95 (by decide) ?_
            have e_24 : (((itD n (v, fl, nx, nl) i).1) : Nat → Int32) = (itD n (v, fl, nx, nl) (i + 1)).1 := by first | (with_reducible rfl) | (exact (ovM_f hov).1.symm)
            have hP := Eq.mp (congrArg (fun z9 => va_P D vwCl (bMO k q 0 ea fa ch tn he en ln sv wr dg ++ bI83 k (q 1) z9 ++ bI83 k (q 2) v ++ bF10 k (q 6) (flM n ((itD n (v, fl, nx, nl) i).1) ((itD n (v, fl, nx, nl) i).2.1) ((itD n (v, fl, nx, nl) i).2.2.1)) ++ bF10 k (q 10) (frM n ((itD n (v, fl, nx, nl) i).1) ((itD n (v, fl, nx, nl) i).2.1) ((itD n (v, fl, nx, nl) i).2.2.1) n) ++ bF10 k (q 11) fl) H) e_24) hP
            have hD := Eq.mp (congrArg (fun z9 => va_D A (bMO k q 0 ea fa ch tn he en ln sv wr dg ++ bI83 k (q 1) z9 ++ bI83 k (q 2) v ++ bF10 k (q 6) (flM n ((itD n (v, fl, nx, nl) i).1) ((itD n (v, fl, nx, nl) i).2.1) ((itD n (v, fl, nx, nl) i).2.2.1)) ++ bF10 k (q 10) (frM n ((itD n (v, fl, nx, nl) i).1) ((itD n (v, fl, nx, nl) i).2.1) ((itD n (v, fl, nx, nl) i).2.2.1) n) ++ bF10 k (q 11) fl)) e_24) hD
            have e_25 : (flM n ((itD n (v, fl, nx, nl) i).1) ((itD n (v, fl, nx, nl) i).2.1) ((itD n (v, fl, nx, nl) i).2.2.1) : Nat → UInt32) = (itD n (v, fl, nx, nl) (i + 1)).2.1 := by first | (with_reducible rfl) | (rfl)
            have hP := Eq.mp (congrArg (fun z9 => va_P D vwCl (bMO k q 0 ea fa ch tn he en ln sv wr dg ++ bI83 k (q 1) ((itD n (v, fl, nx, nl) (i + 1)).1) ++ bI83 k (q 2) v ++ bF10 k (q 6) z9 ++ bF10 k (q 10) (frM n ((itD n (v, fl, nx, nl) i).1) ((itD n (v, fl, nx, nl) i).2.1) ((itD n (v, fl, nx, nl) i).2.2.1) n) ++ bF10 k (q 11) fl) H) e_25) hP
            have hD := Eq.mp (congrArg (fun z9 => va_D A (bMO k q 0 ea fa ch tn he en ln sv wr dg ++ bI83 k (q 1) ((itD n (v, fl, nx, nl) (i + 1)).1) ++ bI83 k (q 2) v ++ bF10 k (q 6) z9 ++ bF10 k (q 10) (frM n ((itD n (v, fl, nx, nl) i).1) ((itD n (v, fl, nx, nl) i).2.1) ((itD n (v, fl, nx, nl) i).2.2.1) n) ++ bF10 k (q 11) fl)) e_25) hD
            have e_26 : (frM n ((itD n (v, fl, nx, nl) i).1) ((itD n (v, fl, nx, nl) i).2.1) ((itD n (v, fl, nx, nl) i).2.2.1) n : Nat → UInt32) = (itD n (v, fl, nx, nl) (i + 1)).2.2.1 := by first | (with_reducible rfl) | (rfl)
            have hP := Eq.mp (congrArg (fun z9 => va_P D vwCl (bMO k q 0 ea fa ch tn he en ln sv wr dg ++ bI83 k (q 1) ((itD n (v, fl, nx, nl) (i + 1)).1) ++ bI83 k (q 2) v ++ bF10 k (q 6) ((itD n (v, fl, nx, nl) (i + 1)).2.1) ++ bF10 k (q 10) z9 ++ bF10 k (q 11) fl) H) e_26) hP
            have hD := Eq.mp (congrArg (fun z9 => va_D A (bMO k q 0 ea fa ch tn he en ln sv wr dg ++ bI83 k (q 1) ((itD n (v, fl, nx, nl) (i + 1)).1) ++ bI83 k (q 2) v ++ bF10 k (q 6) ((itD n (v, fl, nx, nl) (i + 1)).2.1) ++ bF10 k (q 10) z9 ++ bF10 k (q 11) fl)) e_26) hD
            exact ih_53 (i + 1) (by omega) (fun c hc => (Nat.lt_succ_iff_lt_or_eq.mp hc).elim (hno c) (fun e => by rw [e]; exact decide_eq_false (by assumption))) hxr (by omega) ls _ _ hP hD hS (lv_one hl 1 rfl rfl (lv_one hl 2 rfl rfl (lv_one hl 0 rfl rfl (lv_nil hl))))
          · skip
            have c_23 : (FP.fcmp (smF (flM n ((itD n (v, fl, nx, nl) i).1) ((itD n (v, fl, nx, nl) i).2.1) ((itD n (v, fl, nx, nl) i).2.2.1)) n) (FP.i2f (((itD n (v, fl, nx, nl) i).1) 1))) = some .gt := Classical.byContradiction (fun h => c_23 ((cmv_le _).mpr h))
            have hov : ovM n (itD n (v, fl, nx, nl) i) = true := decide_eq_true c_23
            refine lv_aload_n hx hb dX13_shiftsUntilBelow_88 rfl (lv_at hl 0 rfl) ?_
            have hFc := va_free (wc := bMO k q 0 ea fa ch tn he en ln sv wr dg ++ bI83 k (q 1) ((itD n (v, fl, nx, nl) i).1)) hD hS hA [0, 1] rfl
            refine va_callv (va_runV (As := []) (rest := []) hF (m_X13_scram l9 D k H.size q 0 ea fa ch tn he en ln sv wr dg ((itD n (v, fl, nx, nl) i).1) ((itD n (v, fl, nx, nl) i).2.2.2) hT.2.2.1 hT.2.1) (cwV 0 hts gX13_shiftsUntilBelow_X13_scram rfl rfl rfl (by decide +kernel) ⟨Nat.le_of_ble_eq_true rfl, Nat.le_of_ble_eq_true rfl⟩) (wPreV hK hN hP hD [0, 1] rfl (by decide) rfl 0 11 rfl rfl) rfl rfl hl.1 rfl (lv_room (Nat.le_of_ble_eq_true rfl)) dX13_shiftsUntilBelow_89 ⟨Nat.zero_le _, Nat.zero_le _⟩) hS (fun q _ h => hFc q h) hFc (fun u9 t9 H1 locs ht hvm hw hB hz1 hk1 hS => ?_)
            obtain ⟨hP, hD⟩ := wjoin (wr := bI83 k (q 2) v ++ bF10 k (q 6) (flM n ((itD n (v, fl, nx, nl) i).1) ((itD n (v, fl, nx, nl) i).2.1) ((itD n (v, fl, nx, nl) i).2.2.1)) ++ bF10 k (q 10) (frM n ((itD n (v, fl, nx, nl) i).1) ((itD n (v, fl, nx, nl) i).2.1) ((itD n (v, fl, nx, nl) i).2.2.1) n) ++ bF10 k (q 11) fl) (wf := bMO k q 0 ea fa ch tn he en ln sv wr dg ++ bI83 k (q 1) (scV ((itD n (v, fl, nx, nl) i).1) ((itD n (v, fl, nx, nl) i).2.2.2)) ++ bI83 k (q 2) v ++ bF10 k (q 6) (flM n ((itD n (v, fl, nx, nl) i).1) ((itD n (v, fl, nx, nl) i).2.1) ((itD n (v, fl, nx, nl) i).2.2.1)) ++ bF10 k (q 10) (frM n ((itD n (v, fl, nx, nl) i).1) ((itD n (v, fl, nx, nl) i).2.1) ((itD n (v, fl, nx, nl) i).2.2.1) n) ++ bF10 k (q 11) fl) hP hD [0, 1] [2, 3, 4, 5] [4, 5, 0, 1, 2, 3] rfl rfl (by decide) (by decide) hk1 hFc hB ht rfl rfl (by decide)
            clear hB hk1 hz1 hvm hFc
            clear ht
            clear t9
            generalize H1 = H at hP hS ⊢
            refine lv_iinc (v := nI (i + 1)) (lv' := [(2, .int (nI (i + 1))), (0, .ref (q 0)), (1, .int x)]) hx hb dX13_shiftsUntilBelow_92 hl (k := 2) rfl (nI_inc i) (by decide) rfl (fun ls hl => ?_)
            refine lv_goto (tgt := 53) hx hb dX13_shiftsUntilBelow_95 (by decide) ?_
            have e_27 : (scV ((itD n (v, fl, nx, nl) i).1) ((itD n (v, fl, nx, nl) i).2.2.2) : Nat → Int32) = (itD n (v, fl, nx, nl) (i + 1)).1 := by first | (with_reducible rfl) | (exact (ovM_t hov).1.symm)
            have hP := Eq.mp (congrArg (fun z9 => va_P D vwCl (bMO k q 0 ea fa ch tn he en ln sv wr dg ++ bI83 k (q 1) z9 ++ bI83 k (q 2) v ++ bF10 k (q 6) (flM n ((itD n (v, fl, nx, nl) i).1) ((itD n (v, fl, nx, nl) i).2.1) ((itD n (v, fl, nx, nl) i).2.2.1)) ++ bF10 k (q 10) (frM n ((itD n (v, fl, nx, nl) i).1) ((itD n (v, fl, nx, nl) i).2.1) ((itD n (v, fl, nx, nl) i).2.2.1) n) ++ bF10 k (q 11) fl) H) e_27) hP
            have hD := Eq.mp (congrArg (fun z9 => va_D A (bMO k q 0 ea fa ch tn he en ln sv wr dg ++ bI83 k (q 1) z9 ++ bI83 k (q 2) v ++ bF10 k (q 6) (flM n ((itD n (v, fl, nx, nl) i).1) ((itD n (v, fl, nx, nl) i).2.1) ((itD n (v, fl, nx, nl) i).2.2.1)) ++ bF10 k (q 10) (frM n ((itD n (v, fl, nx, nl) i).1) ((itD n (v, fl, nx, nl) i).2.1) ((itD n (v, fl, nx, nl) i).2.2.1) n) ++ bF10 k (q 11) fl)) e_27) hD
            have e_28 : (flM n ((itD n (v, fl, nx, nl) i).1) ((itD n (v, fl, nx, nl) i).2.1) ((itD n (v, fl, nx, nl) i).2.2.1) : Nat → UInt32) = (itD n (v, fl, nx, nl) (i + 1)).2.1 := by first | (with_reducible rfl) | (rfl)
            have hP := Eq.mp (congrArg (fun z9 => va_P D vwCl (bMO k q 0 ea fa ch tn he en ln sv wr dg ++ bI83 k (q 1) ((itD n (v, fl, nx, nl) (i + 1)).1) ++ bI83 k (q 2) v ++ bF10 k (q 6) z9 ++ bF10 k (q 10) (frM n ((itD n (v, fl, nx, nl) i).1) ((itD n (v, fl, nx, nl) i).2.1) ((itD n (v, fl, nx, nl) i).2.2.1) n) ++ bF10 k (q 11) fl) H) e_28) hP
            have hD := Eq.mp (congrArg (fun z9 => va_D A (bMO k q 0 ea fa ch tn he en ln sv wr dg ++ bI83 k (q 1) ((itD n (v, fl, nx, nl) (i + 1)).1) ++ bI83 k (q 2) v ++ bF10 k (q 6) z9 ++ bF10 k (q 10) (frM n ((itD n (v, fl, nx, nl) i).1) ((itD n (v, fl, nx, nl) i).2.1) ((itD n (v, fl, nx, nl) i).2.2.1) n) ++ bF10 k (q 11) fl)) e_28) hD
            have e_29 : (frM n ((itD n (v, fl, nx, nl) i).1) ((itD n (v, fl, nx, nl) i).2.1) ((itD n (v, fl, nx, nl) i).2.2.1) n : Nat → UInt32) = (itD n (v, fl, nx, nl) (i + 1)).2.2.1 := by first | (with_reducible rfl) | (rfl)
            have hP := Eq.mp (congrArg (fun z9 => va_P D vwCl (bMO k q 0 ea fa ch tn he en ln sv wr dg ++ bI83 k (q 1) ((itD n (v, fl, nx, nl) (i + 1)).1) ++ bI83 k (q 2) v ++ bF10 k (q 6) ((itD n (v, fl, nx, nl) (i + 1)).2.1) ++ bF10 k (q 10) z9 ++ bF10 k (q 11) fl) H) e_29) hP
            have hD := Eq.mp (congrArg (fun z9 => va_D A (bMO k q 0 ea fa ch tn he en ln sv wr dg ++ bI83 k (q 1) ((itD n (v, fl, nx, nl) (i + 1)).1) ++ bI83 k (q 2) v ++ bF10 k (q 6) ((itD n (v, fl, nx, nl) (i + 1)).2.1) ++ bF10 k (q 10) z9 ++ bF10 k (q 11) fl)) e_29) hD
            exact ih_53 (i + 1) (by omega) (fun c hc => (Nat.lt_succ_iff_lt_or_eq.mp hc).elim (hno c) (fun e => by rw [e]; exact decide_eq_false (by assumption))) hxr (by omega) ls _ _ hP hD hS (lv_one hl 1 rfl rfl (lv_one hl 2 rfl rfl (lv_one hl 0 rfl rfl (lv_nil hl))))
  refine lv_aload_n hx hb dX13_shiftsUntilBelow_0 rfl (lv_at hl 0 rfl) ?_
  refine lv_iload_n hx hb dX13_shiftsUntilBelow_1 rfl (lv_at hl 1 rfl) ?_
  refine lv_iconst (v := 1) hx hb dX13_shiftsUntilBelow_2 (by decide) ?_
  refine lv_sipush (v := 9999) hx hb dX13_shiftsUntilBelow_3 (by decide) ?_
  refine vp_callSi (W.runS (As := [.int x, .int 1, .int 9999]) (rest := [.ref (q 0)]) hF (m_X13_isIn l9 D k x 1 9999 ) (va_cwS 3 hts gX13_shiftsUntilBelow_X13_isIn rfl rfl rfl (by decide +kernel) ⟨Nat.le_of_ble_eq_true rfl, Nat.le_of_ble_eq_true rfl⟩) (rPreS hK hN hP [] rfl) rfl rfl hl.1 rfl (lv_room (Nat.le_of_ble_eq_true rfl)) dX13_shiftsUntilBelow_6 ⟨Nat.zero_le _, Nat.zero_le _⟩) (fun r_30 hr_30 => ?_)
  subst hr_30
  refine lv_if_eq (tgt := 16) hx hb dX13_shiftsUntilBelow_9 (by decide) (fun c_31 => ?_) (fun c_31 => ?_)
  · skip
    have c_31 : (rg 1 x 9999) = false := bI_0 c_31
    refine lv_iconst (v := 1) hx hb dX13_shiftsUntilBelow_16 (by decide) ?_
    refine va_put (D := D) (ci := 11) (v := .int 1) (ty := .int) (C := RX13) (T := TX13) (N := 29) hx hb hts kc_RX13 tyX13 tyX13_ok nmX13 hown hK hP hD hS 0 rfl rfl 0 (by decide) k_fieldLink_77 (fun _ h9 => h9) rfl (by decide +kernel) rfl rfl (Nat.le_of_ble_eq_true rfl) dX13_shiftsUntilBelow_17 (fun H locs hP hD hS => ?_)
    have hP : va_P D vwCl (bMO k q 1 ea fa ch tn he en ln sv wr dg ++ bI83 k (q 1) v ++ bI83 k (q 2) be ++ bF10 k (q 6) fl ++ bF10 k (q 10) nx ++ bF10 k (q 11) as) H := hP
    have hD : va_D A (bMO k q 1 ea fa ch tn he en ln sv wr dg ++ bI83 k (q 1) v ++ bI83 k (q 2) be ++ bF10 k (q 6) fl ++ bF10 k (q 10) nx ++ bF10 k (q 11) as) := hD
    refine lv_aload_n hx hb dX13_shiftsUntilBelow_20 rfl (lv_at hl 0 rfl) ?_
    refine va_get (D := D) (ci := 11) (v := .int 1) (C := RX13) (T := TX13) (N := 29) hx hb hts kc_RX13 hown hK hP 0 rfl rfl 0 (by decide) k_fieldLink_77 (fun _ h9 => h9) rfl dX13_shiftsUntilBelow_21 ?_
    refine lv_if_eq (tgt := 29) hx hb dX13_shiftsUntilBelow_24 (by decide) (fun c_32 => ?_) (fun c_32 => ?_)
    · first | exact absurd c_32 (by decide) | exact absurd (by decide) c_32
    · skip
      refine lv_iconst (v := 0) hx hb dX13_shiftsUntilBelow_27 (by decide) ?_
      have e_33 : (1 : Int32) = if rg 1 x 9999 = true then (if (sbM n (v, fl, nx, nl) x) < 31 then 0 else 2) else 1 := by first | (with_reducible rfl) | ((try simp only []); (repeat (first | rw [if_pos (by first | assumption | exact Eq.trans (b := false) (by assumption) (Eq.symm (by assumption)) | exact Eq.trans (b := true) (by assumption) (Eq.symm (by assumption)) | exact ⟨by assumption, by assumption⟩ | exact Or.inl (by assumption) | exact Or.inr (by assumption) | exact Or.inr (Or.inl (by assumption)) | exact Or.inr (Or.inr (by assumption)) | (simp only [Int32.lt_iff_toInt_lt, Int32.le_iff_toInt_le, i32_0, i32_1, i32_2, i32_3, i32_4, i32_9, i32_10, i32_99, i32_100, i32_1000, i32_9999] at *; omega))] | rw [if_neg (by first | assumption | (rintro (h9 | h9 | h9) <;> contradiction) | (rintro (h9 | h9) <;> contradiction) | (intro h9; exact Bool.noConfusion (Eq.trans (c := false) h9.symm (by assumption))) | (rintro ⟨h8, h9⟩; exact Bool.noConfusion (Eq.trans (c := false) h8.symm (by assumption))) | (rintro ⟨h8, h9⟩; exact Bool.noConfusion (Eq.trans (c := false) h9.symm (by assumption))) | (simp only [Int32.lt_iff_toInt_lt, Int32.le_iff_toInt_le, i32_0, i32_1, i32_2, i32_3, i32_4, i32_9, i32_10, i32_99, i32_100, i32_1000, i32_9999] at *; omega))])); (try rfl))
      have hP := Eq.mp (congrArg (fun z9 => va_P D vwCl (bMO k q z9 ea fa ch tn he en ln sv wr dg ++ bI83 k (q 1) v ++ bI83 k (q 2) be ++ bF10 k (q 6) fl ++ bF10 k (q 10) nx ++ bF10 k (q 11) as) H) e_33) hP
      have hD := Eq.mp (congrArg (fun z9 => va_D A (bMO k q z9 ea fa ch tn he en ln sv wr dg ++ bI83 k (q 1) v ++ bI83 k (q 2) be ++ bF10 k (q 6) fl ++ bF10 k (q 10) nx ++ bF10 k (q 11) as)) e_33) hD
      have e_34 : (be : Nat → Int32) = if rg 1 x 9999 = true then v else be := by first | (with_reducible rfl) | ((try simp only []); (repeat (first | rw [if_pos (by first | assumption | exact Eq.trans (b := false) (by assumption) (Eq.symm (by assumption)) | exact Eq.trans (b := true) (by assumption) (Eq.symm (by assumption)) | exact ⟨by assumption, by assumption⟩ | exact Or.inl (by assumption) | exact Or.inr (by assumption) | exact Or.inr (Or.inl (by assumption)) | exact Or.inr (Or.inr (by assumption)) | (simp only [Int32.lt_iff_toInt_lt, Int32.le_iff_toInt_le, i32_0, i32_1, i32_2, i32_3, i32_4, i32_9, i32_10, i32_99, i32_100, i32_1000, i32_9999] at *; omega))] | rw [if_neg (by first | assumption | (rintro (h9 | h9 | h9) <;> contradiction) | (rintro (h9 | h9) <;> contradiction) | (intro h9; exact Bool.noConfusion (Eq.trans (c := false) h9.symm (by assumption))) | (rintro ⟨h8, h9⟩; exact Bool.noConfusion (Eq.trans (c := false) h8.symm (by assumption))) | (rintro ⟨h8, h9⟩; exact Bool.noConfusion (Eq.trans (c := false) h9.symm (by assumption))) | (simp only [Int32.lt_iff_toInt_lt, Int32.le_iff_toInt_le, i32_0, i32_1, i32_2, i32_3, i32_4, i32_9, i32_10, i32_99, i32_100, i32_1000, i32_9999] at *; omega))])); (try rfl))
      have hP := Eq.mp (congrArg (fun z9 => va_P D vwCl (bMO k q (if rg 1 x 9999 = true then (if (sbM n (v, fl, nx, nl) x) < 31 then 0 else 2) else 1) ea fa ch tn he en ln sv wr dg ++ bI83 k (q 1) v ++ bI83 k (q 2) z9 ++ bF10 k (q 6) fl ++ bF10 k (q 10) nx ++ bF10 k (q 11) as) H) e_34) hP
      have hD := Eq.mp (congrArg (fun z9 => va_D A (bMO k q (if rg 1 x 9999 = true then (if (sbM n (v, fl, nx, nl) x) < 31 then 0 else 2) else 1) ea fa ch tn he en ln sv wr dg ++ bI83 k (q 1) v ++ bI83 k (q 2) z9 ++ bF10 k (q 6) fl ++ bF10 k (q 10) nx ++ bF10 k (q 11) as)) e_34) hD
      have e_35 : (nx : Nat → UInt32) = if rg 1 x 9999 = true then (itD n (v, fl, nx, nl) (sbM n (v, fl, nx, nl) x)).2.2.1 else nx := by first | (with_reducible rfl) | ((try simp only []); (repeat (first | rw [if_pos (by first | assumption | exact Eq.trans (b := false) (by assumption) (Eq.symm (by assumption)) | exact Eq.trans (b := true) (by assumption) (Eq.symm (by assumption)) | exact ⟨by assumption, by assumption⟩ | exact Or.inl (by assumption) | exact Or.inr (by assumption) | exact Or.inr (Or.inl (by assumption)) | exact Or.inr (Or.inr (by assumption)) | (simp only [Int32.lt_iff_toInt_lt, Int32.le_iff_toInt_le, i32_0, i32_1, i32_2, i32_3, i32_4, i32_9, i32_10, i32_99, i32_100, i32_1000, i32_9999] at *; omega))] | rw [if_neg (by first | assumption | (rintro (h9 | h9 | h9) <;> contradiction) | (rintro (h9 | h9) <;> contradiction) | (intro h9; exact Bool.noConfusion (Eq.trans (c := false) h9.symm (by assumption))) | (rintro ⟨h8, h9⟩; exact Bool.noConfusion (Eq.trans (c := false) h8.symm (by assumption))) | (rintro ⟨h8, h9⟩; exact Bool.noConfusion (Eq.trans (c := false) h9.symm (by assumption))) | (simp only [Int32.lt_iff_toInt_lt, Int32.le_iff_toInt_le, i32_0, i32_1, i32_2, i32_3, i32_4, i32_9, i32_10, i32_99, i32_100, i32_1000, i32_9999] at *; omega))])); (try rfl))
      have hP := Eq.mp (congrArg (fun z9 => va_P D vwCl (bMO k q (if rg 1 x 9999 = true then (if (sbM n (v, fl, nx, nl) x) < 31 then 0 else 2) else 1) ea fa ch tn he en ln sv wr dg ++ bI83 k (q 1) v ++ bI83 k (q 2) (if rg 1 x 9999 = true then v else be) ++ bF10 k (q 6) fl ++ bF10 k (q 10) z9 ++ bF10 k (q 11) as) H) e_35) hP
      have hD := Eq.mp (congrArg (fun z9 => va_D A (bMO k q (if rg 1 x 9999 = true then (if (sbM n (v, fl, nx, nl) x) < 31 then 0 else 2) else 1) ea fa ch tn he en ln sv wr dg ++ bI83 k (q 1) v ++ bI83 k (q 2) (if rg 1 x 9999 = true then v else be) ++ bF10 k (q 6) fl ++ bF10 k (q 10) z9 ++ bF10 k (q 11) as)) e_35) hD
      have e_36 : (as : Nat → UInt32) = if rg 1 x 9999 = true then fl else as := by first | (with_reducible rfl) | ((try simp only []); (repeat (first | rw [if_pos (by first | assumption | exact Eq.trans (b := false) (by assumption) (Eq.symm (by assumption)) | exact Eq.trans (b := true) (by assumption) (Eq.symm (by assumption)) | exact ⟨by assumption, by assumption⟩ | exact Or.inl (by assumption) | exact Or.inr (by assumption) | exact Or.inr (Or.inl (by assumption)) | exact Or.inr (Or.inr (by assumption)) | (simp only [Int32.lt_iff_toInt_lt, Int32.le_iff_toInt_le, i32_0, i32_1, i32_2, i32_3, i32_4, i32_9, i32_10, i32_99, i32_100, i32_1000, i32_9999] at *; omega))] | rw [if_neg (by first | assumption | (rintro (h9 | h9 | h9) <;> contradiction) | (rintro (h9 | h9) <;> contradiction) | (intro h9; exact Bool.noConfusion (Eq.trans (c := false) h9.symm (by assumption))) | (rintro ⟨h8, h9⟩; exact Bool.noConfusion (Eq.trans (c := false) h8.symm (by assumption))) | (rintro ⟨h8, h9⟩; exact Bool.noConfusion (Eq.trans (c := false) h9.symm (by assumption))) | (simp only [Int32.lt_iff_toInt_lt, Int32.le_iff_toInt_le, i32_0, i32_1, i32_2, i32_3, i32_4, i32_9, i32_10, i32_99, i32_100, i32_1000, i32_9999] at *; omega))])); (try rfl))
      have hP := Eq.mp (congrArg (fun z9 => va_P D vwCl (bMO k q (if rg 1 x 9999 = true then (if (sbM n (v, fl, nx, nl) x) < 31 then 0 else 2) else 1) ea fa ch tn he en ln sv wr dg ++ bI83 k (q 1) v ++ bI83 k (q 2) (if rg 1 x 9999 = true then v else be) ++ bF10 k (q 6) fl ++ bF10 k (q 10) (if rg 1 x 9999 = true then (itD n (v, fl, nx, nl) (sbM n (v, fl, nx, nl) x)).2.2.1 else nx) ++ bF10 k (q 11) z9) H) e_36) hP
      have hD := Eq.mp (congrArg (fun z9 => va_D A (bMO k q (if rg 1 x 9999 = true then (if (sbM n (v, fl, nx, nl) x) < 31 then 0 else 2) else 1) ea fa ch tn he en ln sv wr dg ++ bI83 k (q 1) v ++ bI83 k (q 2) (if rg 1 x 9999 = true then v else be) ++ bF10 k (q 6) fl ++ bF10 k (q 10) (if rg 1 x 9999 = true then (itD n (v, fl, nx, nl) (sbM n (v, fl, nx, nl) x)).2.2.1 else nx) ++ bF10 k (q 11) z9)) e_36) hD
      exact W.iret (v := 0) hx hb hr (fun t9 ht hW => ⟨⟨_, (), rfl, (by (try simp only []); (repeat (first | rw [if_pos (by first | assumption | exact Eq.trans (b := false) (by assumption) (Eq.symm (by assumption)) | exact Eq.trans (b := true) (by assumption) (Eq.symm (by assumption)) | exact ⟨by assumption, by assumption⟩ | exact Or.inl (by assumption) | exact Or.inr (by assumption) | exact Or.inr (Or.inl (by assumption)) | exact Or.inr (Or.inr (by assumption)) | (simp only [Int32.lt_iff_toInt_lt, Int32.le_iff_toInt_le, i32_0, i32_1, i32_2, i32_3, i32_4, i32_9, i32_10, i32_99, i32_100, i32_1000, i32_9999] at *; omega))] | rw [if_neg (by first | assumption | (rintro (h9 | h9 | h9) <;> contradiction) | (rintro (h9 | h9) <;> contradiction) | (intro h9; exact Bool.noConfusion (Eq.trans (c := false) h9.symm (by assumption))) | (rintro ⟨h8, h9⟩; exact Bool.noConfusion (Eq.trans (c := false) h8.symm (by assumption))) | (rintro ⟨h8, h9⟩; exact Bool.noConfusion (Eq.trans (c := false) h9.symm (by assumption))) | (simp only [Int32.lt_iff_toInt_lt, Int32.le_iff_toInt_le, i32_0, i32_1, i32_2, i32_3, i32_4, i32_9, i32_10, i32_99, i32_100, i32_1000, i32_9999] at *; omega))])); (try rfl)), ⟨by rw [ht]; exact hP, va_K.moved hW.alike hK, hD⟩⟩, hS.F ht⟩) hS.2.2 dX13_shiftsUntilBelow_28 hlocks
  · skip
    have c_31 : (rg 1 x 9999) = true := bI_1 c_31
    refine lv_iconst (v := 0) hx hb dX13_shiftsUntilBelow_12 (by decide) ?_
    refine lv_goto (tgt := 17) hx hb dX13_shiftsUntilBelow_13 (by decide) ?_
    refine va_put (D := D) (ci := 11) (v := .int 0) (ty := .int) (C := RX13) (T := TX13) (N := 29) hx hb hts kc_RX13 tyX13 tyX13_ok nmX13 hown hK hP hD hS 0 rfl rfl 0 (by decide) k_fieldLink_77 (fun _ h9 => h9) rfl (by decide +kernel) rfl rfl (Nat.le_of_ble_eq_true rfl) dX13_shiftsUntilBelow_17 (fun H locs hP hD hS => ?_)
    have hP : va_P D vwCl (bMO k q 0 ea fa ch tn he en ln sv wr dg ++ bI83 k (q 1) v ++ bI83 k (q 2) be ++ bF10 k (q 6) fl ++ bF10 k (q 10) nx ++ bF10 k (q 11) as) H := hP
    have hD : va_D A (bMO k q 0 ea fa ch tn he en ln sv wr dg ++ bI83 k (q 1) v ++ bI83 k (q 2) be ++ bF10 k (q 6) fl ++ bF10 k (q 10) nx ++ bF10 k (q 11) as) := hD
    refine lv_aload_n hx hb dX13_shiftsUntilBelow_20 rfl (lv_at hl 0 rfl) ?_
    refine va_get (D := D) (ci := 11) (v := .int 0) (C := RX13) (T := TX13) (N := 29) hx hb hts kc_RX13 hown hK hP 0 rfl rfl 0 (by decide) k_fieldLink_77 (fun _ h9 => h9) rfl dX13_shiftsUntilBelow_21 ?_
    refine lv_if_eq (tgt := 29) hx hb dX13_shiftsUntilBelow_24 (by decide) (fun c_37 => ?_) (fun c_37 => ?_)
    · skip
      refine lv_aload_n hx hb dX13_shiftsUntilBelow_29 rfl (lv_at hl 0 rfl) ?_
      refine va_get (D := D) (ci := 11) (v := .ref (q 2)) (C := RX13) (T := TX13) (N := 29) hx hb hts kc_RX13 hown hK hP 0 rfl rfl 6 (by decide) k_fieldLink_20 (fun _ h9 => h9) rfl dX13_shiftsUntilBelow_30 ?_
      refine lv_aload_n hx hb dX13_shiftsUntilBelow_33 rfl (lv_at hl 0 rfl) ?_
      refine va_get (D := D) (ci := 11) (v := .ref (q 1)) (C := RX13) (T := TX13) (N := 29) hx hb hts kc_RX13 hown hK hP 0 rfl rfl 5 (by decide) k_fieldLink_16 (fun _ h9 => h9) rfl dX13_shiftsUntilBelow_34 ?_
      have hFc := va_free (wc := bI83 k (q 2) be ++ bI83 k (q 1) v) hD hS hA [2, 1] rfl
      refine va_callv (va_runS (As := [.ref (q 2), .ref (q 1)]) (rest := []) hF (m_X13_lays l9 D k H.size (q 2) (q 1) be v ) (va_cwS 2 hts gX13_shiftsUntilBelow_X13_lays rfl rfl rfl (by decide +kernel) ⟨Nat.le_of_ble_eq_true rfl, Nat.le_of_ble_eq_true rfl⟩) (wPreS hK hN hP hD [2, 1] rfl (by decide) rfl) rfl rfl hl.1 rfl (lv_room (Nat.le_of_ble_eq_true rfl)) dX13_shiftsUntilBelow_37 ⟨Nat.zero_le _, Nat.zero_le _⟩) hS (fun q _ h => hFc q h) hFc (fun u9 t9 H1 locs ht hvm hw hB hz1 hk1 hS => ?_)
      obtain ⟨hP, hD⟩ := wjoin (wr := bMO k q 0 ea fa ch tn he en ln sv wr dg ++ bF10 k (q 6) fl ++ bF10 k (q 10) nx ++ bF10 k (q 11) as) (wf := bMO k q 0 ea fa ch tn he en ln sv wr dg ++ bI83 k (q 1) v ++ bI83 k (q 2) v ++ bF10 k (q 6) fl ++ bF10 k (q 10) nx ++ bF10 k (q 11) as) hP hD [2, 1] [0, 3, 4, 5] [0, 5, 4, 1, 2, 3] rfl rfl (by decide) (by decide) hk1 hFc hB ht rfl rfl (by decide)
      clear hB hk1 hz1 hvm hFc
      clear ht
      clear t9
      generalize H1 = H at hP hS ⊢
      refine lv_aload_n hx hb dX13_shiftsUntilBelow_40 rfl (lv_at hl 0 rfl) ?_
      refine va_get (D := D) (ci := 11) (v := .ref (q 11)) (C := RX13) (T := TX13) (N := 29) hx hb hts kc_RX13 hown hK hP 0 rfl rfl 15 (by decide) k_fieldLink_48 (fun _ h9 => h9) rfl dX13_shiftsUntilBelow_41 ?_
      refine lv_aload_n hx hb dX13_shiftsUntilBelow_44 rfl (lv_at hl 0 rfl) ?_
      refine va_get (D := D) (ci := 11) (v := .ref (q 6)) (C := RX13) (T := TX13) (N := 29) hx hb hts kc_RX13 hown hK hP 0 rfl rfl 10 (by decide) k_fieldLink_32 (fun _ h9 => h9) rfl dX13_shiftsUntilBelow_45 ?_
      have hFc := va_free (wc := bF10 k (q 11) as ++ bF10 k (q 6) fl) hD hS hA [5, 3] rfl
      refine va_callv (va_runS (As := [.ref (q 11), .ref (q 6)]) (rest := []) hF (m_X13_flows l9 D k H.size (q 11) (q 6) as fl ) (va_cwS 2 hts gX13_shiftsUntilBelow_X13_flows rfl rfl rfl (by decide +kernel) ⟨Nat.le_of_ble_eq_true rfl, Nat.le_of_ble_eq_true rfl⟩) (wPreS hK hN hP hD [5, 3] rfl (by decide) rfl) rfl rfl hl.1 rfl (lv_room (Nat.le_of_ble_eq_true rfl)) dX13_shiftsUntilBelow_48 ⟨Nat.zero_le _, Nat.zero_le _⟩) hS (fun q _ h => hFc q h) hFc (fun u9 t9 H1 locs ht hvm hw hB hz1 hk1 hS => ?_)
      obtain ⟨hP, hD⟩ := wjoin (wr := bMO k q 0 ea fa ch tn he en ln sv wr dg ++ bI83 k (q 1) v ++ bI83 k (q 2) v ++ bF10 k (q 10) nx) (wf := bMO k q 0 ea fa ch tn he en ln sv wr dg ++ bI83 k (q 1) v ++ bI83 k (q 2) v ++ bF10 k (q 6) fl ++ bF10 k (q 10) nx ++ bF10 k (q 11) fl) hP hD [5, 3] [0, 1, 2, 4] [0, 1, 2, 5, 3, 4] rfl rfl (by decide) (by decide) hk1 hFc hB ht rfl rfl (by decide)
      clear hB hk1 hz1 hvm hFc
      clear ht
      clear t9
      generalize H1 = H at hP hS ⊢
      refine lv_iconst (v := 0) hx hb dX13_shiftsUntilBelow_51 (by decide) ?_
      refine lv_istore_n (lv' := [(2, .int 0), (0, .ref (q 0)), (1, .int x)]) hx hb dX13_shiftsUntilBelow_52 rfl hl (by decide) rfl (fun ls hl => ?_)
      have e_38 : (v : Nat → Int32) = (itD n (v, fl, nx, nl) 0).1 := by first | (with_reducible rfl) | (rfl)
      have hP := Eq.mp (congrArg (fun z9 => va_P D vwCl (bMO k q 0 ea fa ch tn he en ln sv wr dg ++ bI83 k (q 1) z9 ++ bI83 k (q 2) v ++ bF10 k (q 6) fl ++ bF10 k (q 10) nx ++ bF10 k (q 11) fl) H) e_38) hP
      have hD := Eq.mp (congrArg (fun z9 => va_D A (bMO k q 0 ea fa ch tn he en ln sv wr dg ++ bI83 k (q 1) z9 ++ bI83 k (q 2) v ++ bF10 k (q 6) fl ++ bF10 k (q 10) nx ++ bF10 k (q 11) fl)) e_38) hD
      have e_39 : (fl : Nat → UInt32) = (itD n (v, fl, nx, nl) 0).2.1 := by first | (with_reducible rfl) | (rfl)
      have hP := Eq.mp (congrArg (fun z9 => va_P D vwCl (bMO k q 0 ea fa ch tn he en ln sv wr dg ++ bI83 k (q 1) ((itD n (v, fl, nx, nl) 0).1) ++ bI83 k (q 2) v ++ bF10 k (q 6) z9 ++ bF10 k (q 10) nx ++ bF10 k (q 11) fl) H) e_39) hP
      have hD := Eq.mp (congrArg (fun z9 => va_D A (bMO k q 0 ea fa ch tn he en ln sv wr dg ++ bI83 k (q 1) ((itD n (v, fl, nx, nl) 0).1) ++ bI83 k (q 2) v ++ bF10 k (q 6) z9 ++ bF10 k (q 10) nx ++ bF10 k (q 11) fl)) e_39) hD
      have e_40 : (nx : Nat → UInt32) = (itD n (v, fl, nx, nl) 0).2.2.1 := by first | (with_reducible rfl) | (rfl)
      have hP := Eq.mp (congrArg (fun z9 => va_P D vwCl (bMO k q 0 ea fa ch tn he en ln sv wr dg ++ bI83 k (q 1) ((itD n (v, fl, nx, nl) 0).1) ++ bI83 k (q 2) v ++ bF10 k (q 6) ((itD n (v, fl, nx, nl) 0).2.1) ++ bF10 k (q 10) z9 ++ bF10 k (q 11) fl) H) e_40) hP
      have hD := Eq.mp (congrArg (fun z9 => va_D A (bMO k q 0 ea fa ch tn he en ln sv wr dg ++ bI83 k (q 1) ((itD n (v, fl, nx, nl) 0).1) ++ bI83 k (q 2) v ++ bF10 k (q 6) ((itD n (v, fl, nx, nl) 0).2.1) ++ bF10 k (q 10) z9 ++ bF10 k (q 11) fl)) e_40) hD
      exact loop_53 ((31 - 0) + 1) 0 (by omega) (fun c hc => absurd hc (Nat.not_lt_zero c)) (by assumption) (Nat.lt_succ_self _) ls _ _ hP hD hS (lv_one hl 1 rfl rfl (lv_one hl 2 rfl rfl (lv_one hl 0 rfl rfl (lv_nil hl))))
    · first | exact absurd c_37 (by decide) | exact absurd (by decide) c_37

set_option maxHeartbeats 4000000 in
set_option maxRecDepth 100000 in
theorem m_X13_undo (l9 : Launch) (D : va_G) (k : Nat → ClassId) (sz : Nat) (q : Nat → Nat) (th ea fa : Int32) (ch tn he en ln : Nat) (sv wr dg : Bool) (v pa : Nat → Int32) (fl fp : Nat → UInt32) (hch : ch ≤ 8) : Met l9 yX13_undo wsX13_undo ({ frames := 0, cells := 0, slots := 0, locals := 0 }) (WPc D k [.ref (q 0)] (bMO k q th ea fa ch tn he en ln sv wr dg ++ bI83 k (q 1) v ++ bF10 k (q 6) fl ++ bI664 k (q 4) pa ++ bF80 k (q 9) fp) sz) (WI D k (bMO k q (if ch = 0 then 1 else 0) ea fa (if ch = 0 then ch else ch - 1) tn he en ln sv wr dg ++ bI83 k (q 1) (if ch = 0 then v else bkI pa ch) ++ bF10 k (q 6) (if ch = 0 then fl else bkF fp ch) ++ bI664 k (q 4) pa ++ bF80 k (q 9) fp) (if ch = 0 then 0 else nI (ch - 1)) (va_A (bMO k q th ea fa ch tn he en ln sv wr dg ++ bI83 k (q 1) v ++ bF10 k (q 6) fl ++ bI664 k (q 4) pa ++ bF80 k (q 9) fp) sz)) 0 0 (va_A (bMO k q th ea fa ch tn he en ln sv wr dg ++ bI83 k (q 1) v ++ bF10 k (q 6) fl ++ bI664 k (q 4) pa ++ bF80 k (q 9) fp) sz) := by
  refine wMet (y := yX13_undo) (cc := cX13_undo) (maxL := 2) (ret := (some .int)) (Qc := fun A => WI D k (bMO k q (if ch = 0 then 1 else 0) ea fa (if ch = 0 then ch else ch - 1) tn he en ln sv wr dg ++ bI83 k (q 1) (if ch = 0 then v else bkI pa ch) ++ bF10 k (q 6) (if ch = 0 then fl else bkF fp ch) ++ bI664 k (q 4) pa ++ bF80 k (q 9) fp) (if ch = 0 then 0 else nI (ch - 1)) A) [.ref (q 0)] (by decide) rfl (Nat.le_of_ble_eq_true rfl) ?_
  intro p9 e9 s9 m9 bl9 me9 c9 ls A H hF hr hlocks hP hK hN hD hA hS hl hin
  have hl : lv_has ls 2 [(0, .ref (q 0))] := hl
  obtain ⟨hx, hb, hml, hown, hts⟩ := id hF
  have k_fieldLink_88 : (Cond.fieldLink RX13 88 "OpinionReactorModel" "changes" "I").before _ s9 = true := hts (.fieldLink RX13 88 "OpinionReactorModel" "changes" "I") (by decide +kernel)
  have kc_RX13 : ∀ w ∈ u_ws RX13 TX13 29, w ∈ wsX13_undo := by decide +kernel
  have k_fieldLink_32 : (Cond.fieldLink RX13 32 "OpinionReactorModel" "flux" "[F").before _ s9 = true := hts (.fieldLink RX13 32 "OpinionReactorModel" "flux" "[F") (by decide +kernel)
  have k_fieldLink_42 : (Cond.fieldLink RX13 42 "OpinionReactorModel" "fluxPast" "[F").before _ s9 = true := hts (.fieldLink RX13 42 "OpinionReactorModel" "fluxPast" "[F") (by decide +kernel)
  have k_fieldLink_16 : (Cond.fieldLink RX13 16 "OpinionReactorModel" "v" "[I").before _ s9 = true := hts (.fieldLink RX13 16 "OpinionReactorModel" "v" "[I") (by decide +kernel)
  have k_fieldLink_26 : (Cond.fieldLink RX13 26 "OpinionReactorModel" "past" "[I").before _ s9 = true := hts (.fieldLink RX13 26 "OpinionReactorModel" "past" "[I") (by decide +kernel)
  have k_fieldLink_77 : (Cond.fieldLink RX13 77 "OpinionReactorModel" "thrown" "I").before _ s9 = true := hts (.fieldLink RX13 77 "OpinionReactorModel" "thrown" "I") (by decide +kernel)
  have loop_71 : ∀ (fuel : Nat) (i : Nat), (i ≤ 10) → (¬ ch = 0) → 10 - i < fuel → ∀ (ls : Array Slot), ∀ (H : Heap) (locs : List Loc), va_P D vwCl (bMO k q 0 ea fa (ch - 1) tn he en ln sv wr dg ++ bI83 k (q 1) (bkI pa ch) ++ bF10 k (q 6) (fil fl (bkF fp ch) i) ++ bI664 k (q 4) pa ++ bF80 k (q 9) fp) H → va_D A (bMO k q 0 ea fa (ch - 1) tn he en ln sv wr dg ++ bI83 k (q 1) (bkI pa ch) ++ bF10 k (q 6) (fil fl (bkF fp ch) i) ++ bI664 k (q 4) pa ++ bF80 k (q 9) fp) → va_S A s9.heap H locs → lv_has ls 2 [(0, .ref (q 0)), (1, .int (nI i))] → W p9 l9 e9 ({ frames := 0, cells := 0, slots := 0, locals := 0 }) s9 m9 ([.ref (q 0)] : List Value).toArray bl9 me9 c9 H locs 0 0 (MQ bl9 (WI D k (bMO k q (if ch = 0 then 1 else 0) ea fa (if ch = 0 then ch else ch - 1) tn he en ln sv wr dg ++ bI83 k (q 1) (if ch = 0 then v else bkI pa ch) ++ bF10 k (q 6) (if ch = 0 then fl else bkF fp ch) ++ bI664 k (q 4) pa ++ bF80 k (q 9) fp) (if ch = 0 then 0 else nI (ch - 1)) A) ([.ref (q 0)] : List Value).toArray s9 0 0 A) (F0 m9 71 ls []) := by
    intro fuel
    induction fuel with
    | zero => intro i hi h0 hfuel_71; exact absurd hfuel_71 (Nat.not_lt_zero _)
    | succ fuel ih_71 =>
      intro i hi h0 hfuel_71 ls H locs hP hD hS hl
      refine lv_iload_n hx hb dX13_undo_71 rfl (lv_at hl 1 rfl) ?_
      refine lv_bipush (v := 10) hx hb dX13_undo_72 (by decide) ?_
      refine lv_icmp_ge (tgt := 103) hx hb dX13_undo_74 (by decide) (fun c_1 => ?_) (fun c_1 => ?_)
      · skip
        have c_1 : 10 ≤ i := (nI_leI (a := 10) (b := i) (by omega) (by omega)).mp c_1
        obtain ⟨hP, hD⟩ := ext_f hP hD 2 rfl (g := bkF fp ch) (fun j hj => fil_in (by omega))
        have hP : va_P D vwCl (bMO k q 0 ea fa (ch - 1) tn he en ln sv wr dg ++ bI83 k (q 1) (bkI pa ch) ++ bF10 k (q 6) (bkF fp ch) ++ bI664 k (q 4) pa ++ bF80 k (q 9) fp) H := hP
        have hD : va_D A (bMO k q 0 ea fa (ch - 1) tn he en ln sv wr dg ++ bI83 k (q 1) (bkI pa ch) ++ bF10 k (q 6) (bkF fp ch) ++ bI664 k (q 4) pa ++ bF80 k (q 9) fp) := hD
        refine lv_aload_n hx hb dX13_undo_103 rfl (lv_at hl 0 rfl) ?_
        refine va_get (D := D) (ci := 11) (v := .int (nI (ch - 1))) (C := RX13) (T := TX13) (N := 29) hx hb hts kc_RX13 hown hK hP 0 rfl rfl 1 (by decide) k_fieldLink_88 (fun _ h9 => h9) rfl dX13_undo_104 ?_
        have e_2 : (0 : Int32) = if ch = 0 then 1 else 0 := by first | (with_reducible rfl) | (rw [if_neg h0])
        have hP := Eq.mp (congrArg (fun z9 => va_P D vwCl (bMO k q z9 ea fa (ch - 1) tn he en ln sv wr dg ++ bI83 k (q 1) (bkI pa ch) ++ bF10 k (q 6) (bkF fp ch) ++ bI664 k (q 4) pa ++ bF80 k (q 9) fp) H) e_2) hP
        have hD := Eq.mp (congrArg (fun z9 => va_D A (bMO k q z9 ea fa (ch - 1) tn he en ln sv wr dg ++ bI83 k (q 1) (bkI pa ch) ++ bF10 k (q 6) (bkF fp ch) ++ bI664 k (q 4) pa ++ bF80 k (q 9) fp)) e_2) hD
        have e_3 : (ch - 1 : Nat) = if ch = 0 then ch else ch - 1 := by first | (with_reducible rfl) | (rw [if_neg h0])
        have hP := Eq.mp (congrArg (fun z9 => va_P D vwCl (bMO k q (if ch = 0 then 1 else 0) ea fa z9 tn he en ln sv wr dg ++ bI83 k (q 1) (bkI pa ch) ++ bF10 k (q 6) (bkF fp ch) ++ bI664 k (q 4) pa ++ bF80 k (q 9) fp) H) e_3) hP
        have hD := Eq.mp (congrArg (fun z9 => va_D A (bMO k q (if ch = 0 then 1 else 0) ea fa z9 tn he en ln sv wr dg ++ bI83 k (q 1) (bkI pa ch) ++ bF10 k (q 6) (bkF fp ch) ++ bI664 k (q 4) pa ++ bF80 k (q 9) fp)) e_3) hD
        have e_4 : (bkI pa ch : Nat → Int32) = if ch = 0 then v else bkI pa ch := by first | (with_reducible rfl) | (rw [if_neg h0])
        have hP := Eq.mp (congrArg (fun z9 => va_P D vwCl (bMO k q (if ch = 0 then 1 else 0) ea fa (if ch = 0 then ch else ch - 1) tn he en ln sv wr dg ++ bI83 k (q 1) z9 ++ bF10 k (q 6) (bkF fp ch) ++ bI664 k (q 4) pa ++ bF80 k (q 9) fp) H) e_4) hP
        have hD := Eq.mp (congrArg (fun z9 => va_D A (bMO k q (if ch = 0 then 1 else 0) ea fa (if ch = 0 then ch else ch - 1) tn he en ln sv wr dg ++ bI83 k (q 1) z9 ++ bF10 k (q 6) (bkF fp ch) ++ bI664 k (q 4) pa ++ bF80 k (q 9) fp)) e_4) hD
        have e_5 : (bkF fp ch : Nat → UInt32) = if ch = 0 then fl else bkF fp ch := by first | (with_reducible rfl) | (rw [if_neg h0])
        have hP := Eq.mp (congrArg (fun z9 => va_P D vwCl (bMO k q (if ch = 0 then 1 else 0) ea fa (if ch = 0 then ch else ch - 1) tn he en ln sv wr dg ++ bI83 k (q 1) (if ch = 0 then v else bkI pa ch) ++ bF10 k (q 6) z9 ++ bI664 k (q 4) pa ++ bF80 k (q 9) fp) H) e_5) hP
        have hD := Eq.mp (congrArg (fun z9 => va_D A (bMO k q (if ch = 0 then 1 else 0) ea fa (if ch = 0 then ch else ch - 1) tn he en ln sv wr dg ++ bI83 k (q 1) (if ch = 0 then v else bkI pa ch) ++ bF10 k (q 6) z9 ++ bI664 k (q 4) pa ++ bF80 k (q 9) fp)) e_5) hD
        exact W.iret (v := nI (ch - 1)) hx hb hr (fun t9 ht hW => ⟨⟨_, (), rfl, (by rw [if_neg h0]), ⟨by rw [ht]; exact hP, va_K.moved hW.alike hK, hD⟩⟩, hS.F ht⟩) hS.2.2 dX13_undo_107 hlocks
      · skip
        have c_1 : ¬ 10 ≤ i := fun h => c_1 ((nI_leI (a := 10) (b := i) (by omega) (by omega)).mpr h)
        refine lv_aload_n hx hb dX13_undo_77 rfl (lv_at hl 0 rfl) ?_
        refine va_get (D := D) (ci := 11) (v := .ref (q 6)) (C := RX13) (T := TX13) (N := 29) hx hb hts kc_RX13 hown hK hP 0 rfl rfl 10 (by decide) k_fieldLink_32 (fun _ h9 => h9) rfl dX13_undo_78 ?_
        refine lv_iload_n hx hb dX13_undo_81 rfl (lv_at hl 1 rfl) ?_
        refine lv_aload_n hx hb dX13_undo_82 rfl (lv_at hl 0 rfl) ?_
        refine va_get (D := D) (ci := 11) (v := .ref (q 9)) (C := RX13) (T := TX13) (N := 29) hx hb hts kc_RX13 hown hK hP 0 rfl rfl 13 (by decide) k_fieldLink_42 (fun _ h9 => h9) rfl dX13_undo_83 ?_
        refine lv_aload_n hx hb dX13_undo_86 rfl (lv_at hl 0 rfl) ?_
        refine va_get (D := D) (ci := 11) (v := .int (nI (ch - 1))) (C := RX13) (T := TX13) (N := 29) hx hb hts kc_RX13 hown hK hP 0 rfl rfl 1 (by decide) k_fieldLink_88 (fun _ h9 => h9) rfl dX13_undo_87 ?_
        refine lv_bipush (v := 10) hx hb dX13_undo_90 (by decide) ?_
        refine ni_mul hx hb (ch - 1) 10 dX13_undo_92 ?_
        refine lv_iload_n hx hb dX13_undo_93 rfl (lv_at hl 1 rfl) ?_
        refine ni_add hx hb ((ch - 1) * 10) i dX13_undo_94 ?_
        refine fa_ld hx hb hK hP 4 rfl (((ch - 1) * 10) + i) (by omega) (by decide) dX13_undo_95 ?_
        refine fa_st hx hb hK hP hD hS 2 rfl i (by omega) (by decide) (bMO k q 0 ea fa (ch - 1) tn he en ln sv wr dg ++ bI83 k (q 1) (bkI pa ch) ++ bF10 k (q 6) (vf_upd (fil fl (bkF fp ch) i) i (fp (((ch - 1) * 10) + i))) ++ bI664 k (q 4) pa ++ bF80 k (q 9) fp) rfl dX13_undo_96 (fun H locs hP hD hS => ?_)
        refine lv_iinc (v := nI (i + 1)) (lv' := [(1, .int (nI (i + 1))), (0, .ref (q 0))]) hx hb dX13_undo_97 hl (k := 1) rfl (nI_inc i) (by decide) rfl (fun ls hl => ?_)
        refine lv_goto (tgt := 71) hx hb dX13_undo_100 (by decide) ?_
        have e_6 : (vf_upd (fil fl (bkF fp ch) i) i (fp (((ch - 1) * 10) + i)) : Nat → UInt32) = fil fl (bkF fp ch) (i + 1) := by first | (with_reducible rfl) | (exact fil_v fl (bkF fp ch) i)
        have hP := Eq.mp (congrArg (fun z9 => va_P D vwCl (bMO k q 0 ea fa (ch - 1) tn he en ln sv wr dg ++ bI83 k (q 1) (bkI pa ch) ++ bF10 k (q 6) z9 ++ bI664 k (q 4) pa ++ bF80 k (q 9) fp) H) e_6) hP
        have hD := Eq.mp (congrArg (fun z9 => va_D A (bMO k q 0 ea fa (ch - 1) tn he en ln sv wr dg ++ bI83 k (q 1) (bkI pa ch) ++ bF10 k (q 6) z9 ++ bI664 k (q 4) pa ++ bF80 k (q 9) fp)) e_6) hD
        exact ih_71 (i + 1) (by omega) h0 (by omega) ls _ _ hP hD hS (lv_one hl 1 rfl rfl (lv_one hl 0 rfl rfl (lv_nil hl)))
  have loop_37 : ∀ (fuel : Nat) (i : Nat), (i ≤ 83) → (¬ ch = 0) → 83 - i < fuel → ∀ (ls : Array Slot), ∀ (H : Heap) (locs : List Loc), va_P D vwCl (bMO k q 0 ea fa (ch - 1) tn he en ln sv wr dg ++ bI83 k (q 1) (fil v (bkI pa ch) i) ++ bF10 k (q 6) fl ++ bI664 k (q 4) pa ++ bF80 k (q 9) fp) H → va_D A (bMO k q 0 ea fa (ch - 1) tn he en ln sv wr dg ++ bI83 k (q 1) (fil v (bkI pa ch) i) ++ bF10 k (q 6) fl ++ bI664 k (q 4) pa ++ bF80 k (q 9) fp) → va_S A s9.heap H locs → lv_has ls 2 [(0, .ref (q 0)), (1, .int (nI i))] → W p9 l9 e9 ({ frames := 0, cells := 0, slots := 0, locals := 0 }) s9 m9 ([.ref (q 0)] : List Value).toArray bl9 me9 c9 H locs 0 0 (MQ bl9 (WI D k (bMO k q (if ch = 0 then 1 else 0) ea fa (if ch = 0 then ch else ch - 1) tn he en ln sv wr dg ++ bI83 k (q 1) (if ch = 0 then v else bkI pa ch) ++ bF10 k (q 6) (if ch = 0 then fl else bkF fp ch) ++ bI664 k (q 4) pa ++ bF80 k (q 9) fp) (if ch = 0 then 0 else nI (ch - 1)) A) ([.ref (q 0)] : List Value).toArray s9 0 0 A) (F0 m9 37 ls []) := by
    intro fuel
    induction fuel with
    | zero => intro i hi h0 hfuel_37; exact absurd hfuel_37 (Nat.not_lt_zero _)
    | succ fuel ih_37 =>
      intro i hi h0 hfuel_37 ls H locs hP hD hS hl
      refine lv_iload_n hx hb dX13_undo_37 rfl (lv_at hl 1 rfl) ?_
      refine lv_bipush (v := 83) hx hb dX13_undo_38 (by decide) ?_
      refine lv_icmp_ge (tgt := 69) hx hb dX13_undo_40 (by decide) (fun c_7 => ?_) (fun c_7 => ?_)
      · skip
        have c_7 : 83 ≤ i := (nI_leI (a := 83) (b := i) (by omega) (by omega)).mp c_7
        obtain ⟨hP, hD⟩ := ext_i hP hD 1 rfl (g := bkI pa ch) (fun j hj => fil_in (by omega))
        have hP : va_P D vwCl (bMO k q 0 ea fa (ch - 1) tn he en ln sv wr dg ++ bI83 k (q 1) (bkI pa ch) ++ bF10 k (q 6) fl ++ bI664 k (q 4) pa ++ bF80 k (q 9) fp) H := hP
        have hD : va_D A (bMO k q 0 ea fa (ch - 1) tn he en ln sv wr dg ++ bI83 k (q 1) (bkI pa ch) ++ bF10 k (q 6) fl ++ bI664 k (q 4) pa ++ bF80 k (q 9) fp) := hD
        refine lv_iconst (v := 0) hx hb dX13_undo_69 (by decide) ?_
        refine lv_istore_n (lv' := [(1, .int 0), (0, .ref (q 0))]) hx hb dX13_undo_70 rfl hl (by decide) rfl (fun ls hl => ?_)
        have e_8 : (fl : Nat → UInt32) = fil fl (bkF fp ch) 0 := by first | (with_reducible rfl) | (exact fil_0 _ _)
        have hP := Eq.mp (congrArg (fun z9 => va_P D vwCl (bMO k q 0 ea fa (ch - 1) tn he en ln sv wr dg ++ bI83 k (q 1) (bkI pa ch) ++ bF10 k (q 6) z9 ++ bI664 k (q 4) pa ++ bF80 k (q 9) fp) H) e_8) hP
        have hD := Eq.mp (congrArg (fun z9 => va_D A (bMO k q 0 ea fa (ch - 1) tn he en ln sv wr dg ++ bI83 k (q 1) (bkI pa ch) ++ bF10 k (q 6) z9 ++ bI664 k (q 4) pa ++ bF80 k (q 9) fp)) e_8) hD
        exact loop_71 ((10 - 0) + 1) 0 (by omega) (by omega) (Nat.lt_succ_self _) ls _ _ hP hD hS (lv_one hl 1 rfl rfl (lv_one hl 0 rfl rfl (lv_nil hl)))
      · skip
        have c_7 : ¬ 83 ≤ i := fun h => c_7 ((nI_leI (a := 83) (b := i) (by omega) (by omega)).mpr h)
        refine lv_aload_n hx hb dX13_undo_43 rfl (lv_at hl 0 rfl) ?_
        refine va_get (D := D) (ci := 11) (v := .ref (q 1)) (C := RX13) (T := TX13) (N := 29) hx hb hts kc_RX13 hown hK hP 0 rfl rfl 5 (by decide) k_fieldLink_16 (fun _ h9 => h9) rfl dX13_undo_44 ?_
        refine lv_iload_n hx hb dX13_undo_47 rfl (lv_at hl 1 rfl) ?_
        refine lv_aload_n hx hb dX13_undo_48 rfl (lv_at hl 0 rfl) ?_
        refine va_get (D := D) (ci := 11) (v := .ref (q 4)) (C := RX13) (T := TX13) (N := 29) hx hb hts kc_RX13 hown hK hP 0 rfl rfl 8 (by decide) k_fieldLink_26 (fun _ h9 => h9) rfl dX13_undo_49 ?_
        refine lv_aload_n hx hb dX13_undo_52 rfl (lv_at hl 0 rfl) ?_
        refine va_get (D := D) (ci := 11) (v := .int (nI (ch - 1))) (C := RX13) (T := TX13) (N := 29) hx hb hts kc_RX13 hown hK hP 0 rfl rfl 1 (by decide) k_fieldLink_88 (fun _ h9 => h9) rfl dX13_undo_53 ?_
        refine lv_bipush (v := 83) hx hb dX13_undo_56 (by decide) ?_
        refine ni_mul hx hb (ch - 1) 83 dX13_undo_58 ?_
        refine lv_iload_n hx hb dX13_undo_59 rfl (lv_at hl 1 rfl) ?_
        refine ni_add hx hb ((ch - 1) * 83) i dX13_undo_60 ?_
        refine ia_ld hx hb hK hP 3 rfl (((ch - 1) * 83) + i) (by omega) (by decide) dX13_undo_61 ?_
        refine ia_st hx hb hK hP hD hS 1 rfl i (by omega) (by decide) (bMO k q 0 ea fa (ch - 1) tn he en ln sv wr dg ++ bI83 k (q 1) (upd (fil v (bkI pa ch) i) i (pa (((ch - 1) * 83) + i))) ++ bF10 k (q 6) fl ++ bI664 k (q 4) pa ++ bF80 k (q 9) fp) rfl dX13_undo_62 (fun H locs hP hD hS => ?_)
        refine lv_iinc (v := nI (i + 1)) (lv' := [(1, .int (nI (i + 1))), (0, .ref (q 0))]) hx hb dX13_undo_63 hl (k := 1) rfl (nI_inc i) (by decide) rfl (fun ls hl => ?_)
        refine lv_goto (tgt := 37) hx hb dX13_undo_66 (by decide) ?_
        have e_9 : (upd (fil v (bkI pa ch) i) i (pa (((ch - 1) * 83) + i)) : Nat → Int32) = fil v (bkI pa ch) (i + 1) := by first | (with_reducible rfl) | (exact fil_u v (bkI pa ch) i)
        have hP := Eq.mp (congrArg (fun z9 => va_P D vwCl (bMO k q 0 ea fa (ch - 1) tn he en ln sv wr dg ++ bI83 k (q 1) z9 ++ bF10 k (q 6) fl ++ bI664 k (q 4) pa ++ bF80 k (q 9) fp) H) e_9) hP
        have hD := Eq.mp (congrArg (fun z9 => va_D A (bMO k q 0 ea fa (ch - 1) tn he en ln sv wr dg ++ bI83 k (q 1) z9 ++ bF10 k (q 6) fl ++ bI664 k (q 4) pa ++ bF80 k (q 9) fp)) e_9) hD
        exact ih_37 (i + 1) (by omega) h0 (by omega) ls _ _ hP hD hS (lv_one hl 1 rfl rfl (lv_one hl 0 rfl rfl (lv_nil hl)))
  refine lv_aload_n hx hb dX13_undo_0 rfl (lv_at hl 0 rfl) ?_
  refine lv_aload_n hx hb dX13_undo_1 rfl (lv_at hl 0 rfl) ?_
  refine va_get (D := D) (ci := 11) (v := .int (nI ch)) (C := RX13) (T := TX13) (N := 29) hx hb hts kc_RX13 hown hK hP 0 rfl rfl 1 (by decide) k_fieldLink_88 (fun _ h9 => h9) rfl dX13_undo_2 ?_
  refine lv_if_ne (tgt := 12) hx hb dX13_undo_5 (by decide) (fun c_10 => ?_) (fun c_10 => ?_)
  · skip
    have c_10 : ¬ ch = 0 := fun h => c_10 ((nI_eq (a := ch) (b := 0) (by omega) (by decide)).mpr h)
    refine lv_iconst (v := 0) hx hb dX13_undo_12 (by decide) ?_
    refine va_put (D := D) (ci := 11) (v := .int 0) (ty := .int) (C := RX13) (T := TX13) (N := 29) hx hb hts kc_RX13 tyX13 tyX13_ok nmX13 hown hK hP hD hS 0 rfl rfl 0 (by decide) k_fieldLink_77 (fun _ h9 => h9) rfl (by decide +kernel) rfl rfl (Nat.le_of_ble_eq_true rfl) dX13_undo_13 (fun H locs hP hD hS => ?_)
    have hP : va_P D vwCl (bMO k q 0 ea fa ch tn he en ln sv wr dg ++ bI83 k (q 1) v ++ bF10 k (q 6) fl ++ bI664 k (q 4) pa ++ bF80 k (q 9) fp) H := hP
    have hD : va_D A (bMO k q 0 ea fa ch tn he en ln sv wr dg ++ bI83 k (q 1) v ++ bF10 k (q 6) fl ++ bI664 k (q 4) pa ++ bF80 k (q 9) fp) := hD
    refine lv_aload_n hx hb dX13_undo_16 rfl (lv_at hl 0 rfl) ?_
    refine va_get (D := D) (ci := 11) (v := .int 0) (C := RX13) (T := TX13) (N := 29) hx hb hts kc_RX13 hown hK hP 0 rfl rfl 0 (by decide) k_fieldLink_77 (fun _ h9 => h9) rfl dX13_undo_17 ?_
    refine lv_if_eq (tgt := 25) hx hb dX13_undo_20 (by decide) (fun c_11 => ?_) (fun c_11 => ?_)
    · skip
      refine lv_aload_n hx hb dX13_undo_25 rfl (lv_at hl 0 rfl) ?_
      refine lv_dup hx hb dX13_undo_26 rfl ?_
      refine va_get (D := D) (ci := 11) (v := .int (nI ch)) (C := RX13) (T := TX13) (N := 29) hx hb hts kc_RX13 hown hK hP 0 rfl rfl 1 (by decide) k_fieldLink_88 (fun _ h9 => h9) rfl dX13_undo_27 ?_
      refine lv_iconst (v := 1) hx hb dX13_undo_30 (by decide) ?_
      refine ni_sub hx hb ch 1 (by omega) dX13_undo_31 ?_
      refine va_put (D := D) (ci := 11) (v := .int (nI (ch - 1))) (ty := .int) (C := RX13) (T := TX13) (N := 29) hx hb hts kc_RX13 tyX13 tyX13_ok nmX13 hown hK hP hD hS 0 rfl rfl 1 (by decide) k_fieldLink_88 (fun _ h9 => h9) rfl (by decide +kernel) rfl rfl (Nat.le_of_ble_eq_true rfl) dX13_undo_32 (fun H locs hP hD hS => ?_)
      have hP : va_P D vwCl (bMO k q 0 ea fa (ch - 1) tn he en ln sv wr dg ++ bI83 k (q 1) v ++ bF10 k (q 6) fl ++ bI664 k (q 4) pa ++ bF80 k (q 9) fp) H := hP
      have hD : va_D A (bMO k q 0 ea fa (ch - 1) tn he en ln sv wr dg ++ bI83 k (q 1) v ++ bF10 k (q 6) fl ++ bI664 k (q 4) pa ++ bF80 k (q 9) fp) := hD
      refine lv_iconst (v := 0) hx hb dX13_undo_35 (by decide) ?_
      refine lv_istore_n (lv' := [(1, .int 0), (0, .ref (q 0))]) hx hb dX13_undo_36 rfl hl (by decide) rfl (fun ls hl => ?_)
      have e_12 : (v : Nat → Int32) = fil v (bkI pa ch) 0 := by first | (with_reducible rfl) | (exact fil_0 _ _)
      have hP := Eq.mp (congrArg (fun z9 => va_P D vwCl (bMO k q 0 ea fa (ch - 1) tn he en ln sv wr dg ++ bI83 k (q 1) z9 ++ bF10 k (q 6) fl ++ bI664 k (q 4) pa ++ bF80 k (q 9) fp) H) e_12) hP
      have hD := Eq.mp (congrArg (fun z9 => va_D A (bMO k q 0 ea fa (ch - 1) tn he en ln sv wr dg ++ bI83 k (q 1) z9 ++ bF10 k (q 6) fl ++ bI664 k (q 4) pa ++ bF80 k (q 9) fp)) e_12) hD
      exact loop_37 ((83 - 0) + 1) 0 (by omega) (by omega) (Nat.lt_succ_self _) ls _ _ hP hD hS (lv_one hl 1 rfl rfl (lv_one hl 0 rfl rfl (lv_nil hl)))
    · first | exact absurd c_11 (by decide) | exact absurd (by decide) c_11
  · skip
    have c_10 : ch = 0 := (nI_eq (a := ch) (b := 0) (by omega) (by decide)).mp c_10
    refine lv_iconst (v := 1) hx hb dX13_undo_8 (by decide) ?_
    refine lv_goto (tgt := 13) hx hb dX13_undo_9 (by decide) ?_
    refine va_put (D := D) (ci := 11) (v := .int 1) (ty := .int) (C := RX13) (T := TX13) (N := 29) hx hb hts kc_RX13 tyX13 tyX13_ok nmX13 hown hK hP hD hS 0 rfl rfl 0 (by decide) k_fieldLink_77 (fun _ h9 => h9) rfl (by decide +kernel) rfl rfl (Nat.le_of_ble_eq_true rfl) dX13_undo_13 (fun H locs hP hD hS => ?_)
    have hP : va_P D vwCl (bMO k q 1 ea fa ch tn he en ln sv wr dg ++ bI83 k (q 1) v ++ bF10 k (q 6) fl ++ bI664 k (q 4) pa ++ bF80 k (q 9) fp) H := hP
    have hD : va_D A (bMO k q 1 ea fa ch tn he en ln sv wr dg ++ bI83 k (q 1) v ++ bF10 k (q 6) fl ++ bI664 k (q 4) pa ++ bF80 k (q 9) fp) := hD
    refine lv_aload_n hx hb dX13_undo_16 rfl (lv_at hl 0 rfl) ?_
    refine va_get (D := D) (ci := 11) (v := .int 1) (C := RX13) (T := TX13) (N := 29) hx hb hts kc_RX13 hown hK hP 0 rfl rfl 0 (by decide) k_fieldLink_77 (fun _ h9 => h9) rfl dX13_undo_17 ?_
    refine lv_if_eq (tgt := 25) hx hb dX13_undo_20 (by decide) (fun c_13 => ?_) (fun c_13 => ?_)
    · first | exact absurd c_13 (by decide) | exact absurd (by decide) c_13
    · skip
      refine lv_iconst (v := 0) hx hb dX13_undo_23 (by decide) ?_
      have e_14 : (1 : Int32) = if ch = 0 then 1 else 0 := by first | (with_reducible rfl) | ((try simp only []); (repeat (first | rw [if_pos (by first | assumption | exact Eq.trans (b := false) (by assumption) (Eq.symm (by assumption)) | exact Eq.trans (b := true) (by assumption) (Eq.symm (by assumption)) | exact ⟨by assumption, by assumption⟩ | exact Or.inl (by assumption) | exact Or.inr (by assumption) | exact Or.inr (Or.inl (by assumption)) | exact Or.inr (Or.inr (by assumption)) | (simp only [Int32.lt_iff_toInt_lt, Int32.le_iff_toInt_le, i32_0, i32_1, i32_2, i32_3, i32_4, i32_9, i32_10, i32_99, i32_100, i32_1000, i32_9999] at *; omega))] | rw [if_neg (by first | assumption | (rintro (h9 | h9 | h9) <;> contradiction) | (rintro (h9 | h9) <;> contradiction) | (intro h9; exact Bool.noConfusion (Eq.trans (c := false) h9.symm (by assumption))) | (rintro ⟨h8, h9⟩; exact Bool.noConfusion (Eq.trans (c := false) h8.symm (by assumption))) | (rintro ⟨h8, h9⟩; exact Bool.noConfusion (Eq.trans (c := false) h9.symm (by assumption))) | (simp only [Int32.lt_iff_toInt_lt, Int32.le_iff_toInt_le, i32_0, i32_1, i32_2, i32_3, i32_4, i32_9, i32_10, i32_99, i32_100, i32_1000, i32_9999] at *; omega))])); (try rfl))
      have hP := Eq.mp (congrArg (fun z9 => va_P D vwCl (bMO k q z9 ea fa ch tn he en ln sv wr dg ++ bI83 k (q 1) v ++ bF10 k (q 6) fl ++ bI664 k (q 4) pa ++ bF80 k (q 9) fp) H) e_14) hP
      have hD := Eq.mp (congrArg (fun z9 => va_D A (bMO k q z9 ea fa ch tn he en ln sv wr dg ++ bI83 k (q 1) v ++ bF10 k (q 6) fl ++ bI664 k (q 4) pa ++ bF80 k (q 9) fp)) e_14) hD
      have e_15 : (ch : Nat) = if ch = 0 then ch else ch - 1 := by first | (with_reducible rfl) | ((try simp only []); (repeat (first | rw [if_pos (by first | assumption | exact Eq.trans (b := false) (by assumption) (Eq.symm (by assumption)) | exact Eq.trans (b := true) (by assumption) (Eq.symm (by assumption)) | exact ⟨by assumption, by assumption⟩ | exact Or.inl (by assumption) | exact Or.inr (by assumption) | exact Or.inr (Or.inl (by assumption)) | exact Or.inr (Or.inr (by assumption)) | (simp only [Int32.lt_iff_toInt_lt, Int32.le_iff_toInt_le, i32_0, i32_1, i32_2, i32_3, i32_4, i32_9, i32_10, i32_99, i32_100, i32_1000, i32_9999] at *; omega))] | rw [if_neg (by first | assumption | (rintro (h9 | h9 | h9) <;> contradiction) | (rintro (h9 | h9) <;> contradiction) | (intro h9; exact Bool.noConfusion (Eq.trans (c := false) h9.symm (by assumption))) | (rintro ⟨h8, h9⟩; exact Bool.noConfusion (Eq.trans (c := false) h8.symm (by assumption))) | (rintro ⟨h8, h9⟩; exact Bool.noConfusion (Eq.trans (c := false) h9.symm (by assumption))) | (simp only [Int32.lt_iff_toInt_lt, Int32.le_iff_toInt_le, i32_0, i32_1, i32_2, i32_3, i32_4, i32_9, i32_10, i32_99, i32_100, i32_1000, i32_9999] at *; omega))])); (try rfl))
      have hP := Eq.mp (congrArg (fun z9 => va_P D vwCl (bMO k q (if ch = 0 then 1 else 0) ea fa z9 tn he en ln sv wr dg ++ bI83 k (q 1) v ++ bF10 k (q 6) fl ++ bI664 k (q 4) pa ++ bF80 k (q 9) fp) H) e_15) hP
      have hD := Eq.mp (congrArg (fun z9 => va_D A (bMO k q (if ch = 0 then 1 else 0) ea fa z9 tn he en ln sv wr dg ++ bI83 k (q 1) v ++ bF10 k (q 6) fl ++ bI664 k (q 4) pa ++ bF80 k (q 9) fp)) e_15) hD
      have e_16 : (v : Nat → Int32) = if ch = 0 then v else bkI pa ch := by first | (with_reducible rfl) | ((try simp only []); (repeat (first | rw [if_pos (by first | assumption | exact Eq.trans (b := false) (by assumption) (Eq.symm (by assumption)) | exact Eq.trans (b := true) (by assumption) (Eq.symm (by assumption)) | exact ⟨by assumption, by assumption⟩ | exact Or.inl (by assumption) | exact Or.inr (by assumption) | exact Or.inr (Or.inl (by assumption)) | exact Or.inr (Or.inr (by assumption)) | (simp only [Int32.lt_iff_toInt_lt, Int32.le_iff_toInt_le, i32_0, i32_1, i32_2, i32_3, i32_4, i32_9, i32_10, i32_99, i32_100, i32_1000, i32_9999] at *; omega))] | rw [if_neg (by first | assumption | (rintro (h9 | h9 | h9) <;> contradiction) | (rintro (h9 | h9) <;> contradiction) | (intro h9; exact Bool.noConfusion (Eq.trans (c := false) h9.symm (by assumption))) | (rintro ⟨h8, h9⟩; exact Bool.noConfusion (Eq.trans (c := false) h8.symm (by assumption))) | (rintro ⟨h8, h9⟩; exact Bool.noConfusion (Eq.trans (c := false) h9.symm (by assumption))) | (simp only [Int32.lt_iff_toInt_lt, Int32.le_iff_toInt_le, i32_0, i32_1, i32_2, i32_3, i32_4, i32_9, i32_10, i32_99, i32_100, i32_1000, i32_9999] at *; omega))])); (try rfl))
      have hP := Eq.mp (congrArg (fun z9 => va_P D vwCl (bMO k q (if ch = 0 then 1 else 0) ea fa (if ch = 0 then ch else ch - 1) tn he en ln sv wr dg ++ bI83 k (q 1) z9 ++ bF10 k (q 6) fl ++ bI664 k (q 4) pa ++ bF80 k (q 9) fp) H) e_16) hP
      have hD := Eq.mp (congrArg (fun z9 => va_D A (bMO k q (if ch = 0 then 1 else 0) ea fa (if ch = 0 then ch else ch - 1) tn he en ln sv wr dg ++ bI83 k (q 1) z9 ++ bF10 k (q 6) fl ++ bI664 k (q 4) pa ++ bF80 k (q 9) fp)) e_16) hD
      have e_17 : (fl : Nat → UInt32) = if ch = 0 then fl else bkF fp ch := by first | (with_reducible rfl) | ((try simp only []); (repeat (first | rw [if_pos (by first | assumption | exact Eq.trans (b := false) (by assumption) (Eq.symm (by assumption)) | exact Eq.trans (b := true) (by assumption) (Eq.symm (by assumption)) | exact ⟨by assumption, by assumption⟩ | exact Or.inl (by assumption) | exact Or.inr (by assumption) | exact Or.inr (Or.inl (by assumption)) | exact Or.inr (Or.inr (by assumption)) | (simp only [Int32.lt_iff_toInt_lt, Int32.le_iff_toInt_le, i32_0, i32_1, i32_2, i32_3, i32_4, i32_9, i32_10, i32_99, i32_100, i32_1000, i32_9999] at *; omega))] | rw [if_neg (by first | assumption | (rintro (h9 | h9 | h9) <;> contradiction) | (rintro (h9 | h9) <;> contradiction) | (intro h9; exact Bool.noConfusion (Eq.trans (c := false) h9.symm (by assumption))) | (rintro ⟨h8, h9⟩; exact Bool.noConfusion (Eq.trans (c := false) h8.symm (by assumption))) | (rintro ⟨h8, h9⟩; exact Bool.noConfusion (Eq.trans (c := false) h9.symm (by assumption))) | (simp only [Int32.lt_iff_toInt_lt, Int32.le_iff_toInt_le, i32_0, i32_1, i32_2, i32_3, i32_4, i32_9, i32_10, i32_99, i32_100, i32_1000, i32_9999] at *; omega))])); (try rfl))
      have hP := Eq.mp (congrArg (fun z9 => va_P D vwCl (bMO k q (if ch = 0 then 1 else 0) ea fa (if ch = 0 then ch else ch - 1) tn he en ln sv wr dg ++ bI83 k (q 1) (if ch = 0 then v else bkI pa ch) ++ bF10 k (q 6) z9 ++ bI664 k (q 4) pa ++ bF80 k (q 9) fp) H) e_17) hP
      have hD := Eq.mp (congrArg (fun z9 => va_D A (bMO k q (if ch = 0 then 1 else 0) ea fa (if ch = 0 then ch else ch - 1) tn he en ln sv wr dg ++ bI83 k (q 1) (if ch = 0 then v else bkI pa ch) ++ bF10 k (q 6) z9 ++ bI664 k (q 4) pa ++ bF80 k (q 9) fp)) e_17) hD
      exact W.iret (v := 0) hx hb hr (fun t9 ht hW => ⟨⟨_, (), rfl, (by (try simp only []); (repeat (first | rw [if_pos (by first | assumption | exact Eq.trans (b := false) (by assumption) (Eq.symm (by assumption)) | exact Eq.trans (b := true) (by assumption) (Eq.symm (by assumption)) | exact ⟨by assumption, by assumption⟩ | exact Or.inl (by assumption) | exact Or.inr (by assumption) | exact Or.inr (Or.inl (by assumption)) | exact Or.inr (Or.inr (by assumption)) | (simp only [Int32.lt_iff_toInt_lt, Int32.le_iff_toInt_le, i32_0, i32_1, i32_2, i32_3, i32_4, i32_9, i32_10, i32_99, i32_100, i32_1000, i32_9999] at *; omega))] | rw [if_neg (by first | assumption | (rintro (h9 | h9 | h9) <;> contradiction) | (rintro (h9 | h9) <;> contradiction) | (intro h9; exact Bool.noConfusion (Eq.trans (c := false) h9.symm (by assumption))) | (rintro ⟨h8, h9⟩; exact Bool.noConfusion (Eq.trans (c := false) h8.symm (by assumption))) | (rintro ⟨h8, h9⟩; exact Bool.noConfusion (Eq.trans (c := false) h9.symm (by assumption))) | (simp only [Int32.lt_iff_toInt_lt, Int32.le_iff_toInt_le, i32_0, i32_1, i32_2, i32_3, i32_4, i32_9, i32_10, i32_99, i32_100, i32_1000, i32_9999] at *; omega))])); (try rfl)), ⟨by rw [ht]; exact hP, va_K.moved hW.alike hK, hD⟩⟩, hS.F ht⟩) hS.2.2 dX13_undo_24 hlocks

set_option maxHeartbeats 4000000 in
set_option maxRecDepth 100000 in
theorem m_X13_save (l9 : Launch) (D : va_G) (k : Nat → ClassId) (sz : Nat) (q : Nat → Nat) (th ea fa : Int32) (ch tn he en ln : Nat) (sv wr dg : Bool) (v sd : Nat → Int32) (fl fs : Nat → UInt32) : Met l9 yX13_save wsX13_save ({ frames := 1, cells := 0, slots := 0, locals := 22 }) (WPc D k [.ref (q 0)] (bMO k q th ea fa ch tn he en ln sv wr dg ++ bI83 k (q 1) v ++ bI83 k (q 3) sd ++ bF10 k (q 6) fl ++ bF10 k (q 8) fs) sz) (WI D k (bMO k q 0 ea fa ch tn he en ln true wr dg ++ bI83 k (q 1) v ++ bI83 k (q 3) v ++ bF10 k (q 6) fl ++ bF10 k (q 8) fl) (v 0) (va_A (bMO k q th ea fa ch tn he en ln sv wr dg ++ bI83 k (q 1) v ++ bI83 k (q 3) sd ++ bF10 k (q 6) fl ++ bF10 k (q 8) fs) sz)) 0 0 (va_A (bMO k q th ea fa ch tn he en ln sv wr dg ++ bI83 k (q 1) v ++ bI83 k (q 3) sd ++ bF10 k (q 6) fl ++ bF10 k (q 8) fs) sz) := by
  refine wMet (y := yX13_save) (cc := cX13_save) (maxL := 1) (ret := (some .int)) (Qc := fun A => WI D k (bMO k q 0 ea fa ch tn he en ln true wr dg ++ bI83 k (q 1) v ++ bI83 k (q 3) v ++ bF10 k (q 6) fl ++ bF10 k (q 8) fl) (v 0) A) [.ref (q 0)] (by decide) rfl (Nat.le_of_ble_eq_true rfl) ?_
  intro p9 e9 s9 m9 bl9 me9 c9 ls A H hF hr hlocks hP hK hN hD hA hS hl hin
  have hl : lv_has ls 1 [(0, .ref (q 0))] := hl
  obtain ⟨hx, hb, hml, hown, hts⟩ := id hF
  have k_fieldLink_77 : (Cond.fieldLink RX13 77 "OpinionReactorModel" "thrown" "I").before _ s9 = true := hts (.fieldLink RX13 77 "OpinionReactorModel" "thrown" "I") (by decide +kernel)
  have kc_RX13 : ∀ w ∈ u_ws RX13 TX13 29, w ∈ wsX13_save := by decide +kernel
  have k_fieldLink_23 : (Cond.fieldLink RX13 23 "OpinionReactorModel" "saved" "[I").before _ s9 = true := hts (.fieldLink RX13 23 "OpinionReactorModel" "saved" "[I") (by decide +kernel)
  have k_fieldLink_16 : (Cond.fieldLink RX13 16 "OpinionReactorModel" "v" "[I").before _ s9 = true := hts (.fieldLink RX13 16 "OpinionReactorModel" "v" "[I") (by decide +kernel)
  have k_fieldLink_39 : (Cond.fieldLink RX13 39 "OpinionReactorModel" "fluxSaved" "[F").before _ s9 = true := hts (.fieldLink RX13 39 "OpinionReactorModel" "fluxSaved" "[F") (by decide +kernel)
  have k_fieldLink_32 : (Cond.fieldLink RX13 32 "OpinionReactorModel" "flux" "[F").before _ s9 = true := hts (.fieldLink RX13 32 "OpinionReactorModel" "flux" "[F") (by decide +kernel)
  have k_fieldLink_290 : (Cond.fieldLink RX13 290 "OpinionReactorModel" "isSaved" "Z").before _ s9 = true := hts (.fieldLink RX13 290 "OpinionReactorModel" "isSaved" "Z") (by decide +kernel)
  refine lv_aload_n hx hb dX13_save_0 rfl (lv_at hl 0 rfl) ?_
  refine lv_iconst (v := 0) hx hb dX13_save_1 (by decide) ?_
  refine va_put (D := D) (ci := 11) (v := .int 0) (ty := .int) (C := RX13) (T := TX13) (N := 29) hx hb hts kc_RX13 tyX13 tyX13_ok nmX13 hown hK hP hD hS 0 rfl rfl 0 (by decide) k_fieldLink_77 (fun _ h9 => h9) rfl (by decide +kernel) rfl rfl (Nat.le_of_ble_eq_true rfl) dX13_save_2 (fun H locs hP hD hS => ?_)
  have hP : va_P D vwCl (bMO k q 0 ea fa ch tn he en ln sv wr dg ++ bI83 k (q 1) v ++ bI83 k (q 3) sd ++ bF10 k (q 6) fl ++ bF10 k (q 8) fs) H := hP
  have hD : va_D A (bMO k q 0 ea fa ch tn he en ln sv wr dg ++ bI83 k (q 1) v ++ bI83 k (q 3) sd ++ bF10 k (q 6) fl ++ bF10 k (q 8) fs) := hD
  refine lv_aload_n hx hb dX13_save_5 rfl (lv_at hl 0 rfl) ?_
  refine va_get (D := D) (ci := 11) (v := .ref (q 3)) (C := RX13) (T := TX13) (N := 29) hx hb hts kc_RX13 hown hK hP 0 rfl rfl 7 (by decide) k_fieldLink_23 (fun _ h9 => h9) rfl dX13_save_6 ?_
  refine lv_aload_n hx hb dX13_save_9 rfl (lv_at hl 0 rfl) ?_
  refine va_get (D := D) (ci := 11) (v := .ref (q 1)) (C := RX13) (T := TX13) (N := 29) hx hb hts kc_RX13 hown hK hP 0 rfl rfl 5 (by decide) k_fieldLink_16 (fun _ h9 => h9) rfl dX13_save_10 ?_
  have hFc := va_free (wc := bI83 k (q 3) sd ++ bI83 k (q 1) v) hD hS hA [2, 1] rfl
  refine va_callv (va_runS (As := [.ref (q 3), .ref (q 1)]) (rest := []) hF (m_X13_lays l9 D k H.size (q 3) (q 1) sd v ) (va_cwS 2 hts gX13_save_X13_lays rfl rfl rfl (by decide +kernel) ⟨Nat.le_of_ble_eq_true rfl, Nat.le_of_ble_eq_true rfl⟩) (wPreS hK hN hP hD [2, 1] rfl (by decide) rfl) rfl rfl hl.1 rfl (lv_room (Nat.le_of_ble_eq_true rfl)) dX13_save_13 ⟨Nat.zero_le _, Nat.zero_le _⟩) hS (fun q _ h => hFc q h) hFc (fun u9 t9 H1 locs ht hvm hw hB hz1 hk1 hS => ?_)
  obtain ⟨hP, hD⟩ := wjoin (wr := bMO k q 0 ea fa ch tn he en ln sv wr dg ++ bF10 k (q 6) fl ++ bF10 k (q 8) fs) (wf := bMO k q 0 ea fa ch tn he en ln sv wr dg ++ bI83 k (q 1) v ++ bI83 k (q 3) v ++ bF10 k (q 6) fl ++ bF10 k (q 8) fs) hP hD [2, 1] [0, 3, 4] [0, 4, 3, 1, 2] rfl rfl (by decide) (by decide) hk1 hFc hB ht rfl rfl (by decide)
  clear hB hk1 hz1 hvm hFc
  clear ht
  clear t9
  generalize H1 = H at hP hS ⊢
  refine lv_aload_n hx hb dX13_save_16 rfl (lv_at hl 0 rfl) ?_
  refine va_get (D := D) (ci := 11) (v := .ref (q 8)) (C := RX13) (T := TX13) (N := 29) hx hb hts kc_RX13 hown hK hP 0 rfl rfl 12 (by decide) k_fieldLink_39 (fun _ h9 => h9) rfl dX13_save_17 ?_
  refine lv_aload_n hx hb dX13_save_20 rfl (lv_at hl 0 rfl) ?_
  refine va_get (D := D) (ci := 11) (v := .ref (q 6)) (C := RX13) (T := TX13) (N := 29) hx hb hts kc_RX13 hown hK hP 0 rfl rfl 10 (by decide) k_fieldLink_32 (fun _ h9 => h9) rfl dX13_save_21 ?_
  have hFc := va_free (wc := bF10 k (q 8) fs ++ bF10 k (q 6) fl) hD hS hA [4, 3] rfl
  refine va_callv (va_runS (As := [.ref (q 8), .ref (q 6)]) (rest := []) hF (m_X13_flows l9 D k H.size (q 8) (q 6) fs fl ) (va_cwS 2 hts gX13_save_X13_flows rfl rfl rfl (by decide +kernel) ⟨Nat.le_of_ble_eq_true rfl, Nat.le_of_ble_eq_true rfl⟩) (wPreS hK hN hP hD [4, 3] rfl (by decide) rfl) rfl rfl hl.1 rfl (lv_room (Nat.le_of_ble_eq_true rfl)) dX13_save_24 ⟨Nat.zero_le _, Nat.zero_le _⟩) hS (fun q _ h => hFc q h) hFc (fun u9 t9 H1 locs ht hvm hw hB hz1 hk1 hS => ?_)
  obtain ⟨hP, hD⟩ := wjoin (wr := bMO k q 0 ea fa ch tn he en ln sv wr dg ++ bI83 k (q 1) v ++ bI83 k (q 3) v) (wf := bMO k q 0 ea fa ch tn he en ln sv wr dg ++ bI83 k (q 1) v ++ bI83 k (q 3) v ++ bF10 k (q 6) fl ++ bF10 k (q 8) fl) hP hD [4, 3] [0, 1, 2] [0, 1, 2, 4, 3] rfl rfl (by decide) (by decide) hk1 hFc hB ht rfl rfl (by decide)
  clear hB hk1 hz1 hvm hFc
  clear ht
  clear t9
  generalize H1 = H at hP hS ⊢
  refine lv_aload_n hx hb dX13_save_27 rfl (lv_at hl 0 rfl) ?_
  refine lv_iconst (v := 1) hx hb dX13_save_28 (by decide) ?_
  refine va_put (D := D) (ci := 11) (v := .int 1) (ty := .boolean) (C := RX13) (T := TX13) (N := 29) hx hb hts kc_RX13 tyX13 tyX13_ok nmX13 hown hK hP hD hS 0 rfl rfl 4 (by decide) k_fieldLink_290 (fun _ h9 => h9) rfl (by decide +kernel) rfl rfl (Nat.le_of_ble_eq_true rfl) dX13_save_29 (fun H locs hP hD hS => ?_)
  have hP : va_P D vwCl (bMO k q 0 ea fa ch tn he en ln true wr dg ++ bI83 k (q 1) v ++ bI83 k (q 3) v ++ bF10 k (q 6) fl ++ bF10 k (q 8) fl) H := hP
  have hD : va_D A (bMO k q 0 ea fa ch tn he en ln true wr dg ++ bI83 k (q 1) v ++ bI83 k (q 3) v ++ bF10 k (q 6) fl ++ bF10 k (q 8) fl) := hD
  refine lv_aload_n hx hb dX13_save_32 rfl (lv_at hl 0 rfl) ?_
  refine va_get (D := D) (ci := 11) (v := .ref (q 1)) (C := RX13) (T := TX13) (N := 29) hx hb hts kc_RX13 hown hK hP 0 rfl rfl 5 (by decide) k_fieldLink_16 (fun _ h9 => h9) rfl dX13_save_33 ?_
  refine lv_iconst (v := 0) hx hb dX13_save_36 (by decide) ?_
  refine ia_ld hx hb hK hP 1 rfl 0 (by omega) (by decide) dX13_save_37 ?_
  exact W.iret (v := v 0) hx hb hr (fun t9 ht hW => ⟨⟨_, (), rfl, (by rfl), ⟨by rw [ht]; exact hP, va_K.moved hW.alike hK, hD⟩⟩, hS.F ht⟩) hS.2.2 dX13_save_38 hlocks

set_option maxHeartbeats 4000000 in
set_option maxRecDepth 100000 in
theorem m_X13_restore (l9 : Launch) (D : va_G) (k : Nat → ClassId) (sz : Nat) (q : Nat → Nat) (th ea fa : Int32) (ch tn he en ln : Nat) (sv wr dg : Bool) (v sd : Nat → Int32) (fl fs : Nat → UInt32) : Met l9 yX13_restore wsX13_restore ({ frames := 1, cells := 0, slots := 0, locals := 22 }) (WPc D k [.ref (q 0)] (bMO k q th ea fa ch tn he en ln sv wr dg ++ bI83 k (q 1) v ++ bI83 k (q 3) sd ++ bF10 k (q 6) fl ++ bF10 k (q 8) fs) sz) (WI D k (bMO k q (if sv = true then 0 else 1) ea fa (if sv = true then 0 else ch) tn he en ln sv wr dg ++ bI83 k (q 1) (if sv = true then sd else v) ++ bI83 k (q 3) sd ++ bF10 k (q 6) (if sv = true then fs else fl) ++ bF10 k (q 8) fs) (if sv = true then sd 0 else 0) (va_A (bMO k q th ea fa ch tn he en ln sv wr dg ++ bI83 k (q 1) v ++ bI83 k (q 3) sd ++ bF10 k (q 6) fl ++ bF10 k (q 8) fs) sz)) 0 0 (va_A (bMO k q th ea fa ch tn he en ln sv wr dg ++ bI83 k (q 1) v ++ bI83 k (q 3) sd ++ bF10 k (q 6) fl ++ bF10 k (q 8) fs) sz) := by
  refine wMet (y := yX13_restore) (cc := cX13_restore) (maxL := 1) (ret := (some .int)) (Qc := fun A => WI D k (bMO k q (if sv = true then 0 else 1) ea fa (if sv = true then 0 else ch) tn he en ln sv wr dg ++ bI83 k (q 1) (if sv = true then sd else v) ++ bI83 k (q 3) sd ++ bF10 k (q 6) (if sv = true then fs else fl) ++ bF10 k (q 8) fs) (if sv = true then sd 0 else 0) A) [.ref (q 0)] (by decide) rfl (Nat.le_of_ble_eq_true rfl) ?_
  intro p9 e9 s9 m9 bl9 me9 c9 ls A H hF hr hlocks hP hK hN hD hA hS hl hin
  have hl : lv_has ls 1 [(0, .ref (q 0))] := hl
  obtain ⟨hx, hb, hml, hown, hts⟩ := id hF
  have k_fieldLink_290 : (Cond.fieldLink RX13 290 "OpinionReactorModel" "isSaved" "Z").before _ s9 = true := hts (.fieldLink RX13 290 "OpinionReactorModel" "isSaved" "Z") (by decide +kernel)
  have kc_RX13 : ∀ w ∈ u_ws RX13 TX13 29, w ∈ wsX13_restore := by decide +kernel
  have k_fieldLink_77 : (Cond.fieldLink RX13 77 "OpinionReactorModel" "thrown" "I").before _ s9 = true := hts (.fieldLink RX13 77 "OpinionReactorModel" "thrown" "I") (by decide +kernel)
  have k_fieldLink_16 : (Cond.fieldLink RX13 16 "OpinionReactorModel" "v" "[I").before _ s9 = true := hts (.fieldLink RX13 16 "OpinionReactorModel" "v" "[I") (by decide +kernel)
  have k_fieldLink_23 : (Cond.fieldLink RX13 23 "OpinionReactorModel" "saved" "[I").before _ s9 = true := hts (.fieldLink RX13 23 "OpinionReactorModel" "saved" "[I") (by decide +kernel)
  have k_fieldLink_32 : (Cond.fieldLink RX13 32 "OpinionReactorModel" "flux" "[F").before _ s9 = true := hts (.fieldLink RX13 32 "OpinionReactorModel" "flux" "[F") (by decide +kernel)
  have k_fieldLink_39 : (Cond.fieldLink RX13 39 "OpinionReactorModel" "fluxSaved" "[F").before _ s9 = true := hts (.fieldLink RX13 39 "OpinionReactorModel" "fluxSaved" "[F") (by decide +kernel)
  have k_fieldLink_88 : (Cond.fieldLink RX13 88 "OpinionReactorModel" "changes" "I").before _ s9 = true := hts (.fieldLink RX13 88 "OpinionReactorModel" "changes" "I") (by decide +kernel)
  refine lv_aload_n hx hb dX13_restore_0 rfl (lv_at hl 0 rfl) ?_
  refine lv_aload_n hx hb dX13_restore_1 rfl (lv_at hl 0 rfl) ?_
  refine va_get (D := D) (ci := 11) (v := .int (bI sv)) (C := RX13) (T := TX13) (N := 29) hx hb hts kc_RX13 hown hK hP 0 rfl rfl 4 (by decide) k_fieldLink_290 (fun _ h9 => h9) rfl dX13_restore_2 ?_
  refine lv_if_eq (tgt := 12) hx hb dX13_restore_5 (by decide) (fun c_1 => ?_) (fun c_1 => ?_)
  · skip
    have c_1 : sv = false := bI_0 c_1
    refine lv_iconst (v := 1) hx hb dX13_restore_12 (by decide) ?_
    refine va_put (D := D) (ci := 11) (v := .int 1) (ty := .int) (C := RX13) (T := TX13) (N := 29) hx hb hts kc_RX13 tyX13 tyX13_ok nmX13 hown hK hP hD hS 0 rfl rfl 0 (by decide) k_fieldLink_77 (fun _ h9 => h9) rfl (by decide +kernel) rfl rfl (Nat.le_of_ble_eq_true rfl) dX13_restore_13 (fun H locs hP hD hS => ?_)
    have hP : va_P D vwCl (bMO k q 1 ea fa ch tn he en ln sv wr dg ++ bI83 k (q 1) v ++ bI83 k (q 3) sd ++ bF10 k (q 6) fl ++ bF10 k (q 8) fs) H := hP
    have hD : va_D A (bMO k q 1 ea fa ch tn he en ln sv wr dg ++ bI83 k (q 1) v ++ bI83 k (q 3) sd ++ bF10 k (q 6) fl ++ bF10 k (q 8) fs) := hD
    refine lv_aload_n hx hb dX13_restore_16 rfl (lv_at hl 0 rfl) ?_
    refine va_get (D := D) (ci := 11) (v := .int 1) (C := RX13) (T := TX13) (N := 29) hx hb hts kc_RX13 hown hK hP 0 rfl rfl 0 (by decide) k_fieldLink_77 (fun _ h9 => h9) rfl dX13_restore_17 ?_
    refine lv_if_eq (tgt := 25) hx hb dX13_restore_20 (by decide) (fun c_2 => ?_) (fun c_2 => ?_)
    · first | exact absurd c_2 (by decide) | exact absurd (by decide) c_2
    · skip
      refine lv_iconst (v := 0) hx hb dX13_restore_23 (by decide) ?_
      have e_3 : (1 : Int32) = if sv = true then 0 else 1 := by first | (with_reducible rfl) | ((try simp only []); (repeat (first | rw [if_pos (by first | assumption | exact Eq.trans (b := false) (by assumption) (Eq.symm (by assumption)) | exact Eq.trans (b := true) (by assumption) (Eq.symm (by assumption)) | exact ⟨by assumption, by assumption⟩ | exact Or.inl (by assumption) | exact Or.inr (by assumption) | exact Or.inr (Or.inl (by assumption)) | exact Or.inr (Or.inr (by assumption)) | (simp only [Int32.lt_iff_toInt_lt, Int32.le_iff_toInt_le, i32_0, i32_1, i32_2, i32_3, i32_4, i32_9, i32_10, i32_99, i32_100, i32_1000, i32_9999] at *; omega))] | rw [if_neg (by first | assumption | (rintro (h9 | h9 | h9) <;> contradiction) | (rintro (h9 | h9) <;> contradiction) | (intro h9; exact Bool.noConfusion (Eq.trans (c := false) h9.symm (by assumption))) | (rintro ⟨h8, h9⟩; exact Bool.noConfusion (Eq.trans (c := false) h8.symm (by assumption))) | (rintro ⟨h8, h9⟩; exact Bool.noConfusion (Eq.trans (c := false) h9.symm (by assumption))) | (simp only [Int32.lt_iff_toInt_lt, Int32.le_iff_toInt_le, i32_0, i32_1, i32_2, i32_3, i32_4, i32_9, i32_10, i32_99, i32_100, i32_1000, i32_9999] at *; omega))])); (try rfl))
      have hP := Eq.mp (congrArg (fun z9 => va_P D vwCl (bMO k q z9 ea fa ch tn he en ln sv wr dg ++ bI83 k (q 1) v ++ bI83 k (q 3) sd ++ bF10 k (q 6) fl ++ bF10 k (q 8) fs) H) e_3) hP
      have hD := Eq.mp (congrArg (fun z9 => va_D A (bMO k q z9 ea fa ch tn he en ln sv wr dg ++ bI83 k (q 1) v ++ bI83 k (q 3) sd ++ bF10 k (q 6) fl ++ bF10 k (q 8) fs)) e_3) hD
      have e_4 : (ch : Nat) = if sv = true then 0 else ch := by first | (with_reducible rfl) | ((try simp only []); (repeat (first | rw [if_pos (by first | assumption | exact Eq.trans (b := false) (by assumption) (Eq.symm (by assumption)) | exact Eq.trans (b := true) (by assumption) (Eq.symm (by assumption)) | exact ⟨by assumption, by assumption⟩ | exact Or.inl (by assumption) | exact Or.inr (by assumption) | exact Or.inr (Or.inl (by assumption)) | exact Or.inr (Or.inr (by assumption)) | (simp only [Int32.lt_iff_toInt_lt, Int32.le_iff_toInt_le, i32_0, i32_1, i32_2, i32_3, i32_4, i32_9, i32_10, i32_99, i32_100, i32_1000, i32_9999] at *; omega))] | rw [if_neg (by first | assumption | (rintro (h9 | h9 | h9) <;> contradiction) | (rintro (h9 | h9) <;> contradiction) | (intro h9; exact Bool.noConfusion (Eq.trans (c := false) h9.symm (by assumption))) | (rintro ⟨h8, h9⟩; exact Bool.noConfusion (Eq.trans (c := false) h8.symm (by assumption))) | (rintro ⟨h8, h9⟩; exact Bool.noConfusion (Eq.trans (c := false) h9.symm (by assumption))) | (simp only [Int32.lt_iff_toInt_lt, Int32.le_iff_toInt_le, i32_0, i32_1, i32_2, i32_3, i32_4, i32_9, i32_10, i32_99, i32_100, i32_1000, i32_9999] at *; omega))])); (try rfl))
      have hP := Eq.mp (congrArg (fun z9 => va_P D vwCl (bMO k q (if sv = true then 0 else 1) ea fa z9 tn he en ln sv wr dg ++ bI83 k (q 1) v ++ bI83 k (q 3) sd ++ bF10 k (q 6) fl ++ bF10 k (q 8) fs) H) e_4) hP
      have hD := Eq.mp (congrArg (fun z9 => va_D A (bMO k q (if sv = true then 0 else 1) ea fa z9 tn he en ln sv wr dg ++ bI83 k (q 1) v ++ bI83 k (q 3) sd ++ bF10 k (q 6) fl ++ bF10 k (q 8) fs)) e_4) hD
      have e_5 : (v : Nat → Int32) = if sv = true then sd else v := by first | (with_reducible rfl) | ((try simp only []); (repeat (first | rw [if_pos (by first | assumption | exact Eq.trans (b := false) (by assumption) (Eq.symm (by assumption)) | exact Eq.trans (b := true) (by assumption) (Eq.symm (by assumption)) | exact ⟨by assumption, by assumption⟩ | exact Or.inl (by assumption) | exact Or.inr (by assumption) | exact Or.inr (Or.inl (by assumption)) | exact Or.inr (Or.inr (by assumption)) | (simp only [Int32.lt_iff_toInt_lt, Int32.le_iff_toInt_le, i32_0, i32_1, i32_2, i32_3, i32_4, i32_9, i32_10, i32_99, i32_100, i32_1000, i32_9999] at *; omega))] | rw [if_neg (by first | assumption | (rintro (h9 | h9 | h9) <;> contradiction) | (rintro (h9 | h9) <;> contradiction) | (intro h9; exact Bool.noConfusion (Eq.trans (c := false) h9.symm (by assumption))) | (rintro ⟨h8, h9⟩; exact Bool.noConfusion (Eq.trans (c := false) h8.symm (by assumption))) | (rintro ⟨h8, h9⟩; exact Bool.noConfusion (Eq.trans (c := false) h9.symm (by assumption))) | (simp only [Int32.lt_iff_toInt_lt, Int32.le_iff_toInt_le, i32_0, i32_1, i32_2, i32_3, i32_4, i32_9, i32_10, i32_99, i32_100, i32_1000, i32_9999] at *; omega))])); (try rfl))
      have hP := Eq.mp (congrArg (fun z9 => va_P D vwCl (bMO k q (if sv = true then 0 else 1) ea fa (if sv = true then 0 else ch) tn he en ln sv wr dg ++ bI83 k (q 1) z9 ++ bI83 k (q 3) sd ++ bF10 k (q 6) fl ++ bF10 k (q 8) fs) H) e_5) hP
      have hD := Eq.mp (congrArg (fun z9 => va_D A (bMO k q (if sv = true then 0 else 1) ea fa (if sv = true then 0 else ch) tn he en ln sv wr dg ++ bI83 k (q 1) z9 ++ bI83 k (q 3) sd ++ bF10 k (q 6) fl ++ bF10 k (q 8) fs)) e_5) hD
      have e_6 : (fl : Nat → UInt32) = if sv = true then fs else fl := by first | (with_reducible rfl) | ((try simp only []); (repeat (first | rw [if_pos (by first | assumption | exact Eq.trans (b := false) (by assumption) (Eq.symm (by assumption)) | exact Eq.trans (b := true) (by assumption) (Eq.symm (by assumption)) | exact ⟨by assumption, by assumption⟩ | exact Or.inl (by assumption) | exact Or.inr (by assumption) | exact Or.inr (Or.inl (by assumption)) | exact Or.inr (Or.inr (by assumption)) | (simp only [Int32.lt_iff_toInt_lt, Int32.le_iff_toInt_le, i32_0, i32_1, i32_2, i32_3, i32_4, i32_9, i32_10, i32_99, i32_100, i32_1000, i32_9999] at *; omega))] | rw [if_neg (by first | assumption | (rintro (h9 | h9 | h9) <;> contradiction) | (rintro (h9 | h9) <;> contradiction) | (intro h9; exact Bool.noConfusion (Eq.trans (c := false) h9.symm (by assumption))) | (rintro ⟨h8, h9⟩; exact Bool.noConfusion (Eq.trans (c := false) h8.symm (by assumption))) | (rintro ⟨h8, h9⟩; exact Bool.noConfusion (Eq.trans (c := false) h9.symm (by assumption))) | (simp only [Int32.lt_iff_toInt_lt, Int32.le_iff_toInt_le, i32_0, i32_1, i32_2, i32_3, i32_4, i32_9, i32_10, i32_99, i32_100, i32_1000, i32_9999] at *; omega))])); (try rfl))
      have hP := Eq.mp (congrArg (fun z9 => va_P D vwCl (bMO k q (if sv = true then 0 else 1) ea fa (if sv = true then 0 else ch) tn he en ln sv wr dg ++ bI83 k (q 1) (if sv = true then sd else v) ++ bI83 k (q 3) sd ++ bF10 k (q 6) z9 ++ bF10 k (q 8) fs) H) e_6) hP
      have hD := Eq.mp (congrArg (fun z9 => va_D A (bMO k q (if sv = true then 0 else 1) ea fa (if sv = true then 0 else ch) tn he en ln sv wr dg ++ bI83 k (q 1) (if sv = true then sd else v) ++ bI83 k (q 3) sd ++ bF10 k (q 6) z9 ++ bF10 k (q 8) fs)) e_6) hD
      exact W.iret (v := 0) hx hb hr (fun t9 ht hW => ⟨⟨_, (), rfl, (by (try simp only []); (repeat (first | rw [if_pos (by first | assumption | exact Eq.trans (b := false) (by assumption) (Eq.symm (by assumption)) | exact Eq.trans (b := true) (by assumption) (Eq.symm (by assumption)) | exact ⟨by assumption, by assumption⟩ | exact Or.inl (by assumption) | exact Or.inr (by assumption) | exact Or.inr (Or.inl (by assumption)) | exact Or.inr (Or.inr (by assumption)) | (simp only [Int32.lt_iff_toInt_lt, Int32.le_iff_toInt_le, i32_0, i32_1, i32_2, i32_3, i32_4, i32_9, i32_10, i32_99, i32_100, i32_1000, i32_9999] at *; omega))] | rw [if_neg (by first | assumption | (rintro (h9 | h9 | h9) <;> contradiction) | (rintro (h9 | h9) <;> contradiction) | (intro h9; exact Bool.noConfusion (Eq.trans (c := false) h9.symm (by assumption))) | (rintro ⟨h8, h9⟩; exact Bool.noConfusion (Eq.trans (c := false) h8.symm (by assumption))) | (rintro ⟨h8, h9⟩; exact Bool.noConfusion (Eq.trans (c := false) h9.symm (by assumption))) | (simp only [Int32.lt_iff_toInt_lt, Int32.le_iff_toInt_le, i32_0, i32_1, i32_2, i32_3, i32_4, i32_9, i32_10, i32_99, i32_100, i32_1000, i32_9999] at *; omega))])); (try rfl)), ⟨by rw [ht]; exact hP, va_K.moved hW.alike hK, hD⟩⟩, hS.F ht⟩) hS.2.2 dX13_restore_24 hlocks
  · skip
    have c_1 : sv = true := bI_1 c_1
    refine lv_iconst (v := 0) hx hb dX13_restore_8 (by decide) ?_
    refine lv_goto (tgt := 13) hx hb dX13_restore_9 (by decide) ?_
    refine va_put (D := D) (ci := 11) (v := .int 0) (ty := .int) (C := RX13) (T := TX13) (N := 29) hx hb hts kc_RX13 tyX13 tyX13_ok nmX13 hown hK hP hD hS 0 rfl rfl 0 (by decide) k_fieldLink_77 (fun _ h9 => h9) rfl (by decide +kernel) rfl rfl (Nat.le_of_ble_eq_true rfl) dX13_restore_13 (fun H locs hP hD hS => ?_)
    have hP : va_P D vwCl (bMO k q 0 ea fa ch tn he en ln sv wr dg ++ bI83 k (q 1) v ++ bI83 k (q 3) sd ++ bF10 k (q 6) fl ++ bF10 k (q 8) fs) H := hP
    have hD : va_D A (bMO k q 0 ea fa ch tn he en ln sv wr dg ++ bI83 k (q 1) v ++ bI83 k (q 3) sd ++ bF10 k (q 6) fl ++ bF10 k (q 8) fs) := hD
    refine lv_aload_n hx hb dX13_restore_16 rfl (lv_at hl 0 rfl) ?_
    refine va_get (D := D) (ci := 11) (v := .int 0) (C := RX13) (T := TX13) (N := 29) hx hb hts kc_RX13 hown hK hP 0 rfl rfl 0 (by decide) k_fieldLink_77 (fun _ h9 => h9) rfl dX13_restore_17 ?_
    refine lv_if_eq (tgt := 25) hx hb dX13_restore_20 (by decide) (fun c_7 => ?_) (fun c_7 => ?_)
    · skip
      refine lv_aload_n hx hb dX13_restore_25 rfl (lv_at hl 0 rfl) ?_
      refine va_get (D := D) (ci := 11) (v := .ref (q 1)) (C := RX13) (T := TX13) (N := 29) hx hb hts kc_RX13 hown hK hP 0 rfl rfl 5 (by decide) k_fieldLink_16 (fun _ h9 => h9) rfl dX13_restore_26 ?_
      refine lv_aload_n hx hb dX13_restore_29 rfl (lv_at hl 0 rfl) ?_
      refine va_get (D := D) (ci := 11) (v := .ref (q 3)) (C := RX13) (T := TX13) (N := 29) hx hb hts kc_RX13 hown hK hP 0 rfl rfl 7 (by decide) k_fieldLink_23 (fun _ h9 => h9) rfl dX13_restore_30 ?_
      have hFc := va_free (wc := bI83 k (q 1) v ++ bI83 k (q 3) sd) hD hS hA [1, 2] rfl
      refine va_callv (va_runS (As := [.ref (q 1), .ref (q 3)]) (rest := []) hF (m_X13_lays l9 D k H.size (q 1) (q 3) v sd ) (va_cwS 2 hts gX13_restore_X13_lays rfl rfl rfl (by decide +kernel) ⟨Nat.le_of_ble_eq_true rfl, Nat.le_of_ble_eq_true rfl⟩) (wPreS hK hN hP hD [1, 2] rfl (by decide) rfl) rfl rfl hl.1 rfl (lv_room (Nat.le_of_ble_eq_true rfl)) dX13_restore_33 ⟨Nat.zero_le _, Nat.zero_le _⟩) hS (fun q _ h => hFc q h) hFc (fun u9 t9 H1 locs ht hvm hw hB hz1 hk1 hS => ?_)
      obtain ⟨hP, hD⟩ := wjoin (wr := bMO k q 0 ea fa ch tn he en ln sv wr dg ++ bF10 k (q 6) fl ++ bF10 k (q 8) fs) (wf := bMO k q 0 ea fa ch tn he en ln sv wr dg ++ bI83 k (q 1) sd ++ bI83 k (q 3) sd ++ bF10 k (q 6) fl ++ bF10 k (q 8) fs) hP hD [1, 2] [0, 3, 4] [0, 3, 4, 1, 2] rfl rfl (by decide) (by decide) hk1 hFc hB ht rfl rfl (by decide)
      clear hB hk1 hz1 hvm hFc
      clear ht
      clear t9
      generalize H1 = H at hP hS ⊢
      refine lv_aload_n hx hb dX13_restore_36 rfl (lv_at hl 0 rfl) ?_
      refine va_get (D := D) (ci := 11) (v := .ref (q 6)) (C := RX13) (T := TX13) (N := 29) hx hb hts kc_RX13 hown hK hP 0 rfl rfl 10 (by decide) k_fieldLink_32 (fun _ h9 => h9) rfl dX13_restore_37 ?_
      refine lv_aload_n hx hb dX13_restore_40 rfl (lv_at hl 0 rfl) ?_
      refine va_get (D := D) (ci := 11) (v := .ref (q 8)) (C := RX13) (T := TX13) (N := 29) hx hb hts kc_RX13 hown hK hP 0 rfl rfl 12 (by decide) k_fieldLink_39 (fun _ h9 => h9) rfl dX13_restore_41 ?_
      have hFc := va_free (wc := bF10 k (q 6) fl ++ bF10 k (q 8) fs) hD hS hA [3, 4] rfl
      refine va_callv (va_runS (As := [.ref (q 6), .ref (q 8)]) (rest := []) hF (m_X13_flows l9 D k H.size (q 6) (q 8) fl fs ) (va_cwS 2 hts gX13_restore_X13_flows rfl rfl rfl (by decide +kernel) ⟨Nat.le_of_ble_eq_true rfl, Nat.le_of_ble_eq_true rfl⟩) (wPreS hK hN hP hD [3, 4] rfl (by decide) rfl) rfl rfl hl.1 rfl (lv_room (Nat.le_of_ble_eq_true rfl)) dX13_restore_44 ⟨Nat.zero_le _, Nat.zero_le _⟩) hS (fun q _ h => hFc q h) hFc (fun u9 t9 H1 locs ht hvm hw hB hz1 hk1 hS => ?_)
      obtain ⟨hP, hD⟩ := wjoin (wr := bMO k q 0 ea fa ch tn he en ln sv wr dg ++ bI83 k (q 1) sd ++ bI83 k (q 3) sd) (wf := bMO k q 0 ea fa ch tn he en ln sv wr dg ++ bI83 k (q 1) sd ++ bI83 k (q 3) sd ++ bF10 k (q 6) fs ++ bF10 k (q 8) fs) hP hD [3, 4] [0, 1, 2] [0, 1, 2, 3, 4] rfl rfl (by decide) (by decide) hk1 hFc hB ht rfl rfl (by decide)
      clear hB hk1 hz1 hvm hFc
      clear ht
      clear t9
      generalize H1 = H at hP hS ⊢
      refine lv_aload_n hx hb dX13_restore_47 rfl (lv_at hl 0 rfl) ?_
      refine lv_iconst (v := 0) hx hb dX13_restore_48 (by decide) ?_
      refine va_put (D := D) (ci := 11) (v := .int 0) (ty := .int) (C := RX13) (T := TX13) (N := 29) hx hb hts kc_RX13 tyX13 tyX13_ok nmX13 hown hK hP hD hS 0 rfl rfl 1 (by decide) k_fieldLink_88 (fun _ h9 => h9) rfl (by decide +kernel) rfl rfl (Nat.le_of_ble_eq_true rfl) dX13_restore_49 (fun H locs hP hD hS => ?_)
      have hP : va_P D vwCl (bMO k q 0 ea fa 0 tn he en ln sv wr dg ++ bI83 k (q 1) sd ++ bI83 k (q 3) sd ++ bF10 k (q 6) fs ++ bF10 k (q 8) fs) H := hP
      have hD : va_D A (bMO k q 0 ea fa 0 tn he en ln sv wr dg ++ bI83 k (q 1) sd ++ bI83 k (q 3) sd ++ bF10 k (q 6) fs ++ bF10 k (q 8) fs) := hD
      refine lv_aload_n hx hb dX13_restore_52 rfl (lv_at hl 0 rfl) ?_
      refine va_get (D := D) (ci := 11) (v := .ref (q 1)) (C := RX13) (T := TX13) (N := 29) hx hb hts kc_RX13 hown hK hP 0 rfl rfl 5 (by decide) k_fieldLink_16 (fun _ h9 => h9) rfl dX13_restore_53 ?_
      refine lv_iconst (v := 0) hx hb dX13_restore_56 (by decide) ?_
      refine ia_ld hx hb hK hP 1 rfl 0 (by omega) (by decide) dX13_restore_57 ?_
      have e_8 : (0 : Int32) = if sv = true then 0 else 1 := by first | (with_reducible rfl) | ((try simp only []); (repeat (first | rw [if_pos (by first | assumption | exact Eq.trans (b := false) (by assumption) (Eq.symm (by assumption)) | exact Eq.trans (b := true) (by assumption) (Eq.symm (by assumption)) | exact ⟨by assumption, by assumption⟩ | exact Or.inl (by assumption) | exact Or.inr (by assumption) | exact Or.inr (Or.inl (by assumption)) | exact Or.inr (Or.inr (by assumption)) | (simp only [Int32.lt_iff_toInt_lt, Int32.le_iff_toInt_le, i32_0, i32_1, i32_2, i32_3, i32_4, i32_9, i32_10, i32_99, i32_100, i32_1000, i32_9999] at *; omega))] | rw [if_neg (by first | assumption | (rintro (h9 | h9 | h9) <;> contradiction) | (rintro (h9 | h9) <;> contradiction) | (intro h9; exact Bool.noConfusion (Eq.trans (c := false) h9.symm (by assumption))) | (rintro ⟨h8, h9⟩; exact Bool.noConfusion (Eq.trans (c := false) h8.symm (by assumption))) | (rintro ⟨h8, h9⟩; exact Bool.noConfusion (Eq.trans (c := false) h9.symm (by assumption))) | (simp only [Int32.lt_iff_toInt_lt, Int32.le_iff_toInt_le, i32_0, i32_1, i32_2, i32_3, i32_4, i32_9, i32_10, i32_99, i32_100, i32_1000, i32_9999] at *; omega))])); (try rfl))
      have hP := Eq.mp (congrArg (fun z9 => va_P D vwCl (bMO k q z9 ea fa 0 tn he en ln sv wr dg ++ bI83 k (q 1) sd ++ bI83 k (q 3) sd ++ bF10 k (q 6) fs ++ bF10 k (q 8) fs) H) e_8) hP
      have hD := Eq.mp (congrArg (fun z9 => va_D A (bMO k q z9 ea fa 0 tn he en ln sv wr dg ++ bI83 k (q 1) sd ++ bI83 k (q 3) sd ++ bF10 k (q 6) fs ++ bF10 k (q 8) fs)) e_8) hD
      have e_9 : (0 : Nat) = if sv = true then 0 else ch := by first | (with_reducible rfl) | ((try simp only []); (repeat (first | rw [if_pos (by first | assumption | exact Eq.trans (b := false) (by assumption) (Eq.symm (by assumption)) | exact Eq.trans (b := true) (by assumption) (Eq.symm (by assumption)) | exact ⟨by assumption, by assumption⟩ | exact Or.inl (by assumption) | exact Or.inr (by assumption) | exact Or.inr (Or.inl (by assumption)) | exact Or.inr (Or.inr (by assumption)) | (simp only [Int32.lt_iff_toInt_lt, Int32.le_iff_toInt_le, i32_0, i32_1, i32_2, i32_3, i32_4, i32_9, i32_10, i32_99, i32_100, i32_1000, i32_9999] at *; omega))] | rw [if_neg (by first | assumption | (rintro (h9 | h9 | h9) <;> contradiction) | (rintro (h9 | h9) <;> contradiction) | (intro h9; exact Bool.noConfusion (Eq.trans (c := false) h9.symm (by assumption))) | (rintro ⟨h8, h9⟩; exact Bool.noConfusion (Eq.trans (c := false) h8.symm (by assumption))) | (rintro ⟨h8, h9⟩; exact Bool.noConfusion (Eq.trans (c := false) h9.symm (by assumption))) | (simp only [Int32.lt_iff_toInt_lt, Int32.le_iff_toInt_le, i32_0, i32_1, i32_2, i32_3, i32_4, i32_9, i32_10, i32_99, i32_100, i32_1000, i32_9999] at *; omega))])); (try rfl))
      have hP := Eq.mp (congrArg (fun z9 => va_P D vwCl (bMO k q (if sv = true then 0 else 1) ea fa z9 tn he en ln sv wr dg ++ bI83 k (q 1) sd ++ bI83 k (q 3) sd ++ bF10 k (q 6) fs ++ bF10 k (q 8) fs) H) e_9) hP
      have hD := Eq.mp (congrArg (fun z9 => va_D A (bMO k q (if sv = true then 0 else 1) ea fa z9 tn he en ln sv wr dg ++ bI83 k (q 1) sd ++ bI83 k (q 3) sd ++ bF10 k (q 6) fs ++ bF10 k (q 8) fs)) e_9) hD
      have e_10 : (sd : Nat → Int32) = if sv = true then sd else v := by first | (with_reducible rfl) | ((try simp only []); (repeat (first | rw [if_pos (by first | assumption | exact Eq.trans (b := false) (by assumption) (Eq.symm (by assumption)) | exact Eq.trans (b := true) (by assumption) (Eq.symm (by assumption)) | exact ⟨by assumption, by assumption⟩ | exact Or.inl (by assumption) | exact Or.inr (by assumption) | exact Or.inr (Or.inl (by assumption)) | exact Or.inr (Or.inr (by assumption)) | (simp only [Int32.lt_iff_toInt_lt, Int32.le_iff_toInt_le, i32_0, i32_1, i32_2, i32_3, i32_4, i32_9, i32_10, i32_99, i32_100, i32_1000, i32_9999] at *; omega))] | rw [if_neg (by first | assumption | (rintro (h9 | h9 | h9) <;> contradiction) | (rintro (h9 | h9) <;> contradiction) | (intro h9; exact Bool.noConfusion (Eq.trans (c := false) h9.symm (by assumption))) | (rintro ⟨h8, h9⟩; exact Bool.noConfusion (Eq.trans (c := false) h8.symm (by assumption))) | (rintro ⟨h8, h9⟩; exact Bool.noConfusion (Eq.trans (c := false) h9.symm (by assumption))) | (simp only [Int32.lt_iff_toInt_lt, Int32.le_iff_toInt_le, i32_0, i32_1, i32_2, i32_3, i32_4, i32_9, i32_10, i32_99, i32_100, i32_1000, i32_9999] at *; omega))])); (try rfl))
      have hP := Eq.mp (congrArg (fun z9 => va_P D vwCl (bMO k q (if sv = true then 0 else 1) ea fa (if sv = true then 0 else ch) tn he en ln sv wr dg ++ bI83 k (q 1) z9 ++ bI83 k (q 3) sd ++ bF10 k (q 6) fs ++ bF10 k (q 8) fs) H) e_10) hP
      have hD := Eq.mp (congrArg (fun z9 => va_D A (bMO k q (if sv = true then 0 else 1) ea fa (if sv = true then 0 else ch) tn he en ln sv wr dg ++ bI83 k (q 1) z9 ++ bI83 k (q 3) sd ++ bF10 k (q 6) fs ++ bF10 k (q 8) fs)) e_10) hD
      have e_11 : (fs : Nat → UInt32) = if sv = true then fs else fl := by first | (with_reducible rfl) | ((try simp only []); (repeat (first | rw [if_pos (by first | assumption | exact Eq.trans (b := false) (by assumption) (Eq.symm (by assumption)) | exact Eq.trans (b := true) (by assumption) (Eq.symm (by assumption)) | exact ⟨by assumption, by assumption⟩ | exact Or.inl (by assumption) | exact Or.inr (by assumption) | exact Or.inr (Or.inl (by assumption)) | exact Or.inr (Or.inr (by assumption)) | (simp only [Int32.lt_iff_toInt_lt, Int32.le_iff_toInt_le, i32_0, i32_1, i32_2, i32_3, i32_4, i32_9, i32_10, i32_99, i32_100, i32_1000, i32_9999] at *; omega))] | rw [if_neg (by first | assumption | (rintro (h9 | h9 | h9) <;> contradiction) | (rintro (h9 | h9) <;> contradiction) | (intro h9; exact Bool.noConfusion (Eq.trans (c := false) h9.symm (by assumption))) | (rintro ⟨h8, h9⟩; exact Bool.noConfusion (Eq.trans (c := false) h8.symm (by assumption))) | (rintro ⟨h8, h9⟩; exact Bool.noConfusion (Eq.trans (c := false) h9.symm (by assumption))) | (simp only [Int32.lt_iff_toInt_lt, Int32.le_iff_toInt_le, i32_0, i32_1, i32_2, i32_3, i32_4, i32_9, i32_10, i32_99, i32_100, i32_1000, i32_9999] at *; omega))])); (try rfl))
      have hP := Eq.mp (congrArg (fun z9 => va_P D vwCl (bMO k q (if sv = true then 0 else 1) ea fa (if sv = true then 0 else ch) tn he en ln sv wr dg ++ bI83 k (q 1) (if sv = true then sd else v) ++ bI83 k (q 3) sd ++ bF10 k (q 6) z9 ++ bF10 k (q 8) fs) H) e_11) hP
      have hD := Eq.mp (congrArg (fun z9 => va_D A (bMO k q (if sv = true then 0 else 1) ea fa (if sv = true then 0 else ch) tn he en ln sv wr dg ++ bI83 k (q 1) (if sv = true then sd else v) ++ bI83 k (q 3) sd ++ bF10 k (q 6) z9 ++ bF10 k (q 8) fs)) e_11) hD
      exact W.iret (v := sd 0) hx hb hr (fun t9 ht hW => ⟨⟨_, (), rfl, (by (try simp only []); (repeat (first | rw [if_pos (by first | assumption | exact Eq.trans (b := false) (by assumption) (Eq.symm (by assumption)) | exact Eq.trans (b := true) (by assumption) (Eq.symm (by assumption)) | exact ⟨by assumption, by assumption⟩ | exact Or.inl (by assumption) | exact Or.inr (by assumption) | exact Or.inr (Or.inl (by assumption)) | exact Or.inr (Or.inr (by assumption)) | (simp only [Int32.lt_iff_toInt_lt, Int32.le_iff_toInt_le, i32_0, i32_1, i32_2, i32_3, i32_4, i32_9, i32_10, i32_99, i32_100, i32_1000, i32_9999] at *; omega))] | rw [if_neg (by first | assumption | (rintro (h9 | h9 | h9) <;> contradiction) | (rintro (h9 | h9) <;> contradiction) | (intro h9; exact Bool.noConfusion (Eq.trans (c := false) h9.symm (by assumption))) | (rintro ⟨h8, h9⟩; exact Bool.noConfusion (Eq.trans (c := false) h8.symm (by assumption))) | (rintro ⟨h8, h9⟩; exact Bool.noConfusion (Eq.trans (c := false) h9.symm (by assumption))) | (simp only [Int32.lt_iff_toInt_lt, Int32.le_iff_toInt_le, i32_0, i32_1, i32_2, i32_3, i32_4, i32_9, i32_10, i32_99, i32_100, i32_1000, i32_9999] at *; omega))])); (try rfl)), ⟨by rw [ht]; exact hP, va_K.moved hW.alike hK, hD⟩⟩, hS.F ht⟩) hS.2.2 dX13_restore_58 hlocks
    · first | exact absurd c_7 (by decide) | exact absurd (by decide) c_7

set_option maxHeartbeats 4000000 in
set_option maxRecDepth 100000 in
theorem m_X13_chains (l9 : Launch) (D : va_G) (k : Nat → ClassId) (sz : Nat) (q : Nat → Nat) (th ea fa : Int32) (ch tn he en ln : Nat) (sv wr dg : Bool) (v : Nat → Int32) (wy mo : Nat → Int64) (n : Nat) (x y le : Int32) (hn : n ≤ 10) (hv0 : v 0 = nI n) : Met l9 yX13_chains wsX13_chains ({ frames := 2, cells := 0, slots := 0, locals := 43 }) (WPc D k [.ref (q 0), .int x, .int y, .int le] (bMO k q th ea fa ch tn he en ln sv wr dg ++ bI83 k (q 1) v ++ bL10 k (q 12) wy ++ bL10 k (q 13) mo) sz) (WI D k (bMO k q (thC n x y le) ea fa ch tn he en ln sv wr dg ++ bI83 k (q 1) v ++ bL10 k (q 12) (if thC n x y le = 0 then (itW n (vt v) x.toNatClampNeg wy mo le.toNatClampNeg).1 else wy) ++ bL10 k (q 13) (if thC n x y le = 0 then (itW n (vt v) x.toNatClampNeg wy mo le.toNatClampNeg).2 else mo)) (if thC n x y le = 0 then ((itW n (vt v) x.toNatClampNeg wy mo le.toNatClampNeg).1 y.toNatClampNeg).toInt32 else 0) (va_A (bMO k q th ea fa ch tn he en ln sv wr dg ++ bI83 k (q 1) v ++ bL10 k (q 12) wy ++ bL10 k (q 13) mo) sz)) 0 0 (va_A (bMO k q th ea fa ch tn he en ln sv wr dg ++ bI83 k (q 1) v ++ bL10 k (q 12) wy ++ bL10 k (q 13) mo) sz) := by
  refine wMet (y := yX13_chains) (cc := cX13_chains) (maxL := 7) (ret := (some .int)) (Qc := fun A => WI D k (bMO k q (thC n x y le) ea fa ch tn he en ln sv wr dg ++ bI83 k (q 1) v ++ bL10 k (q 12) (if thC n x y le = 0 then (itW n (vt v) x.toNatClampNeg wy mo le.toNatClampNeg).1 else wy) ++ bL10 k (q 13) (if thC n x y le = 0 then (itW n (vt v) x.toNatClampNeg wy mo le.toNatClampNeg).2 else mo)) (if thC n x y le = 0 then ((itW n (vt v) x.toNatClampNeg wy mo le.toNatClampNeg).1 y.toNatClampNeg).toInt32 else 0) A) [.ref (q 0), .int x, .int y, .int le] (by decide) rfl (Nat.le_of_ble_eq_true rfl) ?_
  intro p9 e9 s9 m9 bl9 me9 c9 ls A H hF hr hlocks hP hK hN hD hA hS hl hin
  have hl : lv_has ls 7 [(0, .ref (q 0)), (1, .int x), (2, .int y), (3, .int le)] := hl
  obtain ⟨hx, hb, hml, hown, hts⟩ := id hF
  have k_fieldLink_16 : (Cond.fieldLink RX13 16 "OpinionReactorModel" "v" "[I").before _ s9 = true := hts (.fieldLink RX13 16 "OpinionReactorModel" "v" "[I") (by decide +kernel)
  have kc_RX13 : ∀ w ∈ u_ws RX13 TX13 29, w ∈ wsX13_chains := by decide +kernel
  have k_fieldLink_51 : (Cond.fieldLink RX13 51 "OpinionReactorModel" "ways" "[J").before _ s9 = true := hts (.fieldLink RX13 51 "OpinionReactorModel" "ways" "[J") (by decide +kernel)
  have k_fieldLink_55 : (Cond.fieldLink RX13 55 "OpinionReactorModel" "more" "[J").before _ s9 = true := hts (.fieldLink RX13 55 "OpinionReactorModel" "more" "[J") (by decide +kernel)
  have k_constantLong_169 : (Cond.constantLong RX13 169 (1000003)).before _ s9 = true := hts (.constantLong RX13 169 (1000003)) (by decide +kernel)
  have k_fieldLink_77 : (Cond.fieldLink RX13 77 "OpinionReactorModel" "thrown" "I").before _ s9 = true := hts (.fieldLink RX13 77 "OpinionReactorModel" "thrown" "I") (by decide +kernel)
  have loop_86 : ∀ (fuel : Nat) (u j j2 r : Nat), (u ≤ r) → (j < n) → (j2 < n) → (r ≤ 999) → (thC n x y le = 0) → (x.toNatClampNeg = j) → (y.toNatClampNeg = j2) → (le.toNatClampNeg = r) → r - u < fuel → ∀ (ls : Array Slot), ∀ (H : Heap) (locs : List Loc), va_P D vwCl (bMO k q 0 ea fa ch tn he en ln sv wr dg ++ bI83 k (q 1) v ++ bL10 k (q 12) ((itW n (vt v) j wy mo u).1) ++ bL10 k (q 13) ((itW n (vt v) j wy mo u).2)) H → va_D A (bMO k q 0 ea fa ch tn he en ln sv wr dg ++ bI83 k (q 1) v ++ bL10 k (q 12) ((itW n (vt v) j wy mo u).1) ++ bL10 k (q 13) ((itW n (vt v) j wy mo u).2)) → va_S A s9.heap H locs → lv_has ls 7 [(0, .ref (q 0)), (1, .int (nI j)), (2, .int (nI j2)), (3, .int (nI r)), (4, .int (nI u))] → W p9 l9 e9 ({ frames := 2, cells := 0, slots := 0, locals := 43 }) s9 m9 ([.ref (q 0), .int x, .int y, .int le] : List Value).toArray bl9 me9 c9 H locs 0 0 (MQ bl9 (WI D k (bMO k q (thC n x y le) ea fa ch tn he en ln sv wr dg ++ bI83 k (q 1) v ++ bL10 k (q 12) (if thC n x y le = 0 then (itW n (vt v) x.toNatClampNeg wy mo le.toNatClampNeg).1 else wy) ++ bL10 k (q 13) (if thC n x y le = 0 then (itW n (vt v) x.toNatClampNeg wy mo le.toNatClampNeg).2 else mo)) (if thC n x y le = 0 then ((itW n (vt v) x.toNatClampNeg wy mo le.toNatClampNeg).1 y.toNatClampNeg).toInt32 else 0) A) ([.ref (q 0), .int x, .int y, .int le] : List Value).toArray s9 0 0 A) (F0 m9 86 ls []) := by
    intro fuel
    induction fuel with
    | zero => intro u j j2 r hu hj hj2 hr9 hth hxj hyj hle hfuel_86; exact absurd hfuel_86 (Nat.not_lt_zero _)
    | succ fuel ih_86 =>
      intro u j j2 r hu hj hj2 hr9 hth hxj hyj hle hfuel_86 ls H locs hP hD hS hl
      have loop_175 : ∀ (fuel : Nat) (b : Nat), (b ≤ n) → (u < r) → n - b < fuel → ∀ (ls : Array Slot), ∀ (H : Heap) (locs : List Loc), va_P D vwCl (bMO k q 0 ea fa ch tn he en ln sv wr dg ++ bI83 k (q 1) v ++ bL10 k (q 12) (wyR (itW n (vt v) j wy mo u).1 (wyO n (vt v) (itW n (vt v) j wy mo u).1 (itW n (vt v) j wy mo u).2 n) b) ++ bL10 k (q 13) (wyO n (vt v) (itW n (vt v) j wy mo u).1 (itW n (vt v) j wy mo u).2 n)) H → va_D A (bMO k q 0 ea fa ch tn he en ln sv wr dg ++ bI83 k (q 1) v ++ bL10 k (q 12) (wyR (itW n (vt v) j wy mo u).1 (wyO n (vt v) (itW n (vt v) j wy mo u).1 (itW n (vt v) j wy mo u).2 n) b) ++ bL10 k (q 13) (wyO n (vt v) (itW n (vt v) j wy mo u).1 (itW n (vt v) j wy mo u).2 n)) → va_S A s9.heap H locs → lv_has ls 7 [(0, .ref (q 0)), (1, .int (nI j)), (2, .int (nI j2)), (3, .int (nI r)), (4, .int (nI u)), (5, .int (nI b))] → W p9 l9 e9 ({ frames := 2, cells := 0, slots := 0, locals := 43 }) s9 m9 ([.ref (q 0), .int x, .int y, .int le] : List Value).toArray bl9 me9 c9 H locs 0 0 (MQ bl9 (WI D k (bMO k q (thC n x y le) ea fa ch tn he en ln sv wr dg ++ bI83 k (q 1) v ++ bL10 k (q 12) (if thC n x y le = 0 then (itW n (vt v) x.toNatClampNeg wy mo le.toNatClampNeg).1 else wy) ++ bL10 k (q 13) (if thC n x y le = 0 then (itW n (vt v) x.toNatClampNeg wy mo le.toNatClampNeg).2 else mo)) (if thC n x y le = 0 then ((itW n (vt v) x.toNatClampNeg wy mo le.toNatClampNeg).1 y.toNatClampNeg).toInt32 else 0) A) ([.ref (q 0), .int x, .int y, .int le] : List Value).toArray s9 0 0 A) (F0 m9 175 ls []) := by
        intro fuel
        induction fuel with
        | zero => intro b hb9 hur hfuel_175; exact absurd hfuel_175 (Nat.not_lt_zero _)
        | succ fuel ih_175 =>
          intro b hb9 hur hfuel_175 ls H locs hP hD hS hl
          refine lv_iload hx hb dX13_chains_175 (lv_at hl 5 rfl) ?_
          refine lv_aload_n hx hb dX13_chains_177 rfl (lv_at hl 0 rfl) ?_
          refine va_get (D := D) (ci := 11) (v := .ref (q 1)) (C := RX13) (T := TX13) (N := 29) hx hb hts kc_RX13 hown hK hP 0 rfl rfl 5 (by decide) k_fieldLink_16 (fun _ h9 => h9) rfl dX13_chains_178 ?_
          refine lv_iconst (v := 0) hx hb dX13_chains_181 (by decide) ?_
          refine ia_ld hx hb hK hP 1 rfl 0 (by omega) (by decide) dX13_chains_182 ?_
          rw [hv0]
          refine lv_icmp_ge (tgt := 210) hx hb dX13_chains_183 (by decide) (fun c_1 => ?_) (fun c_1 => ?_)
          · skip
            have c_1 : n ≤ b := (nI_leI (a := n) (b := b) (by omega) (by omega)).mp c_1
            refine lv_iinc (v := nI (u + 1)) (lv' := [(4, .int (nI (u + 1))), (0, .ref (q 0)), (1, .int (nI j)), (2, .int (nI j2)), (3, .int (nI r)), (5, .int (nI b))]) hx hb dX13_chains_210 hl (k := 4) rfl (nI_inc u) (by decide) rfl (fun ls hl => ?_)
            refine lv_goto (tgt := 86) hx hb dX13_chains_213 (by decide) ?_
            have e_2 : (wyR (itW n (vt v) j wy mo u).1 (wyO n (vt v) (itW n (vt v) j wy mo u).1 (itW n (vt v) j wy mo u).2 n) b : Nat → Int64) = (itW n (vt v) j wy mo (u + 1)).1 := by first | (with_reducible rfl) | (first | (rw [itW_s, show b = n by omega]; rfl) | rfl)
            have hP := Eq.mp (congrArg (fun z9 => va_P D vwCl (bMO k q 0 ea fa ch tn he en ln sv wr dg ++ bI83 k (q 1) v ++ bL10 k (q 12) z9 ++ bL10 k (q 13) (wyO n (vt v) (itW n (vt v) j wy mo u).1 (itW n (vt v) j wy mo u).2 n)) H) e_2) hP
            have hD := Eq.mp (congrArg (fun z9 => va_D A (bMO k q 0 ea fa ch tn he en ln sv wr dg ++ bI83 k (q 1) v ++ bL10 k (q 12) z9 ++ bL10 k (q 13) (wyO n (vt v) (itW n (vt v) j wy mo u).1 (itW n (vt v) j wy mo u).2 n))) e_2) hD
            have e_3 : (wyO n (vt v) (itW n (vt v) j wy mo u).1 (itW n (vt v) j wy mo u).2 n : Nat → Int64) = (itW n (vt v) j wy mo (u + 1)).2 := by first | (with_reducible rfl) | (first | (rw [itW_s, show b = n by omega]; rfl) | rfl)
            have hP := Eq.mp (congrArg (fun z9 => va_P D vwCl (bMO k q 0 ea fa ch tn he en ln sv wr dg ++ bI83 k (q 1) v ++ bL10 k (q 12) ((itW n (vt v) j wy mo (u + 1)).1) ++ bL10 k (q 13) z9) H) e_3) hP
            have hD := Eq.mp (congrArg (fun z9 => va_D A (bMO k q 0 ea fa ch tn he en ln sv wr dg ++ bI83 k (q 1) v ++ bL10 k (q 12) ((itW n (vt v) j wy mo (u + 1)).1) ++ bL10 k (q 13) z9)) e_3) hD
            exact ih_86 (u + 1) j j2 r (by omega) hj hj2 hr9 hth hxj hyj hle (by omega) ls _ _ hP hD hS (lv_one hl 1 rfl rfl (lv_one hl 2 rfl rfl (lv_one hl 3 rfl rfl (lv_one hl 4 rfl rfl (lv_one hl 0 rfl rfl (lv_nil hl))))))
          · skip
            have c_1 : ¬ n ≤ b := fun h => c_1 ((nI_leI (a := n) (b := b) (by omega) (by omega)).mpr h)
            refine lv_aload_n hx hb dX13_chains_186 rfl (lv_at hl 0 rfl) ?_
            refine va_get (D := D) (ci := 11) (v := .ref (q 12)) (C := RX13) (T := TX13) (N := 29) hx hb hts kc_RX13 hown hK hP 0 rfl rfl 16 (by decide) k_fieldLink_51 (fun _ h9 => h9) rfl dX13_chains_187 ?_
            refine lv_iload hx hb dX13_chains_190 (lv_at hl 5 rfl) ?_
            refine lv_aload_n hx hb dX13_chains_192 rfl (lv_at hl 0 rfl) ?_
            refine va_get (D := D) (ci := 11) (v := .ref (q 13)) (C := RX13) (T := TX13) (N := 29) hx hb hts kc_RX13 hown hK hP 0 rfl rfl 17 (by decide) k_fieldLink_55 (fun _ h9 => h9) rfl dX13_chains_193 ?_
            refine lv_iload hx hb dX13_chains_196 (lv_at hl 5 rfl) ?_
            refine la_ld hx hb hK hP 3 rfl b (by omega) (by decide) dX13_chains_198 ?_
            refine lv_ldc2 hx hb hown k_constantLong_169 dX13_chains_199 ?_
            refine lv_lrem hx hb dX13_chains_202 (by decide) ?_
            refine la_st hx hb hK hP hD hS 2 rfl b (by omega) (by decide) (bMO k q 0 ea fa ch tn he en ln sv wr dg ++ bI83 k (q 1) v ++ bL10 k (q 12) (vp_updL (wyR (itW n (vt v) j wy mo u).1 (wyO n (vt v) (itW n (vt v) j wy mo u).1 (itW n (vt v) j wy mo u).2 n) b) b (((wyO n (vt v) (itW n (vt v) j wy mo u).1 (itW n (vt v) j wy mo u).2 n) b) - ((wyO n (vt v) (itW n (vt v) j wy mo u).1 (itW n (vt v) j wy mo u).2 n) b) / 1000003 * 1000003)) ++ bL10 k (q 13) (wyO n (vt v) (itW n (vt v) j wy mo u).1 (itW n (vt v) j wy mo u).2 n)) rfl dX13_chains_203 (fun H locs hP hD hS => ?_)
            refine lv_iinc (v := nI (b + 1)) (lv' := [(5, .int (nI (b + 1))), (0, .ref (q 0)), (1, .int (nI j)), (2, .int (nI j2)), (3, .int (nI r)), (4, .int (nI u))]) hx hb dX13_chains_204 hl (k := 5) rfl (nI_inc b) (by decide) rfl (fun ls hl => ?_)
            refine lv_goto (tgt := 175) hx hb dX13_chains_207 (by decide) ?_
            have e_4 : (vp_updL (wyR (itW n (vt v) j wy mo u).1 (wyO n (vt v) (itW n (vt v) j wy mo u).1 (itW n (vt v) j wy mo u).2 n) b) b (((wyO n (vt v) (itW n (vt v) j wy mo u).1 (itW n (vt v) j wy mo u).2 n) b) - ((wyO n (vt v) (itW n (vt v) j wy mo u).1 (itW n (vt v) j wy mo u).2 n) b) / 1000003 * 1000003) : Nat → Int64) = wyR (itW n (vt v) j wy mo u).1 (wyO n (vt v) (itW n (vt v) j wy mo u).1 (itW n (vt v) j wy mo u).2 n) (b + 1) := by first | (with_reducible rfl) | (rfl)
            have hP := Eq.mp (congrArg (fun z9 => va_P D vwCl (bMO k q 0 ea fa ch tn he en ln sv wr dg ++ bI83 k (q 1) v ++ bL10 k (q 12) z9 ++ bL10 k (q 13) (wyO n (vt v) (itW n (vt v) j wy mo u).1 (itW n (vt v) j wy mo u).2 n)) H) e_4) hP
            have hD := Eq.mp (congrArg (fun z9 => va_D A (bMO k q 0 ea fa ch tn he en ln sv wr dg ++ bI83 k (q 1) v ++ bL10 k (q 12) z9 ++ bL10 k (q 13) (wyO n (vt v) (itW n (vt v) j wy mo u).1 (itW n (vt v) j wy mo u).2 n))) e_4) hD
            exact ih_175 (b + 1) (by omega) hur (by omega) ls _ _ hP hD hS (lv_one hl 1 rfl rfl (lv_one hl 2 rfl rfl (lv_one hl 3 rfl rfl (lv_one hl 4 rfl rfl (lv_one hl 5 rfl rfl (lv_one hl 0 rfl rfl (lv_nil hl)))))))
      have loop_95 : ∀ (fuel : Nat) (a : Nat), (a ≤ n) → (u < r) → n - a < fuel → ∀ (ls : Array Slot), ∀ (H : Heap) (locs : List Loc), va_P D vwCl (bMO k q 0 ea fa ch tn he en ln sv wr dg ++ bI83 k (q 1) v ++ bL10 k (q 12) ((itW n (vt v) j wy mo u).1) ++ bL10 k (q 13) (wyO n (vt v) (itW n (vt v) j wy mo u).1 (itW n (vt v) j wy mo u).2 a)) H → va_D A (bMO k q 0 ea fa ch tn he en ln sv wr dg ++ bI83 k (q 1) v ++ bL10 k (q 12) ((itW n (vt v) j wy mo u).1) ++ bL10 k (q 13) (wyO n (vt v) (itW n (vt v) j wy mo u).1 (itW n (vt v) j wy mo u).2 a)) → va_S A s9.heap H locs → lv_has ls 7 [(0, .ref (q 0)), (1, .int (nI j)), (2, .int (nI j2)), (3, .int (nI r)), (4, .int (nI u)), (5, .int (nI a))] → W p9 l9 e9 ({ frames := 2, cells := 0, slots := 0, locals := 43 }) s9 m9 ([.ref (q 0), .int x, .int y, .int le] : List Value).toArray bl9 me9 c9 H locs 0 0 (MQ bl9 (WI D k (bMO k q (thC n x y le) ea fa ch tn he en ln sv wr dg ++ bI83 k (q 1) v ++ bL10 k (q 12) (if thC n x y le = 0 then (itW n (vt v) x.toNatClampNeg wy mo le.toNatClampNeg).1 else wy) ++ bL10 k (q 13) (if thC n x y le = 0 then (itW n (vt v) x.toNatClampNeg wy mo le.toNatClampNeg).2 else mo)) (if thC n x y le = 0 then ((itW n (vt v) x.toNatClampNeg wy mo le.toNatClampNeg).1 y.toNatClampNeg).toInt32 else 0) A) ([.ref (q 0), .int x, .int y, .int le] : List Value).toArray s9 0 0 A) (F0 m9 95 ls []) := by
        intro fuel
        induction fuel with
        | zero => intro a ha hur hfuel_95; exact absurd hfuel_95 (Nat.not_lt_zero _)
        | succ fuel ih_95 =>
          intro a ha hur hfuel_95 ls H locs hP hD hS hl
          have loop_117 : ∀ (fuel : Nat) (z : Nat), (z ≤ n) → (a < n) → n - z < fuel → ∀ (ls : Array Slot), ∀ (H : Heap) (locs : List Loc), va_P D vwCl (bMO k q 0 ea fa ch tn he en ln sv wr dg ++ bI83 k (q 1) v ++ bL10 k (q 12) ((itW n (vt v) j wy mo u).1) ++ bL10 k (q 13) (wyI (vt v) (itW n (vt v) j wy mo u).1 a (wyO n (vt v) (itW n (vt v) j wy mo u).1 (itW n (vt v) j wy mo u).2 a) z)) H → va_D A (bMO k q 0 ea fa ch tn he en ln sv wr dg ++ bI83 k (q 1) v ++ bL10 k (q 12) ((itW n (vt v) j wy mo u).1) ++ bL10 k (q 13) (wyI (vt v) (itW n (vt v) j wy mo u).1 a (wyO n (vt v) (itW n (vt v) j wy mo u).1 (itW n (vt v) j wy mo u).2 a) z)) → va_S A s9.heap H locs → lv_has ls 7 [(0, .ref (q 0)), (1, .int (nI j)), (2, .int (nI j2)), (3, .int (nI r)), (4, .int (nI u)), (5, .int (nI a)), (6, .int (nI z))] → W p9 l9 e9 ({ frames := 2, cells := 0, slots := 0, locals := 43 }) s9 m9 ([.ref (q 0), .int x, .int y, .int le] : List Value).toArray bl9 me9 c9 H locs 0 0 (MQ bl9 (WI D k (bMO k q (thC n x y le) ea fa ch tn he en ln sv wr dg ++ bI83 k (q 1) v ++ bL10 k (q 12) (if thC n x y le = 0 then (itW n (vt v) x.toNatClampNeg wy mo le.toNatClampNeg).1 else wy) ++ bL10 k (q 13) (if thC n x y le = 0 then (itW n (vt v) x.toNatClampNeg wy mo le.toNatClampNeg).2 else mo)) (if thC n x y le = 0 then ((itW n (vt v) x.toNatClampNeg wy mo le.toNatClampNeg).1 y.toNatClampNeg).toInt32 else 0) A) ([.ref (q 0), .int x, .int y, .int le] : List Value).toArray s9 0 0 A) (F0 m9 117 ls []) := by
            intro fuel
            induction fuel with
            | zero => intro z hz han hfuel_117; exact absurd hfuel_117 (Nat.not_lt_zero _)
            | succ fuel ih_117 =>
              intro z hz han hfuel_117 ls H locs hP hD hS hl
              refine lv_iload hx hb dX13_chains_117 (lv_at hl 6 rfl) ?_
              refine lv_aload_n hx hb dX13_chains_119 rfl (lv_at hl 0 rfl) ?_
              refine va_get (D := D) (ci := 11) (v := .ref (q 1)) (C := RX13) (T := TX13) (N := 29) hx hb hts kc_RX13 hown hK hP 0 rfl rfl 5 (by decide) k_fieldLink_16 (fun _ h9 => h9) rfl dX13_chains_120 ?_
              refine lv_iconst (v := 0) hx hb dX13_chains_123 (by decide) ?_
              refine ia_ld hx hb hK hP 1 rfl 0 (by omega) (by decide) dX13_chains_124 ?_
              rw [hv0]
              refine lv_icmp_ge (tgt := 166) hx hb dX13_chains_125 (by decide) (fun c_5 => ?_) (fun c_5 => ?_)
              · skip
                have c_5 : n ≤ z := (nI_leI (a := n) (b := z) (by omega) (by omega)).mp c_5
                refine lv_iinc (v := nI (a + 1)) (lv' := [(5, .int (nI (a + 1))), (0, .ref (q 0)), (1, .int (nI j)), (2, .int (nI j2)), (3, .int (nI r)), (4, .int (nI u)), (6, .int (nI z))]) hx hb dX13_chains_166 hl (k := 5) rfl (nI_inc a) (by decide) rfl (fun ls hl => ?_)
                refine lv_goto (tgt := 95) hx hb dX13_chains_169 (by decide) ?_
                have e_6 : (wyI (vt v) (itW n (vt v) j wy mo u).1 a (wyO n (vt v) (itW n (vt v) j wy mo u).1 (itW n (vt v) j wy mo u).2 a) z : Nat → Int64) = wyO n (vt v) (itW n (vt v) j wy mo u).1 (itW n (vt v) j wy mo u).2 (a + 1) := by first | (with_reducible rfl) | (rw [wyO_s, show z = n by omega])
                have hP := Eq.mp (congrArg (fun z9 => va_P D vwCl (bMO k q 0 ea fa ch tn he en ln sv wr dg ++ bI83 k (q 1) v ++ bL10 k (q 12) ((itW n (vt v) j wy mo u).1) ++ bL10 k (q 13) z9) H) e_6) hP
                have hD := Eq.mp (congrArg (fun z9 => va_D A (bMO k q 0 ea fa ch tn he en ln sv wr dg ++ bI83 k (q 1) v ++ bL10 k (q 12) ((itW n (vt v) j wy mo u).1) ++ bL10 k (q 13) z9)) e_6) hD
                exact ih_95 (a + 1) (by omega) hur (by omega) ls _ _ hP hD hS (lv_one hl 1 rfl rfl (lv_one hl 2 rfl rfl (lv_one hl 3 rfl rfl (lv_one hl 4 rfl rfl (lv_one hl 5 rfl rfl (lv_one hl 0 rfl rfl (lv_nil hl)))))))
              · skip
                have c_5 : ¬ n ≤ z := fun h => c_5 ((nI_leI (a := n) (b := z) (by omega) (by omega)).mpr h)
                refine lv_aload_n hx hb dX13_chains_128 rfl (lv_at hl 0 rfl) ?_
                refine va_get (D := D) (ci := 11) (v := .ref (q 13)) (C := RX13) (T := TX13) (N := 29) hx hb hts kc_RX13 hown hK hP 0 rfl rfl 17 (by decide) k_fieldLink_55 (fun _ h9 => h9) rfl dX13_chains_129 ?_
                refine lv_iload hx hb dX13_chains_132 (lv_at hl 5 rfl) ?_
                refine lv_dup2_11 hx hb dX13_chains_134 rfl rfl ?_
                refine la_ld hx hb hK hP 3 rfl a (by omega) (by decide) dX13_chains_135 ?_
                refine lv_aload_n hx hb dX13_chains_136 rfl (lv_at hl 0 rfl) ?_
                refine lv_iload hx hb dX13_chains_137 (lv_at hl 6 rfl) ?_
                refine lv_iload hx hb dX13_chains_139 (lv_at hl 5 rfl) ?_
                refine vp_callSi (W.runV (As := [.int (nI z), .int (nI a)]) (rest := [.long ((wyI (vt v) (itW n (vt v) j wy mo u).1 a (wyO n (vt v) (itW n (vt v) j wy mo u).1 (itW n (vt v) j wy mo u).2 a) z) a), .int (nI a), .ref (q 13)]) hF (m_X13_hits l9 D k q 0 ea fa ch tn he en ln sv wr dg v n z a hn hv0 (by omega) (by omega)) (cwV 2 hts gX13_chains_X13_hits rfl rfl rfl (by decide +kernel) ⟨Nat.le_of_ble_eq_true rfl, Nat.le_of_ble_eq_true rfl⟩) (rPreV hK hN hP [0, 1] rfl 0 11 rfl rfl) rfl rfl hl.1 rfl (lv_room (Nat.le_of_ble_eq_true rfl)) dX13_chains_141 ⟨Nat.zero_le _, Nat.zero_le _⟩) (fun r_7 hr_7 => ?_)
                subst hr_7
                refine lv_if_eq (tgt := 157) hx hb dX13_chains_144 (by decide) (fun c_8 => ?_) (fun c_8 => ?_)
                · skip
                  have c_8 : (tb (vt v z) a) = false := bI_0 c_8
                  refine lv_lconst (v := 0) hx hb dX13_chains_157 (by decide) ?_
                  refine lv_ladd hx hb dX13_chains_158 ?_
                  refine la_st hx hb hK hP hD hS 3 rfl a (by omega) (by decide) (bMO k q 0 ea fa ch tn he en ln sv wr dg ++ bI83 k (q 1) v ++ bL10 k (q 12) ((itW n (vt v) j wy mo u).1) ++ bL10 k (q 13) (vp_updL (wyI (vt v) (itW n (vt v) j wy mo u).1 a (wyO n (vt v) (itW n (vt v) j wy mo u).1 (itW n (vt v) j wy mo u).2 a) z) a (((wyI (vt v) (itW n (vt v) j wy mo u).1 a (wyO n (vt v) (itW n (vt v) j wy mo u).1 (itW n (vt v) j wy mo u).2 a) z) a) + 0))) rfl dX13_chains_159 (fun H locs hP hD hS => ?_)
                  refine lv_iinc (v := nI (z + 1)) (lv' := [(6, .int (nI (z + 1))), (0, .ref (q 0)), (1, .int (nI j)), (2, .int (nI j2)), (3, .int (nI r)), (4, .int (nI u)), (5, .int (nI a))]) hx hb dX13_chains_160 hl (k := 6) rfl (nI_inc z) (by decide) rfl (fun ls hl => ?_)
                  refine lv_goto (tgt := 117) hx hb dX13_chains_163 (by decide) ?_
                  have e_9 : (vp_updL (wyI (vt v) (itW n (vt v) j wy mo u).1 a (wyO n (vt v) (itW n (vt v) j wy mo u).1 (itW n (vt v) j wy mo u).2 a) z) a (((wyI (vt v) (itW n (vt v) j wy mo u).1 a (wyO n (vt v) (itW n (vt v) j wy mo u).1 (itW n (vt v) j wy mo u).2 a) z) a) + 0) : Nat → Int64) = wyI (vt v) (itW n (vt v) j wy mo u).1 a (wyO n (vt v) (itW n (vt v) j wy mo u).1 (itW n (vt v) j wy mo u).2 a) (z + 1) := by first | (with_reducible rfl) | (rw [wyI_s]; (first | rw [if_pos (by assumption)] | rw [if_neg (by assumption)] | (simp [*]; done)); (try rfl))
                  have hP := Eq.mp (congrArg (fun z9 => va_P D vwCl (bMO k q 0 ea fa ch tn he en ln sv wr dg ++ bI83 k (q 1) v ++ bL10 k (q 12) ((itW n (vt v) j wy mo u).1) ++ bL10 k (q 13) z9) H) e_9) hP
                  have hD := Eq.mp (congrArg (fun z9 => va_D A (bMO k q 0 ea fa ch tn he en ln sv wr dg ++ bI83 k (q 1) v ++ bL10 k (q 12) ((itW n (vt v) j wy mo u).1) ++ bL10 k (q 13) z9)) e_9) hD
                  exact ih_117 (z + 1) (by omega) han (by omega) ls _ _ hP hD hS (lv_one hl 1 rfl rfl (lv_one hl 2 rfl rfl (lv_one hl 3 rfl rfl (lv_one hl 4 rfl rfl (lv_one hl 5 rfl rfl (lv_one hl 6 rfl rfl (lv_one hl 0 rfl rfl (lv_nil hl))))))))
                · skip
                  have c_8 : (tb (vt v z) a) = true := bI_1 c_8
                  refine lv_aload_n hx hb dX13_chains_147 rfl (lv_at hl 0 rfl) ?_
                  refine va_get (D := D) (ci := 11) (v := .ref (q 12)) (C := RX13) (T := TX13) (N := 29) hx hb hts kc_RX13 hown hK hP 0 rfl rfl 16 (by decide) k_fieldLink_51 (fun _ h9 => h9) rfl dX13_chains_148 ?_
                  refine lv_iload hx hb dX13_chains_151 (lv_at hl 6 rfl) ?_
                  refine la_ld hx hb hK hP 2 rfl z (by omega) (by decide) dX13_chains_153 ?_
                  refine lv_goto (tgt := 158) hx hb dX13_chains_154 (by decide) ?_
                  refine lv_ladd hx hb dX13_chains_158 ?_
                  refine la_st hx hb hK hP hD hS 3 rfl a (by omega) (by decide) (bMO k q 0 ea fa ch tn he en ln sv wr dg ++ bI83 k (q 1) v ++ bL10 k (q 12) ((itW n (vt v) j wy mo u).1) ++ bL10 k (q 13) (vp_updL (wyI (vt v) (itW n (vt v) j wy mo u).1 a (wyO n (vt v) (itW n (vt v) j wy mo u).1 (itW n (vt v) j wy mo u).2 a) z) a (((wyI (vt v) (itW n (vt v) j wy mo u).1 a (wyO n (vt v) (itW n (vt v) j wy mo u).1 (itW n (vt v) j wy mo u).2 a) z) a) + (((itW n (vt v) j wy mo u).1) z)))) rfl dX13_chains_159 (fun H locs hP hD hS => ?_)
                  refine lv_iinc (v := nI (z + 1)) (lv' := [(6, .int (nI (z + 1))), (0, .ref (q 0)), (1, .int (nI j)), (2, .int (nI j2)), (3, .int (nI r)), (4, .int (nI u)), (5, .int (nI a))]) hx hb dX13_chains_160 hl (k := 6) rfl (nI_inc z) (by decide) rfl (fun ls hl => ?_)
                  refine lv_goto (tgt := 117) hx hb dX13_chains_163 (by decide) ?_
                  have e_10 : (vp_updL (wyI (vt v) (itW n (vt v) j wy mo u).1 a (wyO n (vt v) (itW n (vt v) j wy mo u).1 (itW n (vt v) j wy mo u).2 a) z) a (((wyI (vt v) (itW n (vt v) j wy mo u).1 a (wyO n (vt v) (itW n (vt v) j wy mo u).1 (itW n (vt v) j wy mo u).2 a) z) a) + (((itW n (vt v) j wy mo u).1) z)) : Nat → Int64) = wyI (vt v) (itW n (vt v) j wy mo u).1 a (wyO n (vt v) (itW n (vt v) j wy mo u).1 (itW n (vt v) j wy mo u).2 a) (z + 1) := by first | (with_reducible rfl) | (rw [wyI_s]; (first | rw [if_pos (by assumption)] | rw [if_neg (by assumption)] | (simp [*]; done)); (try rfl))
                  have hP := Eq.mp (congrArg (fun z9 => va_P D vwCl (bMO k q 0 ea fa ch tn he en ln sv wr dg ++ bI83 k (q 1) v ++ bL10 k (q 12) ((itW n (vt v) j wy mo u).1) ++ bL10 k (q 13) z9) H) e_10) hP
                  have hD := Eq.mp (congrArg (fun z9 => va_D A (bMO k q 0 ea fa ch tn he en ln sv wr dg ++ bI83 k (q 1) v ++ bL10 k (q 12) ((itW n (vt v) j wy mo u).1) ++ bL10 k (q 13) z9)) e_10) hD
                  exact ih_117 (z + 1) (by omega) han (by omega) ls _ _ hP hD hS (lv_one hl 1 rfl rfl (lv_one hl 2 rfl rfl (lv_one hl 3 rfl rfl (lv_one hl 4 rfl rfl (lv_one hl 5 rfl rfl (lv_one hl 6 rfl rfl (lv_one hl 0 rfl rfl (lv_nil hl))))))))
          refine lv_iload hx hb dX13_chains_95 (lv_at hl 5 rfl) ?_
          refine lv_aload_n hx hb dX13_chains_97 rfl (lv_at hl 0 rfl) ?_
          refine va_get (D := D) (ci := 11) (v := .ref (q 1)) (C := RX13) (T := TX13) (N := 29) hx hb hts kc_RX13 hown hK hP 0 rfl rfl 5 (by decide) k_fieldLink_16 (fun _ h9 => h9) rfl dX13_chains_98 ?_
          refine lv_iconst (v := 0) hx hb dX13_chains_101 (by decide) ?_
          refine ia_ld hx hb hK hP 1 rfl 0 (by omega) (by decide) dX13_chains_102 ?_
          rw [hv0]
          refine lv_icmp_ge (tgt := 172) hx hb dX13_chains_103 (by decide) (fun c_11 => ?_) (fun c_11 => ?_)
          · skip
            have c_11 : n ≤ a := (nI_leI (a := n) (b := a) (by omega) (by omega)).mp c_11
            refine lv_iconst (v := 0) hx hb dX13_chains_172 (by decide) ?_
            refine lv_istore (lv' := [(5, .int 0), (0, .ref (q 0)), (1, .int (nI j)), (2, .int (nI j2)), (3, .int (nI r)), (4, .int (nI u))]) hx hb dX13_chains_173 hl (by decide) rfl (fun ls hl => ?_)
            have e_12 : ((itW n (vt v) j wy mo u).1 : Nat → Int64) = wyR (itW n (vt v) j wy mo u).1 (wyO n (vt v) (itW n (vt v) j wy mo u).1 (itW n (vt v) j wy mo u).2 n) 0 := by first | (with_reducible rfl) | (first | rfl | rw [show a = n by omega])
            have hP := Eq.mp (congrArg (fun z9 => va_P D vwCl (bMO k q 0 ea fa ch tn he en ln sv wr dg ++ bI83 k (q 1) v ++ bL10 k (q 12) z9 ++ bL10 k (q 13) (wyO n (vt v) (itW n (vt v) j wy mo u).1 (itW n (vt v) j wy mo u).2 a)) H) e_12) hP
            have hD := Eq.mp (congrArg (fun z9 => va_D A (bMO k q 0 ea fa ch tn he en ln sv wr dg ++ bI83 k (q 1) v ++ bL10 k (q 12) z9 ++ bL10 k (q 13) (wyO n (vt v) (itW n (vt v) j wy mo u).1 (itW n (vt v) j wy mo u).2 a))) e_12) hD
            have e_13 : (wyO n (vt v) (itW n (vt v) j wy mo u).1 (itW n (vt v) j wy mo u).2 a : Nat → Int64) = wyO n (vt v) (itW n (vt v) j wy mo u).1 (itW n (vt v) j wy mo u).2 n := by first | (with_reducible rfl) | (first | rfl | rw [show a = n by omega])
            have hP := Eq.mp (congrArg (fun z9 => va_P D vwCl (bMO k q 0 ea fa ch tn he en ln sv wr dg ++ bI83 k (q 1) v ++ bL10 k (q 12) (wyR (itW n (vt v) j wy mo u).1 (wyO n (vt v) (itW n (vt v) j wy mo u).1 (itW n (vt v) j wy mo u).2 n) 0) ++ bL10 k (q 13) z9) H) e_13) hP
            have hD := Eq.mp (congrArg (fun z9 => va_D A (bMO k q 0 ea fa ch tn he en ln sv wr dg ++ bI83 k (q 1) v ++ bL10 k (q 12) (wyR (itW n (vt v) j wy mo u).1 (wyO n (vt v) (itW n (vt v) j wy mo u).1 (itW n (vt v) j wy mo u).2 n) 0) ++ bL10 k (q 13) z9)) e_13) hD
            exact loop_175 ((n - 0) + 1) 0 (by omega) (by omega) (Nat.lt_succ_self _) ls _ _ hP hD hS (lv_one hl 1 rfl rfl (lv_one hl 2 rfl rfl (lv_one hl 3 rfl rfl (lv_one hl 4 rfl rfl (lv_one hl 5 rfl rfl (lv_one hl 0 rfl rfl (lv_nil hl)))))))
          · skip
            have c_11 : ¬ n ≤ a := fun h => c_11 ((nI_leI (a := n) (b := a) (by omega) (by omega)).mpr h)
            refine lv_aload_n hx hb dX13_chains_106 rfl (lv_at hl 0 rfl) ?_
            refine va_get (D := D) (ci := 11) (v := .ref (q 13)) (C := RX13) (T := TX13) (N := 29) hx hb hts kc_RX13 hown hK hP 0 rfl rfl 17 (by decide) k_fieldLink_55 (fun _ h9 => h9) rfl dX13_chains_107 ?_
            refine lv_iload hx hb dX13_chains_110 (lv_at hl 5 rfl) ?_
            refine lv_lconst (v := 0) hx hb dX13_chains_112 (by decide) ?_
            refine la_st hx hb hK hP hD hS 3 rfl a (by omega) (by decide) (bMO k q 0 ea fa ch tn he en ln sv wr dg ++ bI83 k (q 1) v ++ bL10 k (q 12) ((itW n (vt v) j wy mo u).1) ++ bL10 k (q 13) (vp_updL (wyO n (vt v) (itW n (vt v) j wy mo u).1 (itW n (vt v) j wy mo u).2 a) a 0)) rfl dX13_chains_113 (fun H locs hP hD hS => ?_)
            refine lv_iconst (v := 0) hx hb dX13_chains_114 (by decide) ?_
            refine lv_istore (lv' := [(6, .int 0), (0, .ref (q 0)), (1, .int (nI j)), (2, .int (nI j2)), (3, .int (nI r)), (4, .int (nI u)), (5, .int (nI a))]) hx hb dX13_chains_115 hl (by decide) rfl (fun ls hl => ?_)
            have e_14 : (vp_updL (wyO n (vt v) (itW n (vt v) j wy mo u).1 (itW n (vt v) j wy mo u).2 a) a 0 : Nat → Int64) = wyI (vt v) (itW n (vt v) j wy mo u).1 a (wyO n (vt v) (itW n (vt v) j wy mo u).1 (itW n (vt v) j wy mo u).2 a) 0 := by first | (with_reducible rfl) | (rfl)
            have hP := Eq.mp (congrArg (fun z9 => va_P D vwCl (bMO k q 0 ea fa ch tn he en ln sv wr dg ++ bI83 k (q 1) v ++ bL10 k (q 12) ((itW n (vt v) j wy mo u).1) ++ bL10 k (q 13) z9) H) e_14) hP
            have hD := Eq.mp (congrArg (fun z9 => va_D A (bMO k q 0 ea fa ch tn he en ln sv wr dg ++ bI83 k (q 1) v ++ bL10 k (q 12) ((itW n (vt v) j wy mo u).1) ++ bL10 k (q 13) z9)) e_14) hD
            exact loop_117 ((n - 0) + 1) 0 (by omega) (by omega) (Nat.lt_succ_self _) ls _ _ hP hD hS (lv_one hl 1 rfl rfl (lv_one hl 2 rfl rfl (lv_one hl 3 rfl rfl (lv_one hl 4 rfl rfl (lv_one hl 5 rfl rfl (lv_one hl 6 rfl rfl (lv_one hl 0 rfl rfl (lv_nil hl))))))))
      refine lv_iload hx hb dX13_chains_86 (lv_at hl 4 rfl) ?_
      refine lv_iload_n hx hb dX13_chains_88 rfl (lv_at hl 3 rfl) ?_
      refine lv_icmp_ge (tgt := 216) hx hb dX13_chains_89 (by decide) (fun c_15 => ?_) (fun c_15 => ?_)
      · skip
        have c_15 : r ≤ u := (nI_leI (a := r) (b := u) (by omega) (by omega)).mp c_15
        refine lv_aload_n hx hb dX13_chains_216 rfl (lv_at hl 0 rfl) ?_
        refine va_get (D := D) (ci := 11) (v := .ref (q 12)) (C := RX13) (T := TX13) (N := 29) hx hb hts kc_RX13 hown hK hP 0 rfl rfl 16 (by decide) k_fieldLink_51 (fun _ h9 => h9) rfl dX13_chains_217 ?_
        refine lv_iload_n hx hb dX13_chains_220 rfl (lv_at hl 2 rfl) ?_
        refine la_ld hx hb hK hP 2 rfl j2 (by omega) (by decide) dX13_chains_221 ?_
        refine lv_l2i hx hb dX13_chains_222 rfl ?_
        have e_16 : (0 : Int32) = thC n x y le := by first | (with_reducible rfl) | (exact hth.symm)
        have hP := Eq.mp (congrArg (fun z9 => va_P D vwCl (bMO k q z9 ea fa ch tn he en ln sv wr dg ++ bI83 k (q 1) v ++ bL10 k (q 12) ((itW n (vt v) j wy mo u).1) ++ bL10 k (q 13) ((itW n (vt v) j wy mo u).2)) H) e_16) hP
        have hD := Eq.mp (congrArg (fun z9 => va_D A (bMO k q z9 ea fa ch tn he en ln sv wr dg ++ bI83 k (q 1) v ++ bL10 k (q 12) ((itW n (vt v) j wy mo u).1) ++ bL10 k (q 13) ((itW n (vt v) j wy mo u).2))) e_16) hD
        have e_17 : ((itW n (vt v) j wy mo u).1 : Nat → Int64) = if thC n x y le = 0 then (itW n (vt v) x.toNatClampNeg wy mo le.toNatClampNeg).1 else wy := by first | (with_reducible rfl) | (rw [if_pos hth, hxj, hle, show u = r by omega])
        have hP := Eq.mp (congrArg (fun z9 => va_P D vwCl (bMO k q (thC n x y le) ea fa ch tn he en ln sv wr dg ++ bI83 k (q 1) v ++ bL10 k (q 12) z9 ++ bL10 k (q 13) ((itW n (vt v) j wy mo u).2)) H) e_17) hP
        have hD := Eq.mp (congrArg (fun z9 => va_D A (bMO k q (thC n x y le) ea fa ch tn he en ln sv wr dg ++ bI83 k (q 1) v ++ bL10 k (q 12) z9 ++ bL10 k (q 13) ((itW n (vt v) j wy mo u).2))) e_17) hD
        have e_18 : ((itW n (vt v) j wy mo u).2 : Nat → Int64) = if thC n x y le = 0 then (itW n (vt v) x.toNatClampNeg wy mo le.toNatClampNeg).2 else mo := by first | (with_reducible rfl) | (rw [if_pos hth, hxj, hle, show u = r by omega])
        have hP := Eq.mp (congrArg (fun z9 => va_P D vwCl (bMO k q (thC n x y le) ea fa ch tn he en ln sv wr dg ++ bI83 k (q 1) v ++ bL10 k (q 12) (if thC n x y le = 0 then (itW n (vt v) x.toNatClampNeg wy mo le.toNatClampNeg).1 else wy) ++ bL10 k (q 13) z9) H) e_18) hP
        have hD := Eq.mp (congrArg (fun z9 => va_D A (bMO k q (thC n x y le) ea fa ch tn he en ln sv wr dg ++ bI83 k (q 1) v ++ bL10 k (q 12) (if thC n x y le = 0 then (itW n (vt v) x.toNatClampNeg wy mo le.toNatClampNeg).1 else wy) ++ bL10 k (q 13) z9)) e_18) hD
        exact W.iret (v := (((itW n (vt v) j wy mo u).1) j2).toInt32) hx hb hr (fun t9 ht hW => ⟨⟨_, (), rfl, (by rw [if_pos hth, hxj, hyj, hle, show u = r by omega]), ⟨by rw [ht]; exact hP, va_K.moved hW.alike hK, hD⟩⟩, hS.F ht⟩) hS.2.2 dX13_chains_223 hlocks
      · skip
        have c_15 : ¬ r ≤ u := fun h => c_15 ((nI_leI (a := r) (b := u) (by omega) (by omega)).mpr h)
        refine lv_iconst (v := 0) hx hb dX13_chains_92 (by decide) ?_
        refine lv_istore (lv' := [(5, .int 0), (0, .ref (q 0)), (1, .int (nI j)), (2, .int (nI j2)), (3, .int (nI r)), (4, .int (nI u))]) hx hb dX13_chains_93 hl (by decide) rfl (fun ls hl => ?_)
        have e_19 : ((itW n (vt v) j wy mo u).2 : Nat → Int64) = wyO n (vt v) (itW n (vt v) j wy mo u).1 (itW n (vt v) j wy mo u).2 0 := by first | (with_reducible rfl) | (rfl)
        have hP := Eq.mp (congrArg (fun z9 => va_P D vwCl (bMO k q 0 ea fa ch tn he en ln sv wr dg ++ bI83 k (q 1) v ++ bL10 k (q 12) ((itW n (vt v) j wy mo u).1) ++ bL10 k (q 13) z9) H) e_19) hP
        have hD := Eq.mp (congrArg (fun z9 => va_D A (bMO k q 0 ea fa ch tn he en ln sv wr dg ++ bI83 k (q 1) v ++ bL10 k (q 12) ((itW n (vt v) j wy mo u).1) ++ bL10 k (q 13) z9)) e_19) hD
        exact loop_95 ((n - 0) + 1) 0 (by omega) (by omega) (Nat.lt_succ_self _) ls _ _ hP hD hS (lv_one hl 1 rfl rfl (lv_one hl 2 rfl rfl (lv_one hl 3 rfl rfl (lv_one hl 4 rfl rfl (lv_one hl 5 rfl rfl (lv_one hl 0 rfl rfl (lv_nil hl)))))))
  have loop_52 : ∀ (fuel : Nat) (i j j2 r : Nat), (i ≤ 10) → (j < n) → (j2 < n) → (r ≤ 999) → (thC n x y le = 0) → (x.toNatClampNeg = j) → (y.toNatClampNeg = j2) → (le.toNatClampNeg = r) → 10 - i < fuel → ∀ (ls : Array Slot), ∀ (H : Heap) (locs : List Loc), va_P D vwCl (bMO k q 0 ea fa ch tn he en ln sv wr dg ++ bI83 k (q 1) v ++ bL10 k (q 12) (wy0 j wy i) ++ bL10 k (q 13) mo) H → va_D A (bMO k q 0 ea fa ch tn he en ln sv wr dg ++ bI83 k (q 1) v ++ bL10 k (q 12) (wy0 j wy i) ++ bL10 k (q 13) mo) → va_S A s9.heap H locs → lv_has ls 7 [(0, .ref (q 0)), (1, .int (nI j)), (2, .int (nI j2)), (3, .int (nI r)), (4, .int (nI i))] → W p9 l9 e9 ({ frames := 2, cells := 0, slots := 0, locals := 43 }) s9 m9 ([.ref (q 0), .int x, .int y, .int le] : List Value).toArray bl9 me9 c9 H locs 0 0 (MQ bl9 (WI D k (bMO k q (thC n x y le) ea fa ch tn he en ln sv wr dg ++ bI83 k (q 1) v ++ bL10 k (q 12) (if thC n x y le = 0 then (itW n (vt v) x.toNatClampNeg wy mo le.toNatClampNeg).1 else wy) ++ bL10 k (q 13) (if thC n x y le = 0 then (itW n (vt v) x.toNatClampNeg wy mo le.toNatClampNeg).2 else mo)) (if thC n x y le = 0 then ((itW n (vt v) x.toNatClampNeg wy mo le.toNatClampNeg).1 y.toNatClampNeg).toInt32 else 0) A) ([.ref (q 0), .int x, .int y, .int le] : List Value).toArray s9 0 0 A) (F0 m9 52 ls []) := by
    intro fuel
    induction fuel with
    | zero => intro i j j2 r hi hj hj2 hr9 hth hxj hyj hle hfuel_52; exact absurd hfuel_52 (Nat.not_lt_zero _)
    | succ fuel ih_52 =>
      intro i j j2 r hi hj hj2 hr9 hth hxj hyj hle hfuel_52 ls H locs hP hD hS hl
      refine lv_iload hx hb dX13_chains_52 (lv_at hl 4 rfl) ?_
      refine lv_bipush (v := 10) hx hb dX13_chains_54 (by decide) ?_
      refine lv_icmp_ge (tgt := 83) hx hb dX13_chains_56 (by decide) (fun c_20 => ?_) (fun c_20 => ?_)
      · skip
        have c_20 : 10 ≤ i := (nI_leI (a := 10) (b := i) (by omega) (by omega)).mp c_20
        refine lv_iconst (v := 0) hx hb dX13_chains_83 (by decide) ?_
        refine lv_istore (lv' := [(4, .int 0), (0, .ref (q 0)), (1, .int (nI j)), (2, .int (nI j2)), (3, .int (nI r))]) hx hb dX13_chains_84 hl (by decide) rfl (fun ls hl => ?_)
        have e_21 : (wy0 j wy i : Nat → Int64) = (itW n (vt v) j wy mo 0).1 := by first | (with_reducible rfl) | (first | rfl | (rw [show i = 10 by omega]; rfl))
        have hP := Eq.mp (congrArg (fun z9 => va_P D vwCl (bMO k q 0 ea fa ch tn he en ln sv wr dg ++ bI83 k (q 1) v ++ bL10 k (q 12) z9 ++ bL10 k (q 13) mo) H) e_21) hP
        have hD := Eq.mp (congrArg (fun z9 => va_D A (bMO k q 0 ea fa ch tn he en ln sv wr dg ++ bI83 k (q 1) v ++ bL10 k (q 12) z9 ++ bL10 k (q 13) mo)) e_21) hD
        have e_22 : (mo : Nat → Int64) = (itW n (vt v) j wy mo 0).2 := by first | (with_reducible rfl) | (first | rfl | (rw [show i = 10 by omega]; rfl))
        have hP := Eq.mp (congrArg (fun z9 => va_P D vwCl (bMO k q 0 ea fa ch tn he en ln sv wr dg ++ bI83 k (q 1) v ++ bL10 k (q 12) ((itW n (vt v) j wy mo 0).1) ++ bL10 k (q 13) z9) H) e_22) hP
        have hD := Eq.mp (congrArg (fun z9 => va_D A (bMO k q 0 ea fa ch tn he en ln sv wr dg ++ bI83 k (q 1) v ++ bL10 k (q 12) ((itW n (vt v) j wy mo 0).1) ++ bL10 k (q 13) z9)) e_22) hD
        exact loop_86 ((r - 0) + 1) 0 j j2 r (by omega) hj hj2 hr9 hth hxj hyj hle (Nat.lt_succ_self _) ls _ _ hP hD hS (lv_one hl 1 rfl rfl (lv_one hl 2 rfl rfl (lv_one hl 3 rfl rfl (lv_one hl 4 rfl rfl (lv_one hl 0 rfl rfl (lv_nil hl))))))
      · skip
        have c_20 : ¬ 10 ≤ i := fun h => c_20 ((nI_leI (a := 10) (b := i) (by omega) (by omega)).mpr h)
        refine lv_aload_n hx hb dX13_chains_59 rfl (lv_at hl 0 rfl) ?_
        refine va_get (D := D) (ci := 11) (v := .ref (q 12)) (C := RX13) (T := TX13) (N := 29) hx hb hts kc_RX13 hown hK hP 0 rfl rfl 16 (by decide) k_fieldLink_51 (fun _ h9 => h9) rfl dX13_chains_60 ?_
        refine lv_iload hx hb dX13_chains_63 (lv_at hl 4 rfl) ?_
        refine lv_iload hx hb dX13_chains_65 (lv_at hl 4 rfl) ?_
        refine lv_iload_n hx hb dX13_chains_67 rfl (lv_at hl 1 rfl) ?_
        refine lv_icmp_ne (tgt := 75) hx hb dX13_chains_68 (by decide) (fun c_23 => ?_) (fun c_23 => ?_)
        · skip
          have c_23 : ¬ i = j := fun h => c_23 ((nI_eq (a := i) (b := j) (by omega) (by omega)).mpr h)
          refine lv_lconst (v := 0) hx hb dX13_chains_75 (by decide) ?_
          refine la_st hx hb hK hP hD hS 2 rfl i (by omega) (by decide) (bMO k q 0 ea fa ch tn he en ln sv wr dg ++ bI83 k (q 1) v ++ bL10 k (q 12) (vp_updL (wy0 j wy i) i 0) ++ bL10 k (q 13) mo) rfl dX13_chains_76 (fun H locs hP hD hS => ?_)
          refine lv_iinc (v := nI (i + 1)) (lv' := [(4, .int (nI (i + 1))), (0, .ref (q 0)), (1, .int (nI j)), (2, .int (nI j2)), (3, .int (nI r))]) hx hb dX13_chains_77 hl (k := 4) rfl (nI_inc i) (by decide) rfl (fun ls hl => ?_)
          refine lv_goto (tgt := 52) hx hb dX13_chains_80 (by decide) ?_
          have e_24 : (vp_updL (wy0 j wy i) i 0 : Nat → Int64) = wy0 j wy (i + 1) := by first | (with_reducible rfl) | (rw [wy0_s]; (first | rw [if_pos (by assumption)] | rw [if_neg (by assumption)] | (simp [*]; done)); (try rfl))
          have hP := Eq.mp (congrArg (fun z9 => va_P D vwCl (bMO k q 0 ea fa ch tn he en ln sv wr dg ++ bI83 k (q 1) v ++ bL10 k (q 12) z9 ++ bL10 k (q 13) mo) H) e_24) hP
          have hD := Eq.mp (congrArg (fun z9 => va_D A (bMO k q 0 ea fa ch tn he en ln sv wr dg ++ bI83 k (q 1) v ++ bL10 k (q 12) z9 ++ bL10 k (q 13) mo)) e_24) hD
          exact ih_52 (i + 1) j j2 r (by omega) hj hj2 hr9 hth hxj hyj hle (by omega) ls _ _ hP hD hS (lv_one hl 1 rfl rfl (lv_one hl 2 rfl rfl (lv_one hl 3 rfl rfl (lv_one hl 4 rfl rfl (lv_one hl 0 rfl rfl (lv_nil hl))))))
        · skip
          have c_23 : i = j := (nI_eq (a := i) (b := j) (by omega) (by omega)).mp c_23
          refine lv_lconst (v := 1) hx hb dX13_chains_71 (by decide) ?_
          refine lv_goto (tgt := 76) hx hb dX13_chains_72 (by decide) ?_
          refine la_st hx hb hK hP hD hS 2 rfl i (by omega) (by decide) (bMO k q 0 ea fa ch tn he en ln sv wr dg ++ bI83 k (q 1) v ++ bL10 k (q 12) (vp_updL (wy0 j wy i) i 1) ++ bL10 k (q 13) mo) rfl dX13_chains_76 (fun H locs hP hD hS => ?_)
          refine lv_iinc (v := nI (i + 1)) (lv' := [(4, .int (nI (i + 1))), (0, .ref (q 0)), (1, .int (nI j)), (2, .int (nI j2)), (3, .int (nI r))]) hx hb dX13_chains_77 hl (k := 4) rfl (nI_inc i) (by decide) rfl (fun ls hl => ?_)
          refine lv_goto (tgt := 52) hx hb dX13_chains_80 (by decide) ?_
          have e_25 : (vp_updL (wy0 j wy i) i 1 : Nat → Int64) = wy0 j wy (i + 1) := by first | (with_reducible rfl) | (rw [wy0_s]; (first | rw [if_pos (by assumption)] | rw [if_neg (by assumption)] | (simp [*]; done)); (try rfl))
          have hP := Eq.mp (congrArg (fun z9 => va_P D vwCl (bMO k q 0 ea fa ch tn he en ln sv wr dg ++ bI83 k (q 1) v ++ bL10 k (q 12) z9 ++ bL10 k (q 13) mo) H) e_25) hP
          have hD := Eq.mp (congrArg (fun z9 => va_D A (bMO k q 0 ea fa ch tn he en ln sv wr dg ++ bI83 k (q 1) v ++ bL10 k (q 12) z9 ++ bL10 k (q 13) mo)) e_25) hD
          exact ih_52 (i + 1) j j2 r (by omega) hj hj2 hr9 hth hxj hyj hle (by omega) ls _ _ hP hD hS (lv_one hl 1 rfl rfl (lv_one hl 2 rfl rfl (lv_one hl 3 rfl rfl (lv_one hl 4 rfl rfl (lv_one hl 0 rfl rfl (lv_nil hl))))))
  refine lv_aload_n hx hb dX13_chains_0 rfl (lv_at hl 0 rfl) ?_
  refine lv_aload_n hx hb dX13_chains_1 rfl (lv_at hl 0 rfl) ?_
  refine lv_iload_n hx hb dX13_chains_2 rfl (lv_at hl 1 rfl) ?_
  refine vp_callSi (W.runV (As := [.int x]) (rest := [.ref (q 0)]) hF (m_X13_isClaim l9 D k q th ea fa ch tn he en ln sv wr dg v n x hn hv0) (cwV 1 hts gX13_chains_X13_isClaim rfl rfl rfl (by decide +kernel) ⟨Nat.le_of_ble_eq_true rfl, Nat.le_of_ble_eq_true rfl⟩) (rPreV hK hN hP [0, 1] rfl 0 11 rfl rfl) rfl rfl hl.1 rfl (lv_room (Nat.le_of_ble_eq_true rfl)) dX13_chains_3 ⟨Nat.zero_le _, Nat.zero_le _⟩) (fun r_26 hr_26 => ?_)
  subst hr_26
  refine lv_if_eq (tgt := 17) hx hb dX13_chains_6 (by decide) (fun c_27 => ?_) (fun c_27 => ?_)
  · skip
    have c_27 : (inC n x) = false := bI_0 c_27
    refine lv_iconst (v := 1) hx hb dX13_chains_17 (by decide) ?_
    refine lv_goto (tgt := 37) hx hb dX13_chains_18 (by decide) ?_
    refine va_put (D := D) (ci := 11) (v := .int 1) (ty := .int) (C := RX13) (T := TX13) (N := 29) hx hb hts kc_RX13 tyX13 tyX13_ok nmX13 hown hK hP hD hS 0 rfl rfl 0 (by decide) k_fieldLink_77 (fun _ h9 => h9) rfl (by decide +kernel) rfl rfl (Nat.le_of_ble_eq_true rfl) dX13_chains_37 (fun H locs hP hD hS => ?_)
    have hP : va_P D vwCl (bMO k q 1 ea fa ch tn he en ln sv wr dg ++ bI83 k (q 1) v ++ bL10 k (q 12) wy ++ bL10 k (q 13) mo) H := hP
    have hD : va_D A (bMO k q 1 ea fa ch tn he en ln sv wr dg ++ bI83 k (q 1) v ++ bL10 k (q 12) wy ++ bL10 k (q 13) mo) := hD
    refine lv_aload_n hx hb dX13_chains_40 rfl (lv_at hl 0 rfl) ?_
    refine va_get (D := D) (ci := 11) (v := .int 1) (C := RX13) (T := TX13) (N := 29) hx hb hts kc_RX13 hown hK hP 0 rfl rfl 0 (by decide) k_fieldLink_77 (fun _ h9 => h9) rfl dX13_chains_41 ?_
    refine lv_if_eq (tgt := 49) hx hb dX13_chains_44 (by decide) (fun c_28 => ?_) (fun c_28 => ?_)
    · first | exact absurd c_28 (by decide) | exact absurd (by decide) c_28
    · skip
      refine lv_iconst (v := 0) hx hb dX13_chains_47 (by decide) ?_
      have e_29 : (1 : Int32) = thC n x y le := by first | (with_reducible rfl) | (symm; simp only [thC]; (repeat (first | rw [if_pos (by first | assumption | exact Eq.trans (b := false) (by assumption) (Eq.symm (by assumption)) | exact Eq.trans (b := true) (by assumption) (Eq.symm (by assumption)) | exact ⟨by assumption, by assumption⟩ | exact Or.inl (by assumption) | exact Or.inr (by assumption) | exact Or.inr (Or.inl (by assumption)) | exact Or.inr (Or.inr (by assumption)) | (simp only [Int32.lt_iff_toInt_lt, Int32.le_iff_toInt_le, i32_0, i32_1, i32_2, i32_3, i32_4, i32_9, i32_10, i32_99, i32_100, i32_1000, i32_9999] at *; omega))] | rw [if_neg (by first | assumption | (rintro (h9 | h9 | h9) <;> contradiction) | (rintro (h9 | h9) <;> contradiction) | (intro h9; exact Bool.noConfusion (Eq.trans (c := false) h9.symm (by assumption))) | (rintro ⟨h8, h9⟩; exact Bool.noConfusion (Eq.trans (c := false) h8.symm (by assumption))) | (rintro ⟨h8, h9⟩; exact Bool.noConfusion (Eq.trans (c := false) h9.symm (by assumption))) | (simp only [Int32.lt_iff_toInt_lt, Int32.le_iff_toInt_le, i32_0, i32_1, i32_2, i32_3, i32_4, i32_9, i32_10, i32_99, i32_100, i32_1000, i32_9999] at *; omega))])))
      have hP := Eq.mp (congrArg (fun z9 => va_P D vwCl (bMO k q z9 ea fa ch tn he en ln sv wr dg ++ bI83 k (q 1) v ++ bL10 k (q 12) wy ++ bL10 k (q 13) mo) H) e_29) hP
      have hD := Eq.mp (congrArg (fun z9 => va_D A (bMO k q z9 ea fa ch tn he en ln sv wr dg ++ bI83 k (q 1) v ++ bL10 k (q 12) wy ++ bL10 k (q 13) mo)) e_29) hD
      have e_30 : (wy : Nat → Int64) = if thC n x y le = 0 then (itW n (vt v) x.toNatClampNeg wy mo le.toNatClampNeg).1 else wy := by first | (with_reducible rfl) | (rw [if_neg (by (simp only [thC]); (repeat (first | rw [if_pos (by first | assumption | exact Eq.trans (b := false) (by assumption) (Eq.symm (by assumption)) | exact Eq.trans (b := true) (by assumption) (Eq.symm (by assumption)) | exact ⟨by assumption, by assumption⟩ | exact Or.inl (by assumption) | exact Or.inr (by assumption) | exact Or.inr (Or.inl (by assumption)) | exact Or.inr (Or.inr (by assumption)) | (simp only [Int32.lt_iff_toInt_lt, Int32.le_iff_toInt_le, i32_0, i32_1, i32_2, i32_3, i32_4, i32_9, i32_10, i32_99, i32_100, i32_1000, i32_9999] at *; omega))] | rw [if_neg (by first | assumption | (rintro (h9 | h9 | h9) <;> contradiction) | (rintro (h9 | h9) <;> contradiction) | (intro h9; exact Bool.noConfusion (Eq.trans (c := false) h9.symm (by assumption))) | (rintro ⟨h8, h9⟩; exact Bool.noConfusion (Eq.trans (c := false) h8.symm (by assumption))) | (rintro ⟨h8, h9⟩; exact Bool.noConfusion (Eq.trans (c := false) h9.symm (by assumption))) | (simp only [Int32.lt_iff_toInt_lt, Int32.le_iff_toInt_le, i32_0, i32_1, i32_2, i32_3, i32_4, i32_9, i32_10, i32_99, i32_100, i32_1000, i32_9999] at *; omega))])); decide)])
      have hP := Eq.mp (congrArg (fun z9 => va_P D vwCl (bMO k q (thC n x y le) ea fa ch tn he en ln sv wr dg ++ bI83 k (q 1) v ++ bL10 k (q 12) z9 ++ bL10 k (q 13) mo) H) e_30) hP
      have hD := Eq.mp (congrArg (fun z9 => va_D A (bMO k q (thC n x y le) ea fa ch tn he en ln sv wr dg ++ bI83 k (q 1) v ++ bL10 k (q 12) z9 ++ bL10 k (q 13) mo)) e_30) hD
      have e_31 : (mo : Nat → Int64) = if thC n x y le = 0 then (itW n (vt v) x.toNatClampNeg wy mo le.toNatClampNeg).2 else mo := by first | (with_reducible rfl) | (rw [if_neg (by (simp only [thC]); (repeat (first | rw [if_pos (by first | assumption | exact Eq.trans (b := false) (by assumption) (Eq.symm (by assumption)) | exact Eq.trans (b := true) (by assumption) (Eq.symm (by assumption)) | exact ⟨by assumption, by assumption⟩ | exact Or.inl (by assumption) | exact Or.inr (by assumption) | exact Or.inr (Or.inl (by assumption)) | exact Or.inr (Or.inr (by assumption)) | (simp only [Int32.lt_iff_toInt_lt, Int32.le_iff_toInt_le, i32_0, i32_1, i32_2, i32_3, i32_4, i32_9, i32_10, i32_99, i32_100, i32_1000, i32_9999] at *; omega))] | rw [if_neg (by first | assumption | (rintro (h9 | h9 | h9) <;> contradiction) | (rintro (h9 | h9) <;> contradiction) | (intro h9; exact Bool.noConfusion (Eq.trans (c := false) h9.symm (by assumption))) | (rintro ⟨h8, h9⟩; exact Bool.noConfusion (Eq.trans (c := false) h8.symm (by assumption))) | (rintro ⟨h8, h9⟩; exact Bool.noConfusion (Eq.trans (c := false) h9.symm (by assumption))) | (simp only [Int32.lt_iff_toInt_lt, Int32.le_iff_toInt_le, i32_0, i32_1, i32_2, i32_3, i32_4, i32_9, i32_10, i32_99, i32_100, i32_1000, i32_9999] at *; omega))])); decide)])
      have hP := Eq.mp (congrArg (fun z9 => va_P D vwCl (bMO k q (thC n x y le) ea fa ch tn he en ln sv wr dg ++ bI83 k (q 1) v ++ bL10 k (q 12) (if thC n x y le = 0 then (itW n (vt v) x.toNatClampNeg wy mo le.toNatClampNeg).1 else wy) ++ bL10 k (q 13) z9) H) e_31) hP
      have hD := Eq.mp (congrArg (fun z9 => va_D A (bMO k q (thC n x y le) ea fa ch tn he en ln sv wr dg ++ bI83 k (q 1) v ++ bL10 k (q 12) (if thC n x y le = 0 then (itW n (vt v) x.toNatClampNeg wy mo le.toNatClampNeg).1 else wy) ++ bL10 k (q 13) z9)) e_31) hD
      exact W.iret (v := 0) hx hb hr (fun t9 ht hW => ⟨⟨_, (), rfl, (by rw [if_neg (by (simp only [thC]); (repeat (first | rw [if_pos (by first | assumption | exact Eq.trans (b := false) (by assumption) (Eq.symm (by assumption)) | exact Eq.trans (b := true) (by assumption) (Eq.symm (by assumption)) | exact ⟨by assumption, by assumption⟩ | exact Or.inl (by assumption) | exact Or.inr (by assumption) | exact Or.inr (Or.inl (by assumption)) | exact Or.inr (Or.inr (by assumption)) | (simp only [Int32.lt_iff_toInt_lt, Int32.le_iff_toInt_le, i32_0, i32_1, i32_2, i32_3, i32_4, i32_9, i32_10, i32_99, i32_100, i32_1000, i32_9999] at *; omega))] | rw [if_neg (by first | assumption | (rintro (h9 | h9 | h9) <;> contradiction) | (rintro (h9 | h9) <;> contradiction) | (intro h9; exact Bool.noConfusion (Eq.trans (c := false) h9.symm (by assumption))) | (rintro ⟨h8, h9⟩; exact Bool.noConfusion (Eq.trans (c := false) h8.symm (by assumption))) | (rintro ⟨h8, h9⟩; exact Bool.noConfusion (Eq.trans (c := false) h9.symm (by assumption))) | (simp only [Int32.lt_iff_toInt_lt, Int32.le_iff_toInt_le, i32_0, i32_1, i32_2, i32_3, i32_4, i32_9, i32_10, i32_99, i32_100, i32_1000, i32_9999] at *; omega))])); decide)]), ⟨by rw [ht]; exact hP, va_K.moved hW.alike hK, hD⟩⟩, hS.F ht⟩) hS.2.2 dX13_chains_48 hlocks
  · skip
    have c_27 : (inC n x) = true := bI_1 c_27
    obtain ⟨j, hj, rfl⟩ := inC_of hn c_27
    have clj : (nI j).toNatClampNeg = j := clN (by omega)
    refine lv_aload_n hx hb dX13_chains_9 rfl (lv_at hl 0 rfl) ?_
    refine lv_iload_n hx hb dX13_chains_10 rfl (lv_at hl 2 rfl) ?_
    refine vp_callSi (W.runV (As := [.int y]) (rest := [.ref (q 0)]) hF (m_X13_isClaim l9 D k q th ea fa ch tn he en ln sv wr dg v n y hn hv0) (cwV 1 hts gX13_chains_X13_isClaim rfl rfl rfl (by decide +kernel) ⟨Nat.le_of_ble_eq_true rfl, Nat.le_of_ble_eq_true rfl⟩) (rPreV hK hN hP [0, 1] rfl 0 11 rfl rfl) rfl rfl hl.1 rfl (lv_room (Nat.le_of_ble_eq_true rfl)) dX13_chains_11 ⟨Nat.zero_le _, Nat.zero_le _⟩) (fun r_32 hr_32 => ?_)
    subst hr_32
    refine lv_if_ne (tgt := 21) hx hb dX13_chains_14 (by decide) (fun c_33 => ?_) (fun c_33 => ?_)
    · skip
      have c_33 : (inC n y) = true := bI_1 c_33
      obtain ⟨j2, hj2, rfl⟩ := inC_of hn c_33
      have clj2 : (nI j2).toNatClampNeg = j2 := clN (by omega)
      refine lv_iload_n hx hb dX13_chains_21 rfl (lv_at hl 3 rfl) ?_
      refine lv_iconst (v := 0) hx hb dX13_chains_22 (by decide) ?_
      refine lv_sipush (v := 999) hx hb dX13_chains_23 (by decide) ?_
      refine vp_callSi (W.runS (As := [.int le, .int 0, .int 999]) (rest := [.ref (q 0)]) hF (m_X13_isIn l9 D k le 0 999 ) (va_cwS 3 hts gX13_chains_X13_isIn rfl rfl rfl (by decide +kernel) ⟨Nat.le_of_ble_eq_true rfl, Nat.le_of_ble_eq_true rfl⟩) (rPreS hK hN hP [] rfl) rfl rfl hl.1 rfl (lv_room (Nat.le_of_ble_eq_true rfl)) dX13_chains_26 ⟨Nat.zero_le _, Nat.zero_le _⟩) (fun r_34 hr_34 => ?_)
      subst hr_34
      refine lv_if_eq (tgt := 36) hx hb dX13_chains_29 (by decide) (fun c_35 => ?_) (fun c_35 => ?_)
      · skip
        have c_35 : (rg 0 le 999) = false := bI_0 c_35
        refine lv_iconst (v := 2) hx hb dX13_chains_36 (by decide) ?_
        refine va_put (D := D) (ci := 11) (v := .int 2) (ty := .int) (C := RX13) (T := TX13) (N := 29) hx hb hts kc_RX13 tyX13 tyX13_ok nmX13 hown hK hP hD hS 0 rfl rfl 0 (by decide) k_fieldLink_77 (fun _ h9 => h9) rfl (by decide +kernel) rfl rfl (Nat.le_of_ble_eq_true rfl) dX13_chains_37 (fun H locs hP hD hS => ?_)
        have hP : va_P D vwCl (bMO k q 2 ea fa ch tn he en ln sv wr dg ++ bI83 k (q 1) v ++ bL10 k (q 12) wy ++ bL10 k (q 13) mo) H := hP
        have hD : va_D A (bMO k q 2 ea fa ch tn he en ln sv wr dg ++ bI83 k (q 1) v ++ bL10 k (q 12) wy ++ bL10 k (q 13) mo) := hD
        refine lv_aload_n hx hb dX13_chains_40 rfl (lv_at hl 0 rfl) ?_
        refine va_get (D := D) (ci := 11) (v := .int 2) (C := RX13) (T := TX13) (N := 29) hx hb hts kc_RX13 hown hK hP 0 rfl rfl 0 (by decide) k_fieldLink_77 (fun _ h9 => h9) rfl dX13_chains_41 ?_
        refine lv_if_eq (tgt := 49) hx hb dX13_chains_44 (by decide) (fun c_36 => ?_) (fun c_36 => ?_)
        · first | exact absurd c_36 (by decide) | exact absurd (by decide) c_36
        · skip
          refine lv_iconst (v := 0) hx hb dX13_chains_47 (by decide) ?_
          have e_37 : (2 : Int32) = thC n (nI j) (nI j2) le := by first | (with_reducible rfl) | (symm; simp only [thC]; (repeat (first | rw [if_pos (by first | assumption | exact Eq.trans (b := false) (by assumption) (Eq.symm (by assumption)) | exact Eq.trans (b := true) (by assumption) (Eq.symm (by assumption)) | exact ⟨by assumption, by assumption⟩ | exact Or.inl (by assumption) | exact Or.inr (by assumption) | exact Or.inr (Or.inl (by assumption)) | exact Or.inr (Or.inr (by assumption)) | (simp only [Int32.lt_iff_toInt_lt, Int32.le_iff_toInt_le, i32_0, i32_1, i32_2, i32_3, i32_4, i32_9, i32_10, i32_99, i32_100, i32_1000, i32_9999] at *; omega))] | rw [if_neg (by first | assumption | (rintro (h9 | h9 | h9) <;> contradiction) | (rintro (h9 | h9) <;> contradiction) | (intro h9; exact Bool.noConfusion (Eq.trans (c := false) h9.symm (by assumption))) | (rintro ⟨h8, h9⟩; exact Bool.noConfusion (Eq.trans (c := false) h8.symm (by assumption))) | (rintro ⟨h8, h9⟩; exact Bool.noConfusion (Eq.trans (c := false) h9.symm (by assumption))) | (simp only [Int32.lt_iff_toInt_lt, Int32.le_iff_toInt_le, i32_0, i32_1, i32_2, i32_3, i32_4, i32_9, i32_10, i32_99, i32_100, i32_1000, i32_9999] at *; omega))])))
          have hP := Eq.mp (congrArg (fun z9 => va_P D vwCl (bMO k q z9 ea fa ch tn he en ln sv wr dg ++ bI83 k (q 1) v ++ bL10 k (q 12) wy ++ bL10 k (q 13) mo) H) e_37) hP
          have hD := Eq.mp (congrArg (fun z9 => va_D A (bMO k q z9 ea fa ch tn he en ln sv wr dg ++ bI83 k (q 1) v ++ bL10 k (q 12) wy ++ bL10 k (q 13) mo)) e_37) hD
          have e_38 : (wy : Nat → Int64) = if thC n (nI j) (nI j2) le = 0 then (itW n (vt v) (nI j).toNatClampNeg wy mo le.toNatClampNeg).1 else wy := by first | (with_reducible rfl) | (rw [if_neg (by (simp only [thC]); (repeat (first | rw [if_pos (by first | assumption | exact Eq.trans (b := false) (by assumption) (Eq.symm (by assumption)) | exact Eq.trans (b := true) (by assumption) (Eq.symm (by assumption)) | exact ⟨by assumption, by assumption⟩ | exact Or.inl (by assumption) | exact Or.inr (by assumption) | exact Or.inr (Or.inl (by assumption)) | exact Or.inr (Or.inr (by assumption)) | (simp only [Int32.lt_iff_toInt_lt, Int32.le_iff_toInt_le, i32_0, i32_1, i32_2, i32_3, i32_4, i32_9, i32_10, i32_99, i32_100, i32_1000, i32_9999] at *; omega))] | rw [if_neg (by first | assumption | (rintro (h9 | h9 | h9) <;> contradiction) | (rintro (h9 | h9) <;> contradiction) | (intro h9; exact Bool.noConfusion (Eq.trans (c := false) h9.symm (by assumption))) | (rintro ⟨h8, h9⟩; exact Bool.noConfusion (Eq.trans (c := false) h8.symm (by assumption))) | (rintro ⟨h8, h9⟩; exact Bool.noConfusion (Eq.trans (c := false) h9.symm (by assumption))) | (simp only [Int32.lt_iff_toInt_lt, Int32.le_iff_toInt_le, i32_0, i32_1, i32_2, i32_3, i32_4, i32_9, i32_10, i32_99, i32_100, i32_1000, i32_9999] at *; omega))])); decide)])
          have hP := Eq.mp (congrArg (fun z9 => va_P D vwCl (bMO k q (thC n (nI j) (nI j2) le) ea fa ch tn he en ln sv wr dg ++ bI83 k (q 1) v ++ bL10 k (q 12) z9 ++ bL10 k (q 13) mo) H) e_38) hP
          have hD := Eq.mp (congrArg (fun z9 => va_D A (bMO k q (thC n (nI j) (nI j2) le) ea fa ch tn he en ln sv wr dg ++ bI83 k (q 1) v ++ bL10 k (q 12) z9 ++ bL10 k (q 13) mo)) e_38) hD
          have e_39 : (mo : Nat → Int64) = if thC n (nI j) (nI j2) le = 0 then (itW n (vt v) (nI j).toNatClampNeg wy mo le.toNatClampNeg).2 else mo := by first | (with_reducible rfl) | (rw [if_neg (by (simp only [thC]); (repeat (first | rw [if_pos (by first | assumption | exact Eq.trans (b := false) (by assumption) (Eq.symm (by assumption)) | exact Eq.trans (b := true) (by assumption) (Eq.symm (by assumption)) | exact ⟨by assumption, by assumption⟩ | exact Or.inl (by assumption) | exact Or.inr (by assumption) | exact Or.inr (Or.inl (by assumption)) | exact Or.inr (Or.inr (by assumption)) | (simp only [Int32.lt_iff_toInt_lt, Int32.le_iff_toInt_le, i32_0, i32_1, i32_2, i32_3, i32_4, i32_9, i32_10, i32_99, i32_100, i32_1000, i32_9999] at *; omega))] | rw [if_neg (by first | assumption | (rintro (h9 | h9 | h9) <;> contradiction) | (rintro (h9 | h9) <;> contradiction) | (intro h9; exact Bool.noConfusion (Eq.trans (c := false) h9.symm (by assumption))) | (rintro ⟨h8, h9⟩; exact Bool.noConfusion (Eq.trans (c := false) h8.symm (by assumption))) | (rintro ⟨h8, h9⟩; exact Bool.noConfusion (Eq.trans (c := false) h9.symm (by assumption))) | (simp only [Int32.lt_iff_toInt_lt, Int32.le_iff_toInt_le, i32_0, i32_1, i32_2, i32_3, i32_4, i32_9, i32_10, i32_99, i32_100, i32_1000, i32_9999] at *; omega))])); decide)])
          have hP := Eq.mp (congrArg (fun z9 => va_P D vwCl (bMO k q (thC n (nI j) (nI j2) le) ea fa ch tn he en ln sv wr dg ++ bI83 k (q 1) v ++ bL10 k (q 12) (if thC n (nI j) (nI j2) le = 0 then (itW n (vt v) (nI j).toNatClampNeg wy mo le.toNatClampNeg).1 else wy) ++ bL10 k (q 13) z9) H) e_39) hP
          have hD := Eq.mp (congrArg (fun z9 => va_D A (bMO k q (thC n (nI j) (nI j2) le) ea fa ch tn he en ln sv wr dg ++ bI83 k (q 1) v ++ bL10 k (q 12) (if thC n (nI j) (nI j2) le = 0 then (itW n (vt v) (nI j).toNatClampNeg wy mo le.toNatClampNeg).1 else wy) ++ bL10 k (q 13) z9)) e_39) hD
          exact W.iret (v := 0) hx hb hr (fun t9 ht hW => ⟨⟨_, (), rfl, (by rw [if_neg (by (simp only [thC]); (repeat (first | rw [if_pos (by first | assumption | exact Eq.trans (b := false) (by assumption) (Eq.symm (by assumption)) | exact Eq.trans (b := true) (by assumption) (Eq.symm (by assumption)) | exact ⟨by assumption, by assumption⟩ | exact Or.inl (by assumption) | exact Or.inr (by assumption) | exact Or.inr (Or.inl (by assumption)) | exact Or.inr (Or.inr (by assumption)) | (simp only [Int32.lt_iff_toInt_lt, Int32.le_iff_toInt_le, i32_0, i32_1, i32_2, i32_3, i32_4, i32_9, i32_10, i32_99, i32_100, i32_1000, i32_9999] at *; omega))] | rw [if_neg (by first | assumption | (rintro (h9 | h9 | h9) <;> contradiction) | (rintro (h9 | h9) <;> contradiction) | (intro h9; exact Bool.noConfusion (Eq.trans (c := false) h9.symm (by assumption))) | (rintro ⟨h8, h9⟩; exact Bool.noConfusion (Eq.trans (c := false) h8.symm (by assumption))) | (rintro ⟨h8, h9⟩; exact Bool.noConfusion (Eq.trans (c := false) h9.symm (by assumption))) | (simp only [Int32.lt_iff_toInt_lt, Int32.le_iff_toInt_le, i32_0, i32_1, i32_2, i32_3, i32_4, i32_9, i32_10, i32_99, i32_100, i32_1000, i32_9999] at *; omega))])); decide)]), ⟨by rw [ht]; exact hP, va_K.moved hW.alike hK, hD⟩⟩, hS.F ht⟩) hS.2.2 dX13_chains_48 hlocks
      · skip
        have c_35 : (rg 0 le 999) = true := bI_1 c_35
        obtain ⟨r, hr, rfl⟩ := rg_of (m := 999) (by decide) c_35
        have clr : (nI r).toNatClampNeg = r := clN (by omega)
        refine lv_iconst (v := 0) hx hb dX13_chains_32 (by decide) ?_
        refine lv_goto (tgt := 37) hx hb dX13_chains_33 (by decide) ?_
        refine va_put (D := D) (ci := 11) (v := .int 0) (ty := .int) (C := RX13) (T := TX13) (N := 29) hx hb hts kc_RX13 tyX13 tyX13_ok nmX13 hown hK hP hD hS 0 rfl rfl 0 (by decide) k_fieldLink_77 (fun _ h9 => h9) rfl (by decide +kernel) rfl rfl (Nat.le_of_ble_eq_true rfl) dX13_chains_37 (fun H locs hP hD hS => ?_)
        have hP : va_P D vwCl (bMO k q 0 ea fa ch tn he en ln sv wr dg ++ bI83 k (q 1) v ++ bL10 k (q 12) wy ++ bL10 k (q 13) mo) H := hP
        have hD : va_D A (bMO k q 0 ea fa ch tn he en ln sv wr dg ++ bI83 k (q 1) v ++ bL10 k (q 12) wy ++ bL10 k (q 13) mo) := hD
        refine lv_aload_n hx hb dX13_chains_40 rfl (lv_at hl 0 rfl) ?_
        refine va_get (D := D) (ci := 11) (v := .int 0) (C := RX13) (T := TX13) (N := 29) hx hb hts kc_RX13 hown hK hP 0 rfl rfl 0 (by decide) k_fieldLink_77 (fun _ h9 => h9) rfl dX13_chains_41 ?_
        refine lv_if_eq (tgt := 49) hx hb dX13_chains_44 (by decide) (fun c_40 => ?_) (fun c_40 => ?_)
        · skip
          refine lv_iconst (v := 0) hx hb dX13_chains_49 (by decide) ?_
          refine lv_istore (lv' := [(4, .int 0), (0, .ref (q 0)), (1, .int (nI j)), (2, .int (nI j2)), (3, .int (nI r))]) hx hb dX13_chains_50 hl (by decide) rfl (fun ls hl => ?_)
          have e_41 : (wy : Nat → Int64) = wy0 j wy 0 := by first | (with_reducible rfl) | (rfl)
          have hP := Eq.mp (congrArg (fun z9 => va_P D vwCl (bMO k q 0 ea fa ch tn he en ln sv wr dg ++ bI83 k (q 1) v ++ bL10 k (q 12) z9 ++ bL10 k (q 13) mo) H) e_41) hP
          have hD := Eq.mp (congrArg (fun z9 => va_D A (bMO k q 0 ea fa ch tn he en ln sv wr dg ++ bI83 k (q 1) v ++ bL10 k (q 12) z9 ++ bL10 k (q 13) mo)) e_41) hD
          exact loop_52 ((10 - 0) + 1) 0 j j2 r (by omega) hj hj2 (by omega) (by simp only [thC]; (repeat (first | rw [if_pos (by first | assumption | exact Eq.trans (b := false) (by assumption) (Eq.symm (by assumption)) | exact Eq.trans (b := true) (by assumption) (Eq.symm (by assumption)) | exact ⟨by assumption, by assumption⟩ | exact Or.inl (by assumption) | exact Or.inr (by assumption) | exact Or.inr (Or.inl (by assumption)) | exact Or.inr (Or.inr (by assumption)) | (simp only [Int32.lt_iff_toInt_lt, Int32.le_iff_toInt_le, i32l] at *; omega))] | rw [if_neg (by first | assumption | (rintro (h9 | h9 | h9) <;> contradiction) | (rintro (h9 | h9) <;> contradiction) | (intro h9; exact Bool.noConfusion (Eq.trans (c := false) h9.symm (by assumption))) | (rintro ⟨h8, h9⟩; exact Bool.noConfusion (Eq.trans (c := false) h8.symm (by assumption))) | (rintro ⟨h8, h9⟩; exact Bool.noConfusion (Eq.trans (c := false) h9.symm (by assumption))) | (simp only [Int32.lt_iff_toInt_lt, Int32.le_iff_toInt_le, i32l] at *; omega))]))) clj clj2 clr (Nat.lt_succ_self _) ls _ _ hP hD hS (lv_one hl 1 rfl rfl (lv_one hl 2 rfl rfl (lv_one hl 3 rfl rfl (lv_one hl 4 rfl rfl (lv_one hl 0 rfl rfl (lv_nil hl))))))
        · first | exact absurd c_40 (by decide) | exact absurd (by decide) c_40
    · skip
      have c_33 : (inC n y) = false := bI_0 c_33
      refine lv_iconst (v := 1) hx hb dX13_chains_17 (by decide) ?_
      refine lv_goto (tgt := 37) hx hb dX13_chains_18 (by decide) ?_
      refine va_put (D := D) (ci := 11) (v := .int 1) (ty := .int) (C := RX13) (T := TX13) (N := 29) hx hb hts kc_RX13 tyX13 tyX13_ok nmX13 hown hK hP hD hS 0 rfl rfl 0 (by decide) k_fieldLink_77 (fun _ h9 => h9) rfl (by decide +kernel) rfl rfl (Nat.le_of_ble_eq_true rfl) dX13_chains_37 (fun H locs hP hD hS => ?_)
      have hP : va_P D vwCl (bMO k q 1 ea fa ch tn he en ln sv wr dg ++ bI83 k (q 1) v ++ bL10 k (q 12) wy ++ bL10 k (q 13) mo) H := hP
      have hD : va_D A (bMO k q 1 ea fa ch tn he en ln sv wr dg ++ bI83 k (q 1) v ++ bL10 k (q 12) wy ++ bL10 k (q 13) mo) := hD
      refine lv_aload_n hx hb dX13_chains_40 rfl (lv_at hl 0 rfl) ?_
      refine va_get (D := D) (ci := 11) (v := .int 1) (C := RX13) (T := TX13) (N := 29) hx hb hts kc_RX13 hown hK hP 0 rfl rfl 0 (by decide) k_fieldLink_77 (fun _ h9 => h9) rfl dX13_chains_41 ?_
      refine lv_if_eq (tgt := 49) hx hb dX13_chains_44 (by decide) (fun c_42 => ?_) (fun c_42 => ?_)
      · first | exact absurd c_42 (by decide) | exact absurd (by decide) c_42
      · skip
        refine lv_iconst (v := 0) hx hb dX13_chains_47 (by decide) ?_
        have e_43 : (1 : Int32) = thC n (nI j) y le := by first | (with_reducible rfl) | (symm; simp only [thC]; (repeat (first | rw [if_pos (by first | assumption | exact Eq.trans (b := false) (by assumption) (Eq.symm (by assumption)) | exact Eq.trans (b := true) (by assumption) (Eq.symm (by assumption)) | exact ⟨by assumption, by assumption⟩ | exact Or.inl (by assumption) | exact Or.inr (by assumption) | exact Or.inr (Or.inl (by assumption)) | exact Or.inr (Or.inr (by assumption)) | (simp only [Int32.lt_iff_toInt_lt, Int32.le_iff_toInt_le, i32_0, i32_1, i32_2, i32_3, i32_4, i32_9, i32_10, i32_99, i32_100, i32_1000, i32_9999] at *; omega))] | rw [if_neg (by first | assumption | (rintro (h9 | h9 | h9) <;> contradiction) | (rintro (h9 | h9) <;> contradiction) | (intro h9; exact Bool.noConfusion (Eq.trans (c := false) h9.symm (by assumption))) | (rintro ⟨h8, h9⟩; exact Bool.noConfusion (Eq.trans (c := false) h8.symm (by assumption))) | (rintro ⟨h8, h9⟩; exact Bool.noConfusion (Eq.trans (c := false) h9.symm (by assumption))) | (simp only [Int32.lt_iff_toInt_lt, Int32.le_iff_toInt_le, i32_0, i32_1, i32_2, i32_3, i32_4, i32_9, i32_10, i32_99, i32_100, i32_1000, i32_9999] at *; omega))])))
        have hP := Eq.mp (congrArg (fun z9 => va_P D vwCl (bMO k q z9 ea fa ch tn he en ln sv wr dg ++ bI83 k (q 1) v ++ bL10 k (q 12) wy ++ bL10 k (q 13) mo) H) e_43) hP
        have hD := Eq.mp (congrArg (fun z9 => va_D A (bMO k q z9 ea fa ch tn he en ln sv wr dg ++ bI83 k (q 1) v ++ bL10 k (q 12) wy ++ bL10 k (q 13) mo)) e_43) hD
        have e_44 : (wy : Nat → Int64) = if thC n (nI j) y le = 0 then (itW n (vt v) (nI j).toNatClampNeg wy mo le.toNatClampNeg).1 else wy := by first | (with_reducible rfl) | (rw [if_neg (by (simp only [thC]); (repeat (first | rw [if_pos (by first | assumption | exact Eq.trans (b := false) (by assumption) (Eq.symm (by assumption)) | exact Eq.trans (b := true) (by assumption) (Eq.symm (by assumption)) | exact ⟨by assumption, by assumption⟩ | exact Or.inl (by assumption) | exact Or.inr (by assumption) | exact Or.inr (Or.inl (by assumption)) | exact Or.inr (Or.inr (by assumption)) | (simp only [Int32.lt_iff_toInt_lt, Int32.le_iff_toInt_le, i32_0, i32_1, i32_2, i32_3, i32_4, i32_9, i32_10, i32_99, i32_100, i32_1000, i32_9999] at *; omega))] | rw [if_neg (by first | assumption | (rintro (h9 | h9 | h9) <;> contradiction) | (rintro (h9 | h9) <;> contradiction) | (intro h9; exact Bool.noConfusion (Eq.trans (c := false) h9.symm (by assumption))) | (rintro ⟨h8, h9⟩; exact Bool.noConfusion (Eq.trans (c := false) h8.symm (by assumption))) | (rintro ⟨h8, h9⟩; exact Bool.noConfusion (Eq.trans (c := false) h9.symm (by assumption))) | (simp only [Int32.lt_iff_toInt_lt, Int32.le_iff_toInt_le, i32_0, i32_1, i32_2, i32_3, i32_4, i32_9, i32_10, i32_99, i32_100, i32_1000, i32_9999] at *; omega))])); decide)])
        have hP := Eq.mp (congrArg (fun z9 => va_P D vwCl (bMO k q (thC n (nI j) y le) ea fa ch tn he en ln sv wr dg ++ bI83 k (q 1) v ++ bL10 k (q 12) z9 ++ bL10 k (q 13) mo) H) e_44) hP
        have hD := Eq.mp (congrArg (fun z9 => va_D A (bMO k q (thC n (nI j) y le) ea fa ch tn he en ln sv wr dg ++ bI83 k (q 1) v ++ bL10 k (q 12) z9 ++ bL10 k (q 13) mo)) e_44) hD
        have e_45 : (mo : Nat → Int64) = if thC n (nI j) y le = 0 then (itW n (vt v) (nI j).toNatClampNeg wy mo le.toNatClampNeg).2 else mo := by first | (with_reducible rfl) | (rw [if_neg (by (simp only [thC]); (repeat (first | rw [if_pos (by first | assumption | exact Eq.trans (b := false) (by assumption) (Eq.symm (by assumption)) | exact Eq.trans (b := true) (by assumption) (Eq.symm (by assumption)) | exact ⟨by assumption, by assumption⟩ | exact Or.inl (by assumption) | exact Or.inr (by assumption) | exact Or.inr (Or.inl (by assumption)) | exact Or.inr (Or.inr (by assumption)) | (simp only [Int32.lt_iff_toInt_lt, Int32.le_iff_toInt_le, i32_0, i32_1, i32_2, i32_3, i32_4, i32_9, i32_10, i32_99, i32_100, i32_1000, i32_9999] at *; omega))] | rw [if_neg (by first | assumption | (rintro (h9 | h9 | h9) <;> contradiction) | (rintro (h9 | h9) <;> contradiction) | (intro h9; exact Bool.noConfusion (Eq.trans (c := false) h9.symm (by assumption))) | (rintro ⟨h8, h9⟩; exact Bool.noConfusion (Eq.trans (c := false) h8.symm (by assumption))) | (rintro ⟨h8, h9⟩; exact Bool.noConfusion (Eq.trans (c := false) h9.symm (by assumption))) | (simp only [Int32.lt_iff_toInt_lt, Int32.le_iff_toInt_le, i32_0, i32_1, i32_2, i32_3, i32_4, i32_9, i32_10, i32_99, i32_100, i32_1000, i32_9999] at *; omega))])); decide)])
        have hP := Eq.mp (congrArg (fun z9 => va_P D vwCl (bMO k q (thC n (nI j) y le) ea fa ch tn he en ln sv wr dg ++ bI83 k (q 1) v ++ bL10 k (q 12) (if thC n (nI j) y le = 0 then (itW n (vt v) (nI j).toNatClampNeg wy mo le.toNatClampNeg).1 else wy) ++ bL10 k (q 13) z9) H) e_45) hP
        have hD := Eq.mp (congrArg (fun z9 => va_D A (bMO k q (thC n (nI j) y le) ea fa ch tn he en ln sv wr dg ++ bI83 k (q 1) v ++ bL10 k (q 12) (if thC n (nI j) y le = 0 then (itW n (vt v) (nI j).toNatClampNeg wy mo le.toNatClampNeg).1 else wy) ++ bL10 k (q 13) z9)) e_45) hD
        exact W.iret (v := 0) hx hb hr (fun t9 ht hW => ⟨⟨_, (), rfl, (by rw [if_neg (by (simp only [thC]); (repeat (first | rw [if_pos (by first | assumption | exact Eq.trans (b := false) (by assumption) (Eq.symm (by assumption)) | exact Eq.trans (b := true) (by assumption) (Eq.symm (by assumption)) | exact ⟨by assumption, by assumption⟩ | exact Or.inl (by assumption) | exact Or.inr (by assumption) | exact Or.inr (Or.inl (by assumption)) | exact Or.inr (Or.inr (by assumption)) | (simp only [Int32.lt_iff_toInt_lt, Int32.le_iff_toInt_le, i32_0, i32_1, i32_2, i32_3, i32_4, i32_9, i32_10, i32_99, i32_100, i32_1000, i32_9999] at *; omega))] | rw [if_neg (by first | assumption | (rintro (h9 | h9 | h9) <;> contradiction) | (rintro (h9 | h9) <;> contradiction) | (intro h9; exact Bool.noConfusion (Eq.trans (c := false) h9.symm (by assumption))) | (rintro ⟨h8, h9⟩; exact Bool.noConfusion (Eq.trans (c := false) h8.symm (by assumption))) | (rintro ⟨h8, h9⟩; exact Bool.noConfusion (Eq.trans (c := false) h9.symm (by assumption))) | (simp only [Int32.lt_iff_toInt_lt, Int32.le_iff_toInt_le, i32_0, i32_1, i32_2, i32_3, i32_4, i32_9, i32_10, i32_99, i32_100, i32_1000, i32_9999] at *; omega))])); decide)]), ⟨by rw [ht]; exact hP, va_K.moved hW.alike hK, hD⟩⟩, hS.F ht⟩) hS.2.2 dX13_chains_48 hlocks

set_option maxHeartbeats 4000000 in
set_option maxRecDepth 100000 in
theorem m_X13_chainsBySteps (l9 : Launch) (D : va_G) (k : Nat → ClassId) (sz : Nat) (q : Nat → Nat) (th ea fa : Int32) (ch tn he en ln : Nat) (sv wr dg : Bool) (v : Nat → Int32) (wy mo : Nat → Int64) (n : Nat) (x y le : Int32) (hn : n ≤ 10) (hv0 : v 0 = nI n) : Met l9 yX13_chainsBySteps wsX13_chainsBySteps ({ frames := 3, cells := 0, slots := 0, locals := 69 }) (WPc D k [.ref (q 0), .int x, .int y, .int le] (bMO k q th ea fa ch tn he en ln sv wr dg ++ bI83 k (q 1) v ++ bL10 k (q 12) wy ++ bL10 k (q 13) mo) sz) (WI D k (bMO k q (thC n x y le) ea fa ch tn he en ln sv wr dg ++ bI83 k (q 1) v ++ bL10 k (q 12) (if thC n x y le = 0 then (itW n (vt v) x.toNatClampNeg wy mo le.toNatClampNeg).1 else wy) ++ bL10 k (q 13) (if thC n x y le = 0 then (itW n (vt v) x.toNatClampNeg wy mo le.toNatClampNeg).2 else mo)) (if thC n x y le = 0 then ((itW n (vt v) x.toNatClampNeg wy mo le.toNatClampNeg).1 y.toNatClampNeg).toInt32 else 0) (va_A (bMO k q th ea fa ch tn he en ln sv wr dg ++ bI83 k (q 1) v ++ bL10 k (q 12) wy ++ bL10 k (q 13) mo) sz)) 0 0 (va_A (bMO k q th ea fa ch tn he en ln sv wr dg ++ bI83 k (q 1) v ++ bL10 k (q 12) wy ++ bL10 k (q 13) mo) sz) := by
  refine wMet (y := yX13_chainsBySteps) (cc := cX13_chainsBySteps) (maxL := 4) (ret := (some .int)) (Qc := fun A => WI D k (bMO k q (thC n x y le) ea fa ch tn he en ln sv wr dg ++ bI83 k (q 1) v ++ bL10 k (q 12) (if thC n x y le = 0 then (itW n (vt v) x.toNatClampNeg wy mo le.toNatClampNeg).1 else wy) ++ bL10 k (q 13) (if thC n x y le = 0 then (itW n (vt v) x.toNatClampNeg wy mo le.toNatClampNeg).2 else mo)) (if thC n x y le = 0 then ((itW n (vt v) x.toNatClampNeg wy mo le.toNatClampNeg).1 y.toNatClampNeg).toInt32 else 0) A) [.ref (q 0), .int x, .int y, .int le] (by decide) rfl (Nat.le_of_ble_eq_true rfl) ?_
  intro p9 e9 s9 m9 bl9 me9 c9 ls A H hF hr hlocks hP hK hN hD hA hS hl hin
  have hl : lv_has ls 4 [(0, .ref (q 0)), (1, .int x), (2, .int y), (3, .int le)] := hl
  obtain ⟨hx, hb, hml, hown, hts⟩ := id hF
  refine lv_aload_n hx hb dX13_chainsBySteps_0 rfl (lv_at hl 0 rfl) ?_
  refine lv_iload_n hx hb dX13_chainsBySteps_1 rfl (lv_at hl 1 rfl) ?_
  refine lv_iload_n hx hb dX13_chainsBySteps_2 rfl (lv_at hl 2 rfl) ?_
  refine lv_iload_n hx hb dX13_chainsBySteps_3 rfl (lv_at hl 3 rfl) ?_
  have hFc := va_free (wc := bMO k q th ea fa ch tn he en ln sv wr dg ++ bI83 k (q 1) v ++ bL10 k (q 12) wy ++ bL10 k (q 13) mo) hD hS hA [0, 1, 2, 3] rfl
  refine va_calli (va_runV (As := [.int x, .int y, .int le]) (rest := []) hF (m_X13_chains l9 D k H.size q th ea fa ch tn he en ln sv wr dg v wy mo n x y le hn hv0) (cwV 3 hts gX13_chainsBySteps_X13_chains rfl rfl rfl (by decide +kernel) ⟨Nat.le_of_ble_eq_true rfl, Nat.le_of_ble_eq_true rfl⟩) (wPreV hK hN hP hD [0, 1, 2, 3] rfl (by decide) rfl 0 11 rfl rfl) rfl rfl hl.1 rfl (lv_room (Nat.le_of_ble_eq_true rfl)) dX13_chainsBySteps_4 ⟨Nat.zero_le _, Nat.zero_le _⟩) hS (fun q _ h => hFc q h) hFc (fun r u9 t9 H1 locs ht hvm hw hB hz1 hk1 hS => ?_)
  obtain ⟨hP, hD⟩ := wjoin (wr := []) (wf := bMO k q (thC n x y le) ea fa ch tn he en ln sv wr dg ++ bI83 k (q 1) v ++ bL10 k (q 12) (if thC n x y le = 0 then (itW n (vt v) x.toNatClampNeg wy mo le.toNatClampNeg).1 else wy) ++ bL10 k (q 13) (if thC n x y le = 0 then (itW n (vt v) x.toNatClampNeg wy mo le.toNatClampNeg).2 else mo)) hP hD [0, 1, 2, 3] [] [0, 1, 2, 3] rfl rfl (by decide) (by decide) hk1 hFc hB ht rfl rfl (by decide)
  subst hw
  clear hB hk1 hz1 hvm hFc
  clear ht
  clear t9
  generalize H1 = H at hP hS ⊢
  exact W.iret (v := if thC n x y le = 0 then ((itW n (vt v) x.toNatClampNeg wy mo le.toNatClampNeg).1 y.toNatClampNeg).toInt32 else 0) hx hb hr (fun t9 ht hW => ⟨⟨_, (), rfl, (by rfl), ⟨by rw [ht]; exact hP, va_K.moved hW.alike hK, hD⟩⟩, hS.F ht⟩) hS.2.2 dX13_chainsBySteps_7 hlocks

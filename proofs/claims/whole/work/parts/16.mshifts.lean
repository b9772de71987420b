/-! The model's shifts. -/
theorem ovM_t {n : Nat} {s : MS} (h : ovM n s = true) : (dcM n s).1 = scV s.1 s.2.2.2 ∧ (dcM n s).2.2.2 = min (s.2.2.2 + 1) 16 := ⟨if_pos h, if_pos h⟩
theorem ovM_f {n : Nat} {s : MS} (h : ovM n s = false) : (dcM n s).1 = s.1 ∧ (dcM n s).2.2.2 = s.2.2.2 := ⟨if_neg (fun q => Bool.noConfusion (Eq.trans h.symm q)), if_neg (fun q => Bool.noConfusion (Eq.trans h.symm q))⟩
theorem rg1_of {x : Int32} {m : Nat} (hm : m < 2 ^ 31) (h : rg 1 x (nI m) = true) : ∃ j, j ≤ m ∧ x = nI j := by
  have h2 := of_decide_eq_true h
  refine am_nat hm (fun q => ?_) h2.2
  have := h2.1
  rw [Int32.le_iff_toInt_le] at this
  rw [Int32.lt_iff_toInt_lt] at q
  omega

set_option maxHeartbeats 4000000 in
set_option maxRecDepth 100000 in
theorem m_X13_decays (l9 : Launch) (D : va_G) (k : Nat → ClassId) (sz : Nat) (q : Nat → Nat) (th ea fa : Int32) (ch tn he en ln : Nat) (sv wr dg : Bool) (v : Nat → Int32) (fl nx : Nat → UInt32) (n : Nat) (hn : n ≤ 10) (hv0 : v 0 = nI n) (hf : ∀ c, c < n → okF (fl c)) (hly : lyOk n (vl v)) : Met l9 yX13_decays wsX13_decays ({ frames := 2, cells := 0, slots := 0, locals := 44 }) (WPc D k [.ref (q 0)] (bMO k q th ea fa ch tn he en ln sv wr dg ++ bI83 k (q 1) v ++ bF10 k (q 6) fl ++ bF10 k (q 10) nx) sz) (WV D k (bMO k q th ea fa ch tn he en ln sv wr dg ++ bI83 k (q 1) v ++ bF10 k (q 6) (flM n v fl nx) ++ bF10 k (q 10) (frM n v fl nx n)) (va_A (bMO k q th ea fa ch tn he en ln sv wr dg ++ bI83 k (q 1) v ++ bF10 k (q 6) fl ++ bF10 k (q 10) nx) sz)) 0 0 (va_A (bMO k q th ea fa ch tn he en ln sv wr dg ++ bI83 k (q 1) v ++ bF10 k (q 6) fl ++ bF10 k (q 10) nx) sz) := by
  refine wMet (y := yX13_decays) (cc := cX13_decays) (maxL := 4) (ret := none) (Qc := fun A => WV D k (bMO k q th ea fa ch tn he en ln sv wr dg ++ bI83 k (q 1) v ++ bF10 k (q 6) (flM n v fl nx) ++ bF10 k (q 10) (frM n v fl nx n)) A) [.ref (q 0)] (by decide) rfl (Nat.le_of_ble_eq_true rfl) ?_
  intro p9 e9 s9 m9 bl9 me9 c9 ls A H hF hr hlocks hP hK hN hD hA hS hl hin
  have hl : lv_has ls 4 [(0, .ref (q 0))] := hl
  obtain ⟨hx, hb, hml, hown, hts⟩ := id hF
  have k_fieldLink_16 : (Cond.fieldLink RX13 16 "OpinionReactorModel" "v" "[I").before _ s9 = true := hts (.fieldLink RX13 16 "OpinionReactorModel" "v" "[I") (by decide +kernel)
  have kc_RX13 : ∀ w ∈ u_ws RX13 TX13 29, w ∈ wsX13_decays := by decide +kernel
  have k_fieldLink_32 : (Cond.fieldLink RX13 32 "OpinionReactorModel" "flux" "[F").before _ s9 = true := hts (.fieldLink RX13 32 "OpinionReactorModel" "flux" "[F") (by decide +kernel)
  have k_fieldLink_45 : (Cond.fieldLink RX13 45 "OpinionReactorModel" "next" "[F").before _ s9 = true := hts (.fieldLink RX13 45 "OpinionReactorModel" "next" "[F") (by decide +kernel)
  have k_constantFloat_203 : (Cond.constantFloat RX13 203 (1092616192)).before _ s9 = true := hts (.constantFloat RX13 203 (1092616192)) (by decide +kernel)
  have k_constantFloat_197 : (Cond.constantFloat RX13 197 (1203982208)).before _ s9 = true := hts (.constantFloat RX13 197 (1203982208)) (by decide +kernel)
  have k_constantFloat_202 : (Cond.constantFloat RX13 202 (1048576000)).before _ s9 = true := hts (.constantFloat RX13 202 (1048576000)) (by decide +kernel)
  have k_constantFloat_201 : (Cond.constantFloat RX13 201 (1056964608)).before _ s9 = true := hts (.constantFloat RX13 201 (1056964608)) (by decide +kernel)
  have loop_112 : ∀ (fuel : Nat) (i : Nat), (i ≤ n) → n - i < fuel → ∀ (ls : Array Slot), ∀ (H : Heap) (locs : List Loc), va_P D vwCl (bMO k q th ea fa ch tn he en ln sv wr dg ++ bI83 k (q 1) v ++ bF10 k (q 6) (fil fl (frM n v fl nx n) i) ++ bF10 k (q 10) (frM n v fl nx n)) H → va_D A (bMO k q th ea fa ch tn he en ln sv wr dg ++ bI83 k (q 1) v ++ bF10 k (q 6) (fil fl (frM n v fl nx n) i) ++ bF10 k (q 10) (frM n v fl nx n)) → va_S A s9.heap H locs → lv_has ls 4 [(0, .ref (q 0)), (1, .int (nI i))] → W p9 l9 e9 ({ frames := 2, cells := 0, slots := 0, locals := 44 }) s9 m9 ([.ref (q 0)] : List Value).toArray bl9 me9 c9 H locs 0 0 (MQ bl9 (WV D k (bMO k q th ea fa ch tn he en ln sv wr dg ++ bI83 k (q 1) v ++ bF10 k (q 6) (flM n v fl nx) ++ bF10 k (q 10) (frM n v fl nx n)) A) ([.ref (q 0)] : List Value).toArray s9 0 0 A) (F0 m9 112 ls []) := by
    intro fuel
    induction fuel with
    | zero => intro i hi hfuel_112; exact absurd hfuel_112 (Nat.not_lt_zero _)
    | succ fuel ih_112 =>
      intro i hi hfuel_112 ls H locs hP hD hS hl
      refine lv_iload_n hx hb dX13_decays_112 rfl (lv_at hl 1 rfl) ?_
      refine lv_aload_n hx hb dX13_decays_113 rfl (lv_at hl 0 rfl) ?_
      refine va_get (D := D) (ci := 11) (v := .ref (q 1)) (C := RX13) (T := TX13) (N := 29) hx hb hts kc_RX13 hown hK hP 0 rfl rfl 5 (by decide) k_fieldLink_16 (fun _ h9 => h9) rfl dX13_decays_114 ?_
      refine lv_iconst (v := 0) hx hb dX13_decays_117 (by decide) ?_
      refine ia_ld hx hb hK hP 1 rfl 0 (by omega) (by decide) dX13_decays_118 ?_
      rw [hv0]
      refine lv_icmp_ge (tgt := 140) hx hb dX13_decays_119 (by decide) (fun c_1 => ?_) (fun c_1 => ?_)
      · skip
        have c_1 : n ≤ i := (nI_leI (a := n) (b := i) (by omega) (by omega)).mp c_1
        have e_2 : (fil fl (frM n v fl nx n) i : Nat → UInt32) = flM n v fl nx := by first | (with_reducible rfl) | (unfold flM; rw [show i = n by omega])
        have hP := Eq.mp (congrArg (fun z9 => va_P D vwCl (bMO k q th ea fa ch tn he en ln sv wr dg ++ bI83 k (q 1) v ++ bF10 k (q 6) z9 ++ bF10 k (q 10) (frM n v fl nx n)) H) e_2) hP
        have hD := Eq.mp (congrArg (fun z9 => va_D A (bMO k q th ea fa ch tn he en ln sv wr dg ++ bI83 k (q 1) v ++ bF10 k (q 6) z9 ++ bF10 k (q 10) (frM n v fl nx n))) e_2) hD
        exact W.vret hx hb hr (fun t9 ht hW => ⟨⟨(), rfl, trivial, ⟨by rw [ht]; exact hP, va_K.moved hW.alike hK, hD⟩⟩, hS.F ht⟩) hS.2.2 dX13_decays_140 hlocks
      · skip
        have c_1 : ¬ n ≤ i := fun h => c_1 ((nI_leI (a := n) (b := i) (by omega) (by omega)).mpr h)
        refine lv_aload_n hx hb dX13_decays_122 rfl (lv_at hl 0 rfl) ?_
        refine va_get (D := D) (ci := 11) (v := .ref (q 6)) (C := RX13) (T := TX13) (N := 29) hx hb hts kc_RX13 hown hK hP 0 rfl rfl 10 (by decide) k_fieldLink_32 (fun _ h9 => h9) rfl dX13_decays_123 ?_
        refine lv_iload_n hx hb dX13_decays_126 rfl (lv_at hl 1 rfl) ?_
        refine lv_aload_n hx hb dX13_decays_127 rfl (lv_at hl 0 rfl) ?_
        refine va_get (D := D) (ci := 11) (v := .ref (q 10)) (C := RX13) (T := TX13) (N := 29) hx hb hts kc_RX13 hown hK hP 0 rfl rfl 14 (by decide) k_fieldLink_45 (fun _ h9 => h9) rfl dX13_decays_128 ?_
        refine lv_iload_n hx hb dX13_decays_131 rfl (lv_at hl 1 rfl) ?_
        refine fa_ld hx hb hK hP 3 rfl i (by omega) (by decide) dX13_decays_132 ?_
        refine fa_st hx hb hK hP hD hS 2 rfl i (by omega) (by decide) (bMO k q th ea fa ch tn he en ln sv wr dg ++ bI83 k (q 1) v ++ bF10 k (q 6) (vf_upd (fil fl (frM n v fl nx n) i) i ((frM n v fl nx n) i)) ++ bF10 k (q 10) (frM n v fl nx n)) rfl dX13_decays_133 (fun H locs hP hD hS => ?_)
        refine lv_iinc (v := nI (i + 1)) (lv' := [(1, .int (nI (i + 1))), (0, .ref (q 0))]) hx hb dX13_decays_134 hl (k := 1) rfl (nI_inc i) (by decide) rfl (fun ls hl => ?_)
        refine lv_goto (tgt := 112) hx hb dX13_decays_137 (by decide) ?_
        have e_3 : (vf_upd (fil fl (frM n v fl nx n) i) i ((frM n v fl nx n) i) : Nat → UInt32) = fil fl (frM n v fl nx n) (i + 1) := by first | (with_reducible rfl) | (exact fil_v _ _ _)
        have hP := Eq.mp (congrArg (fun z9 => va_P D vwCl (bMO k q th ea fa ch tn he en ln sv wr dg ++ bI83 k (q 1) v ++ bF10 k (q 6) z9 ++ bF10 k (q 10) (frM n v fl nx n)) H) e_3) hP
        have hD := Eq.mp (congrArg (fun z9 => va_D A (bMO k q th ea fa ch tn he en ln sv wr dg ++ bI83 k (q 1) v ++ bF10 k (q 6) z9 ++ bF10 k (q 10) (frM n v fl nx n))) e_3) hD
        exact ih_112 (i + 1) (by omega) (by omega) ls _ _ hP hD hS (lv_one hl 1 rfl rfl (lv_one hl 0 rfl rfl (lv_nil hl)))
  have loop_2 : ∀ (fuel : Nat) (i : Nat), (i ≤ n) → n - i < fuel → ∀ (ls : Array Slot), ∀ (H : Heap) (locs : List Loc), va_P D vwCl (bMO k q th ea fa ch tn he en ln sv wr dg ++ bI83 k (q 1) v ++ bF10 k (q 6) fl ++ bF10 k (q 10) (frM n v fl nx i)) H → va_D A (bMO k q th ea fa ch tn he en ln sv wr dg ++ bI83 k (q 1) v ++ bF10 k (q 6) fl ++ bF10 k (q 10) (frM n v fl nx i)) → va_S A s9.heap H locs → lv_has ls 4 [(0, .ref (q 0)), (1, .int (nI i))] → W p9 l9 e9 ({ frames := 2, cells := 0, slots := 0, locals := 44 }) s9 m9 ([.ref (q 0)] : List Value).toArray bl9 me9 c9 H locs 0 0 (MQ bl9 (WV D k (bMO k q th ea fa ch tn he en ln sv wr dg ++ bI83 k (q 1) v ++ bF10 k (q 6) (flM n v fl nx) ++ bF10 k (q 10) (frM n v fl nx n)) A) ([.ref (q 0)] : List Value).toArray s9 0 0 A) (F0 m9 2 ls []) := by
    intro fuel
    induction fuel with
    | zero => intro i hi hfuel_2; exact absurd hfuel_2 (Nat.not_lt_zero _)
    | succ fuel ih_2 =>
      intro i hi hfuel_2 ls H locs hP hD hS hl
      have loop_24 : ∀ (fuel : Nat) (u : Nat), (u ≤ n) → (i < n) → n - u < fuel → ∀ (ls : Array Slot), ∀ (H : Heap) (locs : List Loc), va_P D vwCl (bMO k q th ea fa ch tn he en ln sv wr dg ++ bI83 k (q 1) v ++ bF10 k (q 6) fl ++ bF10 k (q 10) (frM n v fl nx i)) H → va_D A (bMO k q th ea fa ch tn he en ln sv wr dg ++ bI83 k (q 1) v ++ bF10 k (q 6) fl ++ bF10 k (q 10) (frM n v fl nx i)) → va_S A s9.heap H locs → lv_has ls 4 [(0, .ref (q 0)), (1, .int (nI i)), (2, .float (nmM (vt v) fl i u)), (3, .int (nI u))] → W p9 l9 e9 ({ frames := 2, cells := 0, slots := 0, locals := 44 }) s9 m9 ([.ref (q 0)] : List Value).toArray bl9 me9 c9 H locs 0 0 (MQ bl9 (WV D k (bMO k q th ea fa ch tn he en ln sv wr dg ++ bI83 k (q 1) v ++ bF10 k (q 6) (flM n v fl nx) ++ bF10 k (q 10) (frM n v fl nx n)) A) ([.ref (q 0)] : List Value).toArray s9 0 0 A) (F0 m9 24 ls []) := by
        intro fuel
        induction fuel with
        | zero => intro u hu hil hfuel_24; exact absurd hfuel_24 (Nat.not_lt_zero _)
        | succ fuel ih_24 =>
          intro u hu hil hfuel_24 ls H locs hP hD hS hl
          refine lv_iload_n hx hb dX13_decays_24 rfl (lv_at hl 3 rfl) ?_
          refine lv_aload_n hx hb dX13_decays_25 rfl (lv_at hl 0 rfl) ?_
          refine va_get (D := D) (ci := 11) (v := .ref (q 1)) (C := RX13) (T := TX13) (N := 29) hx hb hts kc_RX13 hown hK hP 0 rfl rfl 5 (by decide) k_fieldLink_16 (fun _ h9 => h9) rfl dX13_decays_26 ?_
          refine lv_iconst (v := 0) hx hb dX13_decays_29 (by decide) ?_
          refine ia_ld hx hb hK hP 1 rfl 0 (by omega) (by decide) dX13_decays_30 ?_
          rw [hv0]
          refine lv_icmp_ge (tgt := 61) hx hb dX13_decays_31 (by decide) (fun c_4 => ?_) (fun c_4 => ?_)
          · skip
            have c_4 : n ≤ u := (nI_leI (a := n) (b := u) (by omega) (by omega)).mp c_4
            refine lv_fload_n hx hb dX13_decays_61 rfl (lv_at hl 2 rfl) ?_
            refine lv_bipush (v := 10) hx hb dX13_decays_62 (by decide) ?_
            refine lv_aload_n hx hb dX13_decays_64 rfl (lv_at hl 0 rfl) ?_
            refine lv_aload_n hx hb dX13_decays_65 rfl (lv_at hl 0 rfl) ?_
            refine va_get (D := D) (ci := 11) (v := .ref (q 1)) (C := RX13) (T := TX13) (N := 29) hx hb hts kc_RX13 hown hK hP 0 rfl rfl 5 (by decide) k_fieldLink_16 (fun _ h9 => h9) rfl dX13_decays_66 ?_
            refine lv_iload_n hx hb dX13_decays_69 rfl (lv_at hl 1 rfl) ?_
            refine lv_iconst (v := 1) hx hb dX13_decays_70 (by decide) ?_
            refine vp_callSi (W.runS (As := [.int (nI i), .int 1]) (rest := [.ref (q 1), .ref (q 0), .int 10, .float (nmM (vt v) fl i u)]) hF (m_X13_of l9 D k i 1 ) (va_cwS 2 hts gX13_decays_X13_of rfl rfl rfl (by decide +kernel) ⟨Nat.le_of_ble_eq_true rfl, Nat.le_of_ble_eq_true rfl⟩) (rPreS hK hN hP [] rfl) rfl rfl hl.1 rfl (lv_room (Nat.le_of_ble_eq_true rfl)) dX13_decays_71 ⟨Nat.zero_le _, Nat.zero_le _⟩) (fun r_5 hr_5 => ?_)
            subst hr_5
            refine ia_ld hx hb hK hP 1 rfl (5 + 3 * i + 1) (by omega) (by decide) dX13_decays_74 ?_
            refine lv_tope (show Value.int (v (5 + 3 * i + 1)) = Value.int (nI ((vl v i).toNatClampNeg)) from congrArg Value.int (by exact (hly i (by omega)).1)) ?_
            refine vp_callSi (W.runV (As := [.int (nI ((vl v i).toNatClampNeg))]) (rest := [.int 10, .float (nmM (vt v) fl i u)]) hF (m_X13_depth l9 D k q th ea fa ch tn he en ln sv wr dg v ((vl v i).toNatClampNeg) (hly i (by omega)).2) (cwV 1 hts gX13_decays_X13_depth rfl rfl rfl (by decide +kernel) ⟨Nat.le_of_ble_eq_true rfl, Nat.le_of_ble_eq_true rfl⟩) (rPreV hK hN hP [0, 1] rfl 0 11 rfl rfl) rfl rfl hl.1 rfl (lv_room (Nat.le_of_ble_eq_true rfl)) dX13_decays_75 ⟨Nat.zero_le _, Nat.zero_le _⟩) (fun r_6 hr_6 => ?_)
            subst hr_6
            refine lv_isub hx hb dX13_decays_78 ?_
            refine lv_i2f hx hb dX13_decays_79 ?_
            refine lv_fmul hx hb dX13_decays_80 (okF_n32 (okF_mul (okF_nmM hf hil hu) (psF_dpM v _))) ?_
            refine lv_ldcf hx hb hown k_constantFloat_203 dX13_decays_81 ?_
            refine lv_fdiv hx hb dX13_decays_83 (okF_n32 (okF_div (okF_mul (okF_nmM hf hil hu) (psF_dpM v _)) psF_ten)) ?_
            refine lv_fstore_n (lv' := [(2, .float (FP.fdiv (FP.fmul (nmM (vt v) fl i u) (FP.i2f (10 - (dpM v ((vl v i).toNatClampNeg))))) 1092616192)), (0, .ref (q 0)), (1, .int (nI i)), (3, .int (nI u))]) hx hb dX13_decays_84 rfl hl (by decide) rfl (fun ls hl => ?_)
            refine lv_aload_n hx hb dX13_decays_85 rfl (lv_at hl 1 rfl) ?_
            refine va_get (D := D) (ci := 11) (v := .ref (q 10)) (C := RX13) (T := TX13) (N := 29) hx hb hts kc_RX13 hown hK hP 0 rfl rfl 14 (by decide) k_fieldLink_45 (fun _ h9 => h9) rfl dX13_decays_86 ?_
            refine lv_iload_n hx hb dX13_decays_89 rfl (lv_at hl 2 rfl) ?_
            refine lv_fload_n hx hb dX13_decays_90 rfl (lv_at hl 0 rfl) ?_
            refine lv_ldcf hx hb hown k_constantFloat_197 dX13_decays_91 ?_
            refine lv_fcmp hx hb dX13_decays_93 ?_
            refine lv_if_le (tgt := 102) hx hb dX13_decays_94 (by decide) (fun c_7 => ?_) (fun c_7 => ?_)
            · skip
              have c_7 : ¬ (FP.fcmp (FP.fdiv (FP.fmul (nmM (vt v) fl i u) (FP.i2f (10 - (dpM v ((vl v i).toNatClampNeg))))) 1092616192) 1203982208) = some .gt := (cmv_le _).mp c_7
              refine lv_fload_n hx hb dX13_decays_102 rfl (lv_at hl 0 rfl) ?_
              refine fa_st hx hb hK hP hD hS 3 rfl i (by omega) (by decide) (bMO k q th ea fa ch tn he en ln sv wr dg ++ bI83 k (q 1) v ++ bF10 k (q 6) fl ++ bF10 k (q 10) (vf_upd (frM n v fl nx i) i (FP.fdiv (FP.fmul (nmM (vt v) fl i u) (FP.i2f (10 - (dpM v ((vl v i).toNatClampNeg))))) 1092616192))) rfl dX13_decays_103 (fun H locs hP hD hS => ?_)
              refine lv_iinc (v := nI (i + 1)) (lv' := [(1, .int (nI (i + 1))), (2, .float (FP.fdiv (FP.fmul (nmM (vt v) fl i u) (FP.i2f (10 - (dpM v ((vl v i).toNatClampNeg))))) 1092616192)), (0, .ref (q 0)), (3, .int (nI u))]) hx hb dX13_decays_104 hl (k := 2) rfl (nI_inc i) (by decide) rfl (fun ls hl => ?_)
              refine lv_goto (tgt := 2) hx hb dX13_decays_107 (by decide) ?_
              have e_8 : (vf_upd (frM n v fl nx i) i (FP.fdiv (FP.fmul (nmM (vt v) fl i u) (FP.i2f (10 - (dpM v ((vl v i).toNatClampNeg))))) 1092616192) : Nat → UInt32) = frM n v fl nx (i + 1) := by first | (with_reducible rfl) | (have h9 : nmM (vt v) fl i n = nmM (vt v) fl i u := (by rw [show u = n by omega]); rw [frM_s]; unfold nxM; rw [h9]; unfold cpF; first | rw [if_pos (by assumption)] | rw [if_neg (by assumption)])
              have hP := Eq.mp (congrArg (fun z9 => va_P D vwCl (bMO k q th ea fa ch tn he en ln sv wr dg ++ bI83 k (q 1) v ++ bF10 k (q 6) fl ++ bF10 k (q 10) z9) H) e_8) hP
              have hD := Eq.mp (congrArg (fun z9 => va_D A (bMO k q th ea fa ch tn he en ln sv wr dg ++ bI83 k (q 1) v ++ bF10 k (q 6) fl ++ bF10 k (q 10) z9)) e_8) hD
              exact ih_2 (i + 1) (by omega) (by omega) ls _ _ hP hD hS (lv_one hl 2 rfl rfl (lv_one hl 0 rfl rfl (lv_nil hl)))
            · skip
              have c_7 : (FP.fcmp (FP.fdiv (FP.fmul (nmM (vt v) fl i u) (FP.i2f (10 - (dpM v ((vl v i).toNatClampNeg))))) 1092616192) 1203982208) = some .gt := Classical.byContradiction (fun h => c_7 ((cmv_le _).mpr h))
              refine lv_ldcf hx hb hown k_constantFloat_197 dX13_decays_97 ?_
              refine lv_goto (tgt := 103) hx hb dX13_decays_99 (by decide) ?_
              refine fa_st hx hb hK hP hD hS 3 rfl i (by omega) (by decide) (bMO k q th ea fa ch tn he en ln sv wr dg ++ bI83 k (q 1) v ++ bF10 k (q 6) fl ++ bF10 k (q 10) (vf_upd (frM n v fl nx i) i 1203982208)) rfl dX13_decays_103 (fun H locs hP hD hS => ?_)
              refine lv_iinc (v := nI (i + 1)) (lv' := [(1, .int (nI (i + 1))), (2, .float (FP.fdiv (FP.fmul (nmM (vt v) fl i u) (FP.i2f (10 - (dpM v ((vl v i).toNatClampNeg))))) 1092616192)), (0, .ref (q 0)), (3, .int (nI u))]) hx hb dX13_decays_104 hl (k := 2) rfl (nI_inc i) (by decide) rfl (fun ls hl => ?_)
              refine lv_goto (tgt := 2) hx hb dX13_decays_107 (by decide) ?_
              have e_9 : (vf_upd (frM n v fl nx i) i 1203982208 : Nat → UInt32) = frM n v fl nx (i + 1) := by first | (with_reducible rfl) | (have h9 : nmM (vt v) fl i n = nmM (vt v) fl i u := (by rw [show u = n by omega]); rw [frM_s]; unfold nxM; rw [h9]; unfold cpF; first | rw [if_pos (by assumption)] | rw [if_neg (by assumption)])
              have hP := Eq.mp (congrArg (fun z9 => va_P D vwCl (bMO k q th ea fa ch tn he en ln sv wr dg ++ bI83 k (q 1) v ++ bF10 k (q 6) fl ++ bF10 k (q 10) z9) H) e_9) hP
              have hD := Eq.mp (congrArg (fun z9 => va_D A (bMO k q th ea fa ch tn he en ln sv wr dg ++ bI83 k (q 1) v ++ bF10 k (q 6) fl ++ bF10 k (q 10) z9)) e_9) hD
              exact ih_2 (i + 1) (by omega) (by omega) ls _ _ hP hD hS (lv_one hl 2 rfl rfl (lv_one hl 0 rfl rfl (lv_nil hl)))
          · skip
            have c_4 : ¬ n ≤ u := fun h => c_4 ((nI_leI (a := n) (b := u) (by omega) (by omega)).mpr h)
            refine lv_aload_n hx hb dX13_decays_34 rfl (lv_at hl 0 rfl) ?_
            refine lv_iload_n hx hb dX13_decays_35 rfl (lv_at hl 3 rfl) ?_
            refine lv_iload_n hx hb dX13_decays_36 rfl (lv_at hl 1 rfl) ?_
            refine vp_callSi (W.runV (As := [.int (nI u), .int (nI i)]) (rest := []) hF (m_X13_hits l9 D k q th ea fa ch tn he en ln sv wr dg v n u i hn hv0 (by omega) (by omega)) (cwV 2 hts gX13_decays_X13_hits rfl rfl rfl (by decide +kernel) ⟨Nat.le_of_ble_eq_true rfl, Nat.le_of_ble_eq_true rfl⟩) (rPreV hK hN hP [0, 1] rfl 0 11 rfl rfl) rfl rfl hl.1 rfl (lv_room (Nat.le_of_ble_eq_true rfl)) dX13_decays_37 ⟨Nat.zero_le _, Nat.zero_le _⟩) (fun r_10 hr_10 => ?_)
            subst hr_10
            refine lv_if_eq (tgt := 55) hx hb dX13_decays_40 (by decide) (fun c_11 => ?_) (fun c_11 => ?_)
            · skip
              have c_11 : (tb (vt v u) i) = false := bI_0 c_11
              refine lv_iinc (v := nI (u + 1)) (lv' := [(3, .int (nI (u + 1))), (0, .ref (q 0)), (1, .int (nI i)), (2, .float (nmM (vt v) fl i u))]) hx hb dX13_decays_55 hl (k := 3) rfl (nI_inc u) (by decide) rfl (fun ls hl => ?_)
              refine lv_goto (tgt := 24) hx hb dX13_decays_58 (by decide) ?_
              have e_12 : (nmM (vt v) fl i u : UInt32) = nmM (vt v) fl i (u + 1) := by first | (with_reducible rfl) | (rw [nmM_s]; (first | rw [if_pos (by assumption)] | rw [if_neg (by assumption)] | (simp [*]; done)); (try rfl))
              exact ih_24 (u + 1) (by omega) hil (by omega) ls _ _ hP hD hS (lv_one hl 1 rfl rfl (lv_one hl 2 rfl rfl (lv_one hl 3 rfl (congrArg Value.float e_12) (lv_one hl 0 rfl rfl (lv_nil hl)))))
            · skip
              have c_11 : (tb (vt v u) i) = true := bI_1 c_11
              refine lv_fload_n hx hb dX13_decays_43 rfl (lv_at hl 2 rfl) ?_
              refine lv_aload_n hx hb dX13_decays_44 rfl (lv_at hl 0 rfl) ?_
              refine va_get (D := D) (ci := 11) (v := .ref (q 6)) (C := RX13) (T := TX13) (N := 29) hx hb hts kc_RX13 hown hK hP 0 rfl rfl 10 (by decide) k_fieldLink_32 (fun _ h9 => h9) rfl dX13_decays_45 ?_
              refine lv_iload_n hx hb dX13_decays_48 rfl (lv_at hl 3 rfl) ?_
              refine fa_ld hx hb hK hP 2 rfl u (by omega) (by decide) dX13_decays_49 ?_
              refine lv_ldcf hx hb hown k_constantFloat_202 dX13_decays_50 ?_
              refine lv_fmul hx hb dX13_decays_52 (okF_n32 (okF_mul (hf u (by omega)) psF_quarter)) ?_
              refine lv_fadd hx hb dX13_decays_53 (okF_n32 (okF_add (okF_nmM hf hil hu) (okF_mul (hf u (by omega)) psF_quarter))) ?_
              refine lv_fstore_n (lv' := [(2, .float (FP.fadd (nmM (vt v) fl i u) (FP.fmul (fl u) 1048576000))), (0, .ref (q 0)), (1, .int (nI i)), (3, .int (nI u))]) hx hb dX13_decays_54 rfl hl (by decide) rfl (fun ls hl => ?_)
              refine lv_iinc (v := nI (u + 1)) (lv' := [(3, .int (nI (u + 1))), (2, .float (FP.fadd (nmM (vt v) fl i u) (FP.fmul (fl u) 1048576000))), (0, .ref (q 0)), (1, .int (nI i))]) hx hb dX13_decays_55 hl (k := 3) rfl (nI_inc u) (by decide) rfl (fun ls hl => ?_)
              refine lv_goto (tgt := 24) hx hb dX13_decays_58 (by decide) ?_
              have e_13 : (FP.fadd (nmM (vt v) fl i u) (FP.fmul (fl u) 1048576000) : UInt32) = nmM (vt v) fl i (u + 1) := by first | (with_reducible rfl) | (rw [nmM_s]; (first | rw [if_pos (by assumption)] | rw [if_neg (by assumption)] | (simp [*]; done)); (try rfl))
              exact ih_24 (u + 1) (by omega) hil (by omega) ls _ _ hP hD hS (lv_one hl 2 rfl rfl (lv_one hl 3 rfl rfl (lv_one hl 1 rfl (congrArg Value.float e_13) (lv_one hl 0 rfl rfl (lv_nil hl)))))
      refine lv_iload_n hx hb dX13_decays_2 rfl (lv_at hl 1 rfl) ?_
      refine lv_aload_n hx hb dX13_decays_3 rfl (lv_at hl 0 rfl) ?_
      refine va_get (D := D) (ci := 11) (v := .ref (q 1)) (C := RX13) (T := TX13) (N := 29) hx hb hts kc_RX13 hown hK hP 0 rfl rfl 5 (by decide) k_fieldLink_16 (fun _ h9 => h9) rfl dX13_decays_4 ?_
      refine lv_iconst (v := 0) hx hb dX13_decays_7 (by decide) ?_
      refine ia_ld hx hb hK hP 1 rfl 0 (by omega) (by decide) dX13_decays_8 ?_
      rw [hv0]
      refine lv_icmp_ge (tgt := 110) hx hb dX13_decays_9 (by decide) (fun c_14 => ?_) (fun c_14 => ?_)
      · skip
        have c_14 : n ≤ i := (nI_leI (a := n) (b := i) (by omega) (by omega)).mp c_14
        refine lv_iconst (v := 0) hx hb dX13_decays_110 (by decide) ?_
        refine lv_istore_n (lv' := [(1, .int 0), (0, .ref (q 0))]) hx hb dX13_decays_111 rfl hl (by decide) rfl (fun ls hl => ?_)
        have e_15 : (fl : Nat → UInt32) = fil fl (frM n v fl nx n) 0 := by first | (with_reducible rfl) | (first | exact fil_0 _ _ | (rw [show i = n by omega]))
        have hP := Eq.mp (congrArg (fun z9 => va_P D vwCl (bMO k q th ea fa ch tn he en ln sv wr dg ++ bI83 k (q 1) v ++ bF10 k (q 6) z9 ++ bF10 k (q 10) (frM n v fl nx i)) H) e_15) hP
        have hD := Eq.mp (congrArg (fun z9 => va_D A (bMO k q th ea fa ch tn he en ln sv wr dg ++ bI83 k (q 1) v ++ bF10 k (q 6) z9 ++ bF10 k (q 10) (frM n v fl nx i))) e_15) hD
        have e_16 : (frM n v fl nx i : Nat → UInt32) = frM n v fl nx n := by first | (with_reducible rfl) | (first | exact fil_0 _ _ | (rw [show i = n by omega]))
        have hP := Eq.mp (congrArg (fun z9 => va_P D vwCl (bMO k q th ea fa ch tn he en ln sv wr dg ++ bI83 k (q 1) v ++ bF10 k (q 6) (fil fl (frM n v fl nx n) 0) ++ bF10 k (q 10) z9) H) e_16) hP
        have hD := Eq.mp (congrArg (fun z9 => va_D A (bMO k q th ea fa ch tn he en ln sv wr dg ++ bI83 k (q 1) v ++ bF10 k (q 6) (fil fl (frM n v fl nx n) 0) ++ bF10 k (q 10) z9)) e_16) hD
        exact loop_112 ((n - 0) + 1) 0 (by omega) (Nat.lt_succ_self _) ls _ _ hP hD hS (lv_one hl 1 rfl rfl (lv_one hl 0 rfl rfl (lv_nil hl)))
      · skip
        have c_14 : ¬ n ≤ i := fun h => c_14 ((nI_leI (a := n) (b := i) (by omega) (by omega)).mpr h)
        refine lv_aload_n hx hb dX13_decays_12 rfl (lv_at hl 0 rfl) ?_
        refine va_get (D := D) (ci := 11) (v := .ref (q 6)) (C := RX13) (T := TX13) (N := 29) hx hb hts kc_RX13 hown hK hP 0 rfl rfl 10 (by decide) k_fieldLink_32 (fun _ h9 => h9) rfl dX13_decays_13 ?_
        refine lv_iload_n hx hb dX13_decays_16 rfl (lv_at hl 1 rfl) ?_
        refine fa_ld hx hb hK hP 2 rfl i (by omega) (by decide) dX13_decays_17 ?_
        refine lv_ldcf hx hb hown k_constantFloat_201 dX13_decays_18 ?_
        refine lv_fmul hx hb dX13_decays_20 (okF_n32 (okF_mul (hf i (by omega)) psF_half)) ?_
        refine lv_fstore_n (lv' := [(2, .float (FP.fmul (fl i) 1056964608)), (0, .ref (q 0)), (1, .int (nI i))]) hx hb dX13_decays_21 rfl hl (by decide) rfl (fun ls hl => ?_)
        refine lv_iconst (v := 0) hx hb dX13_decays_22 (by decide) ?_
        refine lv_istore_n (lv' := [(3, .int 0), (2, .float (FP.fmul (fl i) 1056964608)), (0, .ref (q 0)), (1, .int (nI i))]) hx hb dX13_decays_23 rfl hl (by decide) rfl (fun ls hl => ?_)
        have e_17 : (FP.fmul (fl i) 1056964608 : UInt32) = nmM (vt v) fl i 0 := by first | (with_reducible rfl) | (rfl)
        exact loop_24 ((n - 0) + 1) 0 (by omega) (by omega) (Nat.lt_succ_self _) ls _ _ hP hD hS (lv_one hl 2 rfl rfl (lv_one hl 3 rfl rfl (lv_one hl 1 rfl (congrArg Value.float e_17) (lv_one hl 0 rfl rfl (lv_nil hl)))))
  refine lv_iconst (v := 0) hx hb dX13_decays_0 (by decide) ?_
  refine lv_istore_n (lv' := [(1, .int 0), (0, .ref (q 0))]) hx hb dX13_decays_1 rfl hl (by decide) rfl (fun ls hl => ?_)
  have e_18 : (nx : Nat → UInt32) = frM n v fl nx 0 := by first | (with_reducible rfl) | (rfl)
  have hP := Eq.mp (congrArg (fun z9 => va_P D vwCl (bMO k q th ea fa ch tn he en ln sv wr dg ++ bI83 k (q 1) v ++ bF10 k (q 6) fl ++ bF10 k (q 10) z9) H) e_18) hP
  have hD := Eq.mp (congrArg (fun z9 => va_D A (bMO k q th ea fa ch tn he en ln sv wr dg ++ bI83 k (q 1) v ++ bF10 k (q 6) fl ++ bF10 k (q 10) z9)) e_18) hD
  exact loop_2 ((n - 0) + 1) 0 (by omega) (Nat.lt_succ_self _) ls _ _ hP hD hS (lv_one hl 1 rfl rfl (lv_one hl 0 rfl rfl (lv_nil hl)))

set_option maxHeartbeats 4000000 in
set_option maxRecDepth 100000 in
theorem m_X13_scram (l9 : Launch) (D : va_G) (k : Nat → ClassId) (sz : Nat) (q : Nat → Nat) (th ea fa : Int32) (ch tn he en ln : Nat) (sv wr dg : Bool) (v : Nat → Int32) (nl : Nat) (hnl : nl ≤ 16) (hv4 : v 4 = nI nl) : Met l9 yX13_scram wsX13_scram ({ frames := 2, cells := 0, slots := 0, locals := 43 }) (WPc D k [.ref (q 0)] (bMO k q th ea fa ch tn he en ln sv wr dg ++ bI83 k (q 1) v) sz) (WV D k (bMO k q th ea fa ch tn he en ln sv wr dg ++ bI83 k (q 1) (scV v nl)) (va_A (bMO k q th ea fa ch tn he en ln sv wr dg ++ bI83 k (q 1) v) sz)) 0 0 (va_A (bMO k q th ea fa ch tn he en ln sv wr dg ++ bI83 k (q 1) v) sz) := by
  refine wMet (y := yX13_scram) (cc := cX13_scram) (maxL := 3) (ret := none) (Qc := fun A => WV D k (bMO k q th ea fa ch tn he en ln sv wr dg ++ bI83 k (q 1) (scV v nl)) A) [.ref (q 0)] (by decide) rfl (Nat.le_of_ble_eq_true rfl) ?_
  intro p9 e9 s9 m9 bl9 me9 c9 ls A H hF hr hlocks hP hK hN hD hA hS hl hin
  have hl : lv_has ls 3 [(0, .ref (q 0))] := hl
  obtain ⟨hx, hb, hml, hown, hts⟩ := id hF
  have k_fieldLink_16 : (Cond.fieldLink RX13 16 "OpinionReactorModel" "v" "[I").before _ s9 = true := hts (.fieldLink RX13 16 "OpinionReactorModel" "v" "[I") (by decide +kernel)
  have kc_RX13 : ∀ w ∈ u_ws RX13 TX13 29, w ∈ wsX13_scram := by decide +kernel
  have loop_2 : ∀ (fuel : Nat) (i : Nat), (i ≤ 4) → 4 - i < fuel → ∀ (ls : Array Slot), ∀ (H : Heap) (locs : List Loc), va_P D vwCl (bMO k q th ea fa ch tn he en ln sv wr dg ++ bI83 k (q 1) (scO v i)) H → va_D A (bMO k q th ea fa ch tn he en ln sv wr dg ++ bI83 k (q 1) (scO v i)) → va_S A s9.heap H locs → lv_has ls 3 [(0, .ref (q 0)), (1, .int (nI i))] → W p9 l9 e9 ({ frames := 2, cells := 0, slots := 0, locals := 43 }) s9 m9 ([.ref (q 0)] : List Value).toArray bl9 me9 c9 H locs 0 0 (MQ bl9 (WV D k (bMO k q th ea fa ch tn he en ln sv wr dg ++ bI83 k (q 1) (scV v nl)) A) ([.ref (q 0)] : List Value).toArray s9 0 0 A) (F0 m9 2 ls []) := by
    intro fuel
    induction fuel with
    | zero => intro i hi hfuel_2; exact absurd hfuel_2 (Nat.not_lt_zero _)
    | succ fuel ih_2 =>
      intro i hi hfuel_2 ls H locs hP hD hS hl
      have loop_9 : ∀ (fuel : Nat) (u : Nat), (u ≤ 3) → (i < 4) → 3 - u < fuel → ∀ (ls : Array Slot), ∀ (H : Heap) (locs : List Loc), va_P D vwCl (bMO k q th ea fa ch tn he en ln sv wr dg ++ bI83 k (q 1) (scI (scO v i) i u)) H → va_D A (bMO k q th ea fa ch tn he en ln sv wr dg ++ bI83 k (q 1) (scI (scO v i) i u)) → va_S A s9.heap H locs → lv_has ls 3 [(0, .ref (q 0)), (1, .int (nI i)), (2, .int (nI (u + 1)))] → W p9 l9 e9 ({ frames := 2, cells := 0, slots := 0, locals := 43 }) s9 m9 ([.ref (q 0)] : List Value).toArray bl9 me9 c9 H locs 0 0 (MQ bl9 (WV D k (bMO k q th ea fa ch tn he en ln sv wr dg ++ bI83 k (q 1) (scV v nl)) A) ([.ref (q 0)] : List Value).toArray s9 0 0 A) (F0 m9 9 ls []) := by
        intro fuel
        induction fuel with
        | zero => intro u hu hil hfuel_9; exact absurd hfuel_9 (Nat.not_lt_zero _)
        | succ fuel ih_9 =>
          intro u hu hil hfuel_9 ls H locs hP hD hS hl
          refine lv_iload_n hx hb dX13_scram_9 rfl (lv_at hl 2 rfl) ?_
          refine lv_iconst (v := 3) hx hb dX13_scram_10 (by decide) ?_
          refine lv_icmp_gt (tgt := 60) hx hb dX13_scram_11 (by decide) (fun c_1 => ?_) (fun c_1 => ?_)
          · skip
            have c_1 : 3 < (u + 1) := (nI_ltI (a := 3) (b := u + 1) (by omega) (by omega)).mp c_1
            refine lv_iinc (v := nI (i + 1)) (lv' := [(1, .int (nI (i + 1))), (0, .ref (q 0)), (2, .int (nI (u + 1)))]) hx hb dX13_scram_60 hl (k := 1) rfl (nI_inc i) (by decide) rfl (fun ls hl => ?_)
            refine lv_goto (tgt := 2) hx hb dX13_scram_63 (by decide) ?_
            have e_2 : (scI (scO v i) i u : Nat → Int32) = scO v (i + 1) := by first | (with_reducible rfl) | (rw [scO_s, show u = 3 by omega])
            have hP := Eq.mp (congrArg (fun z9 => va_P D vwCl (bMO k q th ea fa ch tn he en ln sv wr dg ++ bI83 k (q 1) z9) H) e_2) hP
            have hD := Eq.mp (congrArg (fun z9 => va_D A (bMO k q th ea fa ch tn he en ln sv wr dg ++ bI83 k (q 1) z9)) e_2) hD
            exact ih_2 (i + 1) (by omega) (by omega) ls _ _ hP hD hS (lv_one hl 1 rfl rfl (lv_one hl 0 rfl rfl (lv_nil hl)))
          · skip
            have c_1 : ¬ 3 < (u + 1) := fun h => c_1 ((nI_ltI (a := 3) (b := u + 1) (by omega) (by omega)).mpr h)
            refine lv_aload_n hx hb dX13_scram_14 rfl (lv_at hl 0 rfl) ?_
            refine va_get (D := D) (ci := 11) (v := .ref (q 1)) (C := RX13) (T := TX13) (N := 29) hx hb hts kc_RX13 hown hK hP 0 rfl rfl 5 (by decide) k_fieldLink_16 (fun _ h9 => h9) rfl dX13_scram_15 ?_
            refine lv_iload_n hx hb dX13_scram_18 rfl (lv_at hl 1 rfl) ?_
            refine lv_iload_n hx hb dX13_scram_19 rfl (lv_at hl 2 rfl) ?_
            refine vp_callSi (W.runS (As := [.int (nI i), .int (nI (u + 1))]) (rest := [.ref (q 1)]) hF (m_X13_rackAt l9 D k i (u + 1) ) (va_cwS 2 hts gX13_scram_X13_rackAt rfl rfl rfl (by decide +kernel) ⟨Nat.le_of_ble_eq_true rfl, Nat.le_of_ble_eq_true rfl⟩) (rPreS hK hN hP [] rfl) rfl rfl hl.1 rfl (lv_room (Nat.le_of_ble_eq_true rfl)) dX13_scram_20 ⟨Nat.zero_le _, Nat.zero_le _⟩) (fun r_3 hr_3 => ?_)
            subst hr_3
            refine ia_ld hx hb hK hP 1 rfl (35 + 4 * i + (u + 1)) (by omega) (by decide) dX13_scram_23 ?_
            refine lv_if_ne (tgt := 54) hx hb dX13_scram_24 (by decide) (fun c_4 => ?_) (fun c_4 => ?_)
            · skip
              refine lv_iinc (v := nI ((u + 1) + 1)) (lv' := [(2, .int (nI ((u + 1) + 1))), (0, .ref (q 0)), (1, .int (nI i))]) hx hb dX13_scram_54 hl (k := 2) rfl (nI_inc (u + 1)) (by decide) rfl (fun ls hl => ?_)
              refine lv_goto (tgt := 9) hx hb dX13_scram_57 (by decide) ?_
              have e_5 : (scI (scO v i) i u : Nat → Int32) = scI (scO v i) i (u + 1) := by first | (with_reducible rfl) | ((try simp only [scI_s]); (repeat (first | rw [if_pos (by first | assumption | exact Eq.trans (b := false) (by assumption) (Eq.symm (by assumption)) | exact Eq.trans (b := true) (by assumption) (Eq.symm (by assumption)) | exact ⟨by assumption, by assumption⟩ | exact Or.inl (by assumption) | exact Or.inr (by assumption) | exact Or.inr (Or.inl (by assumption)) | exact Or.inr (Or.inr (by assumption)) | (simp only [Int32.lt_iff_toInt_lt, Int32.le_iff_toInt_le, i32_0, i32_1, i32_2, i32_3, i32_4, i32_9, i32_10, i32_99, i32_100, i32_1000, i32_9999] at *; omega))] | rw [if_neg (by first | assumption | (rintro (h9 | h9 | h9) <;> contradiction) | (rintro (h9 | h9) <;> contradiction) | (intro h9; exact Bool.noConfusion (Eq.trans (c := false) h9.symm (by assumption))) | (rintro ⟨h8, h9⟩; exact Bool.noConfusion (Eq.trans (c := false) h8.symm (by assumption))) | (rintro ⟨h8, h9⟩; exact Bool.noConfusion (Eq.trans (c := false) h9.symm (by assumption))) | (simp only [Int32.lt_iff_toInt_lt, Int32.le_iff_toInt_le, i32_0, i32_1, i32_2, i32_3, i32_4, i32_9, i32_10, i32_99, i32_100, i32_1000, i32_9999] at *; omega))])); (try rfl))
              have hP := Eq.mp (congrArg (fun z9 => va_P D vwCl (bMO k q th ea fa ch tn he en ln sv wr dg ++ bI83 k (q 1) z9) H) e_5) hP
              have hD := Eq.mp (congrArg (fun z9 => va_D A (bMO k q th ea fa ch tn he en ln sv wr dg ++ bI83 k (q 1) z9)) e_5) hD
              exact ih_9 (u + 1) (by omega) hil (by omega) ls _ _ hP hD hS (lv_one hl 1 rfl rfl (lv_one hl 2 rfl rfl (lv_one hl 0 rfl rfl (lv_nil hl))))
            · skip
              refine lv_aload_n hx hb dX13_scram_27 rfl (lv_at hl 0 rfl) ?_
              refine va_get (D := D) (ci := 11) (v := .ref (q 1)) (C := RX13) (T := TX13) (N := 29) hx hb hts kc_RX13 hown hK hP 0 rfl rfl 5 (by decide) k_fieldLink_16 (fun _ h9 => h9) rfl dX13_scram_28 ?_
              refine lv_iload_n hx hb dX13_scram_31 rfl (lv_at hl 1 rfl) ?_
              refine lv_iload_n hx hb dX13_scram_32 rfl (lv_at hl 2 rfl) ?_
              refine vp_callSi (W.runS (As := [.int (nI i), .int (nI (u + 1))]) (rest := [.ref (q 1)]) hF (m_X13_rackAt l9 D k i (u + 1) ) (va_cwS 2 hts gX13_scram_X13_rackAt rfl rfl rfl (by decide +kernel) ⟨Nat.le_of_ble_eq_true rfl, Nat.le_of_ble_eq_true rfl⟩) (rPreS hK hN hP [] rfl) rfl rfl hl.1 rfl (lv_room (Nat.le_of_ble_eq_true rfl)) dX13_scram_33 ⟨Nat.zero_le _, Nat.zero_le _⟩) (fun r_6 hr_6 => ?_)
              subst hr_6
              refine lv_aload_n hx hb dX13_scram_36 rfl (lv_at hl 0 rfl) ?_
              refine lv_iload_n hx hb dX13_scram_37 rfl (lv_at hl 1 rfl) ?_
              refine lv_bipush (v := 111) hx hb dX13_scram_38 (by decide) ?_
              refine vp_callSi (W.runV (As := [.int (nI i), .int 111]) (rest := [.int (nI (35 + 4 * i + (u + 1))), .ref (q 1)]) hF (m_X13_canHold l9 D k q th ea fa ch tn he en ln sv wr dg (scI (scO v i) i u) i 111 (by omega)) (cwV 2 hts gX13_scram_X13_canHold rfl rfl rfl (by decide +kernel) ⟨Nat.le_of_ble_eq_true rfl, Nat.le_of_ble_eq_true rfl⟩) (rPreV hK hN hP [0, 1] rfl 0 11 rfl rfl) rfl rfl hl.1 rfl (lv_room (Nat.le_of_ble_eq_true rfl)) dX13_scram_40 ⟨Nat.zero_le _, Nat.zero_le _⟩) (fun r_7 hr_7 => ?_)
              subst hr_7
              refine lv_if_eq (tgt := 51) hx hb dX13_scram_43 (by decide) (fun c_8 => ?_) (fun c_8 => ?_)
              · skip
                have c_8 : (chM (scI (scO v i) i u) i 111) = false := bI_0 c_8
                refine lv_bipush (v := 113) hx hb dX13_scram_51 (by decide) ?_
                refine ia_st hx hb hK hP hD hS 1 rfl (35 + 4 * i + (u + 1)) (by omega) (by decide) (bMO k q th ea fa ch tn he en ln sv wr dg ++ bI83 k (q 1) (upd (scI (scO v i) i u) (35 + 4 * i + (u + 1)) 113)) rfl dX13_scram_53 (fun H locs hP hD hS => ?_)
                refine lv_iinc (v := nI ((u + 1) + 1)) (lv' := [(2, .int (nI ((u + 1) + 1))), (0, .ref (q 0)), (1, .int (nI i))]) hx hb dX13_scram_54 hl (k := 2) rfl (nI_inc (u + 1)) (by decide) rfl (fun ls hl => ?_)
                refine lv_goto (tgt := 9) hx hb dX13_scram_57 (by decide) ?_
                have e_9 : (upd (scI (scO v i) i u) (35 + 4 * i + (u + 1)) 113 : Nat → Int32) = scI (scO v i) i (u + 1) := by first | (with_reducible rfl) | ((try simp only [scI_s]); (repeat (first | rw [if_pos (by first | assumption | exact Eq.trans (b := false) (by assumption) (Eq.symm (by assumption)) | exact Eq.trans (b := true) (by assumption) (Eq.symm (by assumption)) | exact ⟨by assumption, by assumption⟩ | exact Or.inl (by assumption) | exact Or.inr (by assumption) | exact Or.inr (Or.inl (by assumption)) | exact Or.inr (Or.inr (by assumption)) | (simp only [Int32.lt_iff_toInt_lt, Int32.le_iff_toInt_le, i32_0, i32_1, i32_2, i32_3, i32_4, i32_9, i32_10, i32_99, i32_100, i32_1000, i32_9999] at *; omega))] | rw [if_neg (by first | assumption | (rintro (h9 | h9 | h9) <;> contradiction) | (rintro (h9 | h9) <;> contradiction) | (intro h9; exact Bool.noConfusion (Eq.trans (c := false) h9.symm (by assumption))) | (rintro ⟨h8, h9⟩; exact Bool.noConfusion (Eq.trans (c := false) h8.symm (by assumption))) | (rintro ⟨h8, h9⟩; exact Bool.noConfusion (Eq.trans (c := false) h9.symm (by assumption))) | (simp only [Int32.lt_iff_toInt_lt, Int32.le_iff_toInt_le, i32_0, i32_1, i32_2, i32_3, i32_4, i32_9, i32_10, i32_99, i32_100, i32_1000, i32_9999] at *; omega))])); (try rfl))
                have hP := Eq.mp (congrArg (fun z9 => va_P D vwCl (bMO k q th ea fa ch tn he en ln sv wr dg ++ bI83 k (q 1) z9) H) e_9) hP
                have hD := Eq.mp (congrArg (fun z9 => va_D A (bMO k q th ea fa ch tn he en ln sv wr dg ++ bI83 k (q 1) z9)) e_9) hD
                exact ih_9 (u + 1) (by omega) hil (by omega) ls _ _ hP hD hS (lv_one hl 1 rfl rfl (lv_one hl 2 rfl rfl (lv_one hl 0 rfl rfl (lv_nil hl))))
              · skip
                have c_8 : (chM (scI (scO v i) i u) i 111) = true := bI_1 c_8
                refine lv_bipush (v := 111) hx hb dX13_scram_46 (by decide) ?_
                refine lv_goto (tgt := 53) hx hb dX13_scram_48 (by decide) ?_
                refine ia_st hx hb hK hP hD hS 1 rfl (35 + 4 * i + (u + 1)) (by omega) (by decide) (bMO k q th ea fa ch tn he en ln sv wr dg ++ bI83 k (q 1) (upd (scI (scO v i) i u) (35 + 4 * i + (u + 1)) 111)) rfl dX13_scram_53 (fun H locs hP hD hS => ?_)
                refine lv_iinc (v := nI ((u + 1) + 1)) (lv' := [(2, .int (nI ((u + 1) + 1))), (0, .ref (q 0)), (1, .int (nI i))]) hx hb dX13_scram_54 hl (k := 2) rfl (nI_inc (u + 1)) (by decide) rfl (fun ls hl => ?_)
                refine lv_goto (tgt := 9) hx hb dX13_scram_57 (by decide) ?_
                have e_10 : (upd (scI (scO v i) i u) (35 + 4 * i + (u + 1)) 111 : Nat → Int32) = scI (scO v i) i (u + 1) := by first | (with_reducible rfl) | ((try simp only [scI_s]); (repeat (first | rw [if_pos (by first | assumption | exact Eq.trans (b := false) (by assumption) (Eq.symm (by assumption)) | exact Eq.trans (b := true) (by assumption) (Eq.symm (by assumption)) | exact ⟨by assumption, by assumption⟩ | exact Or.inl (by assumption) | exact Or.inr (by assumption) | exact Or.inr (Or.inl (by assumption)) | exact Or.inr (Or.inr (by assumption)) | (simp only [Int32.lt_iff_toInt_lt, Int32.le_iff_toInt_le, i32_0, i32_1, i32_2, i32_3, i32_4, i32_9, i32_10, i32_99, i32_100, i32_1000, i32_9999] at *; omega))] | rw [if_neg (by first | assumption | (rintro (h9 | h9 | h9) <;> contradiction) | (rintro (h9 | h9) <;> contradiction) | (intro h9; exact Bool.noConfusion (Eq.trans (c := false) h9.symm (by assumption))) | (rintro ⟨h8, h9⟩; exact Bool.noConfusion (Eq.trans (c := false) h8.symm (by assumption))) | (rintro ⟨h8, h9⟩; exact Bool.noConfusion (Eq.trans (c := false) h9.symm (by assumption))) | (simp only [Int32.lt_iff_toInt_lt, Int32.le_iff_toInt_le, i32_0, i32_1, i32_2, i32_3, i32_4, i32_9, i32_10, i32_99, i32_100, i32_1000, i32_9999] at *; omega))])); (try rfl))
                have hP := Eq.mp (congrArg (fun z9 => va_P D vwCl (bMO k q th ea fa ch tn he en ln sv wr dg ++ bI83 k (q 1) z9) H) e_10) hP
                have hD := Eq.mp (congrArg (fun z9 => va_D A (bMO k q th ea fa ch tn he en ln sv wr dg ++ bI83 k (q 1) z9)) e_10) hD
                exact ih_9 (u + 1) (by omega) hil (by omega) ls _ _ hP hD hS (lv_one hl 1 rfl rfl (lv_one hl 2 rfl rfl (lv_one hl 0 rfl rfl (lv_nil hl))))
      refine lv_iload_n hx hb dX13_scram_2 rfl (lv_at hl 1 rfl) ?_
      refine lv_iconst (v := 4) hx hb dX13_scram_3 (by decide) ?_
      refine lv_icmp_ge (tgt := 66) hx hb dX13_scram_4 (by decide) (fun c_11 => ?_) (fun c_11 => ?_)
      · skip
        have c_11 : 4 ≤ i := (nI_leI (a := 4) (b := i) (by omega) (by omega)).mp c_11
        have hin9 : i = 4 := (by omega)
        rw [hin9] at hP hD hl
        refine lv_aload_n hx hb dX13_scram_66 rfl (lv_at hl 0 rfl) ?_
        refine va_get (D := D) (ci := 11) (v := .ref (q 1)) (C := RX13) (T := TX13) (N := 29) hx hb hts kc_RX13 hown hK hP 0 rfl rfl 5 (by decide) k_fieldLink_16 (fun _ h9 => h9) rfl dX13_scram_67 ?_
        refine lv_iconst (v := 3) hx hb dX13_scram_70 (by decide) ?_
        refine lv_dup2_11 hx hb dX13_scram_71 rfl rfl ?_
        refine ia_ld hx hb hK hP 1 rfl 3 (by omega) (by decide) dX13_scram_72 ?_
        refine lv_iconst (v := 1) hx hb dX13_scram_73 (by decide) ?_
        refine lv_iadd hx hb dX13_scram_74 ?_
        refine ia_st hx hb hK hP hD hS 1 rfl 3 (by omega) (by decide) (bMO k q th ea fa ch tn he en ln sv wr dg ++ bI83 k (q 1) (upd (scO v 4) 3 (((scO v 4) 3) + 1))) rfl dX13_scram_75 (fun H locs hP hD hS => ?_)
        refine lv_aload_n hx hb dX13_scram_76 rfl (lv_at hl 0 rfl) ?_
        refine lv_bipush (v := 115) hx hb dX13_scram_77 (by decide) ?_
        have hFc := va_free (wc := bMO k q th ea fa ch tn he en ln sv wr dg ++ bI83 k (q 1) (upd (scO v 4) 3 (((scO v 4) 3) + 1))) hD hS hA [0, 1] rfl
        refine va_callv (va_runV (As := [.int 115]) (rest := []) hF (m_X13_logs l9 D k H.size q th ea fa ch tn he en ln sv wr dg (upd (scO v 4) 3 (((scO v 4) 3) + 1)) nl 115 hnl (by rw [upd_at, if_neg (by omega), scO_out _ _ (by omega), hv4])) (cwV 1 hts gX13_scram_X13_logs rfl rfl rfl (by decide +kernel) ⟨Nat.le_of_ble_eq_true rfl, Nat.le_of_ble_eq_true rfl⟩) (wPreV hK hN hP hD [0, 1] rfl (by decide) rfl 0 11 rfl rfl) rfl rfl hl.1 rfl (lv_room (Nat.le_of_ble_eq_true rfl)) dX13_scram_79 ⟨Nat.zero_le _, Nat.zero_le _⟩) hS (fun q _ h => hFc q h) hFc (fun u9 t9 H1 locs ht hvm hw hB hz1 hk1 hS => ?_)
        obtain ⟨hP, hD⟩ := wjoin (wr := []) (wf := bMO k q th ea fa ch tn he en ln sv wr dg ++ bI83 k (q 1) (lgS (upd (scO v 4) 3 (((scO v 4) 3) + 1)) nl 115)) hP hD [0, 1] [] [0, 1] rfl rfl (by decide) (by decide) hk1 hFc hB ht rfl rfl (by decide)
        clear hB hk1 hz1 hvm hFc
        clear ht
        clear t9
        generalize H1 = H at hP hS ⊢
        have e_12 : (lgS (upd (scO v 4) 3 (((scO v 4) 3) + 1)) nl 115 : Nat → Int32) = scV v nl := by first | (with_reducible rfl) | (rfl)
        have hP := Eq.mp (congrArg (fun z9 => va_P D vwCl (bMO k q th ea fa ch tn he en ln sv wr dg ++ bI83 k (q 1) z9) H) e_12) hP
        have hD := Eq.mp (congrArg (fun z9 => va_D A (bMO k q th ea fa ch tn he en ln sv wr dg ++ bI83 k (q 1) z9)) e_12) hD
        exact W.vret hx hb hr (fun t9 ht hW => ⟨⟨(), rfl, trivial, ⟨by rw [ht]; exact hP, va_K.moved hW.alike hK, hD⟩⟩, hS.F ht⟩) hS.2.2 dX13_scram_82 hlocks
      · skip
        have c_11 : ¬ 4 ≤ i := fun h => c_11 ((nI_leI (a := 4) (b := i) (by omega) (by omega)).mpr h)
        refine lv_iconst (v := 1) hx hb dX13_scram_7 (by decide) ?_
        refine lv_istore_n (lv' := [(2, .int 1), (0, .ref (q 0)), (1, .int (nI i))]) hx hb dX13_scram_8 rfl hl (by decide) rfl (fun ls hl => ?_)
        have e_13 : (1 : Int32) = nI (0 + 1) := by first | (with_reducible rfl) | (rfl)
        have e_14 : (scO v i : Nat → Int32) = scI (scO v i) i 0 := by first | (with_reducible rfl) | (rfl)
        have hP := Eq.mp (congrArg (fun z9 => va_P D vwCl (bMO k q th ea fa ch tn he en ln sv wr dg ++ bI83 k (q 1) z9) H) e_14) hP
        have hD := Eq.mp (congrArg (fun z9 => va_D A (bMO k q th ea fa ch tn he en ln sv wr dg ++ bI83 k (q 1) z9)) e_14) hD
        exact loop_9 ((3 - 0) + 1) 0 (by omega) (by omega) (Nat.lt_succ_self _) ls _ _ hP hD hS (lv_one hl 1 rfl rfl (lv_one hl 2 rfl rfl (lv_one hl 0 rfl (congrArg Value.int e_13) (lv_nil hl))))
  refine lv_iconst (v := 0) hx hb dX13_scram_0 (by decide) ?_
  refine lv_istore_n (lv' := [(1, .int 0), (0, .ref (q 0))]) hx hb dX13_scram_1 rfl hl (by decide) rfl (fun ls hl => ?_)
  have e_15 : (v : Nat → Int32) = scO v 0 := by first | (with_reducible rfl) | (rfl)
  have hP := Eq.mp (congrArg (fun z9 => va_P D vwCl (bMO k q th ea fa ch tn he en ln sv wr dg ++ bI83 k (q 1) z9) H) e_15) hP
  have hD := Eq.mp (congrArg (fun z9 => va_D A (bMO k q th ea fa ch tn he en ln sv wr dg ++ bI83 k (q 1) z9)) e_15) hD
  exact loop_2 ((4 - 0) + 1) 0 (by omega) (Nat.lt_succ_self _) ls _ _ hP hD hS (lv_one hl 1 rfl rfl (lv_one hl 0 rfl rfl (lv_nil hl)))

set_option maxHeartbeats 4000000 in
set_option maxRecDepth 100000 in
theorem m_X13_passes (l9 : Launch) (D : va_G) (k : Nat → ClassId) (sz : Nat) (q : Nat → Nat) (th ea fa : Int32) (ch tn he en ln : Nat) (sv wr dg : Bool) (v : Nat → Int32) (fl nx : Nat → UInt32) (n nl : Nat) (x : Int32) (hn : n ≤ 10) (hv0 : v 0 = nI n) (hf : ∀ c, c < n → okF (fl c)) (hly : lyOk n (vl v)) (hnl : nl ≤ 16) (hv4 : v 4 = nI nl) : Met l9 yX13_passes wsX13_passes ({ frames := 3, cells := 0, slots := 0, locals := 67 }) (WPc D k [.ref (q 0), .int x] (bMO k q th ea fa ch tn he en ln sv wr dg ++ bI83 k (q 1) v ++ bF10 k (q 6) fl ++ bF10 k (q 10) nx) sz) (WI D k (bMO k q (if rg 1 x 20 = true then th else (1 : Int32)) ea fa ch tn he en ln sv wr dg ++ bI83 k (q 1) ((if rg 1 x 20 = true then itP n (v, fl, nx, nl) x.toNatClampNeg else (v, fl, nx, nl)).1) ++ bF10 k (q 6) ((if rg 1 x 20 = true then itP n (v, fl, nx, nl) x.toNatClampNeg else (v, fl, nx, nl)).2.1) ++ bF10 k (q 10) ((if rg 1 x 20 = true then itP n (v, fl, nx, nl) x.toNatClampNeg else (v, fl, nx, nl)).2.2.1)) (if rg 1 x 20 = true then (itP n (v, fl, nx, nl) x.toNatClampNeg).1 3 - v 3 else 0) (va_A (bMO k q th ea fa ch tn he en ln sv wr dg ++ bI83 k (q 1) v ++ bF10 k (q 6) fl ++ bF10 k (q 10) nx) sz)) 0 0 (va_A (bMO k q th ea fa ch tn he en ln sv wr dg ++ bI83 k (q 1) v ++ bF10 k (q 6) fl ++ bF10 k (q 10) nx) sz) := by
  refine wMet (y := yX13_passes) (cc := cX13_passes) (maxL := 4) (ret := (some .int)) (Qc := fun A => WI D k (bMO k q (if rg 1 x 20 = true then th else (1 : Int32)) ea fa ch tn he en ln sv wr dg ++ bI83 k (q 1) ((if rg 1 x 20 = true then itP n (v, fl, nx, nl) x.toNatClampNeg else (v, fl, nx, nl)).1) ++ bF10 k (q 6) ((if rg 1 x 20 = true then itP n (v, fl, nx, nl) x.toNatClampNeg else (v, fl, nx, nl)).2.1) ++ bF10 k (q 10) ((if rg 1 x 20 = true then itP n (v, fl, nx, nl) x.toNatClampNeg else (v, fl, nx, nl)).2.2.1)) (if rg 1 x 20 = true then (itP n (v, fl, nx, nl) x.toNatClampNeg).1 3 - v 3 else 0) A) [.ref (q 0), .int x] (by decide) rfl (Nat.le_of_ble_eq_true rfl) ?_
  intro p9 e9 s9 m9 bl9 me9 c9 ls A H hF hr hlocks hP hK hN hD hA hS hl hin
  have hl : lv_has ls 4 [(0, .ref (q 0)), (1, .int x)] := hl
  obtain ⟨hx, hb, hml, hown, hts⟩ := id hF
  have k_fieldLink_16 : (Cond.fieldLink RX13 16 "OpinionReactorModel" "v" "[I").before _ s9 = true := hts (.fieldLink RX13 16 "OpinionReactorModel" "v" "[I") (by decide +kernel)
  have kc_RX13 : ∀ w ∈ u_ws RX13 TX13 29, w ∈ wsX13_passes := by decide +kernel
  have loop_25 : ∀ (fuel : Nat) (i m : Nat), (i ≤ m) → (m ≤ 20) → (rg 1 x 20 = true) → (x.toNatClampNeg = m) → m - i < fuel → ∀ (ls : Array Slot), ∀ (H : Heap) (locs : List Loc), va_P D vwCl (bMO k q th ea fa ch tn he en ln sv wr dg ++ bI83 k (q 1) ((itP n (v, fl, nx, nl) i).1) ++ bF10 k (q 6) ((itP n (v, fl, nx, nl) i).2.1) ++ bF10 k (q 10) ((itP n (v, fl, nx, nl) i).2.2.1)) H → va_D A (bMO k q th ea fa ch tn he en ln sv wr dg ++ bI83 k (q 1) ((itP n (v, fl, nx, nl) i).1) ++ bF10 k (q 6) ((itP n (v, fl, nx, nl) i).2.1) ++ bF10 k (q 10) ((itP n (v, fl, nx, nl) i).2.2.1)) → va_S A s9.heap H locs → lv_has ls 4 [(0, .ref (q 0)), (1, .int (nI m)), (2, .int (v 3)), (3, .int (nI i))] → W p9 l9 e9 ({ frames := 3, cells := 0, slots := 0, locals := 67 }) s9 m9 ([.ref (q 0), .int x] : List Value).toArray bl9 me9 c9 H locs 0 0 (MQ bl9 (WI D k (bMO k q (if rg 1 x 20 = true then th else (1 : Int32)) ea fa ch tn he en ln sv wr dg ++ bI83 k (q 1) ((if rg 1 x 20 = true then itP n (v, fl, nx, nl) x.toNatClampNeg else (v, fl, nx, nl)).1) ++ bF10 k (q 6) ((if rg 1 x 20 = true then itP n (v, fl, nx, nl) x.toNatClampNeg else (v, fl, nx, nl)).2.1) ++ bF10 k (q 10) ((if rg 1 x 20 = true then itP n (v, fl, nx, nl) x.toNatClampNeg else (v, fl, nx, nl)).2.2.1)) (if rg 1 x 20 = true then (itP n (v, fl, nx, nl) x.toNatClampNeg).1 3 - v 3 else 0) A) ([.ref (q 0), .int x] : List Value).toArray s9 0 0 A) (F0 m9 25 ls []) := by
    intro fuel
    induction fuel with
    | zero => intro i m hi hm hxr hxc hfuel_25; exact absurd hfuel_25 (Nat.not_lt_zero _)
    | succ fuel ih_25 =>
      intro i m hi hm hxr hxc hfuel_25 ls H locs hP hD hS hl
      have hT := okM_itP hn (s := (v, fl, nx, nl)) ⟨hv0, hv4, hnl, hf, hly⟩ i
      have hU := okM_u2 hT ((itP n (v, fl, nx, nl) i).1 2 + 1)
      refine lv_iload_n hx hb dX13_passes_25 rfl (lv_at hl 3 rfl) ?_
      refine lv_iload_n hx hb dX13_passes_26 rfl (lv_at hl 1 rfl) ?_
      refine lv_icmp_ge (tgt := 69) hx hb dX13_passes_27 (by decide) (fun c_1 => ?_) (fun c_1 => ?_)
      · skip
        have c_1 : m ≤ i := (nI_leI (a := m) (b := i) (by omega) (by omega)).mp c_1
        refine lv_aload_n hx hb dX13_passes_69 rfl (lv_at hl 0 rfl) ?_
        refine va_get (D := D) (ci := 11) (v := .ref (q 1)) (C := RX13) (T := TX13) (N := 29) hx hb hts kc_RX13 hown hK hP 0 rfl rfl 5 (by decide) k_fieldLink_16 (fun _ h9 => h9) rfl dX13_passes_70 ?_
        refine lv_iconst (v := 3) hx hb dX13_passes_73 (by decide) ?_
        refine ia_ld hx hb hK hP 1 rfl 3 (by omega) (by decide) dX13_passes_74 ?_
        refine lv_iload_n hx hb dX13_passes_75 rfl (lv_at hl 2 rfl) ?_
        refine lv_isub hx hb dX13_passes_76 ?_
        have e_2 : (th : Int32) = if rg 1 x 20 = true then th else (1 : Int32) := by first | (with_reducible rfl) | (rw [if_pos hxr] ; first | done | rw [hxc, show i = m by omega])
        have hP := Eq.mp (congrArg (fun z9 => va_P D vwCl (bMO k q z9 ea fa ch tn he en ln sv wr dg ++ bI83 k (q 1) ((itP n (v, fl, nx, nl) i).1) ++ bF10 k (q 6) ((itP n (v, fl, nx, nl) i).2.1) ++ bF10 k (q 10) ((itP n (v, fl, nx, nl) i).2.2.1)) H) e_2) hP
        have hD := Eq.mp (congrArg (fun z9 => va_D A (bMO k q z9 ea fa ch tn he en ln sv wr dg ++ bI83 k (q 1) ((itP n (v, fl, nx, nl) i).1) ++ bF10 k (q 6) ((itP n (v, fl, nx, nl) i).2.1) ++ bF10 k (q 10) ((itP n (v, fl, nx, nl) i).2.2.1))) e_2) hD
        have e_3 : ((itP n (v, fl, nx, nl) i).1 : Nat → Int32) = (if rg 1 x 20 = true then itP n (v, fl, nx, nl) x.toNatClampNeg else (v, fl, nx, nl)).1 := by first | (with_reducible rfl) | (rw [if_pos hxr, hxc, show i = m by omega])
        have hP := Eq.mp (congrArg (fun z9 => va_P D vwCl (bMO k q (if rg 1 x 20 = true then th else (1 : Int32)) ea fa ch tn he en ln sv wr dg ++ bI83 k (q 1) z9 ++ bF10 k (q 6) ((itP n (v, fl, nx, nl) i).2.1) ++ bF10 k (q 10) ((itP n (v, fl, nx, nl) i).2.2.1)) H) e_3) hP
        have hD := Eq.mp (congrArg (fun z9 => va_D A (bMO k q (if rg 1 x 20 = true then th else (1 : Int32)) ea fa ch tn he en ln sv wr dg ++ bI83 k (q 1) z9 ++ bF10 k (q 6) ((itP n (v, fl, nx, nl) i).2.1) ++ bF10 k (q 10) ((itP n (v, fl, nx, nl) i).2.2.1))) e_3) hD
        have e_4 : ((itP n (v, fl, nx, nl) i).2.1 : Nat → UInt32) = (if rg 1 x 20 = true then itP n (v, fl, nx, nl) x.toNatClampNeg else (v, fl, nx, nl)).2.1 := by first | (with_reducible rfl) | (rw [if_pos hxr, hxc, show i = m by omega])
        have hP := Eq.mp (congrArg (fun z9 => va_P D vwCl (bMO k q (if rg 1 x 20 = true then th else (1 : Int32)) ea fa ch tn he en ln sv wr dg ++ bI83 k (q 1) ((if rg 1 x 20 = true then itP n (v, fl, nx, nl) x.toNatClampNeg else (v, fl, nx, nl)).1) ++ bF10 k (q 6) z9 ++ bF10 k (q 10) ((itP n (v, fl, nx, nl) i).2.2.1)) H) e_4) hP
        have hD := Eq.mp (congrArg (fun z9 => va_D A (bMO k q (if rg 1 x 20 = true then th else (1 : Int32)) ea fa ch tn he en ln sv wr dg ++ bI83 k (q 1) ((if rg 1 x 20 = true then itP n (v, fl, nx, nl) x.toNatClampNeg else (v, fl, nx, nl)).1) ++ bF10 k (q 6) z9 ++ bF10 k (q 10) ((itP n (v, fl, nx, nl) i).2.2.1))) e_4) hD
        have e_5 : ((itP n (v, fl, nx, nl) i).2.2.1 : Nat → UInt32) = (if rg 1 x 20 = true then itP n (v, fl, nx, nl) x.toNatClampNeg else (v, fl, nx, nl)).2.2.1 := by first | (with_reducible rfl) | (rw [if_pos hxr, hxc, show i = m by omega])
        have hP := Eq.mp (congrArg (fun z9 => va_P D vwCl (bMO k q (if rg 1 x 20 = true then th else (1 : Int32)) ea fa ch tn he en ln sv wr dg ++ bI83 k (q 1) ((if rg 1 x 20 = true then itP n (v, fl, nx, nl) x.toNatClampNeg else (v, fl, nx, nl)).1) ++ bF10 k (q 6) ((if rg 1 x 20 = true then itP n (v, fl, nx, nl) x.toNatClampNeg else (v, fl, nx, nl)).2.1) ++ bF10 k (q 10) z9) H) e_5) hP
        have hD := Eq.mp (congrArg (fun z9 => va_D A (bMO k q (if rg 1 x 20 = true then th else (1 : Int32)) ea fa ch tn he en ln sv wr dg ++ bI83 k (q 1) ((if rg 1 x 20 = true then itP n (v, fl, nx, nl) x.toNatClampNeg else (v, fl, nx, nl)).1) ++ bF10 k (q 6) ((if rg 1 x 20 = true then itP n (v, fl, nx, nl) x.toNatClampNeg else (v, fl, nx, nl)).2.1) ++ bF10 k (q 10) z9)) e_5) hD
        exact W.iret (v := (((itP n (v, fl, nx, nl) i).1) 3) - (v 3)) hx hb hr (fun t9 ht hW => ⟨⟨_, (), rfl, (by rw [if_pos hxr, hxc, show i = m by omega]), ⟨by rw [ht]; exact hP, va_K.moved hW.alike hK, hD⟩⟩, hS.F ht⟩) hS.2.2 dX13_passes_77 hlocks
      · skip
        have c_1 : ¬ m ≤ i := fun h => c_1 ((nI_leI (a := m) (b := i) (by omega) (by omega)).mpr h)
        refine lv_aload_n hx hb dX13_passes_30 rfl (lv_at hl 0 rfl) ?_
        refine va_get (D := D) (ci := 11) (v := .ref (q 1)) (C := RX13) (T := TX13) (N := 29) hx hb hts kc_RX13 hown hK hP 0 rfl rfl 5 (by decide) k_fieldLink_16 (fun _ h9 => h9) rfl dX13_passes_31 ?_
        refine lv_iconst (v := 2) hx hb dX13_passes_34 (by decide) ?_
        refine lv_dup2_11 hx hb dX13_passes_35 rfl rfl ?_
        refine ia_ld hx hb hK hP 1 rfl 2 (by omega) (by decide) dX13_passes_36 ?_
        refine lv_iconst (v := 1) hx hb dX13_passes_37 (by decide) ?_
        refine lv_iadd hx hb dX13_passes_38 ?_
        refine ia_st hx hb hK hP hD hS 1 rfl 2 (by omega) (by decide) (bMO k q th ea fa ch tn he en ln sv wr dg ++ bI83 k (q 1) (upd ((itP n (v, fl, nx, nl) i).1) 2 ((((itP n (v, fl, nx, nl) i).1) 2) + 1)) ++ bF10 k (q 6) ((itP n (v, fl, nx, nl) i).2.1) ++ bF10 k (q 10) ((itP n (v, fl, nx, nl) i).2.2.1)) rfl dX13_passes_39 (fun H locs hP hD hS => ?_)
        refine lv_aload_n hx hb dX13_passes_40 rfl (lv_at hl 0 rfl) ?_
        have hFc := va_free (wc := bMO k q th ea fa ch tn he en ln sv wr dg ++ bI83 k (q 1) (upd ((itP n (v, fl, nx, nl) i).1) 2 ((((itP n (v, fl, nx, nl) i).1) 2) + 1)) ++ bF10 k (q 6) ((itP n (v, fl, nx, nl) i).2.1) ++ bF10 k (q 10) ((itP n (v, fl, nx, nl) i).2.2.1)) hD hS hA [0, 1, 2, 3] rfl
        refine va_callv (va_runV (As := []) (rest := []) hF (m_X13_decays l9 D k H.size q th ea fa ch tn he en ln sv wr dg (upd ((itP n (v, fl, nx, nl) i).1) 2 ((((itP n (v, fl, nx, nl) i).1) 2) + 1)) ((itP n (v, fl, nx, nl) i).2.1) ((itP n (v, fl, nx, nl) i).2.2.1) n hn hU.1 hU.2.2.2.1 hU.2.2.2.2) (cwV 0 hts gX13_passes_X13_decays rfl rfl rfl (by decide +kernel) ⟨Nat.le_of_ble_eq_true rfl, Nat.le_of_ble_eq_true rfl⟩) (wPreV hK hN hP hD [0, 1, 2, 3] rfl (by decide) rfl 0 11 rfl rfl) rfl rfl hl.1 rfl (lv_room (Nat.le_of_ble_eq_true rfl)) dX13_passes_41 ⟨Nat.zero_le _, Nat.zero_le _⟩) hS (fun q _ h => hFc q h) hFc (fun u9 t9 H1 locs ht hvm hw hB hz1 hk1 hS => ?_)
        obtain ⟨hP, hD⟩ := wjoin (wr := []) (wf := bMO k q th ea fa ch tn he en ln sv wr dg ++ bI83 k (q 1) (upd ((itP n (v, fl, nx, nl) i).1) 2 ((((itP n (v, fl, nx, nl) i).1) 2) + 1)) ++ bF10 k (q 6) (flM n (upd ((itP n (v, fl, nx, nl) i).1) 2 ((((itP n (v, fl, nx, nl) i).1) 2) + 1)) ((itP n (v, fl, nx, nl) i).2.1) ((itP n (v, fl, nx, nl) i).2.2.1)) ++ bF10 k (q 10) (frM n (upd ((itP n (v, fl, nx, nl) i).1) 2 ((((itP n (v, fl, nx, nl) i).1) 2) + 1)) ((itP n (v, fl, nx, nl) i).2.1) ((itP n (v, fl, nx, nl) i).2.2.1) n)) hP hD [0, 1, 2, 3] [] [0, 1, 2, 3] rfl rfl (by decide) (by decide) hk1 hFc hB ht rfl rfl (by decide)
        clear hB hk1 hz1 hvm hFc
        clear ht
        clear t9
        generalize H1 = H at hP hS ⊢
        refine lv_aload_n hx hb dX13_passes_44 rfl (lv_at hl 0 rfl) ?_
        refine vp_callSf (W.runV (As := []) (rest := []) hF (m_X13_sum l9 D k q th ea fa ch tn he en ln sv wr dg (upd ((itP n (v, fl, nx, nl) i).1) 2 ((((itP n (v, fl, nx, nl) i).1) 2) + 1)) (flM n (upd ((itP n (v, fl, nx, nl) i).1) 2 ((((itP n (v, fl, nx, nl) i).1) 2) + 1)) ((itP n (v, fl, nx, nl) i).2.1) ((itP n (v, fl, nx, nl) i).2.2.1)) n hn hU.1 (okF_flM hU.2.2.2.1 _)) (cwV 0 hts gX13_passes_X13_sum rfl rfl rfl (by decide +kernel) ⟨Nat.le_of_ble_eq_true rfl, Nat.le_of_ble_eq_true rfl⟩) (rPreV hK hN hP [0, 1, 2] rfl 0 11 rfl rfl) rfl rfl hl.1 rfl (lv_room (Nat.le_of_ble_eq_true rfl)) dX13_passes_45 ⟨Nat.zero_le _, Nat.zero_le _⟩) (fun r_6 hr_6 => ?_)
        subst hr_6
        refine lv_aload_n hx hb dX13_passes_48 rfl (lv_at hl 0 rfl) ?_
        refine va_get (D := D) (ci := 11) (v := .ref (q 1)) (C := RX13) (T := TX13) (N := 29) hx hb hts kc_RX13 hown hK hP 0 rfl rfl 5 (by decide) k_fieldLink_16 (fun _ h9 => h9) rfl dX13_passes_49 ?_
        refine lv_iconst (v := 1) hx hb dX13_passes_52 (by decide) ?_
        refine ia_ld hx hb hK hP 1 rfl 1 (by omega) (by decide) dX13_passes_53 ?_
        refine lv_i2f hx hb dX13_passes_54 ?_
        refine lv_fcmp hx hb dX13_passes_55 ?_
        refine lv_if_le (tgt := 63) hx hb dX13_passes_56 (by decide) (fun c_7 => ?_) (fun c_7 => ?_)
        · skip
          have c_7 : ¬ (FP.fcmp (smF (flM n (upd ((itP n (v, fl, nx, nl) i).1) 2 ((((itP n (v, fl, nx, nl) i).1) 2) + 1)) ((itP n (v, fl, nx, nl) i).2.1) ((itP n (v, fl, nx, nl) i).2.2.1)) n) (FP.i2f ((upd ((itP n (v, fl, nx, nl) i).1) 2 ((((itP n (v, fl, nx, nl) i).1) 2) + 1)) 1))) = some .gt := (cmv_le _).mp c_7
          have hov : ovM n (upd (itP n (v, fl, nx, nl) i).1 2 ((itP n (v, fl, nx, nl) i).1 2 + 1), (itP n (v, fl, nx, nl) i).2.1, (itP n (v, fl, nx, nl) i).2.2.1, (itP n (v, fl, nx, nl) i).2.2.2) = false := decide_eq_false c_7
          refine lv_iinc (v := nI (i + 1)) (lv' := [(3, .int (nI (i + 1))), (0, .ref (q 0)), (1, .int (nI m)), (2, .int (v 3))]) hx hb dX13_passes_63 hl (k := 3) rfl (nI_inc i) (by decide) rfl (fun ls hl => ?_)
          refine lv_goto (tgt := 25) hx hb dX13_passes_66 (by decide) ?_
          have e_8 : ((upd ((itP n (v, fl, nx, nl) i).1) 2 ((((itP n (v, fl, nx, nl) i).1) 2) + 1)) : Nat → Int32) = (itP n (v, fl, nx, nl) (i + 1)).1 := by first | (with_reducible rfl) | (exact (ovM_f hov).1.symm)
          have hP := Eq.mp (congrArg (fun z9 => va_P D vwCl (bMO k q th ea fa ch tn he en ln sv wr dg ++ bI83 k (q 1) z9 ++ bF10 k (q 6) (flM n (upd ((itP n (v, fl, nx, nl) i).1) 2 ((((itP n (v, fl, nx, nl) i).1) 2) + 1)) ((itP n (v, fl, nx, nl) i).2.1) ((itP n (v, fl, nx, nl) i).2.2.1)) ++ bF10 k (q 10) (frM n (upd ((itP n (v, fl, nx, nl) i).1) 2 ((((itP n (v, fl, nx, nl) i).1) 2) + 1)) ((itP n (v, fl, nx, nl) i).2.1) ((itP n (v, fl, nx, nl) i).2.2.1) n)) H) e_8) hP
          have hD := Eq.mp (congrArg (fun z9 => va_D A (bMO k q th ea fa ch tn he en ln sv wr dg ++ bI83 k (q 1) z9 ++ bF10 k (q 6) (flM n (upd ((itP n (v, fl, nx, nl) i).1) 2 ((((itP n (v, fl, nx, nl) i).1) 2) + 1)) ((itP n (v, fl, nx, nl) i).2.1) ((itP n (v, fl, nx, nl) i).2.2.1)) ++ bF10 k (q 10) (frM n (upd ((itP n (v, fl, nx, nl) i).1) 2 ((((itP n (v, fl, nx, nl) i).1) 2) + 1)) ((itP n (v, fl, nx, nl) i).2.1) ((itP n (v, fl, nx, nl) i).2.2.1) n))) e_8) hD
          have e_9 : (flM n (upd ((itP n (v, fl, nx, nl) i).1) 2 ((((itP n (v, fl, nx, nl) i).1) 2) + 1)) ((itP n (v, fl, nx, nl) i).2.1) ((itP n (v, fl, nx, nl) i).2.2.1) : Nat → UInt32) = (itP n (v, fl, nx, nl) (i + 1)).2.1 := by first | (with_reducible rfl) | ((try simp only []); (repeat (first | rw [if_pos (by first | assumption | exact Eq.trans (b := false) (by assumption) (Eq.symm (by assumption)) | exact Eq.trans (b := true) (by assumption) (Eq.symm (by assumption)) | exact ⟨by assumption, by assumption⟩ | exact Or.inl (by assumption) | exact Or.inr (by assumption) | exact Or.inr (Or.inl (by assumption)) | exact Or.inr (Or.inr (by assumption)) | (simp only [Int32.lt_iff_toInt_lt, Int32.le_iff_toInt_le, i32_0, i32_1, i32_2, i32_3, i32_4, i32_9, i32_10, i32_99, i32_100, i32_1000, i32_9999] at *; omega))] | rw [if_neg (by first | assumption | (rintro (h9 | h9 | h9) <;> contradiction) | (rintro (h9 | h9) <;> contradiction) | (intro h9; exact Bool.noConfusion (Eq.trans (c := false) h9.symm (by assumption))) | (rintro ⟨h8, h9⟩; exact Bool.noConfusion (Eq.trans (c := false) h8.symm (by assumption))) | (rintro ⟨h8, h9⟩; exact Bool.noConfusion (Eq.trans (c := false) h9.symm (by assumption))) | (simp only [Int32.lt_iff_toInt_lt, Int32.le_iff_toInt_le, i32_0, i32_1, i32_2, i32_3, i32_4, i32_9, i32_10, i32_99, i32_100, i32_1000, i32_9999] at *; omega))])); (try rfl))
          have hP := Eq.mp (congrArg (fun z9 => va_P D vwCl (bMO k q th ea fa ch tn he en ln sv wr dg ++ bI83 k (q 1) ((itP n (v, fl, nx, nl) (i + 1)).1) ++ bF10 k (q 6) z9 ++ bF10 k (q 10) (frM n (upd ((itP n (v, fl, nx, nl) i).1) 2 ((((itP n (v, fl, nx, nl) i).1) 2) + 1)) ((itP n (v, fl, nx, nl) i).2.1) ((itP n (v, fl, nx, nl) i).2.2.1) n)) H) e_9) hP
          have hD := Eq.mp (congrArg (fun z9 => va_D A (bMO k q th ea fa ch tn he en ln sv wr dg ++ bI83 k (q 1) ((itP n (v, fl, nx, nl) (i + 1)).1) ++ bF10 k (q 6) z9 ++ bF10 k (q 10) (frM n (upd ((itP n (v, fl, nx, nl) i).1) 2 ((((itP n (v, fl, nx, nl) i).1) 2) + 1)) ((itP n (v, fl, nx, nl) i).2.1) ((itP n (v, fl, nx, nl) i).2.2.1) n))) e_9) hD
          have e_10 : (frM n (upd ((itP n (v, fl, nx, nl) i).1) 2 ((((itP n (v, fl, nx, nl) i).1) 2) + 1)) ((itP n (v, fl, nx, nl) i).2.1) ((itP n (v, fl, nx, nl) i).2.2.1) n : Nat → UInt32) = (itP n (v, fl, nx, nl) (i + 1)).2.2.1 := by first | (with_reducible rfl) | ((try simp only []); (repeat (first | rw [if_pos (by first | assumption | exact Eq.trans (b := false) (by assumption) (Eq.symm (by assumption)) | exact Eq.trans (b := true) (by assumption) (Eq.symm (by assumption)) | exact ⟨by assumption, by assumption⟩ | exact Or.inl (by assumption) | exact Or.inr (by assumption) | exact Or.inr (Or.inl (by assumption)) | exact Or.inr (Or.inr (by assumption)) | (simp only [Int32.lt_iff_toInt_lt, Int32.le_iff_toInt_le, i32_0, i32_1, i32_2, i32_3, i32_4, i32_9, i32_10, i32_99, i32_100, i32_1000, i32_9999] at *; omega))] | rw [if_neg (by first | assumption | (rintro (h9 | h9 | h9) <;> contradiction) | (rintro (h9 | h9) <;> contradiction) | (intro h9; exact Bool.noConfusion (Eq.trans (c := false) h9.symm (by assumption))) | (rintro ⟨h8, h9⟩; exact Bool.noConfusion (Eq.trans (c := false) h8.symm (by assumption))) | (rintro ⟨h8, h9⟩; exact Bool.noConfusion (Eq.trans (c := false) h9.symm (by assumption))) | (simp only [Int32.lt_iff_toInt_lt, Int32.le_iff_toInt_le, i32_0, i32_1, i32_2, i32_3, i32_4, i32_9, i32_10, i32_99, i32_100, i32_1000, i32_9999] at *; omega))])); (try rfl))
          have hP := Eq.mp (congrArg (fun z9 => va_P D vwCl (bMO k q th ea fa ch tn he en ln sv wr dg ++ bI83 k (q 1) ((itP n (v, fl, nx, nl) (i + 1)).1) ++ bF10 k (q 6) ((itP n (v, fl, nx, nl) (i + 1)).2.1) ++ bF10 k (q 10) z9) H) e_10) hP
          have hD := Eq.mp (congrArg (fun z9 => va_D A (bMO k q th ea fa ch tn he en ln sv wr dg ++ bI83 k (q 1) ((itP n (v, fl, nx, nl) (i + 1)).1) ++ bF10 k (q 6) ((itP n (v, fl, nx, nl) (i + 1)).2.1) ++ bF10 k (q 10) z9)) e_10) hD
          exact ih_25 (i + 1) m (by omega) hm hxr hxc (by omega) ls _ _ hP hD hS (lv_one hl 1 rfl rfl (lv_one hl 2 rfl rfl (lv_one hl 3 rfl rfl (lv_one hl 0 rfl rfl (lv_nil hl)))))
        · skip
          have c_7 : (FP.fcmp (smF (flM n (upd ((itP n (v, fl, nx, nl) i).1) 2 ((((itP n (v, fl, nx, nl) i).1) 2) + 1)) ((itP n (v, fl, nx, nl) i).2.1) ((itP n (v, fl, nx, nl) i).2.2.1)) n) (FP.i2f ((upd ((itP n (v, fl, nx, nl) i).1) 2 ((((itP n (v, fl, nx, nl) i).1) 2) + 1)) 1))) = some .gt := Classical.byContradiction (fun h => c_7 ((cmv_le _).mpr h))
          have hov : ovM n (upd (itP n (v, fl, nx, nl) i).1 2 ((itP n (v, fl, nx, nl) i).1 2 + 1), (itP n (v, fl, nx, nl) i).2.1, (itP n (v, fl, nx, nl) i).2.2.1, (itP n (v, fl, nx, nl) i).2.2.2) = true := decide_eq_true c_7
          refine lv_aload_n hx hb dX13_passes_59 rfl (lv_at hl 0 rfl) ?_
          have hFc := va_free (wc := bMO k q th ea fa ch tn he en ln sv wr dg ++ bI83 k (q 1) (upd ((itP n (v, fl, nx, nl) i).1) 2 ((((itP n (v, fl, nx, nl) i).1) 2) + 1))) hD hS hA [0, 1] rfl
          refine va_callv (va_runV (As := []) (rest := []) hF (m_X13_scram l9 D k H.size q th ea fa ch tn he en ln sv wr dg (upd ((itP n (v, fl, nx, nl) i).1) 2 ((((itP n (v, fl, nx, nl) i).1) 2) + 1)) ((itP n (v, fl, nx, nl) i).2.2.2) hU.2.2.1 hU.2.1) (cwV 0 hts gX13_passes_X13_scram rfl rfl rfl (by decide +kernel) ⟨Nat.le_of_ble_eq_true rfl, Nat.le_of_ble_eq_true rfl⟩) (wPreV hK hN hP hD [0, 1] rfl (by decide) rfl 0 11 rfl rfl) rfl rfl hl.1 rfl (lv_room (Nat.le_of_ble_eq_true rfl)) dX13_passes_60 ⟨Nat.zero_le _, Nat.zero_le _⟩) hS (fun q _ h => hFc q h) hFc (fun u9 t9 H1 locs ht hvm hw hB hz1 hk1 hS => ?_)
          obtain ⟨hP, hD⟩ := wjoin (wr := bF10 k (q 6) (flM n (upd ((itP n (v, fl, nx, nl) i).1) 2 ((((itP n (v, fl, nx, nl) i).1) 2) + 1)) ((itP n (v, fl, nx, nl) i).2.1) ((itP n (v, fl, nx, nl) i).2.2.1)) ++ bF10 k (q 10) (frM n (upd ((itP n (v, fl, nx, nl) i).1) 2 ((((itP n (v, fl, nx, nl) i).1) 2) + 1)) ((itP n (v, fl, nx, nl) i).2.1) ((itP n (v, fl, nx, nl) i).2.2.1) n)) (wf := bMO k q th ea fa ch tn he en ln sv wr dg ++ bI83 k (q 1) (scV (upd ((itP n (v, fl, nx, nl) i).1) 2 ((((itP n (v, fl, nx, nl) i).1) 2) + 1)) ((itP n (v, fl, nx, nl) i).2.2.2)) ++ bF10 k (q 6) (flM n (upd ((itP n (v, fl, nx, nl) i).1) 2 ((((itP n (v, fl, nx, nl) i).1) 2) + 1)) ((itP n (v, fl, nx, nl) i).2.1) ((itP n (v, fl, nx, nl) i).2.2.1)) ++ bF10 k (q 10) (frM n (upd ((itP n (v, fl, nx, nl) i).1) 2 ((((itP n (v, fl, nx, nl) i).1) 2) + 1)) ((itP n (v, fl, nx, nl) i).2.1) ((itP n (v, fl, nx, nl) i).2.2.1) n)) hP hD [0, 1] [2, 3] [2, 3, 0, 1] rfl rfl (by decide) (by decide) hk1 hFc hB ht rfl rfl (by decide)
          clear hB hk1 hz1 hvm hFc
          clear ht
          clear t9
          generalize H1 = H at hP hS ⊢
          refine lv_iinc (v := nI (i + 1)) (lv' := [(3, .int (nI (i + 1))), (0, .ref (q 0)), (1, .int (nI m)), (2, .int (v 3))]) hx hb dX13_passes_63 hl (k := 3) rfl (nI_inc i) (by decide) rfl (fun ls hl => ?_)
          refine lv_goto (tgt := 25) hx hb dX13_passes_66 (by decide) ?_
          have e_11 : (scV (upd ((itP n (v, fl, nx, nl) i).1) 2 ((((itP n (v, fl, nx, nl) i).1) 2) + 1)) ((itP n (v, fl, nx, nl) i).2.2.2) : Nat → Int32) = (itP n (v, fl, nx, nl) (i + 1)).1 := by first | (with_reducible rfl) | (exact (ovM_t hov).1.symm)
          have hP := Eq.mp (congrArg (fun z9 => va_P D vwCl (bMO k q th ea fa ch tn he en ln sv wr dg ++ bI83 k (q 1) z9 ++ bF10 k (q 6) (flM n (upd ((itP n (v, fl, nx, nl) i).1) 2 ((((itP n (v, fl, nx, nl) i).1) 2) + 1)) ((itP n (v, fl, nx, nl) i).2.1) ((itP n (v, fl, nx, nl) i).2.2.1)) ++ bF10 k (q 10) (frM n (upd ((itP n (v, fl, nx, nl) i).1) 2 ((((itP n (v, fl, nx, nl) i).1) 2) + 1)) ((itP n (v, fl, nx, nl) i).2.1) ((itP n (v, fl, nx, nl) i).2.2.1) n)) H) e_11) hP
          have hD := Eq.mp (congrArg (fun z9 => va_D A (bMO k q th ea fa ch tn he en ln sv wr dg ++ bI83 k (q 1) z9 ++ bF10 k (q 6) (flM n (upd ((itP n (v, fl, nx, nl) i).1) 2 ((((itP n (v, fl, nx, nl) i).1) 2) + 1)) ((itP n (v, fl, nx, nl) i).2.1) ((itP n (v, fl, nx, nl) i).2.2.1)) ++ bF10 k (q 10) (frM n (upd ((itP n (v, fl, nx, nl) i).1) 2 ((((itP n (v, fl, nx, nl) i).1) 2) + 1)) ((itP n (v, fl, nx, nl) i).2.1) ((itP n (v, fl, nx, nl) i).2.2.1) n))) e_11) hD
          have e_12 : (flM n (upd ((itP n (v, fl, nx, nl) i).1) 2 ((((itP n (v, fl, nx, nl) i).1) 2) + 1)) ((itP n (v, fl, nx, nl) i).2.1) ((itP n (v, fl, nx, nl) i).2.2.1) : Nat → UInt32) = (itP n (v, fl, nx, nl) (i + 1)).2.1 := by first | (with_reducible rfl) | ((try simp only []); (repeat (first | rw [if_pos (by first | assumption | exact Eq.trans (b := false) (by assumption) (Eq.symm (by assumption)) | exact Eq.trans (b := true) (by assumption) (Eq.symm (by assumption)) | exact ⟨by assumption, by assumption⟩ | exact Or.inl (by assumption) | exact Or.inr (by assumption) | exact Or.inr (Or.inl (by assumption)) | exact Or.inr (Or.inr (by assumption)) | (simp only [Int32.lt_iff_toInt_lt, Int32.le_iff_toInt_le, i32_0, i32_1, i32_2, i32_3, i32_4, i32_9, i32_10, i32_99, i32_100, i32_1000, i32_9999] at *; omega))] | rw [if_neg (by first | assumption | (rintro (h9 | h9 | h9) <;> contradiction) | (rintro (h9 | h9) <;> contradiction) | (intro h9; exact Bool.noConfusion (Eq.trans (c := false) h9.symm (by assumption))) | (rintro ⟨h8, h9⟩; exact Bool.noConfusion (Eq.trans (c := false) h8.symm (by assumption))) | (rintro ⟨h8, h9⟩; exact Bool.noConfusion (Eq.trans (c := false) h9.symm (by assumption))) | (simp only [Int32.lt_iff_toInt_lt, Int32.le_iff_toInt_le, i32_0, i32_1, i32_2, i32_3, i32_4, i32_9, i32_10, i32_99, i32_100, i32_1000, i32_9999] at *; omega))])); (try rfl))
          have hP := Eq.mp (congrArg (fun z9 => va_P D vwCl (bMO k q th ea fa ch tn he en ln sv wr dg ++ bI83 k (q 1) ((itP n (v, fl, nx, nl) (i + 1)).1) ++ bF10 k (q 6) z9 ++ bF10 k (q 10) (frM n (upd ((itP n (v, fl, nx, nl) i).1) 2 ((((itP n (v, fl, nx, nl) i).1) 2) + 1)) ((itP n (v, fl, nx, nl) i).2.1) ((itP n (v, fl, nx, nl) i).2.2.1) n)) H) e_12) hP
          have hD := Eq.mp (congrArg (fun z9 => va_D A (bMO k q th ea fa ch tn he en ln sv wr dg ++ bI83 k (q 1) ((itP n (v, fl, nx, nl) (i + 1)).1) ++ bF10 k (q 6) z9 ++ bF10 k (q 10) (frM n (upd ((itP n (v, fl, nx, nl) i).1) 2 ((((itP n (v, fl, nx, nl) i).1) 2) + 1)) ((itP n (v, fl, nx, nl) i).2.1) ((itP n (v, fl, nx, nl) i).2.2.1) n))) e_12) hD
          have e_13 : (frM n (upd ((itP n (v, fl, nx, nl) i).1) 2 ((((itP n (v, fl, nx, nl) i).1) 2) + 1)) ((itP n (v, fl, nx, nl) i).2.1) ((itP n (v, fl, nx, nl) i).2.2.1) n : Nat → UInt32) = (itP n (v, fl, nx, nl) (i + 1)).2.2.1 := by first | (with_reducible rfl) | ((try simp only []); (repeat (first | rw [if_pos (by first | assumption | exact Eq.trans (b := false) (by assumption) (Eq.symm (by assumption)) | exact Eq.trans (b := true) (by assumption) (Eq.symm (by assumption)) | exact ⟨by assumption, by assumption⟩ | exact Or.inl (by assumption) | exact Or.inr (by assumption) | exact Or.inr (Or.inl (by assumption)) | exact Or.inr (Or.inr (by assumption)) | (simp only [Int32.lt_iff_toInt_lt, Int32.le_iff_toInt_le, i32_0, i32_1, i32_2, i32_3, i32_4, i32_9, i32_10, i32_99, i32_100, i32_1000, i32_9999] at *; omega))] | rw [if_neg (by first | assumption | (rintro (h9 | h9 | h9) <;> contradiction) | (rintro (h9 | h9) <;> contradiction) | (intro h9; exact Bool.noConfusion (Eq.trans (c := false) h9.symm (by assumption))) | (rintro ⟨h8, h9⟩; exact Bool.noConfusion (Eq.trans (c := false) h8.symm (by assumption))) | (rintro ⟨h8, h9⟩; exact Bool.noConfusion (Eq.trans (c := false) h9.symm (by assumption))) | (simp only [Int32.lt_iff_toInt_lt, Int32.le_iff_toInt_le, i32_0, i32_1, i32_2, i32_3, i32_4, i32_9, i32_10, i32_99, i32_100, i32_1000, i32_9999] at *; omega))])); (try rfl))
          have hP := Eq.mp (congrArg (fun z9 => va_P D vwCl (bMO k q th ea fa ch tn he en ln sv wr dg ++ bI83 k (q 1) ((itP n (v, fl, nx, nl) (i + 1)).1) ++ bF10 k (q 6) ((itP n (v, fl, nx, nl) (i + 1)).2.1) ++ bF10 k (q 10) z9) H) e_13) hP
          have hD := Eq.mp (congrArg (fun z9 => va_D A (bMO k q th ea fa ch tn he en ln sv wr dg ++ bI83 k (q 1) ((itP n (v, fl, nx, nl) (i + 1)).1) ++ bF10 k (q 6) ((itP n (v, fl, nx, nl) (i + 1)).2.1) ++ bF10 k (q 10) z9)) e_13) hD
          exact ih_25 (i + 1) m (by omega) hm hxr hxc (by omega) ls _ _ hP hD hS (lv_one hl 1 rfl rfl (lv_one hl 2 rfl rfl (lv_one hl 3 rfl rfl (lv_one hl 0 rfl rfl (lv_nil hl)))))
  refine lv_iload_n hx hb dX13_passes_0 rfl (lv_at hl 1 rfl) ?_
  refine lv_iconst (v := 1) hx hb dX13_passes_1 (by decide) ?_
  refine lv_bipush (v := 20) hx hb dX13_passes_2 (by decide) ?_
  refine vp_callSi (W.runS (As := [.int x, .int 1, .int 20]) (rest := []) hF (m_X13_isIn l9 D k x 1 20 ) (va_cwS 3 hts gX13_passes_X13_isIn rfl rfl rfl (by decide +kernel) ⟨Nat.le_of_ble_eq_true rfl, Nat.le_of_ble_eq_true rfl⟩) (rPreS hK hN hP [] rfl) rfl rfl hl.1 rfl (lv_room (Nat.le_of_ble_eq_true rfl)) dX13_passes_4 ⟨Nat.zero_le _, Nat.zero_le _⟩) (fun r_14 hr_14 => ?_)
  subst hr_14
  refine lv_if_ne (tgt := 16) hx hb dX13_passes_7 (by decide) (fun c_15 => ?_) (fun c_15 => ?_)
  · skip
    have c_15 : (rg 1 x 20) = true := bI_1 c_15
    obtain ⟨j, hj, rfl⟩ := rg1_of (m := 20) (by decide) c_15
    have clj : (nI j).toNatClampNeg = j := clN (by omega)
    refine lv_aload_n hx hb dX13_passes_16 rfl (lv_at hl 0 rfl) ?_
    refine va_get (D := D) (ci := 11) (v := .ref (q 1)) (C := RX13) (T := TX13) (N := 29) hx hb hts kc_RX13 hown hK hP 0 rfl rfl 5 (by decide) k_fieldLink_16 (fun _ h9 => h9) rfl dX13_passes_17 ?_
    refine lv_iconst (v := 3) hx hb dX13_passes_20 (by decide) ?_
    refine ia_ld hx hb hK hP 1 rfl 3 (by omega) (by decide) dX13_passes_21 ?_
    refine lv_istore_n (lv' := [(2, .int (v 3)), (0, .ref (q 0)), (1, .int (nI j))]) hx hb dX13_passes_22 rfl hl (by decide) rfl (fun ls hl => ?_)
    refine lv_iconst (v := 0) hx hb dX13_passes_23 (by decide) ?_
    refine lv_istore_n (lv' := [(3, .int 0), (2, .int (v 3)), (0, .ref (q 0)), (1, .int (nI j))]) hx hb dX13_passes_24 rfl hl (by decide) rfl (fun ls hl => ?_)
    have e_16 : (v : Nat → Int32) = (itP n (v, fl, nx, nl) 0).1 := by first | (with_reducible rfl) | ((try simp only [clj]); (repeat (first | rw [if_pos (by first | assumption | exact Eq.trans (b := false) (by assumption) (Eq.symm (by assumption)) | exact Eq.trans (b := true) (by assumption) (Eq.symm (by assumption)) | exact ⟨by assumption, by assumption⟩ | exact Or.inl (by assumption) | exact Or.inr (by assumption) | exact Or.inr (Or.inl (by assumption)) | exact Or.inr (Or.inr (by assumption)) | (simp only [Int32.lt_iff_toInt_lt, Int32.le_iff_toInt_le, i32_0, i32_1, i32_2, i32_3, i32_4, i32_9, i32_10, i32_99, i32_100, i32_1000, i32_9999] at *; omega))] | rw [if_neg (by first | assumption | (rintro (h9 | h9 | h9) <;> contradiction) | (rintro (h9 | h9) <;> contradiction) | (intro h9; exact Bool.noConfusion (Eq.trans (c := false) h9.symm (by assumption))) | (rintro ⟨h8, h9⟩; exact Bool.noConfusion (Eq.trans (c := false) h8.symm (by assumption))) | (rintro ⟨h8, h9⟩; exact Bool.noConfusion (Eq.trans (c := false) h9.symm (by assumption))) | (simp only [Int32.lt_iff_toInt_lt, Int32.le_iff_toInt_le, i32_0, i32_1, i32_2, i32_3, i32_4, i32_9, i32_10, i32_99, i32_100, i32_1000, i32_9999] at *; omega))])); (try rfl))
    have hP := Eq.mp (congrArg (fun z9 => va_P D vwCl (bMO k q th ea fa ch tn he en ln sv wr dg ++ bI83 k (q 1) z9 ++ bF10 k (q 6) fl ++ bF10 k (q 10) nx) H) e_16) hP
    have hD := Eq.mp (congrArg (fun z9 => va_D A (bMO k q th ea fa ch tn he en ln sv wr dg ++ bI83 k (q 1) z9 ++ bF10 k (q 6) fl ++ bF10 k (q 10) nx)) e_16) hD
    have e_17 : (fl : Nat → UInt32) = (itP n (v, fl, nx, nl) 0).2.1 := by first | (with_reducible rfl) | ((try simp only [clj]); (repeat (first | rw [if_pos (by first | assumption | exact Eq.trans (b := false) (by assumption) (Eq.symm (by assumption)) | exact Eq.trans (b := true) (by assumption) (Eq.symm (by assumption)) | exact ⟨by assumption, by assumption⟩ | exact Or.inl (by assumption) | exact Or.inr (by assumption) | exact Or.inr (Or.inl (by assumption)) | exact Or.inr (Or.inr (by assumption)) | (simp only [Int32.lt_iff_toInt_lt, Int32.le_iff_toInt_le, i32_0, i32_1, i32_2, i32_3, i32_4, i32_9, i32_10, i32_99, i32_100, i32_1000, i32_9999] at *; omega))] | rw [if_neg (by first | assumption | (rintro (h9 | h9 | h9) <;> contradiction) | (rintro (h9 | h9) <;> contradiction) | (intro h9; exact Bool.noConfusion (Eq.trans (c := false) h9.symm (by assumption))) | (rintro ⟨h8, h9⟩; exact Bool.noConfusion (Eq.trans (c := false) h8.symm (by assumption))) | (rintro ⟨h8, h9⟩; exact Bool.noConfusion (Eq.trans (c := false) h9.symm (by assumption))) | (simp only [Int32.lt_iff_toInt_lt, Int32.le_iff_toInt_le, i32_0, i32_1, i32_2, i32_3, i32_4, i32_9, i32_10, i32_99, i32_100, i32_1000, i32_9999] at *; omega))])); (try rfl))
    have hP := Eq.mp (congrArg (fun z9 => va_P D vwCl (bMO k q th ea fa ch tn he en ln sv wr dg ++ bI83 k (q 1) ((itP n (v, fl, nx, nl) 0).1) ++ bF10 k (q 6) z9 ++ bF10 k (q 10) nx) H) e_17) hP
    have hD := Eq.mp (congrArg (fun z9 => va_D A (bMO k q th ea fa ch tn he en ln sv wr dg ++ bI83 k (q 1) ((itP n (v, fl, nx, nl) 0).1) ++ bF10 k (q 6) z9 ++ bF10 k (q 10) nx)) e_17) hD
    have e_18 : (nx : Nat → UInt32) = (itP n (v, fl, nx, nl) 0).2.2.1 := by first | (with_reducible rfl) | ((try simp only [clj]); (repeat (first | rw [if_pos (by first | assumption | exact Eq.trans (b := false) (by assumption) (Eq.symm (by assumption)) | exact Eq.trans (b := true) (by assumption) (Eq.symm (by assumption)) | exact ⟨by assumption, by assumption⟩ | exact Or.inl (by assumption) | exact Or.inr (by assumption) | exact Or.inr (Or.inl (by assumption)) | exact Or.inr (Or.inr (by assumption)) | (simp only [Int32.lt_iff_toInt_lt, Int32.le_iff_toInt_le, i32_0, i32_1, i32_2, i32_3, i32_4, i32_9, i32_10, i32_99, i32_100, i32_1000, i32_9999] at *; omega))] | rw [if_neg (by first | assumption | (rintro (h9 | h9 | h9) <;> contradiction) | (rintro (h9 | h9) <;> contradiction) | (intro h9; exact Bool.noConfusion (Eq.trans (c := false) h9.symm (by assumption))) | (rintro ⟨h8, h9⟩; exact Bool.noConfusion (Eq.trans (c := false) h8.symm (by assumption))) | (rintro ⟨h8, h9⟩; exact Bool.noConfusion (Eq.trans (c := false) h9.symm (by assumption))) | (simp only [Int32.lt_iff_toInt_lt, Int32.le_iff_toInt_le, i32_0, i32_1, i32_2, i32_3, i32_4, i32_9, i32_10, i32_99, i32_100, i32_1000, i32_9999] at *; omega))])); (try rfl))
    have hP := Eq.mp (congrArg (fun z9 => va_P D vwCl (bMO k q th ea fa ch tn he en ln sv wr dg ++ bI83 k (q 1) ((itP n (v, fl, nx, nl) 0).1) ++ bF10 k (q 6) ((itP n (v, fl, nx, nl) 0).2.1) ++ bF10 k (q 10) z9) H) e_18) hP
    have hD := Eq.mp (congrArg (fun z9 => va_D A (bMO k q th ea fa ch tn he en ln sv wr dg ++ bI83 k (q 1) ((itP n (v, fl, nx, nl) 0).1) ++ bF10 k (q 6) ((itP n (v, fl, nx, nl) 0).2.1) ++ bF10 k (q 10) z9)) e_18) hD
    exact loop_25 ((j - 0) + 1) 0 j (by omega) hj (by assumption) clj (Nat.lt_succ_self _) ls _ _ hP hD hS (lv_one hl 2 rfl rfl (lv_one hl 3 rfl rfl (lv_one hl 1 rfl rfl (lv_one hl 0 rfl rfl (lv_nil hl)))))
  · skip
    have c_15 : (rg 1 x 20) = false := bI_0 c_15
    refine lv_aload_n hx hb dX13_passes_10 rfl (lv_at hl 0 rfl) ?_
    refine lv_iconst (v := 1) hx hb dX13_passes_11 (by decide) ?_
    have hFc := va_free (wc := bMO k q th ea fa ch tn he en ln sv wr dg) hD hS hA [0] rfl
    refine va_calli (va_runV (As := [.int 1]) (rest := []) hF (m_X13_fail l9 D k H.size q th ea fa ch tn he en ln sv wr dg 1 ) (cwV 1 hts gX13_passes_X13_fail rfl rfl rfl (by decide +kernel) ⟨Nat.le_of_ble_eq_true rfl, Nat.le_of_ble_eq_true rfl⟩) (wPreV hK hN hP hD [0] rfl (by decide) rfl 0 11 rfl rfl) rfl rfl hl.1 rfl (lv_room (Nat.le_of_ble_eq_true rfl)) dX13_passes_12 ⟨Nat.zero_le _, Nat.zero_le _⟩) hS (fun q _ h => hFc q h) hFc (fun r u9 t9 H1 locs ht hvm hw hB hz1 hk1 hS => ?_)
    obtain ⟨hP, hD⟩ := wjoin (wr := bI83 k (q 1) v ++ bF10 k (q 6) fl ++ bF10 k (q 10) nx) (wf := bMO k q 1 ea fa ch tn he en ln sv wr dg ++ bI83 k (q 1) v ++ bF10 k (q 6) fl ++ bF10 k (q 10) nx) hP hD [0] [1, 2, 3] [3, 0, 1, 2] rfl rfl (by decide) (by decide) hk1 hFc hB ht rfl rfl (by decide)
    subst hw
    clear hB hk1 hz1 hvm hFc
    clear ht
    clear t9
    generalize H1 = H at hP hS ⊢
    have e_19 : (1 : Int32) = if rg 1 x 20 = true then th else (1 : Int32) := by first | (with_reducible rfl) | ((try simp only []); (repeat (first | rw [if_pos (by first | assumption | exact Eq.trans (b := false) (by assumption) (Eq.symm (by assumption)) | exact Eq.trans (b := true) (by assumption) (Eq.symm (by assumption)) | exact ⟨by assumption, by assumption⟩ | exact Or.inl (by assumption) | exact Or.inr (by assumption) | exact Or.inr (Or.inl (by assumption)) | exact Or.inr (Or.inr (by assumption)) | (simp only [Int32.lt_iff_toInt_lt, Int32.le_iff_toInt_le, i32_0, i32_1, i32_2, i32_3, i32_4, i32_9, i32_10, i32_99, i32_100, i32_1000, i32_9999] at *; omega))] | rw [if_neg (by first | assumption | (rintro (h9 | h9 | h9) <;> contradiction) | (rintro (h9 | h9) <;> contradiction) | (intro h9; exact Bool.noConfusion (Eq.trans (c := false) h9.symm (by assumption))) | (rintro ⟨h8, h9⟩; exact Bool.noConfusion (Eq.trans (c := false) h8.symm (by assumption))) | (rintro ⟨h8, h9⟩; exact Bool.noConfusion (Eq.trans (c := false) h9.symm (by assumption))) | (simp only [Int32.lt_iff_toInt_lt, Int32.le_iff_toInt_le, i32_0, i32_1, i32_2, i32_3, i32_4, i32_9, i32_10, i32_99, i32_100, i32_1000, i32_9999] at *; omega))])); (try rfl))
    have hP := Eq.mp (congrArg (fun z9 => va_P D vwCl (bMO k q z9 ea fa ch tn he en ln sv wr dg ++ bI83 k (q 1) v ++ bF10 k (q 6) fl ++ bF10 k (q 10) nx) H) e_19) hP
    have hD := Eq.mp (congrArg (fun z9 => va_D A (bMO k q z9 ea fa ch tn he en ln sv wr dg ++ bI83 k (q 1) v ++ bF10 k (q 6) fl ++ bF10 k (q 10) nx)) e_19) hD
    have e_20 : (v : Nat → Int32) = (if rg 1 x 20 = true then itP n (v, fl, nx, nl) x.toNatClampNeg else (v, fl, nx, nl)).1 := by first | (with_reducible rfl) | ((try simp only []); (repeat (first | rw [if_pos (by first | assumption | exact Eq.trans (b := false) (by assumption) (Eq.symm (by assumption)) | exact Eq.trans (b := true) (by assumption) (Eq.symm (by assumption)) | exact ⟨by assumption, by assumption⟩ | exact Or.inl (by assumption) | exact Or.inr (by assumption) | exact Or.inr (Or.inl (by assumption)) | exact Or.inr (Or.inr (by assumption)) | (simp only [Int32.lt_iff_toInt_lt, Int32.le_iff_toInt_le, i32_0, i32_1, i32_2, i32_3, i32_4, i32_9, i32_10, i32_99, i32_100, i32_1000, i32_9999] at *; omega))] | rw [if_neg (by first | assumption | (rintro (h9 | h9 | h9) <;> contradiction) | (rintro (h9 | h9) <;> contradiction) | (intro h9; exact Bool.noConfusion (Eq.trans (c := false) h9.symm (by assumption))) | (rintro ⟨h8, h9⟩; exact Bool.noConfusion (Eq.trans (c := false) h8.symm (by assumption))) | (rintro ⟨h8, h9⟩; exact Bool.noConfusion (Eq.trans (c := false) h9.symm (by assumption))) | (simp only [Int32.lt_iff_toInt_lt, Int32.le_iff_toInt_le, i32_0, i32_1, i32_2, i32_3, i32_4, i32_9, i32_10, i32_99, i32_100, i32_1000, i32_9999] at *; omega))])); (try rfl))
    have hP := Eq.mp (congrArg (fun z9 => va_P D vwCl (bMO k q (if rg 1 x 20 = true then th else (1 : Int32)) ea fa ch tn he en ln sv wr dg ++ bI83 k (q 1) z9 ++ bF10 k (q 6) fl ++ bF10 k (q 10) nx) H) e_20) hP
    have hD := Eq.mp (congrArg (fun z9 => va_D A (bMO k q (if rg 1 x 20 = true then th else (1 : Int32)) ea fa ch tn he en ln sv wr dg ++ bI83 k (q 1) z9 ++ bF10 k (q 6) fl ++ bF10 k (q 10) nx)) e_20) hD
    have e_21 : (fl : Nat → UInt32) = (if rg 1 x 20 = true then itP n (v, fl, nx, nl) x.toNatClampNeg else (v, fl, nx, nl)).2.1 := by first | (with_reducible rfl) | ((try simp only []); (repeat (first | rw [if_pos (by first | assumption | exact Eq.trans (b := false) (by assumption) (Eq.symm (by assumption)) | exact Eq.trans (b := true) (by assumption) (Eq.symm (by assumption)) | exact ⟨by assumption, by assumption⟩ | exact Or.inl (by assumption) | exact Or.inr (by assumption) | exact Or.inr (Or.inl (by assumption)) | exact Or.inr (Or.inr (by assumption)) | (simp only [Int32.lt_iff_toInt_lt, Int32.le_iff_toInt_le, i32_0, i32_1, i32_2, i32_3, i32_4, i32_9, i32_10, i32_99, i32_100, i32_1000, i32_9999] at *; omega))] | rw [if_neg (by first | assumption | (rintro (h9 | h9 | h9) <;> contradiction) | (rintro (h9 | h9) <;> contradiction) | (intro h9; exact Bool.noConfusion (Eq.trans (c := false) h9.symm (by assumption))) | (rintro ⟨h8, h9⟩; exact Bool.noConfusion (Eq.trans (c := false) h8.symm (by assumption))) | (rintro ⟨h8, h9⟩; exact Bool.noConfusion (Eq.trans (c := false) h9.symm (by assumption))) | (simp only [Int32.lt_iff_toInt_lt, Int32.le_iff_toInt_le, i32_0, i32_1, i32_2, i32_3, i32_4, i32_9, i32_10, i32_99, i32_100, i32_1000, i32_9999] at *; omega))])); (try rfl))
    have hP := Eq.mp (congrArg (fun z9 => va_P D vwCl (bMO k q (if rg 1 x 20 = true then th else (1 : Int32)) ea fa ch tn he en ln sv wr dg ++ bI83 k (q 1) ((if rg 1 x 20 = true then itP n (v, fl, nx, nl) x.toNatClampNeg else (v, fl, nx, nl)).1) ++ bF10 k (q 6) z9 ++ bF10 k (q 10) nx) H) e_21) hP
    have hD := Eq.mp (congrArg (fun z9 => va_D A (bMO k q (if rg 1 x 20 = true then th else (1 : Int32)) ea fa ch tn he en ln sv wr dg ++ bI83 k (q 1) ((if rg 1 x 20 = true then itP n (v, fl, nx, nl) x.toNatClampNeg else (v, fl, nx, nl)).1) ++ bF10 k (q 6) z9 ++ bF10 k (q 10) nx)) e_21) hD
    have e_22 : (nx : Nat → UInt32) = (if rg 1 x 20 = true then itP n (v, fl, nx, nl) x.toNatClampNeg else (v, fl, nx, nl)).2.2.1 := by first | (with_reducible rfl) | ((try simp only []); (repeat (first | rw [if_pos (by first | assumption | exact Eq.trans (b := false) (by assumption) (Eq.symm (by assumption)) | exact Eq.trans (b := true) (by assumption) (Eq.symm (by assumption)) | exact ⟨by assumption, by assumption⟩ | exact Or.inl (by assumption) | exact Or.inr (by assumption) | exact Or.inr (Or.inl (by assumption)) | exact Or.inr (Or.inr (by assumption)) | (simp only [Int32.lt_iff_toInt_lt, Int32.le_iff_toInt_le, i32_0, i32_1, i32_2, i32_3, i32_4, i32_9, i32_10, i32_99, i32_100, i32_1000, i32_9999] at *; omega))] | rw [if_neg (by first | assumption | (rintro (h9 | h9 | h9) <;> contradiction) | (rintro (h9 | h9) <;> contradiction) | (intro h9; exact Bool.noConfusion (Eq.trans (c := false) h9.symm (by assumption))) | (rintro ⟨h8, h9⟩; exact Bool.noConfusion (Eq.trans (c := false) h8.symm (by assumption))) | (rintro ⟨h8, h9⟩; exact Bool.noConfusion (Eq.trans (c := false) h9.symm (by assumption))) | (simp only [Int32.lt_iff_toInt_lt, Int32.le_iff_toInt_le, i32_0, i32_1, i32_2, i32_3, i32_4, i32_9, i32_10, i32_99, i32_100, i32_1000, i32_9999] at *; omega))])); (try rfl))
    have hP := Eq.mp (congrArg (fun z9 => va_P D vwCl (bMO k q (if rg 1 x 20 = true then th else (1 : Int32)) ea fa ch tn he en ln sv wr dg ++ bI83 k (q 1) ((if rg 1 x 20 = true then itP n (v, fl, nx, nl) x.toNatClampNeg else (v, fl, nx, nl)).1) ++ bF10 k (q 6) ((if rg 1 x 20 = true then itP n (v, fl, nx, nl) x.toNatClampNeg else (v, fl, nx, nl)).2.1) ++ bF10 k (q 10) z9) H) e_22) hP
    have hD := Eq.mp (congrArg (fun z9 => va_D A (bMO k q (if rg 1 x 20 = true then th else (1 : Int32)) ea fa ch tn he en ln sv wr dg ++ bI83 k (q 1) ((if rg 1 x 20 = true then itP n (v, fl, nx, nl) x.toNatClampNeg else (v, fl, nx, nl)).1) ++ bF10 k (q 6) ((if rg 1 x 20 = true then itP n (v, fl, nx, nl) x.toNatClampNeg else (v, fl, nx, nl)).2.1) ++ bF10 k (q 10) z9)) e_22) hD
    exact W.iret (v := 0) hx hb hr (fun t9 ht hW => ⟨⟨_, (), rfl, (by (try simp only []); (repeat (first | rw [if_pos (by first | assumption | exact Eq.trans (b := false) (by assumption) (Eq.symm (by assumption)) | exact Eq.trans (b := true) (by assumption) (Eq.symm (by assumption)) | exact ⟨by assumption, by assumption⟩ | exact Or.inl (by assumption) | exact Or.inr (by assumption) | exact Or.inr (Or.inl (by assumption)) | exact Or.inr (Or.inr (by assumption)) | (simp only [Int32.lt_iff_toInt_lt, Int32.le_iff_toInt_le, i32_0, i32_1, i32_2, i32_3, i32_4, i32_9, i32_10, i32_99, i32_100, i32_1000, i32_9999] at *; omega))] | rw [if_neg (by first | assumption | (rintro (h9 | h9 | h9) <;> contradiction) | (rintro (h9 | h9) <;> contradiction) | (intro h9; exact Bool.noConfusion (Eq.trans (c := false) h9.symm (by assumption))) | (rintro ⟨h8, h9⟩; exact Bool.noConfusion (Eq.trans (c := false) h8.symm (by assumption))) | (rintro ⟨h8, h9⟩; exact Bool.noConfusion (Eq.trans (c := false) h9.symm (by assumption))) | (simp only [Int32.lt_iff_toInt_lt, Int32.le_iff_toInt_le, i32_0, i32_1, i32_2, i32_3, i32_4, i32_9, i32_10, i32_99, i32_100, i32_1000, i32_9999] at *; omega))])); (try rfl)), ⟨by rw [ht]; exact hP, va_K.moved hW.alike hK, hD⟩⟩, hS.F ht⟩) hS.2.2 dX13_passes_15 hlocks

/-! Bits of floats and doubles, the class's way. -/
theorem okD_f2d {x : UInt32} (h : okF x) : okD (FP.f2d x) := by
  have hn : FP.fIsNaN x = false := by
    cases q : FP.fIsNaN x with
    | false => rfl
    | true => exact absurd ((FP.Core.fIsNaN_iff x).mp q) (okF_notNaN h)
  unfold okD
  rw [FP.f2d_core hn, FP.Core.val64_f2d]
  exact posD_round _ h
abbrev D2 : UInt64 := 4611686018427387904
abbrev D05 : UInt64 := 4602678819172646912
theorem psG_2 : psG D2 := isPs_ex64 (by decide +kernel)
theorem psG_05 : psG D05 := isPs_ex64 (by decide +kernel)
def hfD (d : UInt64) (i : Nat) : UInt64 := up (fun _ x => FP.dmul x D05) d i
theorem hfD_s (d : UInt64) (i : Nat) : hfD d (i + 1) = FP.dmul (hfD d i) D05 := rfl
def dbD (d : UInt64) (i : Nat) : UInt64 := up (fun _ x => FP.dmul x D2) d i
theorem dbD_s (d : UInt64) (i : Nat) : dbD d (i + 1) = FP.dmul (dbD d i) D2 := rfl
theorem okD_hf {d : UInt64} (h : okD d) (i : Nat) : okD (hfD d i) := by
  induction i with
  | zero => exact h
  | succ i ih => exact okD_mul ih psG_05
theorem okD_db {d : UInt64} (h : okD d) (i : Nat) : okD (dbD d i) := by
  induction i with
  | zero => exact h
  | succ i ih => exact okD_mul ih psG_2
/-- the halving stops; the doubling stops -/
def st2 (d : UInt64) (i : Nat) : Bool := decide (FP.dcmp (hfD d i) D2 = some .lt ∨ FP.dcmp (hfD d i) D2 = none)
def st1 (d : UInt64) (i : Nat) : Bool := !decide (FP.dcmp (dbD d i) FP.dconst1 = some .lt)
theorem k1E_ex (d : UInt64) : ∃ x : Nat, fsN (st2 d) 200 = x := ⟨_, rfl⟩
noncomputable def k1E (d : UInt64) : Nat := Classical.choose (k1E_ex d)
theorem k1E_eq (d : UInt64) : k1E d = fsN (st2 d) 200 := (Classical.choose_spec (k1E_ex d)).symm
theorem k2E_ex (d : UInt64) : ∃ x : Nat, fsN (st1 (hfD d (k1E d))) 200 = x := ⟨_, rfl⟩
noncomputable def k2E (d : UInt64) : Nat := Classical.choose (k2E_ex d)
theorem k2E_eq (d : UInt64) : k2E d = fsN (st1 (hfD d (k1E d))) 200 := (Classical.choose_spec (k2E_ex d)).symm
theorem exE2_ex (d : UInt64) : ∃ x : Int32, nI (k1E d) - nI (k2E d) = x := ⟨_, rfl⟩
noncomputable def exE2 (d : UInt64) : Int32 := Classical.choose (exE2_ex d)
theorem exE2_eq (d : UInt64) : exE2 d = nI (k1E d) - nI (k2E d) := (Classical.choose_spec (exE2_ex d)).symm
theorem k1E_at {d : UInt64} {i : Nat} (h : ∀ c, c < i → st2 d c = false) (hi : st2 d i = true) (q : i < 200) : k1E d = i := (k1E_eq d).trans (fsN_some h hi q)
theorem k1E_no {d : UInt64} (h : ∀ c, c < 200 → st2 d c = false) : k1E d = 200 := (k1E_eq d).trans (fsN_none h)
theorem k2E_at {d : UInt64} {i : Nat} (h : ∀ c, c < i → st1 (hfD d (k1E d)) c = false) (hi : st1 (hfD d (k1E d)) i = true) (q : i < 200) : k2E d = i := (k2E_eq d).trans (fsN_some h hi q)
theorem k2E_no {d : UInt64} (h : ∀ c, c < 200 → st1 (hfD d (k1E d)) c = false) : k2E d = 200 := (k2E_eq d).trans (fsN_none h)
theorem nI_dec (a i : Nat) : nI a - nI i + (-1) = nI a - nI (i + 1) := by
  rw [← nI_1]
  apply Int32.toBitVec_inj.mp
  simp only [Int32.toBitVec_add, Int32.toBitVec_sub]
  generalize (nI a).toBitVec = x
  generalize (nI i).toBitVec = y
  show x - y + (-1#32) = x - (y + 1#32)
  rw [BitVec.sub_eq_add_neg, BitVec.sub_eq_add_neg, BitVec.neg_add, BitVec.sub_eq_add_neg, BitVec.add_assoc]
/-- a power of two -/
def p2D (j : Nat) : UInt64 := up (fun _ x => FP.dmul x D2) FP.dconst1 j
theorem p2D_s (j : Nat) : p2D (j + 1) = FP.dmul (p2D j) D2 := rfl
def c2D (j : Nat) : UInt64 := UInt64.ofNat ((1023 + j) * 2 ^ 52)
theorem p2D_c {j : Nat} (h : j ≤ 300) : p2D j = c2D j := by
  have s : ∀ i : Nat, i < 300 → FP.dmul (c2D i) D2 = c2D (i + 1) := by decide +kernel
  induction j with
  | zero => exact (by decide +kernel : FP.dconst1 = c2D 0)
  | succ j ih => rw [p2D_s, ih (by omega)]; exact s j (by omega)
theorem psG_p2 {j : Nat} (h : j ≤ 300) : psG (p2D j) := by
  rw [p2D_c h]
  have s : ∀ i : Nat, i ≤ 300 → isPs (FP.Core.val64 (c2D i)) = true := by decide +kernel
  exact isPs_ex64 (s j h)
theorem psG_ok {y : UInt64} (h : psG y) : okD y := by
  obtain ⟨d, r, _, e⟩ := h
  unfold okD
  rw [e]
  rfl
theorem cl_lt {e : Int32} {i : Nat} (hi : i < 2 ^ 31) (h : ¬ e ≤ nI i) : i < e.toNatClampNeg := by
  have h0 : ¬ e < 0 := by
    intro q
    apply h
    have hp := nI_pos hi
    rw [Int32.le_iff_toInt_le]
    rw [Int32.lt_iff_toInt_lt] at q hp
    omega
  obtain ⟨j, hj, rfl⟩ := nI_of h0
  rw [clN hj]
  exact Nat.not_le.mp (fun q => h ((nI_leI hj hi).mpr q))
theorem cl_ge {e : Int32} {i : Nat} (hi : i < 2 ^ 31) (h : e ≤ nI i) (h2 : i ≤ e.toNatClampNeg) : i = e.toNatClampNeg := by
  by_cases q : e < 0
  · have : e.toNatClampNeg = 0 := by
      rw [Int32.lt_iff_toInt_lt, i32_0] at q
      show e.toInt.toNat = 0
      omega
    omega
  · obtain ⟨j, hj, rfl⟩ := nI_of q
    rw [clN hj] at h2 ⊢
    have := (nI_leI hj hi).mp h
    omega
theorem k1E_le (d : UInt64) : k1E d ≤ 200 := by rw [k1E_eq]; exact fsN_le _ _
theorem k2E_le (d : UInt64) : k2E d ≤ 200 := by rw [k2E_eq]; exact fsN_le _ _
theorem sub_swap (c a b : Nat) : nI c - (nI a - nI b) = nI (c + b) - nI a := by
  rw [← nI_add]
  apply Int32.toBitVec_inj.mp
  simp only [Int32.toBitVec_add, Int32.toBitVec_sub]
  generalize (nI a).toBitVec = x
  generalize (nI b).toBitVec = y
  generalize (nI c).toBitVec = z
  rw [BitVec.sub_eq_add_neg, BitVec.neg_sub, BitVec.sub_eq_add_neg]
  rw [BitVec.add_comm (-x) y, BitVec.add_assoc]
theorem sub_clN {c a b m : Nat} (ha : a ≤ 200) (hb : b ≤ 200) (hc : c ≤ 60) (hm : c + b ≤ m) : (nI c - (nI a - nI b)).toNatClampNeg ≤ m := by
  rw [sub_swap]
  have h := pk_sub_toInt (a := c + b) (b := a) (by omega) (by omega)
  show (nI (c + b) - nI a).toInt.toNat ≤ m
  rw [h]
  omega
theorem exE2_cl {d : UInt64} : (52 - exE2 d).toNatClampNeg ≤ 252 := by
  rw [exE2_eq]
  exact sub_clN (c := 52) (k1E_le d) (k2E_le d) (by decide) (by have := k2E_le d; omega)
theorem exF_ex (d : UInt64) : ∃ x : Int32, (if exE2 d < -126 then -126 else exE2 d) = x := ⟨_, rfl⟩
noncomputable def exF (d : UInt64) : Int32 := Classical.choose (exF_ex d)
theorem exF_eq (d : UInt64) : exF d = if exE2 d < -126 then -126 else exE2 d := (Classical.choose_spec (exF_ex d)).symm
theorem exF_cl {d : UInt64} : (23 - exF d).toNatClampNeg ≤ 300 := by
  rw [exF_eq]
  split
  · decide
  · rw [exE2_eq]
    exact sub_clN (c := 23) (k1E_le d) (k2E_le d) (by decide) (by have := k2E_le d; omega)
noncomputable def bdS (d : UInt64) : Int64 := ((exE2 d + 1022).toInt64 <<< ((52 : Int32).toInt64 &&& 63)) + FP.d2l (FP.dmul d (p2D (52 - exE2 d).toNatClampNeg))
noncomputable def bfS (x : UInt32) : Int32 := ((exF (FP.f2d x) + 126) <<< ((23 : Int32) &&& 31)) + FP.d2i (FP.dmul (FP.f2d x) (p2D (23 - exF (FP.f2d x)).toNatClampNeg))

set_option maxHeartbeats 4000000 in
set_option maxRecDepth 100000 in
theorem m_X2_exponentOf (l9 : Launch) (D : va_G) (k : Nat → ClassId) (d : UInt64) (hd : okD d) : Met l9 yX2_exponentOf wsX2_exponentOf ({ frames := 0, cells := 0, slots := 0, locals := 0 }) (RPc D k [.double d] ([])) (EI (exE2 d)) 0 0 noA := by
  refine rMet (y := yX2_exponentOf) (cc := cX2_exponentOf) (maxL := 6) (ret := (some .int)) [.double d] (by decide) rfl (Nat.le_of_ble_eq_true rfl) ?_
  intro p9 e9 s9 m9 bl9 me9 c9 ls hF hr hlocks hP hK hN hl
  have hl : lv_has ls 6 [(0, .double d)] := hl
  obtain ⟨hx, hb, hml, hown, hts⟩ := id hF
  have k_constantDouble_23 : (Cond.constantDouble RX2 23 (4611686018427387904)).before _ s9 = true := hts (.constantDouble RX2 23 (4611686018427387904)) (by decide +kernel)
  have k_constantDouble_25 : (Cond.constantDouble RX2 25 (4602678819172646912)).before _ s9 = true := hts (.constantDouble RX2 25 (4602678819172646912)) (by decide +kernel)
  have loop_42 : ∀ (fuel : Nat) (i : Nat), (i ≤ 200) → (∀ c, c < i → st1 (hfD d (k1E d)) c = false) → 200 - i < fuel → ∀ (ls : Array Slot), lv_has ls 6 [(0, .double d), (2, .double (dbD (hfD d (k1E d)) i)), (4, .int (nI (k1E d) - nI i)), (5, .int (nI i))] → W p9 l9 e9 ({ frames := 0, cells := 0, slots := 0, locals := 0 }) s9 m9 ([.double d] : List Value).toArray bl9 me9 c9 s9.heap [] 0 0 (MQ bl9 (EI (exE2 d)) ([.double d] : List Value).toArray s9 0 0 noA) (F0 m9 42 ls []) := by
    intro fuel
    induction fuel with
    | zero => intro i hi ha hfuel_42; exact absurd hfuel_42 (Nat.not_lt_zero _)
    | succ fuel ih_42 =>
      intro i hi ha hfuel_42 ls hl
      refine lv_iload hx hb dX2_exponentOf_42 (lv_at hl 3 rfl) ?_
      refine lv_sipush (v := 200) hx hb dX2_exponentOf_44 (by decide) ?_
      refine lv_icmp_ge (tgt := 71) hx hb dX2_exponentOf_47 (by decide) (fun c_1 => ?_) (fun c_1 => ?_)
      · skip
        have c_1 : 200 ≤ i := (nI_leI (a := 200) (b := i) (by omega) (by omega)).mp c_1
        have hk8 : k2E d = i := by first | exact k2E_at ha (by unfold st1; rw [decide_eq_false (by assumption)]; rfl) (by omega) | exact (k2E_no (fun c hc => ha c (by omega))).trans (by omega)
        refine lv_iload hx hb dX2_exponentOf_71 (lv_at hl 2 rfl) ?_
        exact W.iret (v := nI (k1E d) - nI i) hx hb hr (fun t9 ht hW => ⟨_, rfl, (by rw [exE2_eq, hk8]), ht⟩) (fun _ h => by cases h) dX2_exponentOf_73 hlocks
      · skip
        have c_1 : ¬ 200 ≤ i := fun h => c_1 ((nI_leI (a := 200) (b := i) (by omega) (by omega)).mpr h)
        refine lv_dload_n hx hb dX2_exponentOf_50 rfl (lv_at hl 1 rfl) ?_
        refine lv_dconst1 hx hb dX2_exponentOf_51 ?_
        refine lv_dcmp hx hb dX2_exponentOf_52 ?_
        refine lv_if_ge (tgt := 71) hx hb dX2_exponentOf_53 (by decide) (fun c_2 => ?_) (fun c_2 => ?_)
        · skip
          have c_2 : ¬ ((FP.dcmp (dbD (hfD d (k1E d)) i) FP.dconst1) = some .lt) := fun h => (Int32.not_lt.mpr c_2) ((cmv_ltg _).mpr h)
          have hk8 : k2E d = i := by first | exact k2E_at ha (by unfold st1; rw [decide_eq_false (by assumption)]; rfl) (by omega) | exact (k2E_no (fun c hc => ha c (by omega))).trans (by omega)
          refine lv_iload hx hb dX2_exponentOf_71 (lv_at hl 2 rfl) ?_
          exact W.iret (v := nI (k1E d) - nI i) hx hb hr (fun t9 ht hW => ⟨_, rfl, (by rw [exE2_eq, hk8]), ht⟩) (fun _ h => by cases h) dX2_exponentOf_73 hlocks
        · skip
          have c_2 : (FP.dcmp (dbD (hfD d (k1E d)) i) FP.dconst1) = some .lt := (cmv_ltg _).mp (Int32.not_le.mp c_2)
          refine lv_dload_n hx hb dX2_exponentOf_56 rfl (lv_at hl 1 rfl) ?_
          refine lv_ldc2d hx hb hown k_constantDouble_23 dX2_exponentOf_57 ?_
          refine lv_dmul hx hb dX2_exponentOf_60 (okD_n64 (okD_mul (okD_db (okD_hf hd _) i) psG_2)) ?_
          refine lv_dstore_n (lv' := [(2, .double (FP.dmul (dbD (hfD d (k1E d)) i) 4611686018427387904)), (0, .double d), (4, .int (nI (k1E d) - nI i)), (5, .int (nI i))]) hx hb dX2_exponentOf_61 rfl hl (by decide) rfl (fun ls hl => ?_)
          refine lv_iinc (v := (nI (k1E d) - nI i) + (-1)) (lv' := [(4, .int ((nI (k1E d) - nI i) + (-1))), (2, .double (FP.dmul (dbD (hfD d (k1E d)) i) 4611686018427387904)), (0, .double d), (5, .int (nI i))]) hx hb dX2_exponentOf_62 hl (k := 2) rfl (rfl) (by decide) rfl (fun ls hl => ?_)
          refine lv_iinc (v := nI (i + 1)) (lv' := [(5, .int (nI (i + 1))), (4, .int ((nI (k1E d) - nI i) + (-1))), (2, .double (FP.dmul (dbD (hfD d (k1E d)) i) 4611686018427387904)), (0, .double d)]) hx hb dX2_exponentOf_65 hl (k := 3) rfl (nI_inc i) (by decide) rfl (fun ls hl => ?_)
          refine lv_goto (tgt := 42) hx hb dX2_exponentOf_68 (by decide) ?_
          have e_3 : (FP.dmul (dbD (hfD d (k1E d)) i) 4611686018427387904 : UInt64) = dbD (hfD d (k1E d)) (i + 1) := by first | (with_reducible rfl) | (rfl)
          have e_4 : ((nI (k1E d) - nI i) + (-1) : Int32) = nI (k1E d) - nI (i + 1) := by first | (with_reducible rfl) | (exact nI_dec _ _)
          exact ih_42 (i + 1) (by omega) (fun c hc => (Nat.lt_succ_iff_lt_or_eq.mp hc).elim (ha c) (fun e => by rw [e]; unfold st1; rw [decide_eq_true (by assumption)]; rfl)) (by omega) ls (lv_one hl 3 rfl rfl (lv_one hl 2 rfl (congrArg Value.double e_3) (lv_one hl 1 rfl (congrArg Value.int e_4) (lv_one hl 0 rfl rfl (lv_nil hl)))))
  have loop_8 : ∀ (fuel : Nat) (i : Nat), (i ≤ 200) → (∀ c, c < i → st2 d c = false) → 200 - i < fuel → ∀ (ls : Array Slot), lv_has ls 6 [(0, .double d), (2, .double (hfD d i)), (4, .int (nI i)), (5, .int (nI i))] → W p9 l9 e9 ({ frames := 0, cells := 0, slots := 0, locals := 0 }) s9 m9 ([.double d] : List Value).toArray bl9 me9 c9 s9.heap [] 0 0 (MQ bl9 (EI (exE2 d)) ([.double d] : List Value).toArray s9 0 0 noA) (F0 m9 8 ls []) := by
    intro fuel
    induction fuel with
    | zero => intro i hi ha hfuel_8; exact absurd hfuel_8 (Nat.not_lt_zero _)
    | succ fuel ih_8 =>
      intro i hi ha hfuel_8 ls hl
      refine lv_iload hx hb dX2_exponentOf_8 (lv_at hl 3 rfl) ?_
      refine lv_sipush (v := 200) hx hb dX2_exponentOf_10 (by decide) ?_
      refine lv_icmp_ge (tgt := 39) hx hb dX2_exponentOf_13 (by decide) (fun c_5 => ?_) (fun c_5 => ?_)
      · skip
        have c_5 : 200 ≤ i := (nI_leI (a := 200) (b := i) (by omega) (by omega)).mp c_5
        have hk9 : k1E d = i := by first | exact k1E_at ha (decide_eq_true (by assumption)) (by omega) | exact (k1E_no (fun c hc => ha c (by omega))).trans (by omega)
        refine lv_iconst (v := 0) hx hb dX2_exponentOf_39 (by decide) ?_
        refine lv_istore (lv' := [(5, .int 0), (0, .double d), (2, .double (hfD d i)), (4, .int (nI i))]) hx hb dX2_exponentOf_40 hl (by decide) rfl (fun ls hl => ?_)
        have e_6 : (hfD d i : UInt64) = dbD (hfD d (k1E d)) 0 := by first | (with_reducible rfl) | (rw [hk9]; rfl)
        have e_7 : (nI i : Int32) = nI (k1E d) - nI 0 := by first | (with_reducible rfl) | (rw [hk9]; exact (Int32.sub_zero _).symm)
        exact loop_42 ((200 - 0) + 1) 0 (by omega) (fun c hc => absurd hc (Nat.not_lt_zero c)) (Nat.lt_succ_self _) ls (lv_one hl 1 rfl rfl (lv_one hl 2 rfl (congrArg Value.double e_6) (lv_one hl 3 rfl (congrArg Value.int e_7) (lv_one hl 0 rfl rfl (lv_nil hl)))))
      · skip
        have c_5 : ¬ 200 ≤ i := fun h => c_5 ((nI_leI (a := 200) (b := i) (by omega) (by omega)).mpr h)
        refine lv_dload_n hx hb dX2_exponentOf_16 rfl (lv_at hl 1 rfl) ?_
        refine lv_ldc2d hx hb hown k_constantDouble_23 dX2_exponentOf_17 ?_
        refine lv_dcmp hx hb dX2_exponentOf_20 ?_
        refine lv_if_lt (tgt := 39) hx hb dX2_exponentOf_21 (by decide) (fun c_8 => ?_) (fun c_8 => ?_)
        · skip
          have c_8 : ((FP.dcmp (hfD d i) 4611686018427387904) = some .lt ∨ (FP.dcmp (hfD d i) 4611686018427387904) = none) := (cmv_ltl _).mp c_8
          have hk9 : k1E d = i := by first | exact k1E_at ha (decide_eq_true (by assumption)) (by omega) | exact (k1E_no (fun c hc => ha c (by omega))).trans (by omega)
          refine lv_iconst (v := 0) hx hb dX2_exponentOf_39 (by decide) ?_
          refine lv_istore (lv' := [(5, .int 0), (0, .double d), (2, .double (hfD d i)), (4, .int (nI i))]) hx hb dX2_exponentOf_40 hl (by decide) rfl (fun ls hl => ?_)
          have e_9 : (hfD d i : UInt64) = dbD (hfD d (k1E d)) 0 := by first | (with_reducible rfl) | (rw [hk9]; rfl)
          have e_10 : (nI i : Int32) = nI (k1E d) - nI 0 := by first | (with_reducible rfl) | (rw [hk9]; exact (Int32.sub_zero _).symm)
          exact loop_42 ((200 - 0) + 1) 0 (by omega) (fun c hc => absurd hc (Nat.not_lt_zero c)) (Nat.lt_succ_self _) ls (lv_one hl 1 rfl rfl (lv_one hl 2 rfl (congrArg Value.double e_9) (lv_one hl 3 rfl (congrArg Value.int e_10) (lv_one hl 0 rfl rfl (lv_nil hl)))))
        · skip
          have c_8 : ¬ ((FP.dcmp (hfD d i) 4611686018427387904) = some .lt ∨ (FP.dcmp (hfD d i) 4611686018427387904) = none) := fun h => c_8 ((cmv_ltl _).mpr h)
          refine lv_dload_n hx hb dX2_exponentOf_24 rfl (lv_at hl 1 rfl) ?_
          refine lv_ldc2d hx hb hown k_constantDouble_25 dX2_exponentOf_25 ?_
          refine lv_dmul hx hb dX2_exponentOf_28 (okD_n64 (okD_mul (okD_hf hd i) psG_05)) ?_
          refine lv_dstore_n (lv' := [(2, .double (FP.dmul (hfD d i) 4602678819172646912)), (0, .double d), (4, .int (nI i)), (5, .int (nI i))]) hx hb dX2_exponentOf_29 rfl hl (by decide) rfl (fun ls hl => ?_)
          refine lv_iinc (v := nI (i + 1)) (lv' := [(4, .int (nI (i + 1))), (2, .double (FP.dmul (hfD d i) 4602678819172646912)), (0, .double d), (5, .int (nI i))]) hx hb dX2_exponentOf_30 hl (k := 2) rfl (nI_inc i) (by decide) rfl (fun ls hl => ?_)
          refine lv_iinc (v := nI (i + 1)) (lv' := [(5, .int (nI (i + 1))), (4, .int (nI (i + 1))), (2, .double (FP.dmul (hfD d i) 4602678819172646912)), (0, .double d)]) hx hb dX2_exponentOf_33 hl (k := 3) rfl (nI_inc i) (by decide) rfl (fun ls hl => ?_)
          refine lv_goto (tgt := 8) hx hb dX2_exponentOf_36 (by decide) ?_
          have e_11 : (FP.dmul (hfD d i) 4602678819172646912 : UInt64) = hfD d (i + 1) := by first | (with_reducible rfl) | (rfl)
          exact ih_8 (i + 1) (by omega) (fun c hc => (Nat.lt_succ_iff_lt_or_eq.mp hc).elim (ha c) (fun e => by rw [e]; exact decide_eq_false (by assumption))) (by omega) ls (lv_one hl 3 rfl rfl (lv_one hl 2 rfl (congrArg Value.double e_11) (lv_one hl 1 rfl rfl (lv_one hl 0 rfl rfl (lv_nil hl)))))
  refine lv_dload_n hx hb dX2_exponentOf_0 rfl (lv_at hl 0 rfl) ?_
  refine lv_dstore_n (lv' := [(2, .double d), (0, .double d)]) hx hb dX2_exponentOf_1 rfl hl (by decide) rfl (fun ls hl => ?_)
  refine lv_iconst (v := 0) hx hb dX2_exponentOf_2 (by decide) ?_
  refine lv_istore (lv' := [(4, .int 0), (2, .double d), (0, .double d)]) hx hb dX2_exponentOf_3 hl (by decide) rfl (fun ls hl => ?_)
  refine lv_iconst (v := 0) hx hb dX2_exponentOf_5 (by decide) ?_
  refine lv_istore (lv' := [(5, .int 0), (4, .int 0), (2, .double d), (0, .double d)]) hx hb dX2_exponentOf_6 hl (by decide) rfl (fun ls hl => ?_)
  have e_12 : (d : UInt64) = hfD d 0 := by first | (with_reducible rfl) | (rfl)
  exact loop_8 ((200 - 0) + 1) 0 (by omega) (fun c hc => absurd hc (Nat.not_lt_zero c)) (Nat.lt_succ_self _) ls (lv_one hl 3 rfl rfl (lv_one hl 2 rfl (congrArg Value.double e_12) (lv_one hl 1 rfl rfl (lv_one hl 0 rfl rfl (lv_nil hl)))))

set_option maxHeartbeats 4000000 in
set_option maxRecDepth 100000 in
theorem m_X2_powerOfTwo (l9 : Launch) (D : va_G) (k : Nat → ClassId) (e : Int32) (he : e.toNatClampNeg ≤ 300) : Met l9 yX2_powerOfTwo wsX2_powerOfTwo ({ frames := 0, cells := 0, slots := 0, locals := 0 }) (RPc D k [.int e] ([])) (ED (p2D e.toNatClampNeg)) 0 0 noA := by
  refine rMet (y := yX2_powerOfTwo) (cc := cX2_powerOfTwo) (maxL := 4) (ret := (some .double)) [.int e] (by decide) rfl (Nat.le_of_ble_eq_true rfl) ?_
  intro p9 e9 s9 m9 bl9 me9 c9 ls hF hr hlocks hP hK hN hl
  have hl : lv_has ls 4 [(0, .int e)] := hl
  obtain ⟨hx, hb, hml, hown, hts⟩ := id hF
  have k_constantDouble_23 : (Cond.constantDouble RX2 23 (4611686018427387904)).before _ s9 = true := hts (.constantDouble RX2 23 (4611686018427387904)) (by decide +kernel)
  have loop_4 : ∀ (fuel : Nat) (i : Nat), (i ≤ e.toNatClampNeg) → e.toNatClampNeg - i < fuel → ∀ (ls : Array Slot), lv_has ls 4 [(0, .int e), (1, .double (p2D i)), (3, .int (nI i))] → W p9 l9 e9 ({ frames := 0, cells := 0, slots := 0, locals := 0 }) s9 m9 ([.int e] : List Value).toArray bl9 me9 c9 s9.heap [] 0 0 (MQ bl9 (ED (p2D e.toNatClampNeg)) ([.int e] : List Value).toArray s9 0 0 noA) (F0 m9 4 ls []) := by
    intro fuel
    induction fuel with
    | zero => intro i hi hfuel_4; exact absurd hfuel_4 (Nat.not_lt_zero _)
    | succ fuel ih_4 =>
      intro i hi hfuel_4 ls hl
      refine lv_iload_n hx hb dX2_powerOfTwo_4 rfl (lv_at hl 2 rfl) ?_
      refine lv_iload_n hx hb dX2_powerOfTwo_5 rfl (lv_at hl 0 rfl) ?_
      refine lv_icmp_ge (tgt := 21) hx hb dX2_powerOfTwo_6 (by decide) (fun c_1 => ?_) (fun c_1 => ?_)
      · skip
        refine lv_dload_n hx hb dX2_powerOfTwo_21 rfl (lv_at hl 1 rfl) ?_
        exact W.dret (v := p2D i) hx hb hr (fun t9 ht hW => ⟨_, rfl, (by rw [cl_ge (by omega) (by assumption) hi]), ht⟩) (fun _ h => by cases h) dX2_powerOfTwo_22 hlocks
      · skip
        refine lv_dload_n hx hb dX2_powerOfTwo_9 rfl (lv_at hl 1 rfl) ?_
        refine lv_ldc2d hx hb hown k_constantDouble_23 dX2_powerOfTwo_10 ?_
        refine lv_dmul hx hb dX2_powerOfTwo_13 (okD_n64 (okD_mul (psG_ok (psG_p2 (by omega))) psG_2)) ?_
        refine lv_dstore_n (lv' := [(1, .double (FP.dmul (p2D i) 4611686018427387904)), (0, .int e), (3, .int (nI i))]) hx hb dX2_powerOfTwo_14 rfl hl (by decide) rfl (fun ls hl => ?_)
        refine lv_iinc (v := nI (i + 1)) (lv' := [(3, .int (nI (i + 1))), (1, .double (FP.dmul (p2D i) 4611686018427387904)), (0, .int e)]) hx hb dX2_powerOfTwo_15 hl (k := 2) rfl (nI_inc i) (by decide) rfl (fun ls hl => ?_)
        refine lv_goto (tgt := 4) hx hb dX2_powerOfTwo_18 (by decide) ?_
        have e_2 : (FP.dmul (p2D i) 4611686018427387904 : UInt64) = p2D (i + 1) := by first | (with_reducible rfl) | (rfl)
        exact ih_4 (i + 1) (by have := cl_lt (e := e) (i := i) (by omega) (by assumption); omega) (by have := cl_lt (e := e) (i := i) (by omega) (by assumption); omega) ls (lv_one hl 2 rfl rfl (lv_one hl 1 rfl (congrArg Value.double e_2) (lv_one hl 0 rfl rfl (lv_nil hl))))
  refine lv_dconst1 hx hb dX2_powerOfTwo_0 ?_
  refine lv_dstore_n (lv' := [(1, .double FP.dconst1), (0, .int e)]) hx hb dX2_powerOfTwo_1 rfl hl (by decide) rfl (fun ls hl => ?_)
  refine lv_iconst (v := 0) hx hb dX2_powerOfTwo_2 (by decide) ?_
  refine lv_istore_n (lv' := [(3, .int 0), (1, .double FP.dconst1), (0, .int e)]) hx hb dX2_powerOfTwo_3 rfl hl (by decide) rfl (fun ls hl => ?_)
  have e_3 : (FP.dconst1 : UInt64) = p2D 0 := by first | (with_reducible rfl) | (rfl)
  exact loop_4 ((e.toNatClampNeg - 0) + 1) 0 (by omega) (Nat.lt_succ_self _) ls (lv_one hl 2 rfl rfl (lv_one hl 1 rfl (congrArg Value.double e_3) (lv_one hl 0 rfl rfl (lv_nil hl))))

set_option maxHeartbeats 4000000 in
set_option maxRecDepth 100000 in
theorem m_X2_ofDouble (l9 : Launch) (D : va_G) (k : Nat → ClassId) (d : UInt64) (hd : okD d) : Met l9 yX2_ofDouble wsX2_ofDouble ({ frames := 1, cells := 0, slots := 0, locals := 25 }) (RPc D k [.double d] ([])) (EL (bdS d)) 0 0 noA := by
  refine rMet (y := yX2_ofDouble) (cc := cX2_ofDouble) (maxL := 5) (ret := (some .long)) [.double d] (by decide) rfl (Nat.le_of_ble_eq_true rfl) ?_
  intro p9 e9 s9 m9 bl9 me9 c9 ls hF hr hlocks hP hK hN hl
  have hl : lv_has ls 5 [(0, .double d)] := hl
  obtain ⟨hx, hb, hml, hown, hts⟩ := id hF
  refine lv_dload_n hx hb dX2_ofDouble_0 rfl (lv_at hl 0 rfl) ?_
  refine vp_callSi (W.runS (As := [.double d]) (rest := []) hF (m_X2_exponentOf l9 D k d hd) (va_cwS 1 hts gX2_ofDouble_X2_exponentOf rfl rfl rfl (by decide +kernel) ⟨Nat.le_of_ble_eq_true rfl, Nat.le_of_ble_eq_true rfl⟩) (rPreS hK hN hP [] rfl) rfl rfl hl.1 rfl (lv_room (Nat.le_of_ble_eq_true rfl)) dX2_ofDouble_1 ⟨Nat.zero_le _, Nat.zero_le _⟩) (fun r_1 hr_1 => ?_)
  subst hr_1
  refine lv_istore_n (lv' := [(2, .int (exE2 d)), (0, .double d)]) hx hb dX2_ofDouble_4 rfl hl (by decide) rfl (fun ls hl => ?_)
  refine lv_dload_n hx hb dX2_ofDouble_5 rfl (lv_at hl 1 rfl) ?_
  refine lv_bipush (v := 52) hx hb dX2_ofDouble_6 (by decide) ?_
  refine lv_iload_n hx hb dX2_ofDouble_8 rfl (lv_at hl 0 rfl) ?_
  refine lv_isub hx hb dX2_ofDouble_9 ?_
  refine vp_callSd (W.runS (As := [.int (52 - (exE2 d))]) (rest := [.double d]) hF (m_X2_powerOfTwo l9 D k (52 - (exE2 d)) (Nat.le_trans exE2_cl (by decide))) (va_cwS 1 hts gX2_ofDouble_X2_powerOfTwo rfl rfl rfl (by decide +kernel) ⟨Nat.le_of_ble_eq_true rfl, Nat.le_of_ble_eq_true rfl⟩) (rPreS hK hN hP [] rfl) rfl rfl hl.1 rfl (lv_room (Nat.le_of_ble_eq_true rfl)) dX2_ofDouble_10 ⟨Nat.zero_le _, Nat.zero_le _⟩) (fun r_2 hr_2 => ?_)
  subst hr_2
  refine lv_dmul hx hb dX2_ofDouble_13 (okD_n64 (okD_mul hd (psG_p2 (Nat.le_trans exE2_cl (by decide))))) ?_
  refine lv_d2l hx hb dX2_ofDouble_14 ?_
  refine lv_lstore_n (lv' := [(3, .long (FP.d2l (FP.dmul d (p2D (52 - (exE2 d)).toNatClampNeg)))), (2, .int (exE2 d)), (0, .double d)]) hx hb dX2_ofDouble_15 rfl hl (by decide) rfl (fun ls hl => ?_)
  refine lv_iload_n hx hb dX2_ofDouble_16 rfl (lv_at hl 1 rfl) ?_
  refine lv_sipush (v := 1022) hx hb dX2_ofDouble_17 (by decide) ?_
  refine lv_iadd hx hb dX2_ofDouble_20 ?_
  refine lv_i2l hx hb dX2_ofDouble_21 rfl ?_
  refine lv_bipush (v := 52) hx hb dX2_ofDouble_22 (by decide) ?_
  refine lv_lshl (v := (((exE2 d) + 1022).toInt64) <<< (Int32.toInt64 52 &&& 63)) hx hb dX2_ofDouble_24 rfl ?_
  refine lv_lload_n hx hb dX2_ofDouble_25 rfl (lv_at hl 0 rfl) ?_
  refine lv_ladd hx hb dX2_ofDouble_26 ?_
  exact W.lret (v := ((((exE2 d) + 1022).toInt64) <<< (Int32.toInt64 52 &&& 63)) + (FP.d2l (FP.dmul d (p2D (52 - (exE2 d)).toNatClampNeg)))) hx hb hr (fun t9 ht hW => ⟨_, rfl, (by rfl), ht⟩) (fun _ h => by cases h) dX2_ofDouble_27 hlocks

set_option maxHeartbeats 4000000 in
set_option maxRecDepth 100000 in
theorem m_X2_ofFloat (l9 : Launch) (D : va_G) (k : Nat → ClassId) (x : UInt32) (hx0 : okF x) : Met l9 yX2_ofFloat wsX2_ofFloat ({ frames := 1, cells := 0, slots := 0, locals := 25 }) (RPc D k [.float x] ([])) (EI (bfS x)) 0 0 noA := by
  refine rMet (y := yX2_ofFloat) (cc := cX2_ofFloat) (maxL := 3) (ret := (some .int)) [.float x] (by decide) rfl (Nat.le_of_ble_eq_true rfl) ?_
  intro p9 e9 s9 m9 bl9 me9 c9 ls hF hr hlocks hP hK hN hl
  have hl : lv_has ls 3 [(0, .float x)] := hl
  obtain ⟨hx, hb, hml, hown, hts⟩ := id hF
  refine lv_fload_n hx hb dX2_ofFloat_0 rfl (lv_at hl 0 rfl) ?_
  refine lv_f2d hx hb dX2_ofFloat_1 (okD_n64 (okD_f2d hx0)) ?_
  refine vp_callSi (W.runS (As := [.double (FP.f2d x)]) (rest := []) hF (m_X2_exponentOf l9 D k (FP.f2d x) (okD_f2d hx0)) (va_cwS 1 hts gX2_ofFloat_X2_exponentOf rfl rfl rfl (by decide +kernel) ⟨Nat.le_of_ble_eq_true rfl, Nat.le_of_ble_eq_true rfl⟩) (rPreS hK hN hP [] rfl) rfl rfl hl.1 rfl (lv_room (Nat.le_of_ble_eq_true rfl)) dX2_ofFloat_2 ⟨Nat.zero_le _, Nat.zero_le _⟩) (fun r_1 hr_1 => ?_)
  subst hr_1
  refine lv_bipush (v := (-126)) hx hb dX2_ofFloat_5 (by decide) ?_
  refine va_mmax hx hb (hml.trans hl.1.symm) hown (hts (.methodLink RX2 13 Lib.Math.max.name) (by decide +kernel)) (hts (.static Lib.Math.max.name) (by decide +kernel)) (hts (.initialized "java/lang/Math") (by decide +kernel)) (hts (.code Lib.Math.max.name Lib.Math.max.code 2 (some .int)) (by decide +kernel)) (Nat.le_of_ble_eq_true rfl) (Nat.le_of_ble_eq_true rfl) (Nat.zero_le _) (Nat.zero_le _) dX2_ofFloat_7 ?_
  refine lv_tope (show Value.int (if (exE2 (FP.f2d x)) < (-126) then (-126) else (exE2 (FP.f2d x))) = Value.int (exF (FP.f2d x)) from congrArg Value.int (by first | rfl | (rw [exF_eq]; done) | (rw [exF_eq]; rfl) | (rw [exF_eq]; split <;> split <;> first | rfl | (rename_i a9 b9; exact absurd b9 a9) | omega))) ?_
  refine lv_istore_n (lv' := [(1, .int (exF (FP.f2d x))), (0, .float x)]) hx hb dX2_ofFloat_10 rfl hl (by decide) rfl (fun ls hl => ?_)
  refine lv_fload_n hx hb dX2_ofFloat_11 rfl (lv_at hl 1 rfl) ?_
  refine lv_f2d hx hb dX2_ofFloat_12 (okD_n64 (okD_f2d hx0)) ?_
  refine lv_bipush (v := 23) hx hb dX2_ofFloat_13 (by decide) ?_
  refine lv_iload_n hx hb dX2_ofFloat_15 rfl (lv_at hl 0 rfl) ?_
  refine lv_isub hx hb dX2_ofFloat_16 ?_
  refine vp_callSd (W.runS (As := [.int (23 - (exF (FP.f2d x)))]) (rest := [.double (FP.f2d x)]) hF (m_X2_powerOfTwo l9 D k (23 - exF (FP.f2d x)) exF_cl) (va_cwS 1 hts gX2_ofFloat_X2_powerOfTwo rfl rfl rfl (by decide +kernel) ⟨Nat.le_of_ble_eq_true rfl, Nat.le_of_ble_eq_true rfl⟩) (rPreS hK hN hP [] rfl) rfl rfl hl.1 rfl (lv_room (Nat.le_of_ble_eq_true rfl)) dX2_ofFloat_17 ⟨Nat.zero_le _, Nat.zero_le _⟩) (fun r_2 hr_2 => ?_)
  subst hr_2
  refine lv_dmul hx hb dX2_ofFloat_20 (okD_n64 (okD_mul (okD_f2d hx0) (psG_p2 exF_cl))) ?_
  refine lv_d2i hx hb dX2_ofFloat_21 ?_
  refine lv_istore_n (lv' := [(2, .int (FP.d2i (FP.dmul (FP.f2d x) (p2D (23 - exF (FP.f2d x)).toNatClampNeg)))), (1, .int (exF (FP.f2d x))), (0, .float x)]) hx hb dX2_ofFloat_22 rfl hl (by decide) rfl (fun ls hl => ?_)
  refine lv_iload_n hx hb dX2_ofFloat_23 rfl (lv_at hl 1 rfl) ?_
  refine lv_bipush (v := 126) hx hb dX2_ofFloat_24 (by decide) ?_
  refine lv_iadd hx hb dX2_ofFloat_26 ?_
  refine lv_bipush (v := 23) hx hb dX2_ofFloat_27 (by decide) ?_
  refine lv_ishl hx hb dX2_ofFloat_29 ?_
  refine lv_iload_n hx hb dX2_ofFloat_30 rfl (lv_at hl 0 rfl) ?_
  refine lv_iadd hx hb dX2_ofFloat_31 ?_
  exact W.iret (v := (((exF (FP.f2d x)) + 126) <<< (23 &&& 31)) + (FP.d2i (FP.dmul (FP.f2d x) (p2D (23 - exF (FP.f2d x)).toNatClampNeg)))) hx hb hr (fun t9 ht hW => ⟨_, rfl, (by rfl), ht⟩) (fun _ h => by cases h) dX2_ofFloat_32 hlocks

/-! Bits of floats and doubles, the class's way. -/
theorem okD_f2d {x : UInt32} (h : okF x) : okD (FP.f2d x) := by
  have hn : FP.fIsNaN x = false := by
    cases q : FP.fIsNaN x with
    | false => rfl
    | true => exact absurd ((FP.Core.fIsNaN_iff x).mp q) (okF_notNaN h)
  unfold okD
  rw [FP.f2d_core hn, FP.Core.val64_f2d]
  exact posD_round _ h
abbrev D2 : UInt64 := 4611686018427387904
abbrev D05 : UInt64 := 4602678819172646912
theorem psG_2 : psG D2 := isPs_ex64 (by decide +kernel)
theorem psG_05 : psG D05 := isPs_ex64 (by decide +kernel)
def hfD (d : UInt64) (i : Nat) : UInt64 := up (fun _ x => FP.dmul x D05) d i
theorem hfD_s (d : UInt64) (i : Nat) : hfD d (i + 1) = FP.dmul (hfD d i) D05 := rfl
def dbD (d : UInt64) (i : Nat) : UInt64 := up (fun _ x => FP.dmul x D2) d i
theorem dbD_s (d : UInt64) (i : Nat) : dbD d (i + 1) = FP.dmul (dbD d i) D2 := rfl
theorem okD_hf {d : UInt64} (h : okD d) (i : Nat) : okD (hfD d i) := by
  induction i with
  | zero => exact h
  | succ i ih => exact okD_mul ih psG_05
theorem okD_db {d : UInt64} (h : okD d) (i : Nat) : okD (dbD d i) := by
  induction i with
  | zero => exact h
  | succ i ih => exact okD_mul ih psG_2
/-- the halving stops; the doubling stops -/
def st2 (d : UInt64) (i : Nat) : Bool := decide (FP.dcmp (hfD d i) D2 = some .lt ∨ FP.dcmp (hfD d i) D2 = none)
def st1 (d : UInt64) (i : Nat) : Bool := !decide (FP.dcmp (dbD d i) FP.dconst1 = some .lt)
theorem k1E_ex (d : UInt64) : ∃ x : Nat, fsN (st2 d) 200 = x := ⟨_, rfl⟩
noncomputable def k1E (d : UInt64) : Nat := Classical.choose (k1E_ex d)
theorem k1E_eq (d : UInt64) : k1E d = fsN (st2 d) 200 := (Classical.choose_spec (k1E_ex d)).symm
theorem k2E_ex (d : UInt64) : ∃ x : Nat, fsN (st1 (hfD d (k1E d))) 200 = x := ⟨_, rfl⟩
noncomputable def k2E (d : UInt64) : Nat := Classical.choose (k2E_ex d)
theorem k2E_eq (d : UInt64) : k2E d = fsN (st1 (hfD d (k1E d))) 200 := (Classical.choose_spec (k2E_ex d)).symm
theorem exE2_ex (d : UInt64) : ∃ x : Int32, nI (k1E d) - nI (k2E d) = x := ⟨_, rfl⟩
noncomputable def exE2 (d : UInt64) : Int32 := Classical.choose (exE2_ex d)
theorem exE2_eq (d : UInt64) : exE2 d = nI (k1E d) - nI (k2E d) := (Classical.choose_spec (exE2_ex d)).symm
theorem k1E_at {d : UInt64} {i : Nat} (h : ∀ c, c < i → st2 d c = false) (hi : st2 d i = true) (q : i < 200) : k1E d = i := (k1E_eq d).trans (fsN_some h hi q)
theorem k1E_no {d : UInt64} (h : ∀ c, c < 200 → st2 d c = false) : k1E d = 200 := (k1E_eq d).trans (fsN_none h)
theorem k2E_at {d : UInt64} {i : Nat} (h : ∀ c, c < i → st1 (hfD d (k1E d)) c = false) (hi : st1 (hfD d (k1E d)) i = true) (q : i < 200) : k2E d = i := (k2E_eq d).trans (fsN_some h hi q)
theorem k2E_no {d : UInt64} (h : ∀ c, c < 200 → st1 (hfD d (k1E d)) c = false) : k2E d = 200 := (k2E_eq d).trans (fsN_none h)
theorem nI_dec (a i : Nat) : nI a - nI i + (-1) = nI a - nI (i + 1) := by
  rw [← nI_1]
  apply Int32.toBitVec_inj.mp
  simp only [Int32.toBitVec_add, Int32.toBitVec_sub]
  generalize (nI a).toBitVec = x
  generalize (nI i).toBitVec = y
  show x - y + (-1#32) = x - (y + 1#32)
  rw [BitVec.sub_eq_add_neg, BitVec.sub_eq_add_neg, BitVec.neg_add, BitVec.sub_eq_add_neg, BitVec.add_assoc]
/-- a power of two -/
def p2D (j : Nat) : UInt64 := up (fun _ x => FP.dmul x D2) FP.dconst1 j
theorem p2D_s (j : Nat) : p2D (j + 1) = FP.dmul (p2D j) D2 := rfl
def c2D (j : Nat) : UInt64 := UInt64.ofNat ((1023 + j) * 2 ^ 52)
theorem p2D_c {j : Nat} (h : j ≤ 300) : p2D j = c2D j := by
  have s : ∀ i : Nat, i < 300 → FP.dmul (c2D i) D2 = c2D (i + 1) := by decide +kernel
  induction j with
  | zero => exact (by decide +kernel : FP.dconst1 = c2D 0)
  | succ j ih => rw [p2D_s, ih (by omega)]; exact s j (by omega)
theorem psG_p2 {j : Nat} (h : j ≤ 300) : psG (p2D j) := by
  rw [p2D_c h]
  have s : ∀ i : Nat, i ≤ 300 → isPs (FP.Core.val64 (c2D i)) = true := by decide +kernel
  exact isPs_ex64 (s j h)
theorem psG_ok {y : UInt64} (h : psG y) : okD y := by
  obtain ⟨d, r, _, e⟩ := h
  unfold okD
  rw [e]
  rfl
theorem cl_lt {e : Int32} {i : Nat} (hi : i < 2 ^ 31) (h : ¬ e ≤ nI i) : i < e.toNatClampNeg := by
  have h0 : ¬ e < 0 := by
    intro q
    apply h
    have hp := nI_pos hi
    rw [Int32.le_iff_toInt_le]
    rw [Int32.lt_iff_toInt_lt] at q hp
    omega
  obtain ⟨j, hj, rfl⟩ := nI_of h0
  rw [clN hj]
  exact Nat.not_le.mp (fun q => h ((nI_leI hj hi).mpr q))
theorem cl_ge {e : Int32} {i : Nat} (hi : i < 2 ^ 31) (h : e ≤ nI i) (h2 : i ≤ e.toNatClampNeg) : i = e.toNatClampNeg := by
  by_cases q : e < 0
  · have : e.toNatClampNeg = 0 := by
      rw [Int32.lt_iff_toInt_lt, i32_0] at q
      show e.toInt.toNat = 0
      omega
    omega
  · obtain ⟨j, hj, rfl⟩ := nI_of q
    rw [clN hj] at h2 ⊢
    have := (nI_leI hj hi).mp h
    omega
theorem k1E_le (d : UInt64) : k1E d ≤ 200 := by rw [k1E_eq]; exact fsN_le _ _
theorem k2E_le (d : UInt64) : k2E d ≤ 200 := by rw [k2E_eq]; exact fsN_le _ _
theorem sub_swap (c a b : Nat) : nI c - (nI a - nI b) = nI (c + b) - nI a := by
  rw [← nI_add]
  apply Int32.toBitVec_inj.mp
  simp only [Int32.toBitVec_add, Int32.toBitVec_sub]
  generalize (nI a).toBitVec = x
  generalize (nI b).toBitVec = y
  generalize (nI c).toBitVec = z
  rw [BitVec.sub_eq_add_neg, BitVec.neg_sub, BitVec.sub_eq_add_neg]
  rw [BitVec.add_comm (-x) y, BitVec.add_assoc]
theorem sub_clN {c a b m : Nat} (ha : a ≤ 200) (hb : b ≤ 200) (hc : c ≤ 60) (hm : c + b ≤ m) : (nI c - (nI a - nI b)).toNatClampNeg ≤ m := by
  rw [sub_swap]
  have h := pk_sub_toInt (a := c + b) (b := a) (by omega) (by omega)
  show (nI (c + b) - nI a).toInt.toNat ≤ m
  rw [h]
  omega
theorem exE2_cl {d : UInt64} : (52 - exE2 d).toNatClampNeg ≤ 252 := by
  rw [exE2_eq]
  exact sub_clN (c := 52) (k1E_le d) (k2E_le d) (by decide) (by have := k2E_le d; omega)
theorem exF_ex (d : UInt64) : ∃ x : Int32, (if exE2 d < -126 then -126 else exE2 d) = x := ⟨_, rfl⟩
noncomputable def exF (d : UInt64) : Int32 := Classical.choose (exF_ex d)
theorem exF_eq (d : UInt64) : exF d = if exE2 d < -126 then -126 else exE2 d := (Classical.choose_spec (exF_ex d)).symm
theorem exF_cl {d : UInt64} : (23 - exF d).toNatClampNeg ≤ 300 := by
  rw [exF_eq]
  split
  · decide
  · rw [exE2_eq]
    exact sub_clN (c := 23) (k1E_le d) (k2E_le d) (by decide) (by have := k2E_le d; omega)
noncomputable def bdS (d : UInt64) : Int64 := ((exE2 d + 1022).toInt64 <<< ((52 : Int32).toInt64 &&& 63)) + FP.d2l (FP.dmul d (p2D (52 - exE2 d).toNatClampNeg))
noncomputable def bfS (x : UInt32) : Int32 := ((exF (FP.f2d x) + 126) <<< ((23 : Int32) &&& 31)) + FP.d2i (FP.dmul (FP.f2d x) (p2D (23 - exF (FP.f2d x)).toNatClampNeg))





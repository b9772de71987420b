/-! The model's face: racks in words, mean, ranks, levels, undo, snapshots, chains. -/
abbrev WD (D : va_G) (k : Nat → ClassId) (wc' : va_W) (x : UInt64) (A : Nat → Prop) : Array Value → State → Outcome → State → Prop := va_Qd (fun r (_ : Unit) => r = x) (WB D k A wc') A
/-- the first claim of rank x -/
def rkM (n : Nat) (f : Nat → UInt32) (w : Nat → Int32) (x : Int32) : Nat := fsN (fun c => decide (nI (cntR f w c n) = x)) n
theorem rkM_at {n : Nat} {f : Nat → UInt32} {w : Nat → Int32} {x : Int32} {i : Nat} (h : ∀ c, c < i → decide (nI (cntR f w c n) = x) = false) (hi : nI (cntR f w i n) = x) (q : i < n) : rkM n f w x = i := fsN_some h (decide_eq_true hi) q
theorem rkM_no {n : Nat} {f : Nat → UInt32} {w : Nat → Int32} {x : Int32} (h : ∀ c, c < n → decide (nI (cntR f w c n) = x) = false) : rkM n f w x = n := fsN_none h
/-- the newest row of the past -/
def bkI (pa : Nat → Int32) (ch : Nat) : Nat → Int32 := fun j => pa ((ch - 1) * 83 + j)
def bkF (fp : Nat → UInt32) (ch : Nat) : Nat → UInt32 := fun j => fp ((ch - 1) * 10 + j)
/-- the mean weight -/
def mnM (n : Nat) (w : Nat → Int32) : UInt64 := FP.ddiv (FP.i2d (adS n w ((1 : Int32) <<< (nI n &&& 31) - 1))) (FP.i2d (nI n))
def wtOk (n : Nat) (w : Nat → Int32) : Prop := ∀ c, c < n → ∃ j, 1 ≤ j ∧ j ≤ 99 ∧ w c = nI j
theorem adS_nat {n : Nat} {w : Nat → Int32} (h : wtOk n w) (x : Int32) : ∃ j, j ≤ 99 * n ∧ adS n w x = nI j := by
  induction n with
  | zero => exact ⟨0, by decide, rfl⟩
  | succ n ih =>
    obtain ⟨j, hj, e⟩ := ih (fun c hc => h c (Nat.lt_succ_of_lt hc))
    obtain ⟨i, _, hi, ei⟩ := h n (Nat.lt_succ_self n)
    rw [adS_s]
    split
    · exact ⟨j + i, by omega, by rw [e, ei, nI_add]⟩
    · exact ⟨j, by omega, e⟩
theorem okD_mn {n : Nat} {w : Nat → Int32} (h : wtOk n w) (h0 : 1 ≤ n) (hn : n ≤ 10) : okD (mnM n w) := by
  obtain ⟨j, hj, e⟩ := adS_nat h ((1 : Int32) <<< (nI n &&& 31) - 1)
  unfold mnM
  rw [e]
  exact okD_div (okD_i2d (by omega)) (psG_i2d h0 hn)












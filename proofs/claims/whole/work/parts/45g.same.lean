/-! Ranks, means. -/
theorem ah_eq (f : Nat → UInt32) (w : Nat → Int32) (o c : Nat) : ahM f w o c = ahS f w o c := by
  unfold ahM ahS
  by_cases e : FP.fcmp (f o) (f c) = some .eq
  · have g : ¬ FP.fcmp (f o) (f c) = some .gt := fun h => by rw [e] at h; cases h
    rw [if_neg g, if_pos e, if_pos e]
    by_cases q : w o = w c
    · have : ¬ w c < w o := fun h => by rw [q] at h; exact Int32.lt_irrefl h
      rw [if_neg this, if_pos q, if_pos q]
    · by_cases r : w c < w o
      · rw [if_pos r, if_neg q, decide_eq_true r]
      · rw [if_neg r, if_neg q, if_neg q, decide_eq_false r]
  · by_cases g : FP.fcmp (f o) (f c) = some .gt
    · rw [if_pos g, if_neg e, decide_eq_true g]
    · rw [if_neg g, if_neg e, if_neg e, decide_eq_false g]
theorem ahS_cg {n : Nat} {f f2 : Nat → UInt32} {w w2 : Nat → Int32} (hf : ∀ c, c < n → f2 c = f c) (hw : ∀ c, c < n → w2 c = w c) {o c : Nat} (ho : o < n) (hc : c < n) : ahS f2 w2 o c = ahS f w o c := by
  unfold ahS; rw [hf o ho, hf c hc, hw o ho, hw c hc]
theorem cnt_rk {n : Nat} {f f2 : Nat → UInt32} {w w2 : Nat → Int32} (hf : ∀ c, c < n → f2 c = f c) (hw : ∀ c, c < n → w2 c = w c) {c : Nat} (hc : c < n) (m : Nat) (hm : m ≤ n) : cntR f2 w2 c m = cntA f w c m := by
  induction m with
  | zero => exact (rfl : (0 : Nat) = 0)
  | succ m ih => rw [cntR_s, cntA_s, ih (by omega), ah_eq, ahS_cg hf hw (by omega) hc]
theorem q_rk {n : Nat} {f f2 : Nat → UInt32} {w w2 : Nat → Int32} (hf : ∀ c, c < n → f2 c = f c) (hw : ∀ c, c < n → w2 c = w c) (x : Int32) : rkM n f2 w2 x = rkF n f w x := fsN_cg (fun c hc => by rw [cnt_rk hf hw hc n (Nat.le_refl n)])
theorem q_mn {n : Nat} {w w2 : Nat → Int32} (hn : n ≤ 10) (hw : ∀ c, c < n → w2 c = w c) : mnM n w2 = mnS n w := by
  unfold mnM mnS
  rw [adS_cg hw]
  have e : (1 : Int32) <<< (nI n &&& 31) - 1 = nI (pw n - 1) := bt_all hn
  rw [e]
theorem smF_cg {n : Nat} {f f2 : Nat → UInt32} (hf : ∀ c, c < n → f2 c = f c) : smF f2 n = smF f n := up_cong rfl (fun i x hi => by rw [hf i hi])

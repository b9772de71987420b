theorem hld_cg {n : Nat} {t u : Nat → Int32} (a : Nat → Int32) (h : ∀ c, c < n → t c = u c) (x : Int32) : hld n t a x = hld n u a x := by unfold hld; rw [orS_cg h]
theorem cntP_cg {n : Nat} {t u : Nat → Int32} (a : Nat → Int32) (h : ∀ c, c < n → t c = u c) (m : Nat) : cntP n t a m = cntP n u a m := by
  induction m with
  | zero => exact (rfl : (0 : Nat) = 0)
  | succ m ih => rw [cntP_s, cntP_s, ih, hld_cg a h]

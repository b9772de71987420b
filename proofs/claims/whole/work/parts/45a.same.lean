theorem itA_cg {n : Nat} {t u : Nat → Int32} (a : Nat → Int32) (h : ∀ c, c < n → t c = u c) (r : Nat) : itA n t a r = itA n u a r := by
  induction r with
  | zero => exact (rfl : (0 : Int32) = 0)
  | succ r ih =>
    have e : dfS n t a (itA n u a r) = dfS n u a (itA n u a r) := by
      unfold dfS
      rw [orS_cg h]
    rw [itA_s n t a r, itA_s n u a r, ih, e]

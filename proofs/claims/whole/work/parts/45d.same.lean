theorem btr_cg {n : Nat} {w u : Nat → Int32} (h : ∀ c, c < n → w c = u c) (x y : Int32) : btr n w x y = btr n u x y := by unfold btr; rw [adS_cg h, adS_cg h]
theorem hvS_cg {n : Nat} {w w2 t u : Nat → Int32} (a : Nat → Int32) (hw : ∀ c, c < n → w c = w2 c) (h : ∀ c, c < n → t c = u c) (m : Nat) : hvS n w t a m = hvS n w2 u a m := by
  induction m with
  | zero => exact (rfl : (0 : Int32) = 0)
  | succ m ih => rw [hvS_s, hvS_s, ih, hld_cg a h, btr_cg hw]

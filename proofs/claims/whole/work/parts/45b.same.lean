theorem accS_cg {n : Nat} {t u : Nat → Int32} (a : Nat → Int32) (h : ∀ c, c < n → t c = u c) : accS n t a = accS n u a := by
  unfold accS
  exact itA_cg a h (n + 1)

/-! The two sides say the same: the model's rows of attacks, ranks, means, lines. -/
theorem orS_cg {n : Nat} {t u : Nat → Int32} (h : ∀ c, c < n → t c = u c) (x : Int32) : orS n t x = orS n u x := by
  induction n with
  | zero => rfl
  | succ n ih => rw [orS_s, orS_s, ih (fun c hc => h c (Nat.lt_succ_of_lt hc)), h n (Nat.lt_succ_self n)]
theorem adS_cg {n : Nat} {t u : Nat → Int32} (h : ∀ c, c < n → t c = u c) (x : Int32) : adS n t x = adS n u x := by
  induction n with
  | zero => rfl
  | succ n ih => rw [adS_s, adS_s, ih (fun c hc => h c (Nat.lt_succ_of_lt hc)), h n (Nat.lt_succ_self n)]
theorem Sym.cg {n : Nat} {t u a : Nat → Int32} (hs : Sym n t a) (h : ∀ c, c < n → u c = t c) : Sym n u a :=
  ⟨fun i j hi hj => by rw [h i hi]; exact hs.1 i j hi hj, fun i j hi hj => by rw [h i hi]; exact hs.2.1 i j hi hj, hs.2.2⟩

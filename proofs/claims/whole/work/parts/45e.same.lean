theorem srS_cg {n : Nat} {t u : Nat → Int32} (h : ∀ c, c < n → t c = u c) (c m : Nat) : srS n t c m = srS n u c m := by
  induction m with
  | zero => exact (rfl : (bt c, bt c) = (bt c, bt c))
  | succ m ih => exact Prod.ext (by rw [srS_1, srS_1, ih, orS_cg h]) (by rw [srS_2, srS_2, ih, orS_cg h])
theorem arS_cg {n : Nat} {t u : Nat → Int32} (a : Nat → Int32) (h : ∀ c, c < n → t c = u c) (c : Nat) : arS n t a c = arS n u a c := by unfold arS; rw [srS_cg h]
theorem cirS_cg {n : Nat} {t u : Nat → Int32} (a : Nat → Int32) (h : ∀ c, c < n → t c = u c) (m : Nat) : cirS n t a m = cirS n u a m := by
  induction m with
  | zero => exact (rfl : ((0 : Nat), (0 : Int32)) = (0, 0))
  | succ m ih => rw [cirS_s, cirS_s, ih, arS_cg a h]
theorem Wk_cg {n : Nat} {t u : Nat → Int32} (h : ∀ c, c < n → t c = u c) (k i j : Nat) : Wk n t k i j = Wk n u k i j := by
  induction k generalizing j with
  | zero => exact (rfl : (if i = j then 1 else 0) = (if i = j then 1 else 0))
  | succ k ih => rw [Wk_s, Wk_s]; exact sm_cong (fun m hm => by rw [ih]; unfold aM; rw [h m hm])

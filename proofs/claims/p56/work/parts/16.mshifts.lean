/-! The model's shifts. -/
theorem ovM_t {n : Nat} {s : MS} (h : ovM n s = true) : (dcM n s).1 = scV s.1 s.2.2.2 ∧ (dcM n s).2.2.2 = min (s.2.2.2 + 1) 16 := ⟨if_pos h, if_pos h⟩
theorem ovM_f {n : Nat} {s : MS} (h : ovM n s = false) : (dcM n s).1 = s.1 ∧ (dcM n s).2.2.2 = s.2.2.2 := ⟨if_neg (fun q => Bool.noConfusion (Eq.trans h.symm q)), if_neg (fun q => Bool.noConfusion (Eq.trans h.symm q))⟩
theorem rg1_of {x : Int32} {m : Nat} (hm : m < 2 ^ 31) (h : rg 1 x (nI m) = true) : ∃ j, j ≤ m ∧ x = nI j := by
  have h2 := of_decide_eq_true h
  refine am_nat hm (fun q => ?_) h2.2
  have := h2.1
  rw [Int32.le_iff_toInt_le] at this
  rw [Int32.lt_iff_toInt_lt] at q
  omega




/-! The model: accepting, positions, the heaviest. -/
theorem bt_pw {n : Nat} (h : n ≤ 10) : ((1 : Int32) <<< (nI n &&& 31)) = nI (pw n) := by
  have : ∀ n : Nat, n ≤ 10 → ((1 : Int32) <<< (nI n &&& 31)) = nI (pw n) := by decide +kernel
  exact this n h
theorem orc (x y : Int32) : x ||| y = y ||| x := by
  apply tb_ext
  intro c _
  rw [tb_or, tb_or, Bool.or_comm]
def cntM (n : Nat) (t : Nat → Int32) (m : Nat) : Nat := up (fun i acc => if hldM n t (nI i) then acc + 1 else acc) 0 m
theorem cntM_s (n : Nat) (t : Nat → Int32) (m : Nat) : cntM n t (m + 1) = if hldM n t (nI m) then cntM n t m + 1 else cntM n t m := rfl
theorem cntM_le (n : Nat) (t : Nat → Int32) (m : Nat) : cntM n t m ≤ m := by
  induction m with
  | zero => exact Nat.le_refl _
  | succ m ih => rw [cntM_s]; split <;> omega
/-- the model passes over a set -/
def skM (n : Nat) (w t : Nat → Int32) (x y : Int32) : Bool := decide (adS n w x - adS n w y < 0) || (decide (adS n w x - adS n w y = 0) && decide (x &&& (x ^^^ y) &&& -(x ^^^ y) = 0)) || !hldM n t x
def hvM (n : Nat) (w t : Nat → Int32) (m : Nat) : Int32 := up (fun i acc => if skM n w t (nI (i + 1)) acc then acc else nI (i + 1)) 0 m
theorem hvM_s (n : Nat) (w t : Nat → Int32) (m : Nat) : hvM n w t (m + 1) = if skM n w t (nI (m + 1)) (hvM n w t m) then hvM n w t m else nI (m + 1) := rfl




section
/-! What the start must have: a state that finds no class of rows of stack trace elements does not meet the Statement's premises. -/
/-- a word of a Cond by its path -/
def pthC : List Bool → Cond → Cond
  | [], c => c
  | b :: p, .and x y => pthC p (match b with | true => y | false => x)
  | _ :: _, c => c
theorem pth_before {args : Array Value} {s : State} (p : List Bool) : ∀ T : Cond, T.before args s = true → (pthC p T).before args s = true := by
  induction p with
  | nil => exact fun T h => h
  | cons b p ih =>
    intro T h
    cases T with
    | and x y =>
      rw [Cond.before_and, Bool.and_eq_true] at h
      cases b with
      | true => exact ih y h.2
      | false => exact ih x h.1
    | _ => exact h
theorem ncast_none {args : Array Value} {s : State} {a b : String} (h : s.vm.findClass a = none) : (Cond.not (Cond.castable a b)).before args s = false := by
  unfold Cond.before Cond.holds
  simp [Cond.value, h]
theorem n5_row : pthC [true, false, false, false, false, false, false, false] narrow_1_5 = Cond.not (Cond.castable "[Ljava/lang/StackTraceElement;" "java/lang/StringBuffer") := rfl
/-- the fifth part of the premises -/
theorem n5_no {args : Array Value} {s : State} (h : s.vm.findClass "[Ljava/lang/StackTraceElement;" = none) : narrow_1_5.before args s = false := by
  cases e : narrow_1_5.before args s with
  | false => rfl
  | true =>
    have h2 := pth_before [true, false, false, false, false, false, false, false] narrow_1_5 e
    rw [n5_row, ncast_none h] at h2
    exact Bool.noConfusion h2
theorem n_row : pthC [true, false, true] narrow_1 = narrow_1_5 := rfl
/-- and all of them -/
theorem n_no {args : Array Value} {s : State} (h : s.vm.findClass "[Ljava/lang/StackTraceElement;" = none) : narrow_1.before args s = false := by
  cases e : narrow_1.before args s with
  | false => rfl
  | true =>
    have h2 := pth_before [true, false, true] narrow_1 e
    rw [n_row, n5_no h] at h2
    exact Bool.noConfusion h2
end

/-! The model: reads of the graph of claims. -/
/-- the model's rows of weights, layers, attacks -/
def vw (v : Nat → Int32) (c : Nat) : Int32 := v (5 + 3 * c + 0)
def vl (v : Nat → Int32) (c : Nat) : Int32 := v (5 + 3 * c + 1)
def vt (v : Nat → Int32) (c : Nat) : Int32 := v (5 + 3 * c + 2)
/-- p holds of all below n -/
def allb (p : Nat → Bool) (n : Nat) : Bool := up (fun c x => x && p c) true n
theorem allb_s (p : Nat → Bool) (n : Nat) : allb p (n + 1) = (allb p n && p n) := rfl
theorem allb_0 (p : Nat → Bool) : allb p 0 = true := rfl
theorem allb_iff {p : Nat → Bool} {n : Nat} : allb p n = true ↔ ∀ c, c < n → p c = true := by
  induction n with
  | zero => exact ⟨fun _ c hc => absurd hc (Nat.not_lt_zero c), fun _ => rfl⟩
  | succ n ih =>
    rw [allb_s, Bool.and_eq_true, ih]
    constructor
    · intro h c hc
      rcases Nat.lt_succ_iff_lt_or_eq.mp hc with q | q
      · exact h.1 c q
      · rw [q]; exact h.2
    · intro h
      exact ⟨fun c hc => h c (Nat.lt_succ_of_lt hc), h n (Nat.lt_succ_self n)⟩
theorem allb_no {p : Nat → Bool} {n c : Nat} (hc : c < n) (h : p c = false) : allb p n = false := by
  cases q : allb p n with
  | false => rfl
  | true => rw [allb_iff.mp q c hc] at h; cases h
theorem allb_t {p : Nat → Bool} {i : Nat} (h : allb p i = true) (h2 : p i = true) : allb p (i + 1) = true := by rw [allb_s, h, h2]; rfl
/-- j does not attack c, or is attacked by x -/
def pD (n : Nat) (t : Nat → Int32) (x : Int32) (c j : Nat) : Bool := !(tb (t j) c && !tb (orS n t x) j)
/-- the set x defends the claim c, by the rows t -/
def dfc (n : Nat) (t : Nat → Int32) (x : Int32) (c : Nat) : Bool := allb (pD n t x c) n
/-- the first m claims that x defends -/
def dfM (n m : Nat) (t : Nat → Int32) (x : Int32) : Int32 := up (fun c acc => acc ||| (if dfc n t x c then bt c else 0)) x m
theorem dfM_s (n m : Nat) (t : Nat → Int32) (x : Int32) : dfM n (m + 1) t x = dfM n m t x ||| (if dfc n t x m then bt m else 0) := rfl
/-- rounds of acceptance by the rows t alone -/
def itM (n : Nat) (t : Nat → Int32) (r : Nat) : Int32 := up (fun _ x => dfM n n t x) 0 r
theorem itM_s (n : Nat) (t : Nat → Int32) (r : Nat) : itM n t (r + 1) = dfM n n t (itM n t r) := rfl
/-- c is not of x, or x defends it -/
def pH (n : Nat) (t : Nat → Int32) (x : Int32) (c : Nat) : Bool := !(tb x c && !dfc n t x c)
/-- a position, by the rows t alone -/
def hldM (n : Nat) (t : Nat → Int32) (x : Int32) : Bool := decide (orS n t x &&& x = 0) && allb (pH n t x) n
theorem isC_in {n : Nat} (hn : n ≤ 10) (x : Int32) : rg 0 x (nI n - 1) = inC n x := by
  unfold rg inC
  have e : (x ≤ nI n - 1) ↔ ¬ nI n ≤ x := by
    rw [Int32.le_iff_toInt_le, Int32.le_iff_toInt_le]
    have h1 : (nI n).toInt = (n : Int) := nI_toInt (by omega)
    have h2 : (nI n - 1).toInt = (n : Int) - 1 := by
      have := pk_sub_toInt (a := n) (b := 1) (by omega) (by omega)
      exact this
    rw [h1, h2]
    omega
  simp only [e]










theorem placeholder06 : True := trivial
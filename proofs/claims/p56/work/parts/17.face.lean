/-! The model's face. -/
def s83 (pa : Nat → Int32) (m : Nat) : Nat → Int32 := fun j => if j < m then pa (j + 83) else pa j
theorem s83_0 (pa : Nat → Int32) : pa = s83 pa 0 := by funext j; simp [s83]
theorem s83_u (pa : Nat → Int32) (m : Nat) : upd (s83 pa m) m (s83 pa m (m + 83)) = s83 pa (m + 1) := by
  funext j
  unfold upd s83
  by_cases h : j = m
  · subst h; rw [if_pos rfl, if_neg (by omega), if_pos (by omega)]
  · by_cases h2 : j < m
    · rw [if_neg h, if_pos h2, if_pos (by omega)]
    · rw [if_neg h, if_neg h2, if_neg (by omega)]
def s10 (fp : Nat → UInt32) (m : Nat) : Nat → UInt32 := fun j => if j < m then fp (j + 10) else fp j
theorem s10_0 (fp : Nat → UInt32) : fp = s10 fp 0 := by funext j; simp [s10]
theorem s10_u (fp : Nat → UInt32) (m : Nat) : vf_upd (s10 fp m) m (s10 fp m (m + 10)) = s10 fp (m + 1) := by
  funext j
  unfold vf_upd s10
  by_cases h : j = m
  · subst h; rw [if_pos rfl, if_neg (by omega), if_pos (by omega)]
  · by_cases h2 : j < m
    · rw [if_neg h, if_pos h2, if_pos (by omega)]
    · rw [if_neg h, if_neg h2, if_neg (by omega)]
/-- g laid into f at b, m of it -/
def pt {α : Type} (f : Nat → α) (b : Nat) (g : Nat → α) (m : Nat) : Nat → α := fun j => if b ≤ j ∧ j < b + m then g (j - b) else f j
theorem pt_0 {α : Type} (f : Nat → α) (b : Nat) (g : Nat → α) : f = pt f b g 0 := by
  funext j
  unfold pt
  rw [if_neg (by omega)]
theorem pt_u (f : Nat → Int32) (b : Nat) (g : Nat → Int32) (m : Nat) : upd (pt f b g m) (b + m) (g m) = pt f b g (m + 1) := by
  funext j
  unfold upd pt
  by_cases h : j = b + m
  · subst h
    rw [if_pos rfl, if_pos (by omega), show b + m - b = m by omega]
  · by_cases h2 : b ≤ j ∧ j < b + m
    · rw [if_neg h, if_pos h2, if_pos (by omega)]
    · rw [if_neg h, if_neg h2, if_neg (by omega)]
theorem pt_v (f : Nat → UInt32) (b : Nat) (g : Nat → UInt32) (m : Nat) : vf_upd (pt f b g m) (b + m) (g m) = pt f b g (m + 1) := by
  funext j
  unfold vf_upd pt
  by_cases h : j = b + m
  · subst h
    rw [if_pos rfl, if_pos (by omega), show b + m - b = m by omega]
  · by_cases h2 : b ≤ j ∧ j < b + m
    · rw [if_neg h, if_pos h2, if_pos (by omega)]
    · rw [if_neg h, if_neg h2, if_neg (by omega)]
def c1E (ch : Nat) : Nat := if ch = 8 then 7 else ch
def chE (ch : Nat) : Nat := c1E ch + 1
def paE (ch : Nat) (pa be : Nat → Int32) : Nat → Int32 := pt (if ch = 8 then s83 pa 581 else pa) (c1E ch * 83) be 83
def fpE (ch : Nat) (fp fb : Nat → UInt32) : Nat → UInt32 := pt (if ch = 8 then s10 fp 70 else fp) (c1E ch * 10) fb 10
theorem opExc_ok {v : Nat → Int32} {fl : Nat → UInt32} {n nl : Nat} {x am : Int32} (h : (opExc v fl n nl 0 x am).2.1 = 0) : inC n x = true := by
  cases q : inC n x with
  | true => rfl
  | false =>
    unfold opExc at h
    rw [if_neg (by rw [q]; decide)] at h
    exact absurd (show (1 : Int32) = 0 from h) (by decide)
/-- the bits of a set go one by one -/
def kcS (x : Int32) (m : Nat) : Int32 := up (fun _ y => y &&& (y - 1)) x m
theorem kc_step {x : Int32} (h : lowB x) (h0 : ¬ x = 0) : lowB (x &&& (x - 1)) ∧ cn 10 (x &&& (x - 1)) + 1 = cn 10 x := by
  refine ⟨low_and h _, ?_⟩
  obtain ⟨j, hj, rfl⟩ := low_nat h
  have : ∀ j : Nat, j < 1024 → nI j = 0 ∨ cn 10 (nI j &&& (nI j - 1)) + 1 = cn 10 (nI j) := by decide +kernel
  rcases this j hj with q | q
  · exact absurd q h0
  · exact q
theorem cn_0 {x : Int32} (h : x = 0) : cn 10 x = 0 := by subst h; decide
theorem low_or {x y : Int32} (hx : lowB x) (hy : lowB y) : lowB (x ||| y) := fun j hj => by rw [tb_or, hx j hj, hy j hj]; rfl
theorem low_accM {n : Nat} (hn : n ≤ 10) (t : Nat → Int32) : lowB (accM n t) := by
  intro j hj
  cases q : tb (accM n t) j with
  | false => rfl
  | true =>
    have := itM_bits hn t (n + 1) q
    omega
/-- the rows t are sets of the first ten claims -/
def lowR (n : Nat) (t : Nat → Int32) : Prop := ∀ c, c < n → lowB (t c)
theorem low_orS {n : Nat} {t : Nat → Int32} (h : lowR n t) (x : Int32) : lowB (orS n t x) := by
  intro j hj
  cases q : tb (orS n t x) j with
  | false => rfl
  | true =>
    obtain ⟨i, hi, _, h2⟩ := (tb_orS n t x j).mp q
    rw [h i hi j hj] at h2
    cases h2
theorem low_crM (f : Nat → Int32) (j : Nat) {m : Nat} (hm : m ≤ 10) : lowB (crM f j m) := by
  intro i hi
  induction m with
  | zero => exact tb_0 i
  | succ m ih =>
    rw [crM_s, tb_or, ih (by omega)]
    split
    · rw [tb_bt (by omega)]
      simp
      omega
    · rw [tb_0]; rfl
/-- a set as the model's isPosition tells one -/
def inPM (n : Nat) (x : Int32) : Bool := if x < 0 then false else decide ((x >>> (nI n &&& 31)) = 0)

































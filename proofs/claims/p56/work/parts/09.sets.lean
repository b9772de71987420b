/-! Facts of sets of claims: the class's and the model's ways agree. -/
theorem tb_xor (x y : Int32) (c : Nat) : tb (x ^^^ y) c = (tb x c ^^ tb y c) := by simp [tb]
theorem tb_m1 {c : Nat} (h : c < 32) : tb (-1) c = true := by
  have : ∀ c : Nat, c < 32 → tb (-1) c = true := by decide +kernel
  exact this c h
theorem tb_not (x : Int32) {c : Nat} (h : c < 32) : tb (x ^^^ (-1)) c = !tb x c := by
  rw [tb_xor, tb_m1 h]; cases tb x c <;> rfl
theorem sub_iff (x h : Int32) : x &&& (h ^^^ (-1)) = 0 ↔ ∀ c, c < 32 → tb x c = true → tb h c = true := by
  constructor
  · intro e c hc hx
    have := congrArg (fun z => tb z c) e
    simp only [tb_and, tb_not h hc, tb_0, hx, Bool.true_and, Bool.not_eq_false'] at this
    exact this
  · intro e
    apply tb_ext
    intro c hc
    rw [tb_and, tb_not h hc, tb_0]
    cases hx : tb x c with
    | false => rfl
    | true => rw [e c hc hx]; rfl
theorem tb_orS (n : Nat) (t : Nat → Int32) (x : Int32) (c : Nat) : tb (orS n t x) c = true ↔ ∃ i, i < n ∧ tb x i = true ∧ tb (t i) c = true := by
  induction n with
  | zero =>
    constructor
    · intro h; rw [show orS 0 t x = 0 from rfl, tb_0] at h; cases h
    · rintro ⟨i, hi, _⟩; exact absurd hi (Nat.not_lt_zero i)
  | succ n ih =>
    rw [orS_s]
    constructor
    · intro h
      split at h
      · rename_i hx
        rw [tb_or, Bool.or_eq_true, ih] at h
        rcases h with ⟨i, h1, h2⟩ | h
        · exact ⟨i, Nat.lt_succ_of_lt h1, h2⟩
        · exact ⟨n, Nat.lt_succ_self n, hx, h⟩
      · obtain ⟨i, h1, h2⟩ := ih.mp h
        exact ⟨i, Nat.lt_succ_of_lt h1, h2⟩
    · rintro ⟨i, hi, hx, ht⟩
      rcases Nat.lt_succ_iff_lt_or_eq.mp hi with q | q
      · have h2 := ih.mpr ⟨i, q, hx, ht⟩
        split
        · rw [tb_or, h2]; rfl
        · exact h2
      · subst q
        rw [if_pos hx, tb_or, ht, Bool.or_true]
theorem tb_dfm {m : Nat} (hm : m ≤ 32) (a : Nat → Int32) (h : Int32) (c : Nat) : tb (dfm m a h) c = (decide (c < m) && decide (a c &&& (h ^^^ (-1)) = 0)) := by
  induction m with
  | zero => simp [show dfm 0 a h = 0 from rfl, tb_0]
  | succ m ih =>
    have ih := ih (by omega)
    rw [dfm_s]
    split
    · rename_i e
      rw [tb_or, ih, tb_bt (by omega)]
      by_cases q : c = m
      · subst q; rw [decide_eq_true e]; simp
      · have : (c < m + 1) ↔ c < m := by omega
        simp [this, Ne.symm q]
    · rename_i e
      rw [ih]
      by_cases q : c = m
      · subst q; rw [decide_eq_false e]; simp
      · have : (c < m + 1) ↔ c < m := by omega
        simp [this]
theorem tb_dfM {n m : Nat} (hm : m ≤ 32) (t : Nat → Int32) (x : Int32) (c : Nat) : tb (dfM n m t x) c = (tb x c || (decide (c < m) && dfc n t x c)) := by
  induction m with
  | zero => simp [show dfM n 0 t x = x from rfl]
  | succ m ih =>
    have ih := ih (by omega)
    rw [dfM_s, tb_or, ih]
    by_cases q : c = m
    · subst q
      cases dfc n t x c <;> simp [tb_0, tb_bt (show c < 32 by omega)]
    · have : (c < m + 1) ↔ c < m := by omega
      cases dfc n t x m <;> simp [this, tb_0, tb_bt (show m < 32 by omega), Ne.symm q]
/-- t and a say the same from both ends, of n claims -/
def Sym (n : Nat) (t a : Nat → Int32) : Prop := (∀ i j, i < n → j < n → tb (t i) j = tb (a j) i) ∧ (∀ i j, i < n → n ≤ j → tb (t i) j = false) ∧ ∀ i j, i < n → n ≤ j → tb (a i) j = false
theorem dfc_iff {n : Nat} {t a : Nat → Int32} (hn : n ≤ 10) (hs : Sym n t a) (x : Int32) {c : Nat} (hc : c < n) : dfc n t x c = decide (a c &&& (orS n t x ^^^ (-1)) = 0) := by
  have e : dfc n t x c = true ↔ a c &&& (orS n t x ^^^ (-1)) = 0 := by
    rw [sub_iff]
    unfold dfc
    rw [allb_iff]
    constructor
    · intro h j hj ha
      by_cases q : j < n
      · have h1 := h j q
        unfold pD at h1
        rw [hs.1 j c q hc, ha] at h1
        simpa using h1
      · rw [hs.2.2 c j hc (by omega)] at ha; cases ha
    · intro h j hj
      have h1 := h j (by omega)
      unfold pD
      rw [← hs.1 j c hj hc] at h1
      cases ht : tb (t j) c with
      | false => simp
      | true => simp [h1 ht]
  cases q : dfc n t x c with
  | true => rw [decide_eq_true (e.mp q)]
  | false =>
    have : ¬ (a c &&& (orS n t x ^^^ (-1)) = 0) := fun h => by rw [e.mpr h] at q; cases q
    rw [decide_eq_false this]
theorem dfM_dfS {n : Nat} {t a : Nat → Int32} (hn : n ≤ 10) (hs : Sym n t a) (x : Int32) : dfM n n t x = x ||| dfS n t a x := by
  apply tb_ext
  intro c _
  rw [tb_dfM (by omega), tb_or]
  unfold dfS
  rw [tb_dfm (by omega)]
  by_cases q : c < n
  · rw [dfc_iff hn hs x q]
  · simp [q]
theorem itM_itA {n : Nat} {t a : Nat → Int32} (hn : n ≤ 10) (hs : Sym n t a) (r : Nat) : itM n t r = itA n t a r := by
  induction r with
  | zero => rfl
  | succ r ih => rw [itM_s, itA_s, dfM_dfS hn hs, ih]
theorem orS_sub (n : Nat) (a : Nat → Int32) (x z : Int32) : orS n a x &&& (z ^^^ (-1)) = 0 ↔ ∀ i, i < n → tb x i = true → a i &&& (z ^^^ (-1)) = 0 := by
  rw [sub_iff]
  constructor
  · intro h i hi hx
    rw [sub_iff]
    intro c hc ha
    exact h c hc ((tb_orS n a x c).mpr ⟨i, hi, hx, ha⟩)
  · intro h c hc ho
    obtain ⟨i, hi, hx, ha⟩ := (tb_orS n a x c).mp ho
    exact (sub_iff _ _).mp (h i hi hx) c hc ha
theorem hldM_hld {n : Nat} {t a : Nat → Int32} (hn : n ≤ 10) (hs : Sym n t a) (x : Int32) : hldM n t x = hld n t a x := by
  unfold hldM hld
  congr 1
  have e : allb (pH n t x) n = true ↔ orS n a x &&& (orS n t x ^^^ (-1)) = 0 := by
    rw [allb_iff, orS_sub]
    constructor
    · intro h i hi hx
      have h1 := h i hi
      unfold pH at h1
      rw [dfc_iff hn hs x hi, hx] at h1
      simpa using h1
    · intro h i hi
      unfold pH
      rw [dfc_iff hn hs x hi]
      cases hx : tb x i with
      | false => simp
      | true => rw [decide_eq_true (h i hi hx)]; rfl
  cases q : allb (pH n t x) n with
  | true => rw [decide_eq_true (e.mp q)]
  | false =>
    have : ¬ (orS n a x &&& (orS n t x ^^^ (-1)) = 0) := fun h => by rw [e.mpr h] at q; cases q
    rw [decide_eq_false this]
/-- how many of the first n bits are set -/
def cn (n : Nat) (x : Int32) : Nat := up (fun c k => k + (if tb x c then 1 else 0)) 0 n
theorem cn_s (n : Nat) (x : Int32) : cn (n + 1) x = cn n x + (if tb x n then 1 else 0) := rfl
theorem cn_le (n : Nat) (x : Int32) : cn n x ≤ n := by
  induction n with
  | zero => exact Nat.le_refl _
  | succ n ih => rw [cn_s]; split <;> omega
theorem cn_mono {n : Nat} {x y : Int32} (h : ∀ c, c < n → tb x c = true → tb y c = true) : cn n x ≤ cn n y := by
  induction n with
  | zero => exact Nat.le_refl _
  | succ n ih =>
    have ih := ih (fun c hc => h c (Nat.lt_succ_of_lt hc))
    rw [cn_s, cn_s]
    cases hx : tb x n with
    | false => simp; omega
    | true => rw [h n (Nat.lt_succ_self n) hx]; simp; omega
theorem cn_lt {n : Nat} {x y : Int32} (h : ∀ c, c < n → tb x c = true → tb y c = true) {d : Nat} (hd : d < n) (h1 : tb x d = false) (h2 : tb y d = true) : cn n x < cn n y := by
  induction n with
  | zero => exact absurd hd (Nat.not_lt_zero d)
  | succ n ih =>
    have hm : cn n x ≤ cn n y := cn_mono (fun c hc => h c (Nat.lt_succ_of_lt hc))
    rw [cn_s, cn_s]
    rcases Nat.lt_succ_iff_lt_or_eq.mp hd with q | q
    · have := ih (fun c hc => h c (Nat.lt_succ_of_lt hc)) q
      cases hx : tb x n with
      | false => simp; omega
      | true => rw [h n (Nat.lt_succ_self n) hx]; simp; omega
    · subst q
      rw [h1, h2]; simp; omega
theorem itM_bits {n : Nat} (hn : n ≤ 10) (t : Nat → Int32) (r : Nat) {c : Nat} (h : tb (itM n t r) c = true) : c < n := by
  induction r with
  | zero => rw [show itM n t 0 = 0 from rfl, tb_0] at h; cases h
  | succ r ih =>
    rw [itM_s, tb_dfM (by omega), Bool.or_eq_true] at h
    rcases h with h | h
    · exact ih h
    · simp only [Bool.and_eq_true, decide_eq_true_eq] at h
      exact h.1
theorem itM_up {n : Nat} (hn : n ≤ 10) (t : Nat → Int32) (r : Nat) {c : Nat} (h : tb (itM n t r) c = true) : tb (itM n t (r + 1)) c = true := by
  rw [itM_s, tb_dfM (by omega), h]; rfl
theorem itM_fix {n : Nat} {t : Nat → Int32} {r : Nat} (h : itM n t (r + 1) = itM n t r) : ∀ d, itM n t (r + d) = itM n t r
  | 0 => rfl
  | d + 1 => by
    have e := itM_fix h d
    rw [show r + (d + 1) = (r + d) + 1 from rfl, itM_s, e, ← itM_s]
    exact h
theorem itM_grow {n : Nat} (hn : n ≤ 10) (t : Nat → Int32) : ∀ r, itM n t (r + 1) = itM n t r ∨ r + 1 ≤ cn n (itM n t (r + 1)) := by
  have step : ∀ r, itM n t (r + 1) = itM n t r ∨ cn n (itM n t r) < cn n (itM n t (r + 1)) := by
    intro r
    by_cases e : ∀ c, c < n → tb (itM n t (r + 1)) c = true → tb (itM n t r) c = true
    · left
      apply tb_ext
      intro c _
      cases h : tb (itM n t r) c with
      | true => exact itM_up hn t r h
      | false =>
        cases h2 : tb (itM n t (r + 1)) c with
        | false => rfl
        | true => rw [e c (itM_bits hn t (r + 1) h2) h2] at h; cases h
    · right
      have : ∃ d, d < n ∧ tb (itM n t (r + 1)) d = true ∧ tb (itM n t r) d = false := by
        apply Classical.byContradiction
        intro q
        apply e
        intro c hc h
        cases h2 : tb (itM n t r) c with
        | true => rfl
        | false => exact absurd ⟨c, hc, h, h2⟩ q
      obtain ⟨d, hd, h1, h2⟩ := this
      exact cn_lt (fun c _ h => itM_up hn t r h) hd h2 h1
  intro r
  induction r with
  | zero =>
    rcases step 0 with h | h
    · exact Or.inl h
    · exact Or.inr (by omega)
  | succ r ih =>
    rcases ih with h | h
    · left
      rw [itM_s, h, ← itM_s, h]
    · rcases step (r + 1) with h2 | h2
      · exact Or.inl h2
      · exact Or.inr (by omega)
theorem itM_stop {n : Nat} (hn : n ≤ 10) (t : Nat → Int32) : itM n t (n + 1) = itM n t n := by
  rcases itM_grow hn t n with h | h
  · exact h
  · have := cn_le n (itM n t (n + 1))
    omega
/-- the accepted claims, by the rows t alone -/
def accM (n : Nat) (t : Nat → Int32) : Int32 := itM n t (n + 1)
theorem accM_fix {n : Nat} {t : Nat → Int32} {r : Nat} (hr : r ≤ n + 1) (h : itM n t (r + 1) = itM n t r) : itM n t r = accM n t := by
  have := itM_fix h (n + 1 - r)
  rw [show r + (n + 1 - r) = n + 1 by omega] at this
  exact this.symm
theorem accM_accS {n : Nat} {t a : Nat → Int32} (hn : n ≤ 10) (hs : Sym n t a) : accM n t = accS n t a := itM_itA hn hs (n + 1)
/-- what stands when the model's rounds begin anew -/
def wasM (n : Nat) (t : Nat → Int32) (r : Nat) (w : Int32) : Prop := (r = 0 ∧ w = -1) ∨ ∃ u, r = u + 1 ∧ w = itM n t u
theorem wasM_0 (n : Nat) (t : Nat → Int32) : wasM n t 0 (-1) := Or.inl ⟨rfl, rfl⟩
theorem wasM_s (n : Nat) (t : Nat → Int32) (r : Nat) : wasM n t (r + 1) (itM n t r) := Or.inr ⟨r, rfl, rfl⟩
theorem wasM_eq {n : Nat} {t : Nat → Int32} {r : Nat} {w : Int32} (hr : r ≤ n + 1) (h : wasM n t r w) (e : itM n t r = w) : itM n t r = accM n t := by
  rcases h with ⟨rfl, rfl⟩ | ⟨u, rfl, rfl⟩
  · rw [show itM n t 0 = 0 from rfl] at e
    exact absurd e (by decide)
  · rw [e]
    exact accM_fix (by omega) e
theorem wasM_ne {n : Nat} {t : Nat → Int32} {r : Nat} {w : Int32} (hn : n ≤ 10) (hr : r ≤ n + 1) (h : wasM n t r w) (e : ¬ itM n t r = w) : r ≤ n := by
  rcases Nat.lt_or_ge n r with q | q
  · have e2 : r = n + 1 := by omega
    subst e2
    rcases h with ⟨h, _⟩ | ⟨u, h, rfl⟩
    · omega
    · have : u = n := by omega
      subst this
      exact absurd (itM_stop hn t) e
  · exact q

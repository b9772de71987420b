/-! The model's reader of texts. -/
/-- the letter that stands next, -1 behind the end -/
def sgn (tx : Nat → Int32) (en he : Nat) : Int32 := if he < en then tx he else -1
/-- an expected letter: what follows, and whether it is wrong -/
def exE (tx : Nat → Int32) (en he : Nat) (wr : Bool) (z : Int32) : Nat × Bool := if wr = true then (he, true) else if sgn tx en he = z then (he + 1, false) else (he, true)
theorem exE_t {tx : Nat → Int32} {en he : Nat} {wr : Bool} {z : Int32} (h : wr = true) : exE tx en he wr z = (he, true) := if_pos h
theorem exE_f {tx : Nat → Int32} {en he : Nat} {wr : Bool} {z : Int32} (h : wr = false) (h2 : sgn tx en he = z) : exE tx en he wr z = (he + 1, false) := by
  unfold exE
  rw [if_neg (by rw [h]; decide), if_pos h2]
theorem exE_n {tx : Nat → Int32} {en he : Nat} {wr : Bool} {z : Int32} (h : wr = false) (h2 : ¬ sgn tx en he = z) : exE tx en he wr z = (he, true) := by
  unfold exE
  rw [if_neg (by rw [h]; decide), if_neg h2]
theorem sgn_in {tx : Nat → Int32} {en he : Nat} {z : Int32} (h : sgn tx en he = z) (hz : z ≠ -1) : he < en := by
  unfold sgn at h
  split at h
  · assumption
  · exact absurd h.symm hz
theorem exE_le (tx : Nat → Int32) {en he : Nat} (wr : Bool) (z : Int32) (h : he ≤ en) (hz : z ≠ -1) : (exE tx en he wr z).1 ≤ en := by
  unfold exE
  split
  · exact h
  · split
    · rename_i q
      exact sgn_in q hz
    · exact h
/-- a digit -/
def isD (x : Int32) : Bool := rg 48 x 57
/-- how many digits are read, of at most m -/
def dkE (tx : Nat → Int32) (en he : Nat) (wr : Bool) (m : Nat) : Nat := if wr = true then 0 else fsN (fun i => !isD (sgn tx en (he + i))) m
/-- the number of the first i digits -/
def dvE (tx : Nat → Int32) (en he : Nat) (i : Nat) : Int32 := up (fun i x => 10 * x + sgn tx en (he + i) - 48) 0 i
theorem dvE_s (tx : Nat → Int32) (en he : Nat) (i : Nat) : dvE tx en he (i + 1) = 10 * dvE tx en he i + sgn tx en (he + i) - 48 := rfl
theorem dkE_t {tx : Nat → Int32} {en he : Nat} {wr : Bool} {m : Nat} (h : wr = true) : dkE tx en he wr m = 0 := if_pos h
theorem dkE_at {tx : Nat → Int32} {en he : Nat} {wr : Bool} {m i : Nat} (h : wr = false) (ha : ∀ c, c < i → isD (sgn tx en (he + c)) = true) (hi : isD (sgn tx en (he + i)) = false) (q : i < m) : dkE tx en he wr m = i := by
  unfold dkE
  rw [if_neg (by rw [h]; decide)]
  exact fsN_some (fun c hc => by rw [ha c hc]; rfl) (by rw [hi]; rfl) q
theorem dkE_no {tx : Nat → Int32} {en he : Nat} {wr : Bool} {m : Nat} (h : wr = false) (ha : ∀ c, c < m → isD (sgn tx en (he + c)) = true) : dkE tx en he wr m = m := by
  unfold dkE
  rw [if_neg (by rw [h]; decide)]
  exact fsN_none (fun c hc => by rw [ha c hc]; rfl)
def dwE (tx : Nat → Int32) (en he : Nat) (wr : Bool) (m : Nat) : Bool := wr || decide (dkE tx en he wr m = 0)
theorem isD_in {tx : Nat → Int32} {en he : Nat} (h : isD (sgn tx en he) = true) : he < en := by
  unfold sgn at h
  split at h
  · assumption
  · exact absurd h (by decide)
theorem fsN_le (p : Nat → Bool) (n : Nat) : fsN p n ≤ n := by
  induction n with
  | zero => exact Nat.le_refl _
  | succ n ih =>
    show (if fsN p n < n then fsN p n else if p n then n else n + 1) ≤ n + 1
    split
    · omega
    · split <;> omega
theorem fsN_lt {p : Nat → Bool} {n : Nat} : ∀ c, c < fsN p n → p c = false := by
  induction n with
  | zero => intro c hc; exact absurd hc (Nat.not_lt_zero c)
  | succ n ih =>
    intro c hc
    have e : fsN p (n + 1) = (if fsN p n < n then fsN p n else if p n then n else n + 1) := rfl
    rw [e] at hc
    split at hc
    · exact ih c hc
    · have q : fsN p n = n := Nat.le_antisymm (fsN_le p n) (by omega)
      cases r : p n with
      | true =>
        rw [r, if_pos rfl] at hc
        exact ih c (by omega)
      | false =>
        rw [r] at hc
        rcases Nat.lt_succ_iff_lt_or_eq.mp (show c < n + 1 from hc) with h | h
        · exact ih c (by omega)
        · rw [h]; exact r
theorem dkE_le (tx : Nat → Int32) {en he : Nat} (wr : Bool) (m : Nat) (h : he ≤ en) : he + dkE tx en he wr m ≤ en := by
  unfold dkE
  split
  · exact h
  · by_cases q : fsN (fun i => !isD (sgn tx en (he + i))) m = 0
    · omega
    · have := fsN_lt (p := fun i => !isD (sgn tx en (he + i))) (n := m) (fsN (fun i => !isD (sgn tx en (he + i))) m - 1) (by omega)
      have h2 : isD (sgn tx en (he + (fsN (fun i => !isD (sgn tx en (he + i))) m - 1))) = true := by
        cases r : isD (sgn tx en (he + (fsN (fun i => !isD (sgn tx en (he + i))) m - 1))) with
        | true => rfl
        | false => simp [r] at this
      have := isD_in h2
      omega
theorem dkE_m (tx : Nat → Int32) (en he : Nat) (wr : Bool) (m : Nat) : dkE tx en he wr m ≤ m := by
  unfold dkE
  split
  · exact Nat.zero_le _
  · exact fsN_le _ _
theorem fsN_stop {p : Nat → Bool} {n : Nat} (h : fsN p n < n) : p (fsN p n) = true := by
  induction n with
  | zero => exact absurd h (Nat.not_lt_zero _)
  | succ n ih =>
    have e : fsN p (n + 1) = (if fsN p n < n then fsN p n else if p n then n else n + 1) := rfl
    rw [e] at h ⊢
    split at h
    · rename_i q
      rw [if_pos q]; exact ih q
    · rename_i q
      rw [if_neg q]
      cases r : p n with
      | true => rw [if_pos rfl]; exact r
      | false => rw [r] at h; exact absurd h (Nat.lt_irrefl _)
/-- a letter of racks or remarks: what follows, whether it is wrong -/
def ltW (tx : Nat → Int32) (en he : Nat) (wr b : Bool) : Bool := wr || !(decide (sgn tx en he = 113) || decide (sgn tx en he = 111) || (decide (sgn tx en he = 97) && b))
def ltH (tx : Nat → Int32) (en he : Nat) (wr b : Bool) : Nat := if ltW tx en he wr b = true then he else he + 1
theorem ltW_of {tx : Nat → Int32} {en he : Nat} {wr b : Bool} (h : ltW tx en he wr b = false) : he < en := by
  unfold ltW at h
  by_cases q : sgn tx en he = 113
  · exact sgn_in q (by decide)
  · by_cases q2 : sgn tx en he = 111
    · exact sgn_in q2 (by decide)
    · by_cases q3 : sgn tx en he = 97
      · exact sgn_in q3 (by decide)
      · simp [q, q2, q3] at h
theorem ltH_le (tx : Nat → Int32) {en he : Nat} (wr b : Bool) (h : he ≤ en) : ltH tx en he wr b ≤ en := by
  unfold ltH
  split
  · exact h
  · rename_i q
    exact ltW_of (by cases r : ltW tx en he wr b with | true => exact absurd r q | false => rfl)
/-- behind a sign -/
def bhE (tx : Nat → Int32) (en he : Nat) (wr : Bool) (z : Int32) (m : Nat) : Int32 × Nat × Bool :=
  if (exE tx en he wr z).2 = true then (0, exE tx en he wr z) else (dvE tx en (exE tx en he wr z).1 (dkE tx en (exE tx en he wr z).1 (exE tx en he wr z).2 m), (exE tx en he wr z).1 + dkE tx en (exE tx en he wr z).1 (exE tx en he wr z).2 m, dwE tx en (exE tx en he wr z).1 (exE tx en he wr z).2 m)
/-- the words, and where they begin -/
def wdK : Nat → Int32 := fun j => ([99, 108, 97, 105, 109, 32, 97, 116, 116, 97, 99, 107, 32, 99, 97, 108, 109, 32, 108, 97, 121, 101, 114, 32, 114, 97, 99, 107, 32, 105, 110, 115, 101, 114, 116, 32, 100, 114, 97, 119, 32, 101, 120, 99, 105, 116, 101, 32, 108, 105, 109, 105, 116, 32, 112, 97, 115, 115, 32] : List Int32).getD j 0
def waK : Nat → Nat := fun j => ([0, 6, 13, 18, 24, 29, 36, 41, 48, 54, 59] : List Nat).getD j 0
def waI : Nat → Int32 := fun j => nI (waK j)
theorem waK_le {j : Nat} (h : j ≤ 10) : waK j ≤ 59 := by
  have : ∀ j : Nat, j ≤ 10 → waK j ≤ 59 := by decide +kernel
  exact this j h
theorem waK_all (j : Nat) : waK j ≤ 59 := by
  by_cases h : j ≤ 10
  · exact waK_le h
  · unfold waK
    rw [List.getD_eq_getElem?_getD, List.getElem?_eq_none (by simp; omega)]
    show (0 : Nat) ≤ 59
    omega
theorem waK_7 {j : Nat} (h : j < 10) : waK (j + 1) ≤ waK j + 7 := by
  have : ∀ j : Nat, j < 10 → waK (j + 1) ≤ waK j + 7 := by decide +kernel
  exact this j h
/-- the first m letters of the word w stand from he on -/
def lfE (tx : Nat → Int32) (en he : Nat) (w : Nat) (m : Nat) : Bool := up (fun i x => x && (decide (waK w + i < waK (w + 1)) && decide (wdK (waK w + i) = sgn tx en (he + i)))) true m
theorem lfE_s (tx : Nat → Int32) (en he w m : Nat) : lfE tx en he w (m + 1) = (lfE tx en he w m && (decide (waK w + m < waK (w + 1)) && decide (wdK (waK w + m) = sgn tx en (he + m)))) := rfl
theorem lfE_8 (tx : Nat → Int32) (en he : Nat) {w : Nat} (hw : w < 10) : lfE tx en he w 8 = false := by
  rw [lfE_s]
  have := waK_7 hw
  rw [decide_eq_false (show ¬ waK w + 7 < waK (w + 1) by omega)]
  simp
/-- whether one of the first j words is left after m letters -/
def anE (tx : Nat → Int32) (en he m j : Nat) : Bool := up (fun w x => x || lfE tx en he w m) false j
theorem anE_s (tx : Nat → Int32) (en he m j : Nat) : anE tx en he m (j + 1) = (anE tx en he m j || lfE tx en he j m) := rfl
theorem anE_8 (tx : Nat → Int32) (en he : Nat) : anE tx en he 8 10 = false := by
  have : ∀ j, j ≤ 10 → anE tx en he 8 j = false := by
    intro j
    induction j with
    | zero => intro _; rfl
    | succ j ih => intro h; rw [anE_s, ih (by omega), lfE_8 tx en he (show j < 10 by omega)]; rfl
  exact this 10 (Nat.le_refl _)
/-- the last of the first j words that is whole after m letters, else x -/
def fiE (tx : Nat → Int32) (en he m : Nat) (x : Int32) (j : Nat) : Int32 := up (fun w x => if lfE tx en he w m = true ∧ waK w + m = waK (w + 1) then nI w else x) x j
theorem fiE_s (tx : Nat → Int32) (en he m : Nat) (x : Int32) (j : Nat) : fiE tx en he m x (j + 1) = if lfE tx en he j m = true ∧ waK j + m = waK (j + 1) then nI j else fiE tx en he m x j := rfl
/-- after m letters: how many of them were right, whether it is wrong, the word -/
def wdU (tx : Nat → Int32) (en he : Nat) (wr : Bool) (m : Nat) : Nat × Bool × Int32 := up (fun m s => (s.1 + (if anE tx en he (m + 1) 10 = true then 1 else 0), !anE tx en he (m + 1) 10, fiE tx en he (m + 1) s.2.2 10)) (he, wr, -1) m
theorem wdU_s (tx : Nat → Int32) (en he : Nat) (wr : Bool) (m : Nat) : wdU tx en he wr (m + 1) = ((wdU tx en he wr m).1 + (if anE tx en he (m + 1) 10 = true then 1 else 0), !anE tx en he (m + 1) 10, fiE tx en he (m + 1) (wdU tx en he wr m).2.2 10) := rfl
/-- the reading of a word goes on -/
def goE (tx : Nat → Int32) (en he : Nat) (wr : Bool) (m : Nat) : Bool := decide ((wdU tx en he wr m).2.2 < 0) && !(wdU tx en he wr m).2.1
def wdN (tx : Nat → Int32) (en he : Nat) (wr : Bool) : Nat := fsN (fun m => !goE tx en he wr m) 9
def wdE (tx : Nat → Int32) (en he : Nat) (wr : Bool) : Nat × Bool × Int32 := wdU tx en he wr (wdN tx en he wr)
theorem wdN_at {tx : Nat → Int32} {en he : Nat} {wr : Bool} {m : Nat} (h : ∀ c, c < m → goE tx en he wr c = true) (hm : goE tx en he wr m = false) (q : m ≤ 8) : wdN tx en he wr = m := fsN_some (fun c hc => by rw [h c hc]; rfl) (by rw [hm]; rfl) (by omega)
theorem goE_8 {tx : Nat → Int32} {en he : Nat} {wr : Bool} : goE tx en he wr 8 = false := by
  unfold goE
  rw [show (wdU tx en he wr 8).2.1 = !anE tx en he 8 10 from rfl, anE_8]
  simp
theorem goE_lt {tx : Nat → Int32} {en he : Nat} {wr : Bool} {m : Nat} (h : goE tx en he wr m = true) (q : m ≤ 8) : m < 8 := by
  rcases Nat.lt_or_eq_of_le q with r | r
  · exact r
  · rw [r, goE_8] at h; cases h
/-- so long as the reading of a word goes on, all letters were right -/
theorem wdU_he {tx : Nat → Int32} {en he : Nat} {wr : Bool} {m : Nat} (h : ∀ c, c ≤ m → goE tx en he wr c = true) : (wdU tx en he wr m).1 = he + m ∧ (wdU tx en he wr m).2.1 = false := by
  have g : ∀ c, c ≤ m → (wdU tx en he wr c).2.1 = false := fun c hc => by
    have := h c hc
    unfold goE at this
    cases r : (wdU tx en he wr c).2.1 with
    | false => rfl
    | true => rw [r] at this; simp at this
  refine ⟨?_, g m (Nat.le_refl m)⟩
  induction m with
  | zero => rfl
  | succ m ih =>
    have r := g (m + 1) (Nat.le_refl _)
    rw [wdU_s] at r ⊢
    have a : anE tx en he (m + 1) 10 = true := by
      cases q : anE tx en he (m + 1) 10 with
      | true => rfl
      | false => rw [q] at r; cases r
    show (wdU tx en he wr m).1 + (if anE tx en he (m + 1) 10 = true then 1 else 0) = he + (m + 1)
    rw [ih (fun c hc => h c (by omega)) (fun c hc => g c (by omega)), if_pos a]
    omega
theorem or1 (b : Bool) : bI b ||| 1 = 1 := by cases b <;> rfl
theorem or0 (b : Bool) : bI b ||| 0 = bI b := by cases b <;> rfl
theorem an_1 (a : Bool) : bI a ||| 1 = bI (a || true) := by cases a <;> rfl
theorem an_0 (a : Bool) : bI a ||| 0 = bI (a || false) := by cases a <;> rfl
theorem bI1_t {b : Bool} (h : bI b = 1) : b = true := by cases b <;> simp_all [bI]
theorem bI1_f {b : Bool} (h : ¬ bI b = 1) : b = false := by cases b <;> simp_all [bI]
theorem lf_a {tx : Nat → Int32} {en he w m : Nat} (h : ¬ waK w + m < waK (w + 1)) : bI (lfE tx en he w m) &&& 0 = bI (lfE tx en he w (m + 1)) := by
  rw [lfE_s, decide_eq_false h]
  cases lfE tx en he w m <;> rfl
theorem lf_b {tx : Nat → Int32} {en he w m : Nat} (h : ¬ wdK (waK w + m) = sgn tx en (he + m)) : bI (lfE tx en he w m) &&& 0 = bI (lfE tx en he w (m + 1)) := by
  rw [lfE_s, decide_eq_false h]
  cases lfE tx en he w m <;> cases decide (waK w + m < waK (w + 1)) <;> rfl
theorem lf_c {tx : Nat → Int32} {en he w m : Nat} (h : waK w + m < waK (w + 1)) (h2 : wdK (waK w + m) = sgn tx en (he + m)) : bI (lfE tx en he w m) &&& 1 = bI (lfE tx en he w (m + 1)) := by
  rw [lfE_s, decide_eq_true h, decide_eq_true h2]
  cases lfE tx en he w m <;> rfl
theorem goE_t {tx : Nat → Int32} {en he : Nat} {wr : Bool} {m : Nat} (h : ¬ 0 ≤ (wdU tx en he wr m).2.2) (h2 : (wdU tx en he wr m).2.1 = false) : goE tx en he wr m = true := by
  unfold goE
  rw [h2, decide_eq_true (Int32.not_le.mp h)]
  rfl
theorem goE_f1 {tx : Nat → Int32} {en he : Nat} {wr : Bool} {m : Nat} (h : 0 ≤ (wdU tx en he wr m).2.2) : goE tx en he wr m = false := by
  unfold goE
  rw [decide_eq_false (Int32.not_lt.mpr h)]
  rfl
theorem goE_f2 {tx : Nat → Int32} {en he : Nat} {wr : Bool} {m : Nat} (h : (wdU tx en he wr m).2.1 = true) : goE tx en he wr m = false := by
  unfold goE
  rw [h]
  simp
theorem wdN_le (tx : Nat → Int32) (en he : Nat) (wr : Bool) : wdN tx en he wr ≤ 8 ∧ goE tx en he wr (wdN tx en he wr) = false ∧ ∀ c, c < wdN tx en he wr → goE tx en he wr c = true := by
  have h1 : ∀ c, c < wdN tx en he wr → goE tx en he wr c = true := fun c hc => by
    have := fsN_lt (p := fun m => !goE tx en he wr m) (n := 9) c hc
    cases q : goE tx en he wr c with
    | true => rfl
    | false => simp [q] at this
  have h2 : wdN tx en he wr ≤ 8 := by
    apply Classical.byContradiction
    intro q
    have := h1 8 (by omega)
    rw [goE_8] at this
    cases this
  have hs : (!goE tx en he wr (wdN tx en he wr)) = true := fsN_stop (p := fun m => !goE tx en he wr m) (n := 9) (by show wdN tx en he wr < 9; omega)
  refine ⟨h2, ?_, h1⟩
  cases q : goE tx en he wr (wdN tx en he wr) with
  | false => rfl
  | true => rw [q] at hs; cases hs
theorem fiE_in (tx : Nat → Int32) (en he m : Nat) (x : Int32) (j : Nat) : fiE tx en he m x j = x ∨ ∃ w, w < j ∧ fiE tx en he m x j = nI w ∧ lfE tx en he w m = true ∧ waK w + m = waK (w + 1) := by
  induction j with
  | zero => exact Or.inl rfl
  | succ j ih =>
    rw [fiE_s]
    split
    · rename_i h
      exact Or.inr ⟨j, Nat.lt_succ_self j, rfl, h⟩
    · rcases ih with h | ⟨w, a, b⟩
      · exact Or.inl h
      · exact Or.inr ⟨w, Nat.lt_succ_of_lt a, b⟩
/-- before the reading stops no word is whole -/
theorem wdU_m1 {tx : Nat → Int32} {en he : Nat} {wr : Bool} {m : Nat} (h : ∀ c, c ≤ m → goE tx en he wr c = true) : (wdU tx en he wr m).2.2 = -1 := by
  induction m with
  | zero => rfl
  | succ m ih =>
    have g := h (m + 1) (Nat.le_refl _)
    unfold goE at g
    rw [Bool.and_eq_true] at g
    have g1 := of_decide_eq_true g.1
    rw [wdU_s] at g1 ⊢
    rcases fiE_in tx en he (m + 1) (wdU tx en he wr m).2.2 10 with q | ⟨w, hw, q, _⟩
    · exact q.trans (ih (fun c hc => h c (by omega)))
    · exfalso
      have g2 : fiE tx en he (m + 1) (wdU tx en he wr m).2.2 10 < 0 := g1
      rw [q] at g2
      have : ¬ nI w < 0 := nI_pos (by omega)
      exact this g2
/-- a word that was read -/
theorem wdE_nat {tx : Nat → Int32} {en he : Nat} {wr : Bool} (h : (wdE tx en he wr).2.1 = false) : ∃ w, w < 10 ∧ (wdE tx en he wr).2.2 = nI w ∧ lfE tx en he w (waK (w + 1) - waK w) = true ∧ (wdE tx en he wr).1 = he + (waK (w + 1) - waK w) ∧ wr = false := by
  obtain ⟨h8, hs, hg⟩ := wdN_le tx en he wr
  unfold wdE at h ⊢
  cases e : wdN tx en he wr with
  | zero =>
    rw [e] at hs h
    exfalso
    unfold goE at hs
    rw [h] at hs
    exact absurd hs (show ¬ (decide ((-1 : Int32) < 0) && !false) = false by decide)
  | succ m =>
    rw [e] at hs h hg
    have hm := fun c (hc : c ≤ m) => hg c (by omega)
    have hne : ¬ (wdU tx en he wr (m + 1)).2.2 < 0 := fun q => by
      unfold goE at hs
      rw [h, decide_eq_true q] at hs
      exact absurd hs (by decide)
    have hw0 : wr = false := by
      have := hg 0 (by omega)
      unfold goE at this
      rw [Bool.and_eq_true] at this
      have h2 : (!wr) = true := this.2
      cases wr with
      | false => rfl
      | true => cases h2
    have han : anE tx en he (m + 1) 10 = true := by
      have h2 : (!anE tx en he (m + 1) 10) = false := h
      cases q : anE tx en he (m + 1) 10 with
      | true => rfl
      | false => rw [q] at h2; cases h2
    have e1 : (wdU tx en he wr (m + 1)).1 = he + (m + 1) := by
      rw [wdU_s]
      show (wdU tx en he wr m).1 + _ = _
      rw [(wdU_he hm).1, if_pos han]
      omega
    rcases fiE_in tx en he (m + 1) (wdU tx en he wr m).2.2 10 with q | ⟨w, hw, q, q2, q3⟩
    · exfalso
      apply hne
      rw [wdU_s]
      show fiE tx en he (m + 1) (wdU tx en he wr m).2.2 10 < 0
      rw [q, wdU_m1 hm]
      decide
    · have e2 : waK (w + 1) - waK w = m + 1 := by omega
      refine ⟨w, hw, ?_, ?_, ?_, hw0⟩
      · rw [wdU_s]; exact q
      · rw [e2]; exact q2
      · rw [e2]; exact e1
theorem wdE_le (tx : Nat → Int32) {en he : Nat} (wr : Bool) (h : he ≤ en) : (wdE tx en he wr).1 ≤ en := by
  obtain ⟨h8, hs, hg⟩ := wdN_le tx en he wr
  unfold wdE
  have key : ∀ m, m ≤ wdN tx en he wr → (wdU tx en he wr m).1 ≤ en := by
    intro m
    induction m with
    | zero => intro _; exact h
    | succ m ih =>
      intro hm
      have hm2 := wdU_he (fun c (hc : c ≤ m) => hg c (by omega))
      rw [wdU_s]
      show (wdU tx en he wr m).1 + (if anE tx en he (m + 1) 10 = true then 1 else 0) ≤ en
      split
      · rename_i q
        have : ∀ j, anE tx en he (m + 1) j = true → ∃ w, lfE tx en he w (m + 1) = true := by
          intro j
          induction j with
          | zero => intro q; cases q
          | succ j ij =>
            intro q
            rw [anE_s] at q
            cases r : lfE tx en he j (m + 1) with
            | true => exact ⟨j, r⟩
            | false => rw [r, Bool.or_false] at q; exact ij q
        obtain ⟨w, hw⟩ := this 10 q
        rw [lfE_s, Bool.and_eq_true, Bool.and_eq_true] at hw
        have hz := of_decide_eq_true hw.2.2
        have hlt := of_decide_eq_true hw.2.1
        have hk : ∀ j : Nat, wdK j ≠ -1 := by
          intro j
          by_cases hj : j < 60
          · have : ∀ j : Nat, j < 60 → wdK j ≠ -1 := by decide +kernel
            exact this j hj
          · unfold wdK
            rw [List.getD_eq_getElem?_getD, List.getElem?_eq_none (by show 59 ≤ j; omega)]
            decide
        have := sgn_in hz.symm (hk _)
        rw [hm2.1]
        omega
      · rw [hm2.1] at ih ⊢
        have := ih (by omega)
        omega
  exact key _ (Nat.le_refl _)







/-! The model's reader of texts. -/
/-- the letter that stands next, -1 behind the end -/
def sgn (tx : Nat → Int32) (en he : Nat) : Int32 := if he < en then tx he else -1
/-- an expected letter: what follows, and whether it is wrong -/
def exE (tx : Nat → Int32) (en he : Nat) (wr : Bool) (z : Int32) : Nat × Bool := if wr = true then (he, true) else if sgn tx en he = z then (he + 1, false) else (he, true)
theorem exE_t {tx : Nat → Int32} {en he : Nat} {wr : Bool} {z : Int32} (h : wr = true) : exE tx en he wr z = (he, true) := if_pos h
theorem exE_f {tx : Nat → Int32} {en he : Nat} {wr : Bool} {z : Int32} (h : wr = false) (h2 : sgn tx en he = z) : exE tx en he wr z = (he + 1, false) := by
  unfold exE
  rw [if_neg (by rw [h]; decide), if_pos h2]
theorem exE_n {tx : Nat → Int32} {en he : Nat} {wr : Bool} {z : Int32} (h : wr = false) (h2 : ¬ sgn tx en he = z) : exE tx en he wr z = (he, true) := by
  unfold exE
  rw [if_neg (by rw [h]; decide), if_neg h2]
theorem sgn_in {tx : Nat → Int32} {en he : Nat} {z : Int32} (h : sgn tx en he = z) (hz : z ≠ -1) : he < en := by
  unfold sgn at h
  split at h
  · assumption
  · exact absurd h.symm hz
theorem exE_le (tx : Nat → Int32) {en he : Nat} (wr : Bool) (z : Int32) (h : he ≤ en) (hz : z ≠ -1) : (exE tx en he wr z).1 ≤ en := by
  unfold exE
  split
  · exact h
  · split
    · rename_i q
      exact sgn_in q hz
    · exact h
/-- a digit -/
def isD (x : Int32) : Bool := rg 48 x 57
/-- how many digits are read, of at most m -/
def dkE (tx : Nat → Int32) (en he : Nat) (wr : Bool) (m : Nat) : Nat := if wr = true then 0 else fsN (fun i => !isD (sgn tx en (he + i))) m
/-- the number of the first i digits -/
def dvE (tx : Nat → Int32) (en he : Nat) (i : Nat) : Int32 := up (fun i x => 10 * x + sgn tx en (he + i) - 48) 0 i
theorem dvE_s (tx : Nat → Int32) (en he : Nat) (i : Nat) : dvE tx en he (i + 1) = 10 * dvE tx en he i + sgn tx en (he + i) - 48 := rfl
theorem dkE_t {tx : Nat → Int32} {en he : Nat} {wr : Bool} {m : Nat} (h : wr = true) : dkE tx en he wr m = 0 := if_pos h
theorem dkE_at {tx : Nat → Int32} {en he : Nat} {wr : Bool} {m i : Nat} (h : wr = false) (ha : ∀ c, c < i → isD (sgn tx en (he + c)) = true) (hi : isD (sgn tx en (he + i)) = false) (q : i < m) : dkE tx en he wr m = i := by
  unfold dkE
  rw [if_neg (by rw [h]; decide)]
  exact fsN_some (fun c hc => by rw [ha c hc]; rfl) (by rw [hi]; rfl) q
theorem dkE_no {tx : Nat → Int32} {en he : Nat} {wr : Bool} {m : Nat} (h : wr = false) (ha : ∀ c, c < m → isD (sgn tx en (he + c)) = true) : dkE tx en he wr m = m := by
  unfold dkE
  rw [if_neg (by rw [h]; decide)]
  exact fsN_none (fun c hc => by rw [ha c hc]; rfl)
def dwE (tx : Nat → Int32) (en he : Nat) (wr : Bool) (m : Nat) : Bool := wr || decide (dkE tx en he wr m = 0)
theorem isD_in {tx : Nat → Int32} {en he : Nat} (h : isD (sgn tx en he) = true) : he < en := by
  unfold sgn at h
  split at h
  · assumption
  · exact absurd h (by decide)
theorem fsN_le (p : Nat → Bool) (n : Nat) : fsN p n ≤ n := by
  induction n with
  | zero => exact Nat.le_refl _
  | succ n ih =>
    show (if fsN p n < n then fsN p n else if p n then n else n + 1) ≤ n + 1
    split
    · omega
    · split <;> omega
theorem fsN_lt {p : Nat → Bool} {n : Nat} : ∀ c, c < fsN p n → p c = false := by
  induction n with
  | zero => intro c hc; exact absurd hc (Nat.not_lt_zero c)
  | succ n ih =>
    intro c hc
    have e : fsN p (n + 1) = (if fsN p n < n then fsN p n else if p n then n else n + 1) := rfl
    rw [e] at hc
    split at hc
    · exact ih c hc
    · have q : fsN p n = n := Nat.le_antisymm (fsN_le p n) (by omega)
      cases r : p n with
      | true =>
        rw [r, if_pos rfl] at hc
        exact ih c (by omega)
      | false =>
        rw [r] at hc
        rcases Nat.lt_succ_iff_lt_or_eq.mp (show c < n + 1 from hc) with h | h
        · exact ih c (by omega)
        · rw [h]; exact r
theorem dkE_le (tx : Nat → Int32) {en he : Nat} (wr : Bool) (m : Nat) (h : he ≤ en) : he + dkE tx en he wr m ≤ en := by
  unfold dkE
  split
  · exact h
  · by_cases q : fsN (fun i => !isD (sgn tx en (he + i))) m = 0
    · omega
    · have := fsN_lt (p := fun i => !isD (sgn tx en (he + i))) (n := m) (fsN (fun i => !isD (sgn tx en (he + i))) m - 1) (by omega)
      have h2 : isD (sgn tx en (he + (fsN (fun i => !isD (sgn tx en (he + i))) m - 1))) = true := by
        cases r : isD (sgn tx en (he + (fsN (fun i => !isD (sgn tx en (he + i))) m - 1))) with
        | true => rfl
        | false => simp [r] at this
      have := isD_in h2
      omega
theorem dkE_m (tx : Nat → Int32) (en he : Nat) (wr : Bool) (m : Nat) : dkE tx en he wr m ≤ m := by
  unfold dkE
  split
  · exact Nat.zero_le _
  · exact fsN_le _ _
theorem fsN_stop {p : Nat → Bool} {n : Nat} (h : fsN p n < n) : p (fsN p n) = true := by
  induction n with
  | zero => exact absurd h (Nat.not_lt_zero _)
  | succ n ih =>
    have e : fsN p (n + 1) = (if fsN p n < n then fsN p n else if p n then n else n + 1) := rfl
    rw [e] at h ⊢
    split at h
    · rename_i q
      rw [if_pos q]; exact ih q
    · rename_i q
      rw [if_neg q]
      cases r : p n with
      | true => rw [if_pos rfl]; exact r
      | false => rw [r] at h; exact absurd h (Nat.lt_irrefl _)
/-- a letter of racks or remarks: what follows, whether it is wrong -/
def ltW (tx : Nat → Int32) (en he : Nat) (wr b : Bool) : Bool := wr || !(decide (sgn tx en he = 113) || decide (sgn tx en he = 111) || (decide (sgn tx en he = 97) && b))
def ltH (tx : Nat → Int32) (en he : Nat) (wr b : Bool) : Nat := if ltW tx en he wr b = true then he else he + 1
theorem ltW_of {tx : Nat → Int32} {en he : Nat} {wr b : Bool} (h : ltW tx en he wr b = false) : he < en := by
  unfold ltW at h
  by_cases q : sgn tx en he = 113
  · exact sgn_in q (by decide)
  · by_cases q2 : sgn tx en he = 111
    · exact sgn_in q2 (by decide)
    · by_cases q3 : sgn tx en he = 97
      · exact sgn_in q3 (by decide)
      · simp [q, q2, q3] at h
theorem ltH_le (tx : Nat → Int32) {en he : Nat} (wr b : Bool) (h : he ≤ en) : ltH tx en he wr b ≤ en := by
  unfold ltH
  split
  · exact h
  · rename_i q
    exact ltW_of (by cases r : ltW tx en he wr b with | true => exact absurd r q | false => rfl)
/-- behind a sign -/
def bhE (tx : Nat → Int32) (en he : Nat) (wr : Bool) (z : Int32) (m : Nat) : Int32 × Nat × Bool :=
  if (exE tx en he wr z).2 = true then (0, exE tx en he wr z) else (dvE tx en (exE tx en he wr z).1 (dkE tx en (exE tx en he wr z).1 (exE tx en he wr z).2 m), (exE tx en he wr z).1 + dkE tx en (exE tx en he wr z).1 (exE tx en he wr z).2 m, dwE tx en (exE tx en he wr z).1 (exE tx en he wr z).2 m)
/-- the words, and where they begin -/
def wdK : Nat → Int32 := fun j => ([99, 108, 97, 105, 109, 32, 97, 116, 116, 97, 99, 107, 32, 99, 97, 108, 109, 32, 108, 97, 121, 101, 114, 32, 114, 97, 99, 107, 32, 105, 110, 115, 101, 114, 116, 32, 100, 114, 97, 119, 32, 101, 120, 99, 105, 116, 101, 32, 108, 105, 109, 105, 116, 32, 112, 97, 115, 115, 32] : List Int32).getD j 0
def waK : Nat → Nat := fun j => ([0, 6, 13, 18, 24, 29, 36, 41, 48, 54, 59] : List Nat).getD j 0
def waI : Nat → Int32 := fun j => nI (waK j)
theorem waK_le {j : Nat} (h : j ≤ 10) : waK j ≤ 59 := by
  have : ∀ j : Nat, j ≤ 10 → waK j ≤ 59 := by decide +kernel
  exact this j h
theorem waK_all (j : Nat) : waK j ≤ 59 := by
  by_cases h : j ≤ 10
  · exact waK_le h
  · unfold waK
    rw [List.getD_eq_getElem?_getD, List.getElem?_eq_none (by simp; omega)]
    show (0 : Nat) ≤ 59
    omega
theorem waK_7 {j : Nat} (h : j < 10) : waK (j + 1) ≤ waK j + 7 := by
  have : ∀ j : Nat, j < 10 → waK (j + 1) ≤ waK j + 7 := by decide +kernel
  exact this j h
/-- the first m letters of the word w stand from he on -/
def lfE (tx : Nat → Int32) (en he : Nat) (w : Nat) (m : Nat) : Bool := up (fun i x => x && (decide (waK w + i < waK (w + 1)) && decide (wdK (waK w + i) = sgn tx en (he + i)))) true m
theorem lfE_s (tx : Nat → Int32) (en he w m : Nat) : lfE tx en he w (m + 1) = (lfE tx en he w m && (decide (waK w + m < waK (w + 1)) && decide (wdK (waK w + m) = sgn tx en (he + m)))) := rfl
theorem lfE_8 (tx : Nat → Int32) (en he : Nat) {w : Nat} (hw : w < 10) : lfE tx en he w 8 = false := by
  rw [lfE_s]
  have := waK_7 hw
  rw [decide_eq_false (show ¬ waK w + 7 < waK (w + 1) by omega)]
  simp
/-- whether one of the first j words is left after m letters -/
def anE (tx : Nat → Int32) (en he m j : Nat) : Bool := up (fun w x => x || lfE tx en he w m) false j
theorem anE_s (tx : Nat → Int32) (en he m j : Nat) : anE tx en he m (j + 1) = (anE tx en he m j || lfE tx en he j m) := rfl
theorem anE_8 (tx : Nat → Int32) (en he : Nat) : anE tx en he 8 10 = false := by
  have : ∀ j, j ≤ 10 → anE tx en he 8 j = false := by
    intro j
    induction j with
    | zero => intro _; rfl
    | succ j ih => intro h; rw [anE_s, ih (by omega), lfE_8 tx en he (show j < 10 by omega)]; rfl
  exact this 10 (Nat.le_refl _)
/-- the last of the first j words that is whole after m letters, else x -/
def fiE (tx : Nat → Int32) (en he m : Nat) (x : Int32) (j : Nat) : Int32 := up (fun w x => if lfE tx en he w m = true ∧ waK w + m = waK (w + 1) then nI w else x) x j
theorem fiE_s (tx : Nat → Int32) (en he m : Nat) (x : Int32) (j : Nat) : fiE tx en he m x (j + 1) = if lfE tx en he j m = true ∧ waK j + m = waK (j + 1) then nI j else fiE tx en he m x j := rfl
/-- after m letters: how many of them were right, whether it is wrong, the word -/
def wdU (tx : Nat → Int32) (en he : Nat) (wr : Bool) (m : Nat) : Nat × Bool × Int32 := up (fun m s => (s.1 + (if anE tx en he (m + 1) 10 = true then 1 else 0), !anE tx en he (m + 1) 10, fiE tx en he (m + 1) s.2.2 10)) (he, wr, -1) m
theorem wdU_s (tx : Nat → Int32) (en he : Nat) (wr : Bool) (m : Nat) : wdU tx en he wr (m + 1) = ((wdU tx en he wr m).1 + (if anE tx en he (m + 1) 10 = true then 1 else 0), !anE tx en he (m + 1) 10, fiE tx en he (m + 1) (wdU tx en he wr m).2.2 10) := rfl
/-- the reading of a word goes on -/
def goE (tx : Nat → Int32) (en he : Nat) (wr : Bool) (m : Nat) : Bool := decide ((wdU tx en he wr m).2.2 < 0) && !(wdU tx en he wr m).2.1
def wdN (tx : Nat → Int32) (en he : Nat) (wr : Bool) : Nat := fsN (fun m => !goE tx en he wr m) 9
def wdE (tx : Nat → Int32) (en he : Nat) (wr : Bool) : Nat × Bool × Int32 := wdU tx en he wr (wdN tx en he wr)
theorem wdN_at {tx : Nat → Int32} {en he : Nat} {wr : Bool} {m : Nat} (h : ∀ c, c < m → goE tx en he wr c = true) (hm : goE tx en he wr m = false) (q : m ≤ 8) : wdN tx en he wr = m := fsN_some (fun c hc => by rw [h c hc]; rfl) (by rw [hm]; rfl) (by omega)
theorem goE_8 {tx : Nat → Int32} {en he : Nat} {wr : Bool} : goE tx en he wr 8 = false := by
  unfold goE
  rw [show (wdU tx en he wr 8).2.1 = !anE tx en he 8 10 from rfl, anE_8]
  simp
theorem goE_lt {tx : Nat → Int32} {en he : Nat} {wr : Bool} {m : Nat} (h : goE tx en he wr m = true) (q : m ≤ 8) : m < 8 := by
  rcases Nat.lt_or_eq_of_le q with r | r
  · exact r
  · rw [r, goE_8] at h; cases h
/-- so long as the reading of a word goes on, all letters were right -/
theorem wdU_he {tx : Nat → Int32} {en he : Nat} {wr : Bool} {m : Nat} (h : ∀ c, c ≤ m → goE tx en he wr c = true) : (wdU tx en he wr m).1 = he + m ∧ (wdU tx en he wr m).2.1 = false := by
  have g : ∀ c, c ≤ m → (wdU tx en he wr c).2.1 = false := fun c hc => by
    have := h c hc
    unfold goE at this
    cases r : (wdU tx en he wr c).2.1 with
    | false => rfl
    | true => rw [r] at this; simp at this
  refine ⟨?_, g m (Nat.le_refl m)⟩
  induction m with
  | zero => rfl
  | succ m ih =>
    have r := g (m + 1) (Nat.le_refl _)
    rw [wdU_s] at r ⊢
    have a : anE tx en he (m + 1) 10 = true := by
      cases q : anE tx en he (m + 1) 10 with
      | true => rfl
      | false => rw [q] at r; cases r
    show (wdU tx en he wr m).1 + (if anE tx en he (m + 1) 10 = true then 1 else 0) = he + (m + 1)
    rw [ih (fun c hc => h c (by omega)) (fun c hc => g c (by omega)), if_pos a]
    omega
theorem or1 (b : Bool) : bI b ||| 1 = 1 := by cases b <;> rfl
theorem or0 (b : Bool) : bI b ||| 0 = bI b := by cases b <;> rfl
theorem an_1 (a : Bool) : bI a ||| 1 = bI (a || true) := by cases a <;> rfl
theorem an_0 (a : Bool) : bI a ||| 0 = bI (a || false) := by cases a <;> rfl
theorem bI1_t {b : Bool} (h : bI b = 1) : b = true := by cases b <;> simp_all [bI]
theorem bI1_f {b : Bool} (h : ¬ bI b = 1) : b = false := by cases b <;> simp_all [bI]
theorem lf_a {tx : Nat → Int32} {en he w m : Nat} (h : ¬ waK w + m < waK (w + 1)) : bI (lfE tx en he w m) &&& 0 = bI (lfE tx en he w (m + 1)) := by
  rw [lfE_s, decide_eq_false h]
  cases lfE tx en he w m <;> rfl
theorem lf_b {tx : Nat → Int32} {en he w m : Nat} (h : ¬ wdK (waK w + m) = sgn tx en (he + m)) : bI (lfE tx en he w m) &&& 0 = bI (lfE tx en he w (m + 1)) := by
  rw [lfE_s, decide_eq_false h]
  cases lfE tx en he w m <;> cases decide (waK w + m < waK (w + 1)) <;> rfl
theorem lf_c {tx : Nat → Int32} {en he w m : Nat} (h : waK w + m < waK (w + 1)) (h2 : wdK (waK w + m) = sgn tx en (he + m)) : bI (lfE tx en he w m) &&& 1 = bI (lfE tx en he w (m + 1)) := by
  rw [lfE_s, decide_eq_true h, decide_eq_true h2]
  cases lfE tx en he w m <;> rfl
theorem goE_t {tx : Nat → Int32} {en he : Nat} {wr : Bool} {m : Nat} (h : ¬ 0 ≤ (wdU tx en he wr m).2.2) (h2 : (wdU tx en he wr m).2.1 = false) : goE tx en he wr m = true := by
  unfold goE
  rw [h2, decide_eq_true (Int32.not_le.mp h)]
  rfl
theorem goE_f1 {tx : Nat → Int32} {en he : Nat} {wr : Bool} {m : Nat} (h : 0 ≤ (wdU tx en he wr m).2.2) : goE tx en he wr m = false := by
  unfold goE
  rw [decide_eq_false (Int32.not_lt.mpr h)]
  rfl
theorem goE_f2 {tx : Nat → Int32} {en he : Nat} {wr : Bool} {m : Nat} (h : (wdU tx en he wr m).2.1 = true) : goE tx en he wr m = false := by
  unfold goE
  rw [h]
  simp
theorem wdN_le (tx : Nat → Int32) (en he : Nat) (wr : Bool) : wdN tx en he wr ≤ 8 ∧ goE tx en he wr (wdN tx en he wr) = false ∧ ∀ c, c < wdN tx en he wr → goE tx en he wr c = true := by
  have h1 : ∀ c, c < wdN tx en he wr → goE tx en he wr c = true := fun c hc => by
    have := fsN_lt (p := fun m => !goE tx en he wr m) (n := 9) c hc
    cases q : goE tx en he wr c with
    | true => rfl
    | false => simp [q] at this
  have h2 : wdN tx en he wr ≤ 8 := by
    apply Classical.byContradiction
    intro q
    have := h1 8 (by omega)
    rw [goE_8] at this
    cases this
  have hs : (!goE tx en he wr (wdN tx en he wr)) = true := fsN_stop (p := fun m => !goE tx en he wr m) (n := 9) (by show wdN tx en he wr < 9; omega)
  refine ⟨h2, ?_, h1⟩
  cases q : goE tx en he wr (wdN tx en he wr) with
  | false => rfl
  | true => rw [q] at hs; cases hs
theorem fiE_in (tx : Nat → Int32) (en he m : Nat) (x : Int32) (j : Nat) : fiE tx en he m x j = x ∨ ∃ w, w < j ∧ fiE tx en he m x j = nI w ∧ lfE tx en he w m = true ∧ waK w + m = waK (w + 1) := by
  induction j with
  | zero => exact Or.inl rfl
  | succ j ih =>
    rw [fiE_s]
    split
    · rename_i h
      exact Or.inr ⟨j, Nat.lt_succ_self j, rfl, h⟩
    · rcases ih with h | ⟨w, a, b⟩
      · exact Or.inl h
      · exact Or.inr ⟨w, Nat.lt_succ_of_lt a, b⟩
/-- before the reading stops no word is whole -/
theorem wdU_m1 {tx : Nat → Int32} {en he : Nat} {wr : Bool} {m : Nat} (h : ∀ c, c ≤ m → goE tx en he wr c = true) : (wdU tx en he wr m).2.2 = -1 := by
  induction m with
  | zero => rfl
  | succ m ih =>
    have g := h (m + 1) (Nat.le_refl _)
    unfold goE at g
    rw [Bool.and_eq_true] at g
    have g1 := of_decide_eq_true g.1
    rw [wdU_s] at g1 ⊢
    rcases fiE_in tx en he (m + 1) (wdU tx en he wr m).2.2 10 with q | ⟨w, hw, q, _⟩
    · exact q.trans (ih (fun c hc => h c (by omega)))
    · exfalso
      have g2 : fiE tx en he (m + 1) (wdU tx en he wr m).2.2 10 < 0 := g1
      rw [q] at g2
      have : ¬ nI w < 0 := nI_pos (by omega)
      exact this g2
/-- a word that was read -/
theorem wdE_nat {tx : Nat → Int32} {en he : Nat} {wr : Bool} (h : (wdE tx en he wr).2.1 = false) : ∃ w, w < 10 ∧ (wdE tx en he wr).2.2 = nI w ∧ lfE tx en he w (waK (w + 1) - waK w) = true ∧ (wdE tx en he wr).1 = he + (waK (w + 1) - waK w) ∧ wr = false := by
  obtain ⟨h8, hs, hg⟩ := wdN_le tx en he wr
  unfold wdE at h ⊢
  cases e : wdN tx en he wr with
  | zero =>
    rw [e] at hs h
    exfalso
    unfold goE at hs
    rw [h] at hs
    exact absurd hs (show ¬ (decide ((-1 : Int32) < 0) && !false) = false by decide)
  | succ m =>
    rw [e] at hs h hg
    have hm := fun c (hc : c ≤ m) => hg c (by omega)
    have hne : ¬ (wdU tx en he wr (m + 1)).2.2 < 0 := fun q => by
      unfold goE at hs
      rw [h, decide_eq_true q] at hs
      exact absurd hs (by decide)
    have hw0 : wr = false := by
      have := hg 0 (by omega)
      unfold goE at this
      rw [Bool.and_eq_true] at this
      have h2 : (!wr) = true := this.2
      cases wr with
      | false => rfl
      | true => cases h2
    have han : anE tx en he (m + 1) 10 = true := by
      have h2 : (!anE tx en he (m + 1) 10) = false := h
      cases q : anE tx en he (m + 1) 10 with
      | true => rfl
      | false => rw [q] at h2; cases h2
    have e1 : (wdU tx en he wr (m + 1)).1 = he + (m + 1) := by
      rw [wdU_s]
      show (wdU tx en he wr m).1 + _ = _
      rw [(wdU_he hm).1, if_pos han]
      omega
    rcases fiE_in tx en he (m + 1) (wdU tx en he wr m).2.2 10 with q | ⟨w, hw, q, q2, q3⟩
    · exfalso
      apply hne
      rw [wdU_s]
      show fiE tx en he (m + 1) (wdU tx en he wr m).2.2 10 < 0
      rw [q, wdU_m1 hm]
      decide
    · have e2 : waK (w + 1) - waK w = m + 1 := by omega
      refine ⟨w, hw, ?_, ?_, ?_, hw0⟩
      · rw [wdU_s]; exact q
      · rw [e2]; exact q2
      · rw [e2]; exact e1
theorem wdE_le (tx : Nat → Int32) {en he : Nat} (wr : Bool) (h : he ≤ en) : (wdE tx en he wr).1 ≤ en := by
  obtain ⟨h8, hs, hg⟩ := wdN_le tx en he wr
  unfold wdE
  have key : ∀ m, m ≤ wdN tx en he wr → (wdU tx en he wr m).1 ≤ en := by
    intro m
    induction m with
    | zero => intro _; exact h
    | succ m ih =>
      intro hm
      have hm2 := wdU_he (fun c (hc : c ≤ m) => hg c (by omega))
      rw [wdU_s]
      show (wdU tx en he wr m).1 + (if anE tx en he (m + 1) 10 = true then 1 else 0) ≤ en
      split
      · rename_i q
        have : ∀ j, anE tx en he (m + 1) j = true → ∃ w, lfE tx en he w (m + 1) = true := by
          intro j
          induction j with
          | zero => intro q; cases q
          | succ j ij =>
            intro q
            rw [anE_s] at q
            cases r : lfE tx en he j (m + 1) with
            | true => exact ⟨j, r⟩
            | false => rw [r, Bool.or_false] at q; exact ij q
        obtain ⟨w, hw⟩ := this 10 q
        rw [lfE_s, Bool.and_eq_true, Bool.and_eq_true] at hw
        have hz := of_decide_eq_true hw.2.2
        have hlt := of_decide_eq_true hw.2.1
        have hk : ∀ j : Nat, wdK j ≠ -1 := by
          intro j
          by_cases hj : j < 60
          · have : ∀ j : Nat, j < 60 → wdK j ≠ -1 := by decide +kernel
            exact this j hj
          · unfold wdK
            rw [List.getD_eq_getElem?_getD, List.getElem?_eq_none (by show 59 ≤ j; omega)]
            decide
        have := sgn_in hz.symm (hk _)
        rw [hm2.1]
        omega
      · rw [hm2.1] at ih ⊢
        have := ih (by omega)
        omega
  exact key _ (Nat.le_refl _)

set_option maxHeartbeats 4000000 in
set_option maxRecDepth 100000 in
theorem m_X13_sign (l9 : Launch) (D : va_G) (k : Nat → ClassId) (q : Nat → Nat) (th ea fa : Int32) (ch tn he en ln : Nat) (sv wr dg : Bool) (tx : Nat → Int32) (hen : en ≤ 60) (hhe : he ≤ 1000) : Met l9 yX13_sign wsX13_sign ({ frames := 0, cells := 0, slots := 0, locals := 0 }) (RPc D k [.ref (q 0)] (bMO k q th ea fa ch tn he en ln sv wr dg ++ bI60 k (q 14) tx)) (EI (sgn tx en he)) 0 0 noA := by
  refine rMet (y := yX13_sign) (cc := cX13_sign) (maxL := 1) (ret := (some .int)) [.ref (q 0)] (by decide) rfl (Nat.le_of_ble_eq_true rfl) ?_
  intro p9 e9 s9 m9 bl9 me9 c9 ls hF hr hlocks hP hK hN hl
  have hl : lv_has ls 1 [(0, .ref (q 0))] := hl
  obtain ⟨hx, hb, hml, hown, hts⟩ := id hF
  have k_fieldLink_232 : (Cond.fieldLink RX13 232 "OpinionReactorModel" "here" "I").before _ s9 = true := hts (.fieldLink RX13 232 "OpinionReactorModel" "here" "I") (by decide +kernel)
  have kc_RX13 : ∀ w ∈ u_ws RX13 TX13 29, w ∈ wsX13_sign := by decide +kernel
  have k_fieldLink_235 : (Cond.fieldLink RX13 235 "OpinionReactorModel" "end" "I").before _ s9 = true := hts (.fieldLink RX13 235 "OpinionReactorModel" "end" "I") (by decide +kernel)
  have k_fieldLink_58 : (Cond.fieldLink RX13 58 "OpinionReactorModel" "text" "[I").before _ s9 = true := hts (.fieldLink RX13 58 "OpinionReactorModel" "text" "[I") (by decide +kernel)
  refine lv_aload_n hx hb dX13_sign_0 rfl (lv_at hl 0 rfl) ?_
  refine va_get (D := D) (ci := 11) (v := .int (nI he)) (C := RX13) (T := TX13) (N := 29) hx hb hts kc_RX13 hown hK hP 0 rfl rfl 24 (by decide) k_fieldLink_232 (fun _ h9 => h9) rfl dX13_sign_1 ?_
  refine lv_aload_n hx hb dX13_sign_4 rfl (lv_at hl 0 rfl) ?_
  refine va_get (D := D) (ci := 11) (v := .int (nI en)) (C := RX13) (T := TX13) (N := 29) hx hb hts kc_RX13 hown hK hP 0 rfl rfl 25 (by decide) k_fieldLink_235 (fun _ h9 => h9) rfl dX13_sign_5 ?_
  refine lv_icmp_ge (tgt := 23) hx hb dX13_sign_8 (by decide) (fun c_1 => ?_) (fun c_1 => ?_)
  · skip
    have c_1 : en ≤ he := (nI_leI (a := en) (b := he) (by omega) (by omega)).mp c_1
    refine lv_iconst (v := (-1)) hx hb dX13_sign_23 (by decide) ?_
    exact W.iret (v := (-1)) hx hb hr (fun t9 ht hW => ⟨_, rfl, (by (try simp only [sgn]); (repeat (first | rw [if_pos (by first | assumption | exact Eq.trans (b := false) (by assumption) (Eq.symm (by assumption)) | exact Eq.trans (b := true) (by assumption) (Eq.symm (by assumption)) | exact ⟨by assumption, by assumption⟩ | exact Or.inl (by assumption) | exact Or.inr (by assumption) | exact Or.inr (Or.inl (by assumption)) | exact Or.inr (Or.inr (by assumption)) | (simp only [Int32.lt_iff_toInt_lt, Int32.le_iff_toInt_le, i32_0, i32_1, i32_2, i32_3, i32_4, i32_9, i32_10, i32_99, i32_100, i32_1000, i32_9999] at *; omega))] | rw [if_neg (by first | assumption | (rintro (h9 | h9 | h9) <;> contradiction) | (rintro (h9 | h9) <;> contradiction) | (intro h9; exact Bool.noConfusion (Eq.trans (c := false) h9.symm (by assumption))) | (rintro ⟨h8, h9⟩; exact Bool.noConfusion (Eq.trans (c := false) h8.symm (by assumption))) | (rintro ⟨h8, h9⟩; exact Bool.noConfusion (Eq.trans (c := false) h9.symm (by assumption))) | (simp only [Int32.lt_iff_toInt_lt, Int32.le_iff_toInt_le, i32_0, i32_1, i32_2, i32_3, i32_4, i32_9, i32_10, i32_99, i32_100, i32_1000, i32_9999] at *; omega))])); (try rfl)), ht⟩) (fun _ h => by cases h) dX13_sign_24 hlocks
  · skip
    have c_1 : ¬ en ≤ he := fun h => c_1 ((nI_leI (a := en) (b := he) (by omega) (by omega)).mpr h)
    refine lv_aload_n hx hb dX13_sign_11 rfl (lv_at hl 0 rfl) ?_
    refine va_get (D := D) (ci := 11) (v := .ref (q 14)) (C := RX13) (T := TX13) (N := 29) hx hb hts kc_RX13 hown hK hP 0 rfl rfl 18 (by decide) k_fieldLink_58 (fun _ h9 => h9) rfl dX13_sign_12 ?_
    refine lv_aload_n hx hb dX13_sign_15 rfl (lv_at hl 0 rfl) ?_
    refine va_get (D := D) (ci := 11) (v := .int (nI he)) (C := RX13) (T := TX13) (N := 29) hx hb hts kc_RX13 hown hK hP 0 rfl rfl 24 (by decide) k_fieldLink_232 (fun _ h9 => h9) rfl dX13_sign_16 ?_
    refine ia_ld hx hb hK hP 1 rfl he (by omega) (by decide) dX13_sign_19 ?_
    refine lv_goto (tgt := 24) hx hb dX13_sign_20 (by decide) ?_
    exact W.iret (v := tx he) hx hb hr (fun t9 ht hW => ⟨_, rfl, (by (try simp only [sgn]); (repeat (first | rw [if_pos (by first | assumption | exact Eq.trans (b := false) (by assumption) (Eq.symm (by assumption)) | exact Eq.trans (b := true) (by assumption) (Eq.symm (by assumption)) | exact ⟨by assumption, by assumption⟩ | exact Or.inl (by assumption) | exact Or.inr (by assumption) | exact Or.inr (Or.inl (by assumption)) | exact Or.inr (Or.inr (by assumption)) | (simp only [Int32.lt_iff_toInt_lt, Int32.le_iff_toInt_le, i32_0, i32_1, i32_2, i32_3, i32_4, i32_9, i32_10, i32_99, i32_100, i32_1000, i32_9999] at *; omega))] | rw [if_neg (by first | assumption | (rintro (h9 | h9 | h9) <;> contradiction) | (rintro (h9 | h9) <;> contradiction) | (intro h9; exact Bool.noConfusion (Eq.trans (c := false) h9.symm (by assumption))) | (rintro ⟨h8, h9⟩; exact Bool.noConfusion (Eq.trans (c := false) h8.symm (by assumption))) | (rintro ⟨h8, h9⟩; exact Bool.noConfusion (Eq.trans (c := false) h9.symm (by assumption))) | (simp only [Int32.lt_iff_toInt_lt, Int32.le_iff_toInt_le, i32_0, i32_1, i32_2, i32_3, i32_4, i32_9, i32_10, i32_99, i32_100, i32_1000, i32_9999] at *; omega))])); (try rfl)), ht⟩) (fun _ h => by cases h) dX13_sign_24 hlocks

set_option maxHeartbeats 4000000 in
set_option maxRecDepth 100000 in
theorem m_X13_expects (l9 : Launch) (D : va_G) (k : Nat → ClassId) (sz : Nat) (q : Nat → Nat) (th ea fa : Int32) (ch tn he en ln : Nat) (sv wr dg : Bool) (tx : Nat → Int32) (z : Int32) (hen : en ≤ 60) (hhe : he ≤ 1000) : Met l9 yX13_expects wsX13_expects ({ frames := 1, cells := 0, slots := 0, locals := 20 }) (WPc D k [.ref (q 0), .int z] (bMO k q th ea fa ch tn he en ln sv wr dg ++ bI60 k (q 14) tx) sz) (WV D k (bMO k q th ea fa ch tn ((exE tx en he wr z).1) en ln sv ((exE tx en he wr z).2) dg ++ bI60 k (q 14) tx) (va_A (bMO k q th ea fa ch tn he en ln sv wr dg ++ bI60 k (q 14) tx) sz)) 0 0 (va_A (bMO k q th ea fa ch tn he en ln sv wr dg ++ bI60 k (q 14) tx) sz) := by
  refine wMet (y := yX13_expects) (cc := cX13_expects) (maxL := 2) (ret := none) (Qc := fun A => WV D k (bMO k q th ea fa ch tn ((exE tx en he wr z).1) en ln sv ((exE tx en he wr z).2) dg ++ bI60 k (q 14) tx) A) [.ref (q 0), .int z] (by decide) rfl (Nat.le_of_ble_eq_true rfl) ?_
  intro p9 e9 s9 m9 bl9 me9 c9 ls A H hF hr hlocks hP hK hN hD hA hS hl hin
  have hl : lv_has ls 2 [(0, .ref (q 0)), (1, .int z)] := hl
  obtain ⟨hx, hb, hml, hown, hts⟩ := id hF
  have k_fieldLink_238 : (Cond.fieldLink RX13 238 "OpinionReactorModel" "isWrong" "Z").before _ s9 = true := hts (.fieldLink RX13 238 "OpinionReactorModel" "isWrong" "Z") (by decide +kernel)
  have kc_RX13 : ∀ w ∈ u_ws RX13 TX13 29, w ∈ wsX13_expects := by decide +kernel
  have k_fieldLink_232 : (Cond.fieldLink RX13 232 "OpinionReactorModel" "here" "I").before _ s9 = true := hts (.fieldLink RX13 232 "OpinionReactorModel" "here" "I") (by decide +kernel)
  refine lv_aload_n hx hb dX13_expects_0 rfl (lv_at hl 0 rfl) ?_
  refine va_get (D := D) (ci := 11) (v := .int (bI wr)) (C := RX13) (T := TX13) (N := 29) hx hb hts kc_RX13 hown hK hP 0 rfl rfl 27 (by decide) k_fieldLink_238 (fun _ h9 => h9) rfl dX13_expects_1 ?_
  refine lv_if_eq (tgt := 8) hx hb dX13_expects_4 (by decide) (fun c_1 => ?_) (fun c_1 => ?_)
  · skip
    have c_1 : wr = false := bI_0 c_1
    refine lv_aload_n hx hb dX13_expects_8 rfl (lv_at hl 0 rfl) ?_
    refine lv_aload_n hx hb dX13_expects_9 rfl (lv_at hl 0 rfl) ?_
    refine vp_callSi (W.runV (As := []) (rest := [.ref (q 0)]) hF (m_X13_sign l9 D k q th ea fa ch tn he en ln sv wr dg tx (by omega) (by omega)) (cwV 0 hts gX13_expects_X13_sign rfl rfl rfl (by decide +kernel) ⟨Nat.le_of_ble_eq_true rfl, Nat.le_of_ble_eq_true rfl⟩) (rPreV hK hN hP [0, 1] rfl 0 11 rfl rfl) rfl rfl hl.1 rfl (lv_room (Nat.le_of_ble_eq_true rfl)) dX13_expects_10 ⟨Nat.zero_le _, Nat.zero_le _⟩) (fun r_2 hr_2 => ?_)
    subst hr_2
    refine lv_iload_n hx hb dX13_expects_13 rfl (lv_at hl 1 rfl) ?_
    refine lv_icmp_eq (tgt := 21) hx hb dX13_expects_14 (by decide) (fun c_3 => ?_) (fun c_3 => ?_)
    · skip
      refine lv_iconst (v := 0) hx hb dX13_expects_21 (by decide) ?_
      refine va_put (D := D) (ci := 11) (v := .int 0) (ty := .boolean) (C := RX13) (T := TX13) (N := 29) hx hb hts kc_RX13 tyX13 tyX13_ok nmX13 hown hK hP hD hS 0 rfl rfl 27 (by decide) k_fieldLink_238 (fun _ h9 => h9) rfl (by decide +kernel) rfl rfl (Nat.le_of_ble_eq_true rfl) dX13_expects_22 (fun H locs hP hD hS => ?_)
      have hP : va_P D vwCl (bMO k q th ea fa ch tn he en ln sv false dg ++ bI60 k (q 14) tx) H := hP
      have hD : va_D A (bMO k q th ea fa ch tn he en ln sv false dg ++ bI60 k (q 14) tx) := hD
      refine lv_aload_n hx hb dX13_expects_25 rfl (lv_at hl 0 rfl) ?_
      refine lv_dup hx hb dX13_expects_26 rfl ?_
      refine va_get (D := D) (ci := 11) (v := .int (nI he)) (C := RX13) (T := TX13) (N := 29) hx hb hts kc_RX13 hown hK hP 0 rfl rfl 24 (by decide) k_fieldLink_232 (fun _ h9 => h9) rfl dX13_expects_27 ?_
      refine lv_aload_n hx hb dX13_expects_30 rfl (lv_at hl 0 rfl) ?_
      refine va_get (D := D) (ci := 11) (v := .int (bI false)) (C := RX13) (T := TX13) (N := 29) hx hb hts kc_RX13 hown hK hP 0 rfl rfl 27 (by decide) k_fieldLink_238 (fun _ h9 => h9) rfl dX13_expects_31 ?_
      refine lv_if_eq (tgt := 41) hx hb dX13_expects_34 (by decide) (fun c_4 => ?_) (fun c_4 => ?_)
      · skip
        refine lv_iconst (v := 1) hx hb dX13_expects_41 (by decide) ?_
        refine ni_add hx hb he 1 dX13_expects_42 ?_
        refine va_put (D := D) (ci := 11) (v := .int (nI (he + 1))) (ty := .int) (C := RX13) (T := TX13) (N := 29) hx hb hts kc_RX13 tyX13 tyX13_ok nmX13 hown hK hP hD hS 0 rfl rfl 24 (by decide) k_fieldLink_232 (fun _ h9 => h9) rfl (by decide +kernel) rfl rfl (Nat.le_of_ble_eq_true rfl) dX13_expects_43 (fun H locs hP hD hS => ?_)
        have hP : va_P D vwCl (bMO k q th ea fa ch tn (he + 1) en ln sv false dg ++ bI60 k (q 14) tx) H := hP
        have hD : va_D A (bMO k q th ea fa ch tn (he + 1) en ln sv false dg ++ bI60 k (q 14) tx) := hD
        have e_5 : (he + 1 : Nat) = (exE tx en he wr z).1 := by first | (with_reducible rfl) | (first | (rw [exE_t (by assumption)]; first | done | rfl | assumption) | (rw [exE_f (by assumption) (by assumption)]; first | done | rfl | assumption) | (rw [exE_n (by assumption) (by assumption)]; first | done | rfl | assumption))
        have hP := Eq.mp (congrArg (fun z9 => va_P D vwCl (bMO k q th ea fa ch tn z9 en ln sv false dg ++ bI60 k (q 14) tx) H) e_5) hP
        have hD := Eq.mp (congrArg (fun z9 => va_D A (bMO k q th ea fa ch tn z9 en ln sv false dg ++ bI60 k (q 14) tx)) e_5) hD
        have e_6 : (false : Bool) = (exE tx en he wr z).2 := by first | (with_reducible rfl) | (first | (rw [exE_t (by assumption)]; first | done | rfl | assumption) | (rw [exE_f (by assumption) (by assumption)]; first | done | rfl | assumption) | (rw [exE_n (by assumption) (by assumption)]; first | done | rfl | assumption))
        have hP := Eq.mp (congrArg (fun z9 => va_P D vwCl (bMO k q th ea fa ch tn ((exE tx en he wr z).1) en ln sv z9 dg ++ bI60 k (q 14) tx) H) e_6) hP
        have hD := Eq.mp (congrArg (fun z9 => va_D A (bMO k q th ea fa ch tn ((exE tx en he wr z).1) en ln sv z9 dg ++ bI60 k (q 14) tx)) e_6) hD
        exact W.vret hx hb hr (fun t9 ht hW => ⟨⟨(), rfl, trivial, ⟨by rw [ht]; exact hP, va_K.moved hW.alike hK, hD⟩⟩, hS.F ht⟩) hS.2.2 dX13_expects_46 hlocks
      · first | exact absurd c_4 (by decide) | exact absurd (by decide) c_4
    · skip
      refine lv_iconst (v := 1) hx hb dX13_expects_17 (by decide) ?_
      refine lv_goto (tgt := 22) hx hb dX13_expects_18 (by decide) ?_
      refine va_put (D := D) (ci := 11) (v := .int 1) (ty := .boolean) (C := RX13) (T := TX13) (N := 29) hx hb hts kc_RX13 tyX13 tyX13_ok nmX13 hown hK hP hD hS 0 rfl rfl 27 (by decide) k_fieldLink_238 (fun _ h9 => h9) rfl (by decide +kernel) rfl rfl (Nat.le_of_ble_eq_true rfl) dX13_expects_22 (fun H locs hP hD hS => ?_)
      have hP : va_P D vwCl (bMO k q th ea fa ch tn he en ln sv true dg ++ bI60 k (q 14) tx) H := hP
      have hD : va_D A (bMO k q th ea fa ch tn he en ln sv true dg ++ bI60 k (q 14) tx) := hD
      refine lv_aload_n hx hb dX13_expects_25 rfl (lv_at hl 0 rfl) ?_
      refine lv_dup hx hb dX13_expects_26 rfl ?_
      refine va_get (D := D) (ci := 11) (v := .int (nI he)) (C := RX13) (T := TX13) (N := 29) hx hb hts kc_RX13 hown hK hP 0 rfl rfl 24 (by decide) k_fieldLink_232 (fun _ h9 => h9) rfl dX13_expects_27 ?_
      refine lv_aload_n hx hb dX13_expects_30 rfl (lv_at hl 0 rfl) ?_
      refine va_get (D := D) (ci := 11) (v := .int (bI true)) (C := RX13) (T := TX13) (N := 29) hx hb hts kc_RX13 hown hK hP 0 rfl rfl 27 (by decide) k_fieldLink_238 (fun _ h9 => h9) rfl dX13_expects_31 ?_
      refine lv_if_eq (tgt := 41) hx hb dX13_expects_34 (by decide) (fun c_7 => ?_) (fun c_7 => ?_)
      · first | exact absurd c_7 (by decide) | exact absurd (by decide) c_7
      · skip
        refine lv_iconst (v := 0) hx hb dX13_expects_37 (by decide) ?_
        refine lv_goto (tgt := 42) hx hb dX13_expects_38 (by decide) ?_
        refine ni_add hx hb he 0 dX13_expects_42 ?_
        refine va_put (D := D) (ci := 11) (v := .int (nI (he + 0))) (ty := .int) (C := RX13) (T := TX13) (N := 29) hx hb hts kc_RX13 tyX13 tyX13_ok nmX13 hown hK hP hD hS 0 rfl rfl 24 (by decide) k_fieldLink_232 (fun _ h9 => h9) rfl (by decide +kernel) rfl rfl (Nat.le_of_ble_eq_true rfl) dX13_expects_43 (fun H locs hP hD hS => ?_)
        have hP : va_P D vwCl (bMO k q th ea fa ch tn (he + 0) en ln sv true dg ++ bI60 k (q 14) tx) H := hP
        have hD : va_D A (bMO k q th ea fa ch tn (he + 0) en ln sv true dg ++ bI60 k (q 14) tx) := hD
        have e_8 : (he + 0 : Nat) = (exE tx en he wr z).1 := by first | (with_reducible rfl) | (first | (rw [exE_t (by assumption)]; first | done | rfl | assumption) | (rw [exE_f (by assumption) (by assumption)]; first | done | rfl | assumption) | (rw [exE_n (by assumption) (by assumption)]; first | done | rfl | assumption))
        have hP := Eq.mp (congrArg (fun z9 => va_P D vwCl (bMO k q th ea fa ch tn z9 en ln sv true dg ++ bI60 k (q 14) tx) H) e_8) hP
        have hD := Eq.mp (congrArg (fun z9 => va_D A (bMO k q th ea fa ch tn z9 en ln sv true dg ++ bI60 k (q 14) tx)) e_8) hD
        have e_9 : (true : Bool) = (exE tx en he wr z).2 := by first | (with_reducible rfl) | (first | (rw [exE_t (by assumption)]; first | done | rfl | assumption) | (rw [exE_f (by assumption) (by assumption)]; first | done | rfl | assumption) | (rw [exE_n (by assumption) (by assumption)]; first | done | rfl | assumption))
        have hP := Eq.mp (congrArg (fun z9 => va_P D vwCl (bMO k q th ea fa ch tn ((exE tx en he wr z).1) en ln sv z9 dg ++ bI60 k (q 14) tx) H) e_9) hP
        have hD := Eq.mp (congrArg (fun z9 => va_D A (bMO k q th ea fa ch tn ((exE tx en he wr z).1) en ln sv z9 dg ++ bI60 k (q 14) tx)) e_9) hD
        exact W.vret hx hb hr (fun t9 ht hW => ⟨⟨(), rfl, trivial, ⟨by rw [ht]; exact hP, va_K.moved hW.alike hK, hD⟩⟩, hS.F ht⟩) hS.2.2 dX13_expects_46 hlocks
  · skip
    have c_1 : wr = true := bI_1 c_1
    have e_10 : (he : Nat) = (exE tx en he wr z).1 := by first | (with_reducible rfl) | (first | (rw [exE_t (by assumption)]; first | done | rfl | assumption) | (rw [exE_f (by assumption) (by assumption)]; first | done | rfl | assumption) | (rw [exE_n (by assumption) (by assumption)]; first | done | rfl | assumption))
    have hP := Eq.mp (congrArg (fun z9 => va_P D vwCl (bMO k q th ea fa ch tn z9 en ln sv wr dg ++ bI60 k (q 14) tx) H) e_10) hP
    have hD := Eq.mp (congrArg (fun z9 => va_D A (bMO k q th ea fa ch tn z9 en ln sv wr dg ++ bI60 k (q 14) tx)) e_10) hD
    have e_11 : (wr : Bool) = (exE tx en he wr z).2 := by first | (with_reducible rfl) | (first | (rw [exE_t (by assumption)]; first | done | rfl | assumption) | (rw [exE_f (by assumption) (by assumption)]; first | done | rfl | assumption) | (rw [exE_n (by assumption) (by assumption)]; first | done | rfl | assumption))
    have hP := Eq.mp (congrArg (fun z9 => va_P D vwCl (bMO k q th ea fa ch tn ((exE tx en he wr z).1) en ln sv z9 dg ++ bI60 k (q 14) tx) H) e_11) hP
    have hD := Eq.mp (congrArg (fun z9 => va_D A (bMO k q th ea fa ch tn ((exE tx en he wr z).1) en ln sv z9 dg ++ bI60 k (q 14) tx)) e_11) hD
    exact W.vret hx hb hr (fun t9 ht hW => ⟨⟨(), rfl, trivial, ⟨by rw [ht]; exact hP, va_K.moved hW.alike hK, hD⟩⟩, hS.F ht⟩) hS.2.2 dX13_expects_7 hlocks

set_option maxHeartbeats 4000000 in
set_option maxRecDepth 100000 in
theorem m_X13_digits (l9 : Launch) (D : va_G) (k : Nat → ClassId) (sz : Nat) (q : Nat → Nat) (th ea fa : Int32) (ch tn he en ln : Nat) (sv wr dg : Bool) (tx : Nat → Int32) (m : Nat) (hen : en ≤ 60) (hhe : he ≤ en) (hm : m ≤ 4) : Met l9 yX13_digits wsX13_digits ({ frames := 1, cells := 0, slots := 0, locals := 22 }) (WPc D k [.ref (q 0), .int (nI m)] (bMO k q th ea fa ch tn he en ln sv wr dg ++ bI60 k (q 14) tx) sz) (WI D k (bMO k q th ea fa ch tn (he + (dkE tx en he wr m)) en ln sv (dwE tx en he wr m) dg ++ bI60 k (q 14) tx) (dvE tx en he (dkE tx en he wr m)) (va_A (bMO k q th ea fa ch tn he en ln sv wr dg ++ bI60 k (q 14) tx) sz)) 0 0 (va_A (bMO k q th ea fa ch tn he en ln sv wr dg ++ bI60 k (q 14) tx) sz) := by
  refine wMet (y := yX13_digits) (cc := cX13_digits) (maxL := 4) (ret := (some .int)) (Qc := fun A => WI D k (bMO k q th ea fa ch tn (he + (dkE tx en he wr m)) en ln sv (dwE tx en he wr m) dg ++ bI60 k (q 14) tx) (dvE tx en he (dkE tx en he wr m)) A) [.ref (q 0), .int (nI m)] (by decide) rfl (Nat.le_of_ble_eq_true rfl) ?_
  intro p9 e9 s9 m9 bl9 me9 c9 ls A H hF hr hlocks hP hK hN hD hA hS hl hin
  have hl : lv_has ls 4 [(0, .ref (q 0)), (1, .int (nI m))] := hl
  obtain ⟨hx, hb, hml, hown, hts⟩ := id hF
  have k_fieldLink_238 : (Cond.fieldLink RX13 238 "OpinionReactorModel" "isWrong" "Z").before _ s9 = true := hts (.fieldLink RX13 238 "OpinionReactorModel" "isWrong" "Z") (by decide +kernel)
  have kc_RX13 : ∀ w ∈ u_ws RX13 TX13 29, w ∈ wsX13_digits := by decide +kernel
  have k_fieldLink_232 : (Cond.fieldLink RX13 232 "OpinionReactorModel" "here" "I").before _ s9 = true := hts (.fieldLink RX13 232 "OpinionReactorModel" "here" "I") (by decide +kernel)
  have loop_4 : ∀ (fuel : Nat) (i : Nat), (i ≤ m) → (∀ c, c < i → isD (sgn tx en (he + c)) = true) → (i = 0 ∨ wr = false) → (he + i ≤ en) → m - i < fuel → ∀ (ls : Array Slot), ∀ (H : Heap) (locs : List Loc), va_P D vwCl (bMO k q th ea fa ch tn (he + i) en ln sv wr dg ++ bI60 k (q 14) tx) H → va_D A (bMO k q th ea fa ch tn (he + i) en ln sv wr dg ++ bI60 k (q 14) tx) → va_S A s9.heap H locs → lv_has ls 4 [(0, .ref (q 0)), (1, .int (nI m)), (2, .int (dvE tx en he i)), (3, .int (nI i))] → W p9 l9 e9 ({ frames := 1, cells := 0, slots := 0, locals := 22 }) s9 m9 ([.ref (q 0), .int (nI m)] : List Value).toArray bl9 me9 c9 H locs 0 0 (MQ bl9 (WI D k (bMO k q th ea fa ch tn (he + (dkE tx en he wr m)) en ln sv (dwE tx en he wr m) dg ++ bI60 k (q 14) tx) (dvE tx en he (dkE tx en he wr m)) A) ([.ref (q 0), .int (nI m)] : List Value).toArray s9 0 0 A) (F0 m9 4 ls []) := by
    intro fuel
    induction fuel with
    | zero => intro i hi ha hz hle hfuel_4; exact absurd hfuel_4 (Nat.not_lt_zero _)
    | succ fuel ih_4 =>
      intro i hi ha hz hle hfuel_4 ls H locs hP hD hS hl
      refine lv_aload_n hx hb dX13_digits_4 rfl (lv_at hl 0 rfl) ?_
      refine va_get (D := D) (ci := 11) (v := .int (bI wr)) (C := RX13) (T := TX13) (N := 29) hx hb hts kc_RX13 hown hK hP 0 rfl rfl 27 (by decide) k_fieldLink_238 (fun _ h9 => h9) rfl dX13_digits_5 ?_
      refine lv_if_ne (tgt := 59) hx hb dX13_digits_8 (by decide) (fun c_1 => ?_) (fun c_1 => ?_)
      · skip
        have c_1 : wr = true := bI_1 c_1
        have hk9 : dkE tx en he wr m = i := by first | exact dkE_at (by assumption) ha (by assumption) (by omega) | exact (dkE_no (by assumption) (fun c hc => ha c (by omega))).trans (by omega) | (rcases hz with h9 | h9; exact (dkE_t (by assumption)).trans h9.symm; exact Bool.noConfusion (Eq.trans (Eq.symm h9) (by assumption : wr = true)))
        refine lv_aload_n hx hb dX13_digits_59 rfl (lv_at hl 0 rfl) ?_
        refine lv_dup hx hb dX13_digits_60 rfl ?_
        refine va_get (D := D) (ci := 11) (v := .int (bI wr)) (C := RX13) (T := TX13) (N := 29) hx hb hts kc_RX13 hown hK hP 0 rfl rfl 27 (by decide) k_fieldLink_238 (fun _ h9 => h9) rfl dX13_digits_61 ?_
        refine lv_iload_n hx hb dX13_digits_64 rfl (lv_at hl 3 rfl) ?_
        refine lv_if_ne (tgt := 72) hx hb dX13_digits_65 (by decide) (fun c_2 => ?_) (fun c_2 => ?_)
        · skip
          have c_2 : ¬ i = 0 := fun h => c_2 ((nI_eq (a := i) (b := 0) (by omega) (by decide)).mpr h)
          refine lv_iconst (v := 0) hx hb dX13_digits_72 (by decide) ?_
          refine lv_ior hx hb dX13_digits_73 ?_
          refine lv_tope (show Value.int ((bI wr) ||| 0) = Value.int (bI wr) from congrArg Value.int (by exact or0 wr)) ?_
          refine va_put (D := D) (ci := 11) (v := .int (bI wr)) (ty := .boolean) (C := RX13) (T := TX13) (N := 29) hx hb hts kc_RX13 tyX13 tyX13_ok nmX13 hown hK hP hD hS 0 rfl rfl 27 (by decide) k_fieldLink_238 (fun _ h9 => h9) rfl (by decide +kernel) (bI_nar _) (bI_fit _) (Nat.le_of_ble_eq_true rfl) dX13_digits_74 (fun H locs hP hD hS => ?_)
          have hP : va_P D vwCl (bMO k q th ea fa ch tn (he + i) en ln sv wr dg ++ bI60 k (q 14) tx) H := hP
          have hD : va_D A (bMO k q th ea fa ch tn (he + i) en ln sv wr dg ++ bI60 k (q 14) tx) := hD
          refine lv_iload_n hx hb dX13_digits_77 rfl (lv_at hl 2 rfl) ?_
          have e_3 : (he + i : Nat) = he + (dkE tx en he wr m) := by first | (with_reducible rfl) | (rw [hk9])
          have hP := Eq.mp (congrArg (fun z9 => va_P D vwCl (bMO k q th ea fa ch tn z9 en ln sv wr dg ++ bI60 k (q 14) tx) H) e_3) hP
          have hD := Eq.mp (congrArg (fun z9 => va_D A (bMO k q th ea fa ch tn z9 en ln sv wr dg ++ bI60 k (q 14) tx)) e_3) hD
          have e_4 : (wr : Bool) = dwE tx en he wr m := by first | (with_reducible rfl) | (unfold dwE; rw [hk9]; first | (rw [decide_eq_true (show i = 0 by omega)]; exact (Bool.or_true _).symm) | (rw [decide_eq_false (show ¬ i = 0 by omega)]; exact (Bool.or_false _).symm))
          have hP := Eq.mp (congrArg (fun z9 => va_P D vwCl (bMO k q th ea fa ch tn (he + (dkE tx en he wr m)) en ln sv z9 dg ++ bI60 k (q 14) tx) H) e_4) hP
          have hD := Eq.mp (congrArg (fun z9 => va_D A (bMO k q th ea fa ch tn (he + (dkE tx en he wr m)) en ln sv z9 dg ++ bI60 k (q 14) tx)) e_4) hD
          exact W.iret (v := dvE tx en he i) hx hb hr (fun t9 ht hW => ⟨⟨_, (), rfl, (by rw [hk9]), ⟨by rw [ht]; exact hP, va_K.moved hW.alike hK, hD⟩⟩, hS.F ht⟩) hS.2.2 dX13_digits_78 hlocks
        · skip
          have c_2 : i = 0 := (nI_eq (a := i) (b := 0) (by omega) (by decide)).mp c_2
          refine lv_iconst (v := 1) hx hb dX13_digits_68 (by decide) ?_
          refine lv_goto (tgt := 73) hx hb dX13_digits_69 (by decide) ?_
          refine lv_ior hx hb dX13_digits_73 ?_
          refine lv_tope (show Value.int ((bI wr) ||| 1) = Value.int 1 from congrArg Value.int (by exact or1 wr)) ?_
          refine va_put (D := D) (ci := 11) (v := .int 1) (ty := .boolean) (C := RX13) (T := TX13) (N := 29) hx hb hts kc_RX13 tyX13 tyX13_ok nmX13 hown hK hP hD hS 0 rfl rfl 27 (by decide) k_fieldLink_238 (fun _ h9 => h9) rfl (by decide +kernel) rfl rfl (Nat.le_of_ble_eq_true rfl) dX13_digits_74 (fun H locs hP hD hS => ?_)
          have hP : va_P D vwCl (bMO k q th ea fa ch tn (he + i) en ln sv true dg ++ bI60 k (q 14) tx) H := hP
          have hD : va_D A (bMO k q th ea fa ch tn (he + i) en ln sv true dg ++ bI60 k (q 14) tx) := hD
          refine lv_iload_n hx hb dX13_digits_77 rfl (lv_at hl 2 rfl) ?_
          have e_5 : (he + i : Nat) = he + (dkE tx en he wr m) := by first | (with_reducible rfl) | (rw [hk9])
          have hP := Eq.mp (congrArg (fun z9 => va_P D vwCl (bMO k q th ea fa ch tn z9 en ln sv true dg ++ bI60 k (q 14) tx) H) e_5) hP
          have hD := Eq.mp (congrArg (fun z9 => va_D A (bMO k q th ea fa ch tn z9 en ln sv true dg ++ bI60 k (q 14) tx)) e_5) hD
          have e_6 : (true : Bool) = dwE tx en he wr m := by first | (with_reducible rfl) | (unfold dwE; rw [hk9]; first | (rw [decide_eq_true (show i = 0 by omega)]; exact (Bool.or_true _).symm) | (rw [decide_eq_false (show ¬ i = 0 by omega)]; exact (Bool.or_false _).symm))
          have hP := Eq.mp (congrArg (fun z9 => va_P D vwCl (bMO k q th ea fa ch tn (he + (dkE tx en he wr m)) en ln sv z9 dg ++ bI60 k (q 14) tx) H) e_6) hP
          have hD := Eq.mp (congrArg (fun z9 => va_D A (bMO k q th ea fa ch tn (he + (dkE tx en he wr m)) en ln sv z9 dg ++ bI60 k (q 14) tx)) e_6) hD
          exact W.iret (v := dvE tx en he i) hx hb hr (fun t9 ht hW => ⟨⟨_, (), rfl, (by rw [hk9]), ⟨by rw [ht]; exact hP, va_K.moved hW.alike hK, hD⟩⟩, hS.F ht⟩) hS.2.2 dX13_digits_78 hlocks
      · skip
        have c_1 : wr = false := bI_0 c_1
        refine lv_iload_n hx hb dX13_digits_11 rfl (lv_at hl 3 rfl) ?_
        refine lv_iload_n hx hb dX13_digits_12 rfl (lv_at hl 1 rfl) ?_
        refine lv_icmp_ge (tgt := 59) hx hb dX13_digits_13 (by decide) (fun c_7 => ?_) (fun c_7 => ?_)
        · skip
          have c_7 : m ≤ i := (nI_leI (a := m) (b := i) (by omega) (by omega)).mp c_7
          have hk9 : dkE tx en he wr m = i := by first | exact dkE_at (by assumption) ha (by assumption) (by omega) | exact (dkE_no (by assumption) (fun c hc => ha c (by omega))).trans (by omega) | (rcases hz with h9 | h9; exact (dkE_t (by assumption)).trans h9.symm; exact Bool.noConfusion (Eq.trans (Eq.symm h9) (by assumption : wr = true)))
          refine lv_aload_n hx hb dX13_digits_59 rfl (lv_at hl 0 rfl) ?_
          refine lv_dup hx hb dX13_digits_60 rfl ?_
          refine va_get (D := D) (ci := 11) (v := .int (bI wr)) (C := RX13) (T := TX13) (N := 29) hx hb hts kc_RX13 hown hK hP 0 rfl rfl 27 (by decide) k_fieldLink_238 (fun _ h9 => h9) rfl dX13_digits_61 ?_
          refine lv_iload_n hx hb dX13_digits_64 rfl (lv_at hl 3 rfl) ?_
          refine lv_if_ne (tgt := 72) hx hb dX13_digits_65 (by decide) (fun c_8 => ?_) (fun c_8 => ?_)
          · skip
            have c_8 : ¬ i = 0 := fun h => c_8 ((nI_eq (a := i) (b := 0) (by omega) (by decide)).mpr h)
            refine lv_iconst (v := 0) hx hb dX13_digits_72 (by decide) ?_
            refine lv_ior hx hb dX13_digits_73 ?_
            refine lv_tope (show Value.int ((bI wr) ||| 0) = Value.int (bI wr) from congrArg Value.int (by exact or0 wr)) ?_
            refine va_put (D := D) (ci := 11) (v := .int (bI wr)) (ty := .boolean) (C := RX13) (T := TX13) (N := 29) hx hb hts kc_RX13 tyX13 tyX13_ok nmX13 hown hK hP hD hS 0 rfl rfl 27 (by decide) k_fieldLink_238 (fun _ h9 => h9) rfl (by decide +kernel) (bI_nar _) (bI_fit _) (Nat.le_of_ble_eq_true rfl) dX13_digits_74 (fun H locs hP hD hS => ?_)
            have hP : va_P D vwCl (bMO k q th ea fa ch tn (he + i) en ln sv wr dg ++ bI60 k (q 14) tx) H := hP
            have hD : va_D A (bMO k q th ea fa ch tn (he + i) en ln sv wr dg ++ bI60 k (q 14) tx) := hD
            refine lv_iload_n hx hb dX13_digits_77 rfl (lv_at hl 2 rfl) ?_
            have e_9 : (he + i : Nat) = he + (dkE tx en he wr m) := by first | (with_reducible rfl) | (rw [hk9])
            have hP := Eq.mp (congrArg (fun z9 => va_P D vwCl (bMO k q th ea fa ch tn z9 en ln sv wr dg ++ bI60 k (q 14) tx) H) e_9) hP
            have hD := Eq.mp (congrArg (fun z9 => va_D A (bMO k q th ea fa ch tn z9 en ln sv wr dg ++ bI60 k (q 14) tx)) e_9) hD
            have e_10 : (wr : Bool) = dwE tx en he wr m := by first | (with_reducible rfl) | (unfold dwE; rw [hk9]; first | (rw [decide_eq_true (show i = 0 by omega)]; exact (Bool.or_true _).symm) | (rw [decide_eq_false (show ¬ i = 0 by omega)]; exact (Bool.or_false _).symm))
            have hP := Eq.mp (congrArg (fun z9 => va_P D vwCl (bMO k q th ea fa ch tn (he + (dkE tx en he wr m)) en ln sv z9 dg ++ bI60 k (q 14) tx) H) e_10) hP
            have hD := Eq.mp (congrArg (fun z9 => va_D A (bMO k q th ea fa ch tn (he + (dkE tx en he wr m)) en ln sv z9 dg ++ bI60 k (q 14) tx)) e_10) hD
            exact W.iret (v := dvE tx en he i) hx hb hr (fun t9 ht hW => ⟨⟨_, (), rfl, (by rw [hk9]), ⟨by rw [ht]; exact hP, va_K.moved hW.alike hK, hD⟩⟩, hS.F ht⟩) hS.2.2 dX13_digits_78 hlocks
          · skip
            have c_8 : i = 0 := (nI_eq (a := i) (b := 0) (by omega) (by decide)).mp c_8
            refine lv_iconst (v := 1) hx hb dX13_digits_68 (by decide) ?_
            refine lv_goto (tgt := 73) hx hb dX13_digits_69 (by decide) ?_
            refine lv_ior hx hb dX13_digits_73 ?_
            refine lv_tope (show Value.int ((bI wr) ||| 1) = Value.int 1 from congrArg Value.int (by exact or1 wr)) ?_
            refine va_put (D := D) (ci := 11) (v := .int 1) (ty := .boolean) (C := RX13) (T := TX13) (N := 29) hx hb hts kc_RX13 tyX13 tyX13_ok nmX13 hown hK hP hD hS 0 rfl rfl 27 (by decide) k_fieldLink_238 (fun _ h9 => h9) rfl (by decide +kernel) rfl rfl (Nat.le_of_ble_eq_true rfl) dX13_digits_74 (fun H locs hP hD hS => ?_)
            have hP : va_P D vwCl (bMO k q th ea fa ch tn (he + i) en ln sv true dg ++ bI60 k (q 14) tx) H := hP
            have hD : va_D A (bMO k q th ea fa ch tn (he + i) en ln sv true dg ++ bI60 k (q 14) tx) := hD
            refine lv_iload_n hx hb dX13_digits_77 rfl (lv_at hl 2 rfl) ?_
            have e_11 : (he + i : Nat) = he + (dkE tx en he wr m) := by first | (with_reducible rfl) | (rw [hk9])
            have hP := Eq.mp (congrArg (fun z9 => va_P D vwCl (bMO k q th ea fa ch tn z9 en ln sv true dg ++ bI60 k (q 14) tx) H) e_11) hP
            have hD := Eq.mp (congrArg (fun z9 => va_D A (bMO k q th ea fa ch tn z9 en ln sv true dg ++ bI60 k (q 14) tx)) e_11) hD
            have e_12 : (true : Bool) = dwE tx en he wr m := by first | (with_reducible rfl) | (unfold dwE; rw [hk9]; first | (rw [decide_eq_true (show i = 0 by omega)]; exact (Bool.or_true _).symm) | (rw [decide_eq_false (show ¬ i = 0 by omega)]; exact (Bool.or_false _).symm))
            have hP := Eq.mp (congrArg (fun z9 => va_P D vwCl (bMO k q th ea fa ch tn (he + (dkE tx en he wr m)) en ln sv z9 dg ++ bI60 k (q 14) tx) H) e_12) hP
            have hD := Eq.mp (congrArg (fun z9 => va_D A (bMO k q th ea fa ch tn (he + (dkE tx en he wr m)) en ln sv z9 dg ++ bI60 k (q 14) tx)) e_12) hD
            exact W.iret (v := dvE tx en he i) hx hb hr (fun t9 ht hW => ⟨⟨_, (), rfl, (by rw [hk9]), ⟨by rw [ht]; exact hP, va_K.moved hW.alike hK, hD⟩⟩, hS.F ht⟩) hS.2.2 dX13_digits_78 hlocks
        · skip
          have c_7 : ¬ m ≤ i := fun h => c_7 ((nI_leI (a := m) (b := i) (by omega) (by omega)).mpr h)
          refine lv_aload_n hx hb dX13_digits_16 rfl (lv_at hl 0 rfl) ?_
          refine vp_callSi (W.runV (As := []) (rest := []) hF (m_X13_sign l9 D k q th ea fa ch tn (he + i) en ln sv wr dg tx (by omega) (by omega)) (cwV 0 hts gX13_digits_X13_sign rfl rfl rfl (by decide +kernel) ⟨Nat.le_of_ble_eq_true rfl, Nat.le_of_ble_eq_true rfl⟩) (rPreV hK hN hP [0, 1] rfl 0 11 rfl rfl) rfl rfl hl.1 rfl (lv_room (Nat.le_of_ble_eq_true rfl)) dX13_digits_17 ⟨Nat.zero_le _, Nat.zero_le _⟩) (fun r_13 hr_13 => ?_)
          subst hr_13
          refine lv_bipush (v := 48) hx hb dX13_digits_20 (by decide) ?_
          refine lv_bipush (v := 57) hx hb dX13_digits_22 (by decide) ?_
          refine vp_callSi (W.runS (As := [.int (sgn tx en (he + i)), .int 48, .int 57]) (rest := []) hF (m_X13_isIn l9 D k (sgn tx en (he + i)) 48 57 ) (va_cwS 3 hts gX13_digits_X13_isIn rfl rfl rfl (by decide +kernel) ⟨Nat.le_of_ble_eq_true rfl, Nat.le_of_ble_eq_true rfl⟩) (rPreS hK hN hP [] rfl) rfl rfl hl.1 rfl (lv_room (Nat.le_of_ble_eq_true rfl)) dX13_digits_24 ⟨Nat.zero_le _, Nat.zero_le _⟩) (fun r_14 hr_14 => ?_)
          subst hr_14
          refine lv_if_eq (tgt := 59) hx hb dX13_digits_27 (by decide) (fun c_15 => ?_) (fun c_15 => ?_)
          · skip
            have c_15 : (rg 48 (sgn tx en (he + i)) 57) = false := bI_0 c_15
            have hk9 : dkE tx en he wr m = i := by first | exact dkE_at (by assumption) ha (by assumption) (by omega) | exact (dkE_no (by assumption) (fun c hc => ha c (by omega))).trans (by omega) | (rcases hz with h9 | h9; exact (dkE_t (by assumption)).trans h9.symm; exact Bool.noConfusion (Eq.trans (Eq.symm h9) (by assumption : wr = true)))
            refine lv_aload_n hx hb dX13_digits_59 rfl (lv_at hl 0 rfl) ?_
            refine lv_dup hx hb dX13_digits_60 rfl ?_
            refine va_get (D := D) (ci := 11) (v := .int (bI wr)) (C := RX13) (T := TX13) (N := 29) hx hb hts kc_RX13 hown hK hP 0 rfl rfl 27 (by decide) k_fieldLink_238 (fun _ h9 => h9) rfl dX13_digits_61 ?_
            refine lv_iload_n hx hb dX13_digits_64 rfl (lv_at hl 3 rfl) ?_
            refine lv_if_ne (tgt := 72) hx hb dX13_digits_65 (by decide) (fun c_16 => ?_) (fun c_16 => ?_)
            · skip
              have c_16 : ¬ i = 0 := fun h => c_16 ((nI_eq (a := i) (b := 0) (by omega) (by decide)).mpr h)
              refine lv_iconst (v := 0) hx hb dX13_digits_72 (by decide) ?_
              refine lv_ior hx hb dX13_digits_73 ?_
              refine lv_tope (show Value.int ((bI wr) ||| 0) = Value.int (bI wr) from congrArg Value.int (by exact or0 wr)) ?_
              refine va_put (D := D) (ci := 11) (v := .int (bI wr)) (ty := .boolean) (C := RX13) (T := TX13) (N := 29) hx hb hts kc_RX13 tyX13 tyX13_ok nmX13 hown hK hP hD hS 0 rfl rfl 27 (by decide) k_fieldLink_238 (fun _ h9 => h9) rfl (by decide +kernel) (bI_nar _) (bI_fit _) (Nat.le_of_ble_eq_true rfl) dX13_digits_74 (fun H locs hP hD hS => ?_)
              have hP : va_P D vwCl (bMO k q th ea fa ch tn (he + i) en ln sv wr dg ++ bI60 k (q 14) tx) H := hP
              have hD : va_D A (bMO k q th ea fa ch tn (he + i) en ln sv wr dg ++ bI60 k (q 14) tx) := hD
              refine lv_iload_n hx hb dX13_digits_77 rfl (lv_at hl 2 rfl) ?_
              have e_17 : (he + i : Nat) = he + (dkE tx en he wr m) := by first | (with_reducible rfl) | (rw [hk9])
              have hP := Eq.mp (congrArg (fun z9 => va_P D vwCl (bMO k q th ea fa ch tn z9 en ln sv wr dg ++ bI60 k (q 14) tx) H) e_17) hP
              have hD := Eq.mp (congrArg (fun z9 => va_D A (bMO k q th ea fa ch tn z9 en ln sv wr dg ++ bI60 k (q 14) tx)) e_17) hD
              have e_18 : (wr : Bool) = dwE tx en he wr m := by first | (with_reducible rfl) | (unfold dwE; rw [hk9]; first | (rw [decide_eq_true (show i = 0 by omega)]; exact (Bool.or_true _).symm) | (rw [decide_eq_false (show ¬ i = 0 by omega)]; exact (Bool.or_false _).symm))
              have hP := Eq.mp (congrArg (fun z9 => va_P D vwCl (bMO k q th ea fa ch tn (he + (dkE tx en he wr m)) en ln sv z9 dg ++ bI60 k (q 14) tx) H) e_18) hP
              have hD := Eq.mp (congrArg (fun z9 => va_D A (bMO k q th ea fa ch tn (he + (dkE tx en he wr m)) en ln sv z9 dg ++ bI60 k (q 14) tx)) e_18) hD
              exact W.iret (v := dvE tx en he i) hx hb hr (fun t9 ht hW => ⟨⟨_, (), rfl, (by rw [hk9]), ⟨by rw [ht]; exact hP, va_K.moved hW.alike hK, hD⟩⟩, hS.F ht⟩) hS.2.2 dX13_digits_78 hlocks
            · skip
              have c_16 : i = 0 := (nI_eq (a := i) (b := 0) (by omega) (by decide)).mp c_16
              refine lv_iconst (v := 1) hx hb dX13_digits_68 (by decide) ?_
              refine lv_goto (tgt := 73) hx hb dX13_digits_69 (by decide) ?_
              refine lv_ior hx hb dX13_digits_73 ?_
              refine lv_tope (show Value.int ((bI wr) ||| 1) = Value.int 1 from congrArg Value.int (by exact or1 wr)) ?_
              refine va_put (D := D) (ci := 11) (v := .int 1) (ty := .boolean) (C := RX13) (T := TX13) (N := 29) hx hb hts kc_RX13 tyX13 tyX13_ok nmX13 hown hK hP hD hS 0 rfl rfl 27 (by decide) k_fieldLink_238 (fun _ h9 => h9) rfl (by decide +kernel) rfl rfl (Nat.le_of_ble_eq_true rfl) dX13_digits_74 (fun H locs hP hD hS => ?_)
              have hP : va_P D vwCl (bMO k q th ea fa ch tn (he + i) en ln sv true dg ++ bI60 k (q 14) tx) H := hP
              have hD : va_D A (bMO k q th ea fa ch tn (he + i) en ln sv true dg ++ bI60 k (q 14) tx) := hD
              refine lv_iload_n hx hb dX13_digits_77 rfl (lv_at hl 2 rfl) ?_
              have e_19 : (he + i : Nat) = he + (dkE tx en he wr m) := by first | (with_reducible rfl) | (rw [hk9])
              have hP := Eq.mp (congrArg (fun z9 => va_P D vwCl (bMO k q th ea fa ch tn z9 en ln sv true dg ++ bI60 k (q 14) tx) H) e_19) hP
              have hD := Eq.mp (congrArg (fun z9 => va_D A (bMO k q th ea fa ch tn z9 en ln sv true dg ++ bI60 k (q 14) tx)) e_19) hD
              have e_20 : (true : Bool) = dwE tx en he wr m := by first | (with_reducible rfl) | (unfold dwE; rw [hk9]; first | (rw [decide_eq_true (show i = 0 by omega)]; exact (Bool.or_true _).symm) | (rw [decide_eq_false (show ¬ i = 0 by omega)]; exact (Bool.or_false _).symm))
              have hP := Eq.mp (congrArg (fun z9 => va_P D vwCl (bMO k q th ea fa ch tn (he + (dkE tx en he wr m)) en ln sv z9 dg ++ bI60 k (q 14) tx) H) e_20) hP
              have hD := Eq.mp (congrArg (fun z9 => va_D A (bMO k q th ea fa ch tn (he + (dkE tx en he wr m)) en ln sv z9 dg ++ bI60 k (q 14) tx)) e_20) hD
              exact W.iret (v := dvE tx en he i) hx hb hr (fun t9 ht hW => ⟨⟨_, (), rfl, (by rw [hk9]), ⟨by rw [ht]; exact hP, va_K.moved hW.alike hK, hD⟩⟩, hS.F ht⟩) hS.2.2 dX13_digits_78 hlocks
          · skip
            have c_15 : (rg 48 (sgn tx en (he + i)) 57) = true := bI_1 c_15
            refine lv_bipush (v := 10) hx hb dX13_digits_30 (by decide) ?_
            refine lv_iload_n hx hb dX13_digits_32 rfl (lv_at hl 2 rfl) ?_
            refine lv_imul hx hb dX13_digits_33 ?_
            refine lv_aload_n hx hb dX13_digits_34 rfl (lv_at hl 0 rfl) ?_
            refine vp_callSi (W.runV (As := []) (rest := [.int (10 * (dvE tx en he i))]) hF (m_X13_sign l9 D k q th ea fa ch tn (he + i) en ln sv wr dg tx (by omega) (by omega)) (cwV 0 hts gX13_digits_X13_sign rfl rfl rfl (by decide +kernel) ⟨Nat.le_of_ble_eq_true rfl, Nat.le_of_ble_eq_true rfl⟩) (rPreV hK hN hP [0, 1] rfl 0 11 rfl rfl) rfl rfl hl.1 rfl (lv_room (Nat.le_of_ble_eq_true rfl)) dX13_digits_35 ⟨Nat.zero_le _, Nat.zero_le _⟩) (fun r_21 hr_21 => ?_)
            subst hr_21
            refine lv_iadd hx hb dX13_digits_38 ?_
            refine lv_bipush (v := 48) hx hb dX13_digits_39 (by decide) ?_
            refine lv_isub hx hb dX13_digits_41 ?_
            refine lv_istore_n (lv' := [(2, .int (((10 * (dvE tx en he i)) + (sgn tx en (he + i))) - 48)), (0, .ref (q 0)), (1, .int (nI m)), (3, .int (nI i))]) hx hb dX13_digits_42 rfl hl (by decide) rfl (fun ls hl => ?_)
            refine lv_aload_n hx hb dX13_digits_43 rfl (lv_at hl 1 rfl) ?_
            refine lv_dup hx hb dX13_digits_44 rfl ?_
            refine va_get (D := D) (ci := 11) (v := .int (nI (he + i))) (C := RX13) (T := TX13) (N := 29) hx hb hts kc_RX13 hown hK hP 0 rfl rfl 24 (by decide) k_fieldLink_232 (fun _ h9 => h9) rfl dX13_digits_45 ?_
            refine lv_iconst (v := 1) hx hb dX13_digits_48 (by decide) ?_
            refine ni_add hx hb (he + i) 1 dX13_digits_49 ?_
            refine va_put (D := D) (ci := 11) (v := .int (nI ((he + i) + 1))) (ty := .int) (C := RX13) (T := TX13) (N := 29) hx hb hts kc_RX13 tyX13 tyX13_ok nmX13 hown hK hP hD hS 0 rfl rfl 24 (by decide) k_fieldLink_232 (fun _ h9 => h9) rfl (by decide +kernel) rfl rfl (Nat.le_of_ble_eq_true rfl) dX13_digits_50 (fun H locs hP hD hS => ?_)
            have hP : va_P D vwCl (bMO k q th ea fa ch tn ((he + i) + 1) en ln sv wr dg ++ bI60 k (q 14) tx) H := hP
            have hD : va_D A (bMO k q th ea fa ch tn ((he + i) + 1) en ln sv wr dg ++ bI60 k (q 14) tx) := hD
            refine lv_iinc (v := nI (i + 1)) (lv' := [(3, .int (nI (i + 1))), (2, .int (((10 * (dvE tx en he i)) + (sgn tx en (he + i))) - 48)), (0, .ref (q 0)), (1, .int (nI m))]) hx hb dX13_digits_53 hl (k := 3) rfl (nI_inc i) (by decide) rfl (fun ls hl => ?_)
            refine lv_goto (tgt := 4) hx hb dX13_digits_56 (by decide) ?_
            have e_22 : (((10 * (dvE tx en he i)) + (sgn tx en (he + i))) - 48 : Int32) = dvE tx en he (i + 1) := by first | (with_reducible rfl) | (rfl)
            have e_23 : ((he + i) + 1 : Nat) = he + (i + 1) := by first | (with_reducible rfl) | (rfl)
            have hP := Eq.mp (congrArg (fun z9 => va_P D vwCl (bMO k q th ea fa ch tn z9 en ln sv wr dg ++ bI60 k (q 14) tx) H) e_23) hP
            have hD := Eq.mp (congrArg (fun z9 => va_D A (bMO k q th ea fa ch tn z9 en ln sv wr dg ++ bI60 k (q 14) tx)) e_23) hD
            exact ih_4 (i + 1) (by omega) (fun c hc => (Nat.lt_succ_iff_lt_or_eq.mp hc).elim (ha c) (fun e => by rw [e]; assumption)) (Or.inr (by assumption)) (by have := isD_in (tx := tx) (en := en) (he := he + i) (by assumption); omega) (by omega) ls _ _ hP hD hS (lv_one hl 2 rfl rfl (lv_one hl 3 rfl rfl (lv_one hl 1 rfl (congrArg Value.int e_22) (lv_one hl 0 rfl rfl (lv_nil hl)))))
  refine lv_iconst (v := 0) hx hb dX13_digits_0 (by decide) ?_
  refine lv_istore_n (lv' := [(2, .int 0), (0, .ref (q 0)), (1, .int (nI m))]) hx hb dX13_digits_1 rfl hl (by decide) rfl (fun ls hl => ?_)
  refine lv_iconst (v := 0) hx hb dX13_digits_2 (by decide) ?_
  refine lv_istore_n (lv' := [(3, .int 0), (2, .int 0), (0, .ref (q 0)), (1, .int (nI m))]) hx hb dX13_digits_3 rfl hl (by decide) rfl (fun ls hl => ?_)
  have e_24 : (0 : Int32) = dvE tx en he 0 := by first | (with_reducible rfl) | (rfl)
  have e_25 : (he : Nat) = he + 0 := by first | (with_reducible rfl) | (rfl)
  have hP := Eq.mp (congrArg (fun z9 => va_P D vwCl (bMO k q th ea fa ch tn z9 en ln sv wr dg ++ bI60 k (q 14) tx) H) e_25) hP
  have hD := Eq.mp (congrArg (fun z9 => va_D A (bMO k q th ea fa ch tn z9 en ln sv wr dg ++ bI60 k (q 14) tx)) e_25) hD
  exact loop_4 ((m - 0) + 1) 0 (by omega) (fun c hc => absurd hc (Nat.not_lt_zero c)) (Or.inl rfl) (by omega) (Nat.lt_succ_self _) ls _ _ hP hD hS (lv_one hl 2 rfl rfl (lv_one hl 3 rfl rfl (lv_one hl 1 rfl (congrArg Value.int e_24) (lv_one hl 0 rfl rfl (lv_nil hl)))))

set_option maxHeartbeats 4000000 in
set_option maxRecDepth 100000 in
theorem m_X13_behind (l9 : Launch) (D : va_G) (k : Nat → ClassId) (sz : Nat) (q : Nat → Nat) (th ea fa : Int32) (ch tn he en ln : Nat) (sv wr dg : Bool) (tx : Nat → Int32) (z : Int32) (m : Nat) (hen : en ≤ 60) (hhe : he ≤ en) (hm : m ≤ 4) (hz : z ≠ -1) : Met l9 yX13_behind wsX13_behind ({ frames := 2, cells := 0, slots := 0, locals := 45 }) (WPc D k [.ref (q 0), .int z, .int (nI m)] (bMO k q th ea fa ch tn he en ln sv wr dg ++ bI60 k (q 14) tx) sz) (WI D k (bMO k q th ea fa ch tn ((bhE tx en he wr z m).2.1) en ln sv ((bhE tx en he wr z m).2.2) dg ++ bI60 k (q 14) tx) ((bhE tx en he wr z m).1) (va_A (bMO k q th ea fa ch tn he en ln sv wr dg ++ bI60 k (q 14) tx) sz)) 0 0 (va_A (bMO k q th ea fa ch tn he en ln sv wr dg ++ bI60 k (q 14) tx) sz) := by
  refine wMet (y := yX13_behind) (cc := cX13_behind) (maxL := 3) (ret := (some .int)) (Qc := fun A => WI D k (bMO k q th ea fa ch tn ((bhE tx en he wr z m).2.1) en ln sv ((bhE tx en he wr z m).2.2) dg ++ bI60 k (q 14) tx) ((bhE tx en he wr z m).1) A) [.ref (q 0), .int z, .int (nI m)] (by decide) rfl (Nat.le_of_ble_eq_true rfl) ?_
  intro p9 e9 s9 m9 bl9 me9 c9 ls A H hF hr hlocks hP hK hN hD hA hS hl hin
  have hl : lv_has ls 3 [(0, .ref (q 0)), (1, .int z), (2, .int (nI m))] := hl
  obtain ⟨hx, hb, hml, hown, hts⟩ := id hF
  have k_fieldLink_238 : (Cond.fieldLink RX13 238 "OpinionReactorModel" "isWrong" "Z").before _ s9 = true := hts (.fieldLink RX13 238 "OpinionReactorModel" "isWrong" "Z") (by decide +kernel)
  have kc_RX13 : ∀ w ∈ u_ws RX13 TX13 29, w ∈ wsX13_behind := by decide +kernel
  refine lv_aload_n hx hb dX13_behind_0 rfl (lv_at hl 0 rfl) ?_
  refine lv_iload_n hx hb dX13_behind_1 rfl (lv_at hl 1 rfl) ?_
  have hFc := va_free (wc := bMO k q th ea fa ch tn he en ln sv wr dg ++ bI60 k (q 14) tx) hD hS hA [0, 1] rfl
  refine va_callv (va_runV (As := [.int z]) (rest := []) hF (m_X13_expects l9 D k H.size q th ea fa ch tn he en ln sv wr dg tx z hen (by omega)) (cwV 1 hts gX13_behind_X13_expects rfl rfl rfl (by decide +kernel) ⟨Nat.le_of_ble_eq_true rfl, Nat.le_of_ble_eq_true rfl⟩) (wPreV hK hN hP hD [0, 1] rfl (by decide) rfl 0 11 rfl rfl) rfl rfl hl.1 rfl (lv_room (Nat.le_of_ble_eq_true rfl)) dX13_behind_2 ⟨Nat.zero_le _, Nat.zero_le _⟩) hS (fun q _ h => hFc q h) hFc (fun u9 t9 H1 locs ht hvm hw hB hz1 hk1 hS => ?_)
  obtain ⟨hP, hD⟩ := wjoin (wr := []) (wf := bMO k q th ea fa ch tn ((exE tx en he wr z).1) en ln sv ((exE tx en he wr z).2) dg ++ bI60 k (q 14) tx) hP hD [0, 1] [] [0, 1] rfl rfl (by decide) (by decide) hk1 hFc hB ht rfl rfl (by decide)
  clear hB hk1 hz1 hvm hFc
  clear ht
  clear t9
  generalize H1 = H at hP hS ⊢
  refine lv_aload_n hx hb dX13_behind_5 rfl (lv_at hl 0 rfl) ?_
  refine va_get (D := D) (ci := 11) (v := .int (bI ((exE tx en he wr z).2))) (C := RX13) (T := TX13) (N := 29) hx hb hts kc_RX13 hown hK hP 0 rfl rfl 27 (by decide) k_fieldLink_238 (fun _ h9 => h9) rfl dX13_behind_6 ?_
  refine lv_if_eq (tgt := 16) hx hb dX13_behind_9 (by decide) (fun c_1 => ?_) (fun c_1 => ?_)
  · skip
    have c_1 : ((exE tx en he wr z).2) = false := bI_0 c_1
    refine lv_aload_n hx hb dX13_behind_16 rfl (lv_at hl 0 rfl) ?_
    refine lv_iload_n hx hb dX13_behind_17 rfl (lv_at hl 2 rfl) ?_
    have hFc := va_free (wc := bMO k q th ea fa ch tn ((exE tx en he wr z).1) en ln sv ((exE tx en he wr z).2) dg ++ bI60 k (q 14) tx) hD hS hA [0, 1] rfl
    refine va_calli (va_runV (As := [.int (nI m)]) (rest := []) hF (m_X13_digits l9 D k H.size q th ea fa ch tn ((exE tx en he wr z).1) en ln sv ((exE tx en he wr z).2) dg tx m hen (exE_le tx wr z hhe hz) hm) (cwV 1 hts gX13_behind_X13_digits rfl rfl rfl (by decide +kernel) ⟨Nat.le_of_ble_eq_true rfl, Nat.le_of_ble_eq_true rfl⟩) (wPreV hK hN hP hD [0, 1] rfl (by decide) rfl 0 11 rfl rfl) rfl rfl hl.1 rfl (lv_room (Nat.le_of_ble_eq_true rfl)) dX13_behind_18 ⟨Nat.zero_le _, Nat.zero_le _⟩) hS (fun q _ h => hFc q h) hFc (fun r u9 t9 H1 locs ht hvm hw hB hz1 hk1 hS => ?_)
    obtain ⟨hP, hD⟩ := wjoin (wr := []) (wf := bMO k q th ea fa ch tn (((exE tx en he wr z).1) + (dkE tx en ((exE tx en he wr z).1) ((exE tx en he wr z).2) m)) en ln sv (dwE tx en ((exE tx en he wr z).1) ((exE tx en he wr z).2) m) dg ++ bI60 k (q 14) tx) hP hD [0, 1] [] [0, 1] rfl rfl (by decide) (by decide) hk1 hFc hB ht rfl rfl (by decide)
    subst hw
    clear hB hk1 hz1 hvm hFc
    clear ht
    clear t9
    generalize H1 = H at hP hS ⊢
    have e_2 : (((exE tx en he wr z).1) + (dkE tx en ((exE tx en he wr z).1) ((exE tx en he wr z).2) m) : Nat) = (bhE tx en he wr z m).2.1 := by first | (with_reducible rfl) | ((try simp only [bhE]); (repeat (first | rw [if_pos (by first | assumption | exact Eq.trans (b := false) (by assumption) (Eq.symm (by assumption)) | exact Eq.trans (b := true) (by assumption) (Eq.symm (by assumption)) | exact ⟨by assumption, by assumption⟩ | exact Or.inl (by assumption) | exact Or.inr (by assumption) | exact Or.inr (Or.inl (by assumption)) | exact Or.inr (Or.inr (by assumption)) | (simp only [Int32.lt_iff_toInt_lt, Int32.le_iff_toInt_le, i32_0, i32_1, i32_2, i32_3, i32_4, i32_9, i32_10, i32_99, i32_100, i32_1000, i32_9999] at *; omega))] | rw [if_neg (by first | assumption | (rintro (h9 | h9 | h9) <;> contradiction) | (rintro (h9 | h9) <;> contradiction) | (intro h9; exact Bool.noConfusion (Eq.trans (c := false) h9.symm (by assumption))) | (rintro ⟨h8, h9⟩; exact Bool.noConfusion (Eq.trans (c := false) h8.symm (by assumption))) | (rintro ⟨h8, h9⟩; exact Bool.noConfusion (Eq.trans (c := false) h9.symm (by assumption))) | (simp only [Int32.lt_iff_toInt_lt, Int32.le_iff_toInt_le, i32_0, i32_1, i32_2, i32_3, i32_4, i32_9, i32_10, i32_99, i32_100, i32_1000, i32_9999] at *; omega))])); (try rfl))
    have hP := Eq.mp (congrArg (fun z9 => va_P D vwCl (bMO k q th ea fa ch tn z9 en ln sv (dwE tx en ((exE tx en he wr z).1) ((exE tx en he wr z).2) m) dg ++ bI60 k (q 14) tx) H) e_2) hP
    have hD := Eq.mp (congrArg (fun z9 => va_D A (bMO k q th ea fa ch tn z9 en ln sv (dwE tx en ((exE tx en he wr z).1) ((exE tx en he wr z).2) m) dg ++ bI60 k (q 14) tx)) e_2) hD
    have e_3 : (dwE tx en ((exE tx en he wr z).1) ((exE tx en he wr z).2) m : Bool) = (bhE tx en he wr z m).2.2 := by first | (with_reducible rfl) | ((try simp only [bhE]); (repeat (first | rw [if_pos (by first | assumption | exact Eq.trans (b := false) (by assumption) (Eq.symm (by assumption)) | exact Eq.trans (b := true) (by assumption) (Eq.symm (by assumption)) | exact ⟨by assumption, by assumption⟩ | exact Or.inl (by assumption) | exact Or.inr (by assumption) | exact Or.inr (Or.inl (by assumption)) | exact Or.inr (Or.inr (by assumption)) | (simp only [Int32.lt_iff_toInt_lt, Int32.le_iff_toInt_le, i32_0, i32_1, i32_2, i32_3, i32_4, i32_9, i32_10, i32_99, i32_100, i32_1000, i32_9999] at *; omega))] | rw [if_neg (by first | assumption | (rintro (h9 | h9 | h9) <;> contradiction) | (rintro (h9 | h9) <;> contradiction) | (intro h9; exact Bool.noConfusion (Eq.trans (c := false) h9.symm (by assumption))) | (rintro ⟨h8, h9⟩; exact Bool.noConfusion (Eq.trans (c := false) h8.symm (by assumption))) | (rintro ⟨h8, h9⟩; exact Bool.noConfusion (Eq.trans (c := false) h9.symm (by assumption))) | (simp only [Int32.lt_iff_toInt_lt, Int32.le_iff_toInt_le, i32_0, i32_1, i32_2, i32_3, i32_4, i32_9, i32_10, i32_99, i32_100, i32_1000, i32_9999] at *; omega))])); (try rfl))
    have hP := Eq.mp (congrArg (fun z9 => va_P D vwCl (bMO k q th ea fa ch tn ((bhE tx en he wr z m).2.1) en ln sv z9 dg ++ bI60 k (q 14) tx) H) e_3) hP
    have hD := Eq.mp (congrArg (fun z9 => va_D A (bMO k q th ea fa ch tn ((bhE tx en he wr z m).2.1) en ln sv z9 dg ++ bI60 k (q 14) tx)) e_3) hD
    exact W.iret (v := dvE tx en ((exE tx en he wr z).1) (dkE tx en ((exE tx en he wr z).1) ((exE tx en he wr z).2) m)) hx hb hr (fun t9 ht hW => ⟨⟨_, (), rfl, (by (try simp only [bhE]); (repeat (first | rw [if_pos (by first | assumption | exact Eq.trans (b := false) (by assumption) (Eq.symm (by assumption)) | exact Eq.trans (b := true) (by assumption) (Eq.symm (by assumption)) | exact ⟨by assumption, by assumption⟩ | exact Or.inl (by assumption) | exact Or.inr (by assumption) | exact Or.inr (Or.inl (by assumption)) | exact Or.inr (Or.inr (by assumption)) | (simp only [Int32.lt_iff_toInt_lt, Int32.le_iff_toInt_le, i32_0, i32_1, i32_2, i32_3, i32_4, i32_9, i32_10, i32_99, i32_100, i32_1000, i32_9999] at *; omega))] | rw [if_neg (by first | assumption | (rintro (h9 | h9 | h9) <;> contradiction) | (rintro (h9 | h9) <;> contradiction) | (intro h9; exact Bool.noConfusion (Eq.trans (c := false) h9.symm (by assumption))) | (rintro ⟨h8, h9⟩; exact Bool.noConfusion (Eq.trans (c := false) h8.symm (by assumption))) | (rintro ⟨h8, h9⟩; exact Bool.noConfusion (Eq.trans (c := false) h9.symm (by assumption))) | (simp only [Int32.lt_iff_toInt_lt, Int32.le_iff_toInt_le, i32_0, i32_1, i32_2, i32_3, i32_4, i32_9, i32_10, i32_99, i32_100, i32_1000, i32_9999] at *; omega))])); (try rfl)), ⟨by rw [ht]; exact hP, va_K.moved hW.alike hK, hD⟩⟩, hS.F ht⟩) hS.2.2 dX13_behind_21 hlocks
  · skip
    have c_1 : ((exE tx en he wr z).2) = true := bI_1 c_1
    refine lv_iconst (v := 0) hx hb dX13_behind_12 (by decide) ?_
    refine lv_goto (tgt := 21) hx hb dX13_behind_13 (by decide) ?_
    have e_4 : ((exE tx en he wr z).1 : Nat) = (bhE tx en he wr z m).2.1 := by first | (with_reducible rfl) | ((try simp only [bhE]); (repeat (first | rw [if_pos (by first | assumption | exact Eq.trans (b := false) (by assumption) (Eq.symm (by assumption)) | exact Eq.trans (b := true) (by assumption) (Eq.symm (by assumption)) | exact ⟨by assumption, by assumption⟩ | exact Or.inl (by assumption) | exact Or.inr (by assumption) | exact Or.inr (Or.inl (by assumption)) | exact Or.inr (Or.inr (by assumption)) | (simp only [Int32.lt_iff_toInt_lt, Int32.le_iff_toInt_le, i32_0, i32_1, i32_2, i32_3, i32_4, i32_9, i32_10, i32_99, i32_100, i32_1000, i32_9999] at *; omega))] | rw [if_neg (by first | assumption | (rintro (h9 | h9 | h9) <;> contradiction) | (rintro (h9 | h9) <;> contradiction) | (intro h9; exact Bool.noConfusion (Eq.trans (c := false) h9.symm (by assumption))) | (rintro ⟨h8, h9⟩; exact Bool.noConfusion (Eq.trans (c := false) h8.symm (by assumption))) | (rintro ⟨h8, h9⟩; exact Bool.noConfusion (Eq.trans (c := false) h9.symm (by assumption))) | (simp only [Int32.lt_iff_toInt_lt, Int32.le_iff_toInt_le, i32_0, i32_1, i32_2, i32_3, i32_4, i32_9, i32_10, i32_99, i32_100, i32_1000, i32_9999] at *; omega))])); (try rfl))
    have hP := Eq.mp (congrArg (fun z9 => va_P D vwCl (bMO k q th ea fa ch tn z9 en ln sv ((exE tx en he wr z).2) dg ++ bI60 k (q 14) tx) H) e_4) hP
    have hD := Eq.mp (congrArg (fun z9 => va_D A (bMO k q th ea fa ch tn z9 en ln sv ((exE tx en he wr z).2) dg ++ bI60 k (q 14) tx)) e_4) hD
    have e_5 : ((exE tx en he wr z).2 : Bool) = (bhE tx en he wr z m).2.2 := by first | (with_reducible rfl) | ((try simp only [bhE]); (repeat (first | rw [if_pos (by first | assumption | exact Eq.trans (b := false) (by assumption) (Eq.symm (by assumption)) | exact Eq.trans (b := true) (by assumption) (Eq.symm (by assumption)) | exact ⟨by assumption, by assumption⟩ | exact Or.inl (by assumption) | exact Or.inr (by assumption) | exact Or.inr (Or.inl (by assumption)) | exact Or.inr (Or.inr (by assumption)) | (simp only [Int32.lt_iff_toInt_lt, Int32.le_iff_toInt_le, i32_0, i32_1, i32_2, i32_3, i32_4, i32_9, i32_10, i32_99, i32_100, i32_1000, i32_9999] at *; omega))] | rw [if_neg (by first | assumption | (rintro (h9 | h9 | h9) <;> contradiction) | (rintro (h9 | h9) <;> contradiction) | (intro h9; exact Bool.noConfusion (Eq.trans (c := false) h9.symm (by assumption))) | (rintro ⟨h8, h9⟩; exact Bool.noConfusion (Eq.trans (c := false) h8.symm (by assumption))) | (rintro ⟨h8, h9⟩; exact Bool.noConfusion (Eq.trans (c := false) h9.symm (by assumption))) | (simp only [Int32.lt_iff_toInt_lt, Int32.le_iff_toInt_le, i32_0, i32_1, i32_2, i32_3, i32_4, i32_9, i32_10, i32_99, i32_100, i32_1000, i32_9999] at *; omega))])); (try rfl))
    have hP := Eq.mp (congrArg (fun z9 => va_P D vwCl (bMO k q th ea fa ch tn ((bhE tx en he wr z m).2.1) en ln sv z9 dg ++ bI60 k (q 14) tx) H) e_5) hP
    have hD := Eq.mp (congrArg (fun z9 => va_D A (bMO k q th ea fa ch tn ((bhE tx en he wr z m).2.1) en ln sv z9 dg ++ bI60 k (q 14) tx)) e_5) hD
    exact W.iret (v := 0) hx hb hr (fun t9 ht hW => ⟨⟨_, (), rfl, (by (try simp only [bhE]); (repeat (first | rw [if_pos (by first | assumption | exact Eq.trans (b := false) (by assumption) (Eq.symm (by assumption)) | exact Eq.trans (b := true) (by assumption) (Eq.symm (by assumption)) | exact ⟨by assumption, by assumption⟩ | exact Or.inl (by assumption) | exact Or.inr (by assumption) | exact Or.inr (Or.inl (by assumption)) | exact Or.inr (Or.inr (by assumption)) | (simp only [Int32.lt_iff_toInt_lt, Int32.le_iff_toInt_le, i32_0, i32_1, i32_2, i32_3, i32_4, i32_9, i32_10, i32_99, i32_100, i32_1000, i32_9999] at *; omega))] | rw [if_neg (by first | assumption | (rintro (h9 | h9 | h9) <;> contradiction) | (rintro (h9 | h9) <;> contradiction) | (intro h9; exact Bool.noConfusion (Eq.trans (c := false) h9.symm (by assumption))) | (rintro ⟨h8, h9⟩; exact Bool.noConfusion (Eq.trans (c := false) h8.symm (by assumption))) | (rintro ⟨h8, h9⟩; exact Bool.noConfusion (Eq.trans (c := false) h9.symm (by assumption))) | (simp only [Int32.lt_iff_toInt_lt, Int32.le_iff_toInt_le, i32_0, i32_1, i32_2, i32_3, i32_4, i32_9, i32_10, i32_99, i32_100, i32_1000, i32_9999] at *; omega))])); (try rfl)), ⟨by rw [ht]; exact hP, va_K.moved hW.alike hK, hD⟩⟩, hS.F ht⟩) hS.2.2 dX13_behind_21 hlocks

set_option maxHeartbeats 4000000 in
set_option maxRecDepth 100000 in
theorem m_X13_letter (l9 : Launch) (D : va_G) (k : Nat → ClassId) (sz : Nat) (q : Nat → Nat) (th ea fa : Int32) (ch tn he en ln : Nat) (sv wr dg : Bool) (tx : Nat → Int32) (b : Bool) (hen : en ≤ 60) (hhe : he ≤ en) : Met l9 yX13_letter wsX13_letter ({ frames := 1, cells := 0, slots := 0, locals := 20 }) (WPc D k [.ref (q 0), .int (bI b)] (bMO k q th ea fa ch tn he en ln sv wr dg ++ bI60 k (q 14) tx) sz) (WI D k (bMO k q th ea fa ch tn (ltH tx en he wr b) en ln sv (ltW tx en he wr b) dg ++ bI60 k (q 14) tx) (sgn tx en he) (va_A (bMO k q th ea fa ch tn he en ln sv wr dg ++ bI60 k (q 14) tx) sz)) 0 0 (va_A (bMO k q th ea fa ch tn he en ln sv wr dg ++ bI60 k (q 14) tx) sz) := by
  refine wMet (y := yX13_letter) (cc := cX13_letter) (maxL := 3) (ret := (some .int)) (Qc := fun A => WI D k (bMO k q th ea fa ch tn (ltH tx en he wr b) en ln sv (ltW tx en he wr b) dg ++ bI60 k (q 14) tx) (sgn tx en he) A) [.ref (q 0), .int (bI b)] (by decide) rfl (Nat.le_of_ble_eq_true rfl) ?_
  intro p9 e9 s9 m9 bl9 me9 c9 ls A H hF hr hlocks hP hK hN hD hA hS hl hin
  have hl : lv_has ls 3 [(0, .ref (q 0)), (1, .int (bI b))] := hl
  obtain ⟨hx, hb, hml, hown, hts⟩ := id hF
  have k_fieldLink_238 : (Cond.fieldLink RX13 238 "OpinionReactorModel" "isWrong" "Z").before _ s9 = true := hts (.fieldLink RX13 238 "OpinionReactorModel" "isWrong" "Z") (by decide +kernel)
  have kc_RX13 : ∀ w ∈ u_ws RX13 TX13 29, w ∈ wsX13_letter := by decide +kernel
  have k_fieldLink_232 : (Cond.fieldLink RX13 232 "OpinionReactorModel" "here" "I").before _ s9 = true := hts (.fieldLink RX13 232 "OpinionReactorModel" "here" "I") (by decide +kernel)
  refine lv_aload_n hx hb dX13_letter_0 rfl (lv_at hl 0 rfl) ?_
  refine vp_callSi (W.runV (As := []) (rest := []) hF (m_X13_sign l9 D k q th ea fa ch tn he en ln sv wr dg tx hen (by omega)) (cwV 0 hts gX13_letter_X13_sign rfl rfl rfl (by decide +kernel) ⟨Nat.le_of_ble_eq_true rfl, Nat.le_of_ble_eq_true rfl⟩) (rPreV hK hN hP [0, 1] rfl 0 11 rfl rfl) rfl rfl hl.1 rfl (lv_room (Nat.le_of_ble_eq_true rfl)) dX13_letter_1 ⟨Nat.zero_le _, Nat.zero_le _⟩) (fun r_1 hr_1 => ?_)
  subst hr_1
  refine lv_istore_n (lv' := [(2, .int (sgn tx en he)), (0, .ref (q 0)), (1, .int (bI b))]) hx hb dX13_letter_4 rfl hl (by decide) rfl (fun ls hl => ?_)
  refine lv_aload_n hx hb dX13_letter_5 rfl (lv_at hl 1 rfl) ?_
  refine lv_dup hx hb dX13_letter_6 rfl ?_
  refine va_get (D := D) (ci := 11) (v := .int (bI wr)) (C := RX13) (T := TX13) (N := 29) hx hb hts kc_RX13 hown hK hP 0 rfl rfl 27 (by decide) k_fieldLink_238 (fun _ h9 => h9) rfl dX13_letter_7 ?_
  refine lv_iload_n hx hb dX13_letter_10 rfl (lv_at hl 0 rfl) ?_
  refine lv_bipush (v := 113) hx hb dX13_letter_11 (by decide) ?_
  refine lv_icmp_eq (tgt := 36) hx hb dX13_letter_13 (by decide) (fun c_2 => ?_) (fun c_2 => ?_)
  · skip
    refine lv_iconst (v := 0) hx hb dX13_letter_36 (by decide) ?_
    refine lv_ior hx hb dX13_letter_37 ?_
    refine lv_tope (show Value.int ((bI wr) ||| 0) = Value.int (bI wr) from congrArg Value.int (by exact or0 wr)) ?_
    refine va_put (D := D) (ci := 11) (v := .int (bI wr)) (ty := .boolean) (C := RX13) (T := TX13) (N := 29) hx hb hts kc_RX13 tyX13 tyX13_ok nmX13 hown hK hP hD hS 0 rfl rfl 27 (by decide) k_fieldLink_238 (fun _ h9 => h9) rfl (by decide +kernel) (bI_nar _) (bI_fit _) (Nat.le_of_ble_eq_true rfl) dX13_letter_38 (fun H locs hP hD hS => ?_)
    have hP : va_P D vwCl (bMO k q th ea fa ch tn he en ln sv wr dg ++ bI60 k (q 14) tx) H := hP
    have hD : va_D A (bMO k q th ea fa ch tn he en ln sv wr dg ++ bI60 k (q 14) tx) := hD
    refine lv_aload_n hx hb dX13_letter_41 rfl (lv_at hl 1 rfl) ?_
    refine lv_dup hx hb dX13_letter_42 rfl ?_
    refine va_get (D := D) (ci := 11) (v := .int (nI he)) (C := RX13) (T := TX13) (N := 29) hx hb hts kc_RX13 hown hK hP 0 rfl rfl 24 (by decide) k_fieldLink_232 (fun _ h9 => h9) rfl dX13_letter_43 ?_
    refine lv_aload_n hx hb dX13_letter_46 rfl (lv_at hl 1 rfl) ?_
    refine va_get (D := D) (ci := 11) (v := .int (bI wr)) (C := RX13) (T := TX13) (N := 29) hx hb hts kc_RX13 hown hK hP 0 rfl rfl 27 (by decide) k_fieldLink_238 (fun _ h9 => h9) rfl dX13_letter_47 ?_
    refine lv_if_eq (tgt := 57) hx hb dX13_letter_50 (by decide) (fun c_3 => ?_) (fun c_3 => ?_)
    · skip
      have c_3 : wr = false := bI_0 c_3
      refine lv_iconst (v := 1) hx hb dX13_letter_57 (by decide) ?_
      refine ni_add hx hb he 1 dX13_letter_58 ?_
      refine va_put (D := D) (ci := 11) (v := .int (nI (he + 1))) (ty := .int) (C := RX13) (T := TX13) (N := 29) hx hb hts kc_RX13 tyX13 tyX13_ok nmX13 hown hK hP hD hS 0 rfl rfl 24 (by decide) k_fieldLink_232 (fun _ h9 => h9) rfl (by decide +kernel) rfl rfl (Nat.le_of_ble_eq_true rfl) dX13_letter_59 (fun H locs hP hD hS => ?_)
      have hP : va_P D vwCl (bMO k q th ea fa ch tn (he + 1) en ln sv wr dg ++ bI60 k (q 14) tx) H := hP
      have hD : va_D A (bMO k q th ea fa ch tn (he + 1) en ln sv wr dg ++ bI60 k (q 14) tx) := hD
      refine lv_iload_n hx hb dX13_letter_62 rfl (lv_at hl 0 rfl) ?_
      have e_4 : (he + 1 : Nat) = ltH tx en he wr b := by first | (with_reducible rfl) | (simp [ltH, ltW, *])
      have hP := Eq.mp (congrArg (fun z9 => va_P D vwCl (bMO k q th ea fa ch tn z9 en ln sv wr dg ++ bI60 k (q 14) tx) H) e_4) hP
      have hD := Eq.mp (congrArg (fun z9 => va_D A (bMO k q th ea fa ch tn z9 en ln sv wr dg ++ bI60 k (q 14) tx)) e_4) hD
      have e_5 : (wr : Bool) = ltW tx en he wr b := by first | (with_reducible rfl) | (simp [ltW, *])
      have hP := Eq.mp (congrArg (fun z9 => va_P D vwCl (bMO k q th ea fa ch tn (ltH tx en he wr b) en ln sv z9 dg ++ bI60 k (q 14) tx) H) e_5) hP
      have hD := Eq.mp (congrArg (fun z9 => va_D A (bMO k q th ea fa ch tn (ltH tx en he wr b) en ln sv z9 dg ++ bI60 k (q 14) tx)) e_5) hD
      exact W.iret (v := sgn tx en he) hx hb hr (fun t9 ht hW => ⟨⟨_, (), rfl, (by rfl), ⟨by rw [ht]; exact hP, va_K.moved hW.alike hK, hD⟩⟩, hS.F ht⟩) hS.2.2 dX13_letter_63 hlocks
    · skip
      have c_3 : wr = true := bI_1 c_3
      refine lv_iconst (v := 0) hx hb dX13_letter_53 (by decide) ?_
      refine lv_goto (tgt := 58) hx hb dX13_letter_54 (by decide) ?_
      refine ni_add hx hb he 0 dX13_letter_58 ?_
      refine va_put (D := D) (ci := 11) (v := .int (nI (he + 0))) (ty := .int) (C := RX13) (T := TX13) (N := 29) hx hb hts kc_RX13 tyX13 tyX13_ok nmX13 hown hK hP hD hS 0 rfl rfl 24 (by decide) k_fieldLink_232 (fun _ h9 => h9) rfl (by decide +kernel) rfl rfl (Nat.le_of_ble_eq_true rfl) dX13_letter_59 (fun H locs hP hD hS => ?_)
      have hP : va_P D vwCl (bMO k q th ea fa ch tn (he + 0) en ln sv wr dg ++ bI60 k (q 14) tx) H := hP
      have hD : va_D A (bMO k q th ea fa ch tn (he + 0) en ln sv wr dg ++ bI60 k (q 14) tx) := hD
      refine lv_iload_n hx hb dX13_letter_62 rfl (lv_at hl 0 rfl) ?_
      have e_6 : (he + 0 : Nat) = ltH tx en he wr b := by first | (with_reducible rfl) | (simp [ltH, ltW, *])
      have hP := Eq.mp (congrArg (fun z9 => va_P D vwCl (bMO k q th ea fa ch tn z9 en ln sv wr dg ++ bI60 k (q 14) tx) H) e_6) hP
      have hD := Eq.mp (congrArg (fun z9 => va_D A (bMO k q th ea fa ch tn z9 en ln sv wr dg ++ bI60 k (q 14) tx)) e_6) hD
      have e_7 : (wr : Bool) = ltW tx en he wr b := by first | (with_reducible rfl) | (simp [ltW, *])
      have hP := Eq.mp (congrArg (fun z9 => va_P D vwCl (bMO k q th ea fa ch tn (ltH tx en he wr b) en ln sv z9 dg ++ bI60 k (q 14) tx) H) e_7) hP
      have hD := Eq.mp (congrArg (fun z9 => va_D A (bMO k q th ea fa ch tn (ltH tx en he wr b) en ln sv z9 dg ++ bI60 k (q 14) tx)) e_7) hD
      exact W.iret (v := sgn tx en he) hx hb hr (fun t9 ht hW => ⟨⟨_, (), rfl, (by rfl), ⟨by rw [ht]; exact hP, va_K.moved hW.alike hK, hD⟩⟩, hS.F ht⟩) hS.2.2 dX13_letter_63 hlocks
  · skip
    refine lv_iload_n hx hb dX13_letter_16 rfl (lv_at hl 0 rfl) ?_
    refine lv_bipush (v := 111) hx hb dX13_letter_17 (by decide) ?_
    refine lv_icmp_eq (tgt := 36) hx hb dX13_letter_19 (by decide) (fun c_8 => ?_) (fun c_8 => ?_)
    · skip
      refine lv_iconst (v := 0) hx hb dX13_letter_36 (by decide) ?_
      refine lv_ior hx hb dX13_letter_37 ?_
      refine lv_tope (show Value.int ((bI wr) ||| 0) = Value.int (bI wr) from congrArg Value.int (by exact or0 wr)) ?_
      refine va_put (D := D) (ci := 11) (v := .int (bI wr)) (ty := .boolean) (C := RX13) (T := TX13) (N := 29) hx hb hts kc_RX13 tyX13 tyX13_ok nmX13 hown hK hP hD hS 0 rfl rfl 27 (by decide) k_fieldLink_238 (fun _ h9 => h9) rfl (by decide +kernel) (bI_nar _) (bI_fit _) (Nat.le_of_ble_eq_true rfl) dX13_letter_38 (fun H locs hP hD hS => ?_)
      have hP : va_P D vwCl (bMO k q th ea fa ch tn he en ln sv wr dg ++ bI60 k (q 14) tx) H := hP
      have hD : va_D A (bMO k q th ea fa ch tn he en ln sv wr dg ++ bI60 k (q 14) tx) := hD
      refine lv_aload_n hx hb dX13_letter_41 rfl (lv_at hl 1 rfl) ?_
      refine lv_dup hx hb dX13_letter_42 rfl ?_
      refine va_get (D := D) (ci := 11) (v := .int (nI he)) (C := RX13) (T := TX13) (N := 29) hx hb hts kc_RX13 hown hK hP 0 rfl rfl 24 (by decide) k_fieldLink_232 (fun _ h9 => h9) rfl dX13_letter_43 ?_
      refine lv_aload_n hx hb dX13_letter_46 rfl (lv_at hl 1 rfl) ?_
      refine va_get (D := D) (ci := 11) (v := .int (bI wr)) (C := RX13) (T := TX13) (N := 29) hx hb hts kc_RX13 hown hK hP 0 rfl rfl 27 (by decide) k_fieldLink_238 (fun _ h9 => h9) rfl dX13_letter_47 ?_
      refine lv_if_eq (tgt := 57) hx hb dX13_letter_50 (by decide) (fun c_9 => ?_) (fun c_9 => ?_)
      · skip
        have c_9 : wr = false := bI_0 c_9
        refine lv_iconst (v := 1) hx hb dX13_letter_57 (by decide) ?_
        refine ni_add hx hb he 1 dX13_letter_58 ?_
        refine va_put (D := D) (ci := 11) (v := .int (nI (he + 1))) (ty := .int) (C := RX13) (T := TX13) (N := 29) hx hb hts kc_RX13 tyX13 tyX13_ok nmX13 hown hK hP hD hS 0 rfl rfl 24 (by decide) k_fieldLink_232 (fun _ h9 => h9) rfl (by decide +kernel) rfl rfl (Nat.le_of_ble_eq_true rfl) dX13_letter_59 (fun H locs hP hD hS => ?_)
        have hP : va_P D vwCl (bMO k q th ea fa ch tn (he + 1) en ln sv wr dg ++ bI60 k (q 14) tx) H := hP
        have hD : va_D A (bMO k q th ea fa ch tn (he + 1) en ln sv wr dg ++ bI60 k (q 14) tx) := hD
        refine lv_iload_n hx hb dX13_letter_62 rfl (lv_at hl 0 rfl) ?_
        have e_10 : (he + 1 : Nat) = ltH tx en he wr b := by first | (with_reducible rfl) | (simp [ltH, ltW, *])
        have hP := Eq.mp (congrArg (fun z9 => va_P D vwCl (bMO k q th ea fa ch tn z9 en ln sv wr dg ++ bI60 k (q 14) tx) H) e_10) hP
        have hD := Eq.mp (congrArg (fun z9 => va_D A (bMO k q th ea fa ch tn z9 en ln sv wr dg ++ bI60 k (q 14) tx)) e_10) hD
        have e_11 : (wr : Bool) = ltW tx en he wr b := by first | (with_reducible rfl) | (simp [ltW, *])
        have hP := Eq.mp (congrArg (fun z9 => va_P D vwCl (bMO k q th ea fa ch tn (ltH tx en he wr b) en ln sv z9 dg ++ bI60 k (q 14) tx) H) e_11) hP
        have hD := Eq.mp (congrArg (fun z9 => va_D A (bMO k q th ea fa ch tn (ltH tx en he wr b) en ln sv z9 dg ++ bI60 k (q 14) tx)) e_11) hD
        exact W.iret (v := sgn tx en he) hx hb hr (fun t9 ht hW => ⟨⟨_, (), rfl, (by rfl), ⟨by rw [ht]; exact hP, va_K.moved hW.alike hK, hD⟩⟩, hS.F ht⟩) hS.2.2 dX13_letter_63 hlocks
      · skip
        have c_9 : wr = true := bI_1 c_9
        refine lv_iconst (v := 0) hx hb dX13_letter_53 (by decide) ?_
        refine lv_goto (tgt := 58) hx hb dX13_letter_54 (by decide) ?_
        refine ni_add hx hb he 0 dX13_letter_58 ?_
        refine va_put (D := D) (ci := 11) (v := .int (nI (he + 0))) (ty := .int) (C := RX13) (T := TX13) (N := 29) hx hb hts kc_RX13 tyX13 tyX13_ok nmX13 hown hK hP hD hS 0 rfl rfl 24 (by decide) k_fieldLink_232 (fun _ h9 => h9) rfl (by decide +kernel) rfl rfl (Nat.le_of_ble_eq_true rfl) dX13_letter_59 (fun H locs hP hD hS => ?_)
        have hP : va_P D vwCl (bMO k q th ea fa ch tn (he + 0) en ln sv wr dg ++ bI60 k (q 14) tx) H := hP
        have hD : va_D A (bMO k q th ea fa ch tn (he + 0) en ln sv wr dg ++ bI60 k (q 14) tx) := hD
        refine lv_iload_n hx hb dX13_letter_62 rfl (lv_at hl 0 rfl) ?_
        have e_12 : (he + 0 : Nat) = ltH tx en he wr b := by first | (with_reducible rfl) | (simp [ltH, ltW, *])
        have hP := Eq.mp (congrArg (fun z9 => va_P D vwCl (bMO k q th ea fa ch tn z9 en ln sv wr dg ++ bI60 k (q 14) tx) H) e_12) hP
        have hD := Eq.mp (congrArg (fun z9 => va_D A (bMO k q th ea fa ch tn z9 en ln sv wr dg ++ bI60 k (q 14) tx)) e_12) hD
        have e_13 : (wr : Bool) = ltW tx en he wr b := by first | (with_reducible rfl) | (simp [ltW, *])
        have hP := Eq.mp (congrArg (fun z9 => va_P D vwCl (bMO k q th ea fa ch tn (ltH tx en he wr b) en ln sv z9 dg ++ bI60 k (q 14) tx) H) e_13) hP
        have hD := Eq.mp (congrArg (fun z9 => va_D A (bMO k q th ea fa ch tn (ltH tx en he wr b) en ln sv z9 dg ++ bI60 k (q 14) tx)) e_13) hD
        exact W.iret (v := sgn tx en he) hx hb hr (fun t9 ht hW => ⟨⟨_, (), rfl, (by rfl), ⟨by rw [ht]; exact hP, va_K.moved hW.alike hK, hD⟩⟩, hS.F ht⟩) hS.2.2 dX13_letter_63 hlocks
    · skip
      refine lv_iload_n hx hb dX13_letter_22 rfl (lv_at hl 0 rfl) ?_
      refine lv_bipush (v := 97) hx hb dX13_letter_23 (by decide) ?_
      refine lv_icmp_ne (tgt := 32) hx hb dX13_letter_25 (by decide) (fun c_14 => ?_) (fun c_14 => ?_)
      · skip
        refine lv_iconst (v := 1) hx hb dX13_letter_32 (by decide) ?_
        refine lv_goto (tgt := 37) hx hb dX13_letter_33 (by decide) ?_
        refine lv_ior hx hb dX13_letter_37 ?_
        refine lv_tope (show Value.int ((bI wr) ||| 1) = Value.int 1 from congrArg Value.int (by exact or1 wr)) ?_
        refine va_put (D := D) (ci := 11) (v := .int 1) (ty := .boolean) (C := RX13) (T := TX13) (N := 29) hx hb hts kc_RX13 tyX13 tyX13_ok nmX13 hown hK hP hD hS 0 rfl rfl 27 (by decide) k_fieldLink_238 (fun _ h9 => h9) rfl (by decide +kernel) rfl rfl (Nat.le_of_ble_eq_true rfl) dX13_letter_38 (fun H locs hP hD hS => ?_)
        have hP : va_P D vwCl (bMO k q th ea fa ch tn he en ln sv true dg ++ bI60 k (q 14) tx) H := hP
        have hD : va_D A (bMO k q th ea fa ch tn he en ln sv true dg ++ bI60 k (q 14) tx) := hD
        refine lv_aload_n hx hb dX13_letter_41 rfl (lv_at hl 1 rfl) ?_
        refine lv_dup hx hb dX13_letter_42 rfl ?_
        refine va_get (D := D) (ci := 11) (v := .int (nI he)) (C := RX13) (T := TX13) (N := 29) hx hb hts kc_RX13 hown hK hP 0 rfl rfl 24 (by decide) k_fieldLink_232 (fun _ h9 => h9) rfl dX13_letter_43 ?_
        refine lv_aload_n hx hb dX13_letter_46 rfl (lv_at hl 1 rfl) ?_
        refine va_get (D := D) (ci := 11) (v := .int (bI true)) (C := RX13) (T := TX13) (N := 29) hx hb hts kc_RX13 hown hK hP 0 rfl rfl 27 (by decide) k_fieldLink_238 (fun _ h9 => h9) rfl dX13_letter_47 ?_
        refine lv_if_eq (tgt := 57) hx hb dX13_letter_50 (by decide) (fun c_15 => ?_) (fun c_15 => ?_)
        · first | exact absurd c_15 (by decide) | exact absurd (by decide) c_15
        · skip
          refine lv_iconst (v := 0) hx hb dX13_letter_53 (by decide) ?_
          refine lv_goto (tgt := 58) hx hb dX13_letter_54 (by decide) ?_
          refine ni_add hx hb he 0 dX13_letter_58 ?_
          refine va_put (D := D) (ci := 11) (v := .int (nI (he + 0))) (ty := .int) (C := RX13) (T := TX13) (N := 29) hx hb hts kc_RX13 tyX13 tyX13_ok nmX13 hown hK hP hD hS 0 rfl rfl 24 (by decide) k_fieldLink_232 (fun _ h9 => h9) rfl (by decide +kernel) rfl rfl (Nat.le_of_ble_eq_true rfl) dX13_letter_59 (fun H locs hP hD hS => ?_)
          have hP : va_P D vwCl (bMO k q th ea fa ch tn (he + 0) en ln sv true dg ++ bI60 k (q 14) tx) H := hP
          have hD : va_D A (bMO k q th ea fa ch tn (he + 0) en ln sv true dg ++ bI60 k (q 14) tx) := hD
          refine lv_iload_n hx hb dX13_letter_62 rfl (lv_at hl 0 rfl) ?_
          have e_16 : (he + 0 : Nat) = ltH tx en he wr b := by first | (with_reducible rfl) | (simp [ltH, ltW, *])
          have hP := Eq.mp (congrArg (fun z9 => va_P D vwCl (bMO k q th ea fa ch tn z9 en ln sv true dg ++ bI60 k (q 14) tx) H) e_16) hP
          have hD := Eq.mp (congrArg (fun z9 => va_D A (bMO k q th ea fa ch tn z9 en ln sv true dg ++ bI60 k (q 14) tx)) e_16) hD
          have e_17 : (true : Bool) = ltW tx en he wr b := by first | (with_reducible rfl) | (simp [ltW, *])
          have hP := Eq.mp (congrArg (fun z9 => va_P D vwCl (bMO k q th ea fa ch tn (ltH tx en he wr b) en ln sv z9 dg ++ bI60 k (q 14) tx) H) e_17) hP
          have hD := Eq.mp (congrArg (fun z9 => va_D A (bMO k q th ea fa ch tn (ltH tx en he wr b) en ln sv z9 dg ++ bI60 k (q 14) tx)) e_17) hD
          exact W.iret (v := sgn tx en he) hx hb hr (fun t9 ht hW => ⟨⟨_, (), rfl, (by rfl), ⟨by rw [ht]; exact hP, va_K.moved hW.alike hK, hD⟩⟩, hS.F ht⟩) hS.2.2 dX13_letter_63 hlocks
      · skip
        refine lv_iload_n hx hb dX13_letter_28 rfl (lv_at hl 2 rfl) ?_
        refine lv_if_ne (tgt := 36) hx hb dX13_letter_29 (by decide) (fun c_18 => ?_) (fun c_18 => ?_)
        · skip
          have c_18 : b = true := bI_1 c_18
          refine lv_iconst (v := 0) hx hb dX13_letter_36 (by decide) ?_
          refine lv_ior hx hb dX13_letter_37 ?_
          refine lv_tope (show Value.int ((bI wr) ||| 0) = Value.int (bI wr) from congrArg Value.int (by exact or0 wr)) ?_
          refine va_put (D := D) (ci := 11) (v := .int (bI wr)) (ty := .boolean) (C := RX13) (T := TX13) (N := 29) hx hb hts kc_RX13 tyX13 tyX13_ok nmX13 hown hK hP hD hS 0 rfl rfl 27 (by decide) k_fieldLink_238 (fun _ h9 => h9) rfl (by decide +kernel) (bI_nar _) (bI_fit _) (Nat.le_of_ble_eq_true rfl) dX13_letter_38 (fun H locs hP hD hS => ?_)
          have hP : va_P D vwCl (bMO k q th ea fa ch tn he en ln sv wr dg ++ bI60 k (q 14) tx) H := hP
          have hD : va_D A (bMO k q th ea fa ch tn he en ln sv wr dg ++ bI60 k (q 14) tx) := hD
          refine lv_aload_n hx hb dX13_letter_41 rfl (lv_at hl 1 rfl) ?_
          refine lv_dup hx hb dX13_letter_42 rfl ?_
          refine va_get (D := D) (ci := 11) (v := .int (nI he)) (C := RX13) (T := TX13) (N := 29) hx hb hts kc_RX13 hown hK hP 0 rfl rfl 24 (by decide) k_fieldLink_232 (fun _ h9 => h9) rfl dX13_letter_43 ?_
          refine lv_aload_n hx hb dX13_letter_46 rfl (lv_at hl 1 rfl) ?_
          refine va_get (D := D) (ci := 11) (v := .int (bI wr)) (C := RX13) (T := TX13) (N := 29) hx hb hts kc_RX13 hown hK hP 0 rfl rfl 27 (by decide) k_fieldLink_238 (fun _ h9 => h9) rfl dX13_letter_47 ?_
          refine lv_if_eq (tgt := 57) hx hb dX13_letter_50 (by decide) (fun c_19 => ?_) (fun c_19 => ?_)
          · skip
            have c_19 : wr = false := bI_0 c_19
            refine lv_iconst (v := 1) hx hb dX13_letter_57 (by decide) ?_
            refine ni_add hx hb he 1 dX13_letter_58 ?_
            refine va_put (D := D) (ci := 11) (v := .int (nI (he + 1))) (ty := .int) (C := RX13) (T := TX13) (N := 29) hx hb hts kc_RX13 tyX13 tyX13_ok nmX13 hown hK hP hD hS 0 rfl rfl 24 (by decide) k_fieldLink_232 (fun _ h9 => h9) rfl (by decide +kernel) rfl rfl (Nat.le_of_ble_eq_true rfl) dX13_letter_59 (fun H locs hP hD hS => ?_)
            have hP : va_P D vwCl (bMO k q th ea fa ch tn (he + 1) en ln sv wr dg ++ bI60 k (q 14) tx) H := hP
            have hD : va_D A (bMO k q th ea fa ch tn (he + 1) en ln sv wr dg ++ bI60 k (q 14) tx) := hD
            refine lv_iload_n hx hb dX13_letter_62 rfl (lv_at hl 0 rfl) ?_
            have e_20 : (he + 1 : Nat) = ltH tx en he wr b := by first | (with_reducible rfl) | (simp [ltH, ltW, *])
            have hP := Eq.mp (congrArg (fun z9 => va_P D vwCl (bMO k q th ea fa ch tn z9 en ln sv wr dg ++ bI60 k (q 14) tx) H) e_20) hP
            have hD := Eq.mp (congrArg (fun z9 => va_D A (bMO k q th ea fa ch tn z9 en ln sv wr dg ++ bI60 k (q 14) tx)) e_20) hD
            have e_21 : (wr : Bool) = ltW tx en he wr b := by first | (with_reducible rfl) | (simp [ltW, *])
            have hP := Eq.mp (congrArg (fun z9 => va_P D vwCl (bMO k q th ea fa ch tn (ltH tx en he wr b) en ln sv z9 dg ++ bI60 k (q 14) tx) H) e_21) hP
            have hD := Eq.mp (congrArg (fun z9 => va_D A (bMO k q th ea fa ch tn (ltH tx en he wr b) en ln sv z9 dg ++ bI60 k (q 14) tx)) e_21) hD
            exact W.iret (v := sgn tx en he) hx hb hr (fun t9 ht hW => ⟨⟨_, (), rfl, (by rfl), ⟨by rw [ht]; exact hP, va_K.moved hW.alike hK, hD⟩⟩, hS.F ht⟩) hS.2.2 dX13_letter_63 hlocks
          · skip
            have c_19 : wr = true := bI_1 c_19
            refine lv_iconst (v := 0) hx hb dX13_letter_53 (by decide) ?_
            refine lv_goto (tgt := 58) hx hb dX13_letter_54 (by decide) ?_
            refine ni_add hx hb he 0 dX13_letter_58 ?_
            refine va_put (D := D) (ci := 11) (v := .int (nI (he + 0))) (ty := .int) (C := RX13) (T := TX13) (N := 29) hx hb hts kc_RX13 tyX13 tyX13_ok nmX13 hown hK hP hD hS 0 rfl rfl 24 (by decide) k_fieldLink_232 (fun _ h9 => h9) rfl (by decide +kernel) rfl rfl (Nat.le_of_ble_eq_true rfl) dX13_letter_59 (fun H locs hP hD hS => ?_)
            have hP : va_P D vwCl (bMO k q th ea fa ch tn (he + 0) en ln sv wr dg ++ bI60 k (q 14) tx) H := hP
            have hD : va_D A (bMO k q th ea fa ch tn (he + 0) en ln sv wr dg ++ bI60 k (q 14) tx) := hD
            refine lv_iload_n hx hb dX13_letter_62 rfl (lv_at hl 0 rfl) ?_
            have e_22 : (he + 0 : Nat) = ltH tx en he wr b := by first | (with_reducible rfl) | (simp [ltH, ltW, *])
            have hP := Eq.mp (congrArg (fun z9 => va_P D vwCl (bMO k q th ea fa ch tn z9 en ln sv wr dg ++ bI60 k (q 14) tx) H) e_22) hP
            have hD := Eq.mp (congrArg (fun z9 => va_D A (bMO k q th ea fa ch tn z9 en ln sv wr dg ++ bI60 k (q 14) tx)) e_22) hD
            have e_23 : (wr : Bool) = ltW tx en he wr b := by first | (with_reducible rfl) | (simp [ltW, *])
            have hP := Eq.mp (congrArg (fun z9 => va_P D vwCl (bMO k q th ea fa ch tn (ltH tx en he wr b) en ln sv z9 dg ++ bI60 k (q 14) tx) H) e_23) hP
            have hD := Eq.mp (congrArg (fun z9 => va_D A (bMO k q th ea fa ch tn (ltH tx en he wr b) en ln sv z9 dg ++ bI60 k (q 14) tx)) e_23) hD
            exact W.iret (v := sgn tx en he) hx hb hr (fun t9 ht hW => ⟨⟨_, (), rfl, (by rfl), ⟨by rw [ht]; exact hP, va_K.moved hW.alike hK, hD⟩⟩, hS.F ht⟩) hS.2.2 dX13_letter_63 hlocks
        · skip
          have c_18 : b = false := bI_0 c_18
          refine lv_iconst (v := 1) hx hb dX13_letter_32 (by decide) ?_
          refine lv_goto (tgt := 37) hx hb dX13_letter_33 (by decide) ?_
          refine lv_ior hx hb dX13_letter_37 ?_
          refine lv_tope (show Value.int ((bI wr) ||| 1) = Value.int 1 from congrArg Value.int (by exact or1 wr)) ?_
          refine va_put (D := D) (ci := 11) (v := .int 1) (ty := .boolean) (C := RX13) (T := TX13) (N := 29) hx hb hts kc_RX13 tyX13 tyX13_ok nmX13 hown hK hP hD hS 0 rfl rfl 27 (by decide) k_fieldLink_238 (fun _ h9 => h9) rfl (by decide +kernel) rfl rfl (Nat.le_of_ble_eq_true rfl) dX13_letter_38 (fun H locs hP hD hS => ?_)
          have hP : va_P D vwCl (bMO k q th ea fa ch tn he en ln sv true dg ++ bI60 k (q 14) tx) H := hP
          have hD : va_D A (bMO k q th ea fa ch tn he en ln sv true dg ++ bI60 k (q 14) tx) := hD
          refine lv_aload_n hx hb dX13_letter_41 rfl (lv_at hl 1 rfl) ?_
          refine lv_dup hx hb dX13_letter_42 rfl ?_
          refine va_get (D := D) (ci := 11) (v := .int (nI he)) (C := RX13) (T := TX13) (N := 29) hx hb hts kc_RX13 hown hK hP 0 rfl rfl 24 (by decide) k_fieldLink_232 (fun _ h9 => h9) rfl dX13_letter_43 ?_
          refine lv_aload_n hx hb dX13_letter_46 rfl (lv_at hl 1 rfl) ?_
          refine va_get (D := D) (ci := 11) (v := .int (bI true)) (C := RX13) (T := TX13) (N := 29) hx hb hts kc_RX13 hown hK hP 0 rfl rfl 27 (by decide) k_fieldLink_238 (fun _ h9 => h9) rfl dX13_letter_47 ?_
          refine lv_if_eq (tgt := 57) hx hb dX13_letter_50 (by decide) (fun c_24 => ?_) (fun c_24 => ?_)
          · first | exact absurd c_24 (by decide) | exact absurd (by decide) c_24
          · skip
            refine lv_iconst (v := 0) hx hb dX13_letter_53 (by decide) ?_
            refine lv_goto (tgt := 58) hx hb dX13_letter_54 (by decide) ?_
            refine ni_add hx hb he 0 dX13_letter_58 ?_
            refine va_put (D := D) (ci := 11) (v := .int (nI (he + 0))) (ty := .int) (C := RX13) (T := TX13) (N := 29) hx hb hts kc_RX13 tyX13 tyX13_ok nmX13 hown hK hP hD hS 0 rfl rfl 24 (by decide) k_fieldLink_232 (fun _ h9 => h9) rfl (by decide +kernel) rfl rfl (Nat.le_of_ble_eq_true rfl) dX13_letter_59 (fun H locs hP hD hS => ?_)
            have hP : va_P D vwCl (bMO k q th ea fa ch tn (he + 0) en ln sv true dg ++ bI60 k (q 14) tx) H := hP
            have hD : va_D A (bMO k q th ea fa ch tn (he + 0) en ln sv true dg ++ bI60 k (q 14) tx) := hD
            refine lv_iload_n hx hb dX13_letter_62 rfl (lv_at hl 0 rfl) ?_
            have e_25 : (he + 0 : Nat) = ltH tx en he wr b := by first | (with_reducible rfl) | (simp [ltH, ltW, *])
            have hP := Eq.mp (congrArg (fun z9 => va_P D vwCl (bMO k q th ea fa ch tn z9 en ln sv true dg ++ bI60 k (q 14) tx) H) e_25) hP
            have hD := Eq.mp (congrArg (fun z9 => va_D A (bMO k q th ea fa ch tn z9 en ln sv true dg ++ bI60 k (q 14) tx)) e_25) hD
            have e_26 : (true : Bool) = ltW tx en he wr b := by first | (with_reducible rfl) | (simp [ltW, *])
            have hP := Eq.mp (congrArg (fun z9 => va_P D vwCl (bMO k q th ea fa ch tn (ltH tx en he wr b) en ln sv z9 dg ++ bI60 k (q 14) tx) H) e_26) hP
            have hD := Eq.mp (congrArg (fun z9 => va_D A (bMO k q th ea fa ch tn (ltH tx en he wr b) en ln sv z9 dg ++ bI60 k (q 14) tx)) e_26) hD
            exact W.iret (v := sgn tx en he) hx hb hr (fun t9 ht hW => ⟨⟨_, (), rfl, (by rfl), ⟨by rw [ht]; exact hP, va_K.moved hW.alike hK, hD⟩⟩, hS.F ht⟩) hS.2.2 dX13_letter_63 hlocks

set_option maxHeartbeats 4000000 in
set_option maxRecDepth 100000 in
theorem m_X13_word (l9 : Launch) (D : va_G) (k : Nat → ClassId) (sz : Nat) (q : Nat → Nat) (th ea fa : Int32) (ch tn he en ln : Nat) (sv wr dg : Bool) (tx : Nat → Int32) (lf : Nat → Int32) (hen : en ≤ 60) (hhe : he ≤ en) : Met l9 yX13_word wsX13_word ({ frames := 1, cells := 0, slots := 0, locals := 20 }) (WPc D k [.ref (q 0)] (bMO k q th ea fa ch tn he en ln sv wr dg ++ bI60 k (q 14) tx ++ bI10 k (q 16) lf ++ bI59 k (q 17) wdK ++ bI11 k (q 18) waI) sz) (WI D k (bMO k q th ea fa ch tn ((wdE tx en he wr).1) en ln sv ((wdE tx en he wr).2.1) dg ++ bI60 k (q 14) tx ++ bI10 k (q 16) (fun w => bI (lfE tx en he w (wdN tx en he wr))) ++ bI59 k (q 17) wdK ++ bI11 k (q 18) waI) ((wdE tx en he wr).2.2) (va_A (bMO k q th ea fa ch tn he en ln sv wr dg ++ bI60 k (q 14) tx ++ bI10 k (q 16) lf ++ bI59 k (q 17) wdK ++ bI11 k (q 18) waI) sz)) 0 0 (va_A (bMO k q th ea fa ch tn he en ln sv wr dg ++ bI60 k (q 14) tx ++ bI10 k (q 16) lf ++ bI59 k (q 17) wdK ++ bI11 k (q 18) waI) sz) := by
  refine wMet (y := yX13_word) (cc := cX13_word) (maxL := 5) (ret := (some .int)) (Qc := fun A => WI D k (bMO k q th ea fa ch tn ((wdE tx en he wr).1) en ln sv ((wdE tx en he wr).2.1) dg ++ bI60 k (q 14) tx ++ bI10 k (q 16) (fun w => bI (lfE tx en he w (wdN tx en he wr))) ++ bI59 k (q 17) wdK ++ bI11 k (q 18) waI) ((wdE tx en he wr).2.2) A) [.ref (q 0)] (by decide) rfl (Nat.le_of_ble_eq_true rfl) ?_
  intro p9 e9 s9 m9 bl9 me9 c9 ls A H hF hr hlocks hP hK hN hD hA hS hl hin
  have hl : lv_has ls 5 [(0, .ref (q 0))] := hl
  obtain ⟨hx, hb, hml, hown, hts⟩ := id hF
  have k_fieldLink_64 : (Cond.fieldLink RX13 64 "OpinionReactorModel" "isLeft" "[I").before _ s9 = true := hts (.fieldLink RX13 64 "OpinionReactorModel" "isLeft" "[I") (by decide +kernel)
  have kc_RX13 : ∀ w ∈ u_ws RX13 TX13 29, w ∈ wsX13_word := by decide +kernel
  have k_fieldLink_70 : (Cond.fieldLink RX13 70 "OpinionReactorModel" "wordAt" "[I").before _ s9 = true := hts (.fieldLink RX13 70 "OpinionReactorModel" "wordAt" "[I") (by decide +kernel)
  have k_fieldLink_238 : (Cond.fieldLink RX13 238 "OpinionReactorModel" "isWrong" "Z").before _ s9 = true := hts (.fieldLink RX13 238 "OpinionReactorModel" "isWrong" "Z") (by decide +kernel)
  have k_fieldLink_232 : (Cond.fieldLink RX13 232 "OpinionReactorModel" "here" "I").before _ s9 = true := hts (.fieldLink RX13 232 "OpinionReactorModel" "here" "I") (by decide +kernel)
  have k_fieldLink_67 : (Cond.fieldLink RX13 67 "OpinionReactorModel" "words" "[I").before _ s9 = true := hts (.fieldLink RX13 67 "OpinionReactorModel" "words" "[I") (by decide +kernel)
  have loop_25 : ∀ (fuel : Nat) (m : Nat), (m ≤ 8) → (∀ c, c < m → goE tx en he wr c = true) → 9 - m < fuel → ∀ (ls : Array Slot), ∀ (H : Heap) (locs : List Loc), va_P D vwCl (bMO k q th ea fa ch tn ((wdU tx en he wr m).1) en ln sv ((wdU tx en he wr m).2.1) dg ++ bI60 k (q 14) tx ++ bI10 k (q 16) (fun w => bI (lfE tx en he w m)) ++ bI59 k (q 17) wdK ++ bI11 k (q 18) waI) H → va_D A (bMO k q th ea fa ch tn ((wdU tx en he wr m).1) en ln sv ((wdU tx en he wr m).2.1) dg ++ bI60 k (q 14) tx ++ bI10 k (q 16) (fun w => bI (lfE tx en he w m)) ++ bI59 k (q 17) wdK ++ bI11 k (q 18) waI) → va_S A s9.heap H locs → lv_has ls 5 [(0, .ref (q 0)), (1, .int (nI m)), (2, .int ((wdU tx en he wr m).2.2))] → W p9 l9 e9 ({ frames := 1, cells := 0, slots := 0, locals := 20 }) s9 m9 ([.ref (q 0)] : List Value).toArray bl9 me9 c9 H locs 0 0 (MQ bl9 (WI D k (bMO k q th ea fa ch tn ((wdE tx en he wr).1) en ln sv ((wdE tx en he wr).2.1) dg ++ bI60 k (q 14) tx ++ bI10 k (q 16) (fun w => bI (lfE tx en he w (wdN tx en he wr))) ++ bI59 k (q 17) wdK ++ bI11 k (q 18) waI) ((wdE tx en he wr).2.2) A) ([.ref (q 0)] : List Value).toArray s9 0 0 A) (F0 m9 25 ls []) := by
    intro fuel
    induction fuel with
    | zero => intro m hm hg hfuel_25; exact absurd hfuel_25 (Nat.not_lt_zero _)
    | succ fuel ih_25 =>
      intro m hm hg hfuel_25 ls H locs hP hD hS hl
      have loop_167 : ∀ (fuel : Nat) (u : Nat), (u ≤ 10) → (goE tx en he wr m = true) → (m < 8) → 10 - u < fuel → ∀ (ls : Array Slot), ∀ (H : Heap) (locs : List Loc), va_P D vwCl (bMO k q th ea fa ch tn ((wdU tx en he wr (m + 1)).1) en ln sv ((wdU tx en he wr (m + 1)).2.1) dg ++ bI60 k (q 14) tx ++ bI10 k (q 16) (fun w => bI (lfE tx en he w (m + 1))) ++ bI59 k (q 17) wdK ++ bI11 k (q 18) waI) H → va_D A (bMO k q th ea fa ch tn ((wdU tx en he wr (m + 1)).1) en ln sv ((wdU tx en he wr (m + 1)).2.1) dg ++ bI60 k (q 14) tx ++ bI10 k (q 16) (fun w => bI (lfE tx en he w (m + 1))) ++ bI59 k (q 17) wdK ++ bI11 k (q 18) waI) → va_S A s9.heap H locs → lv_has ls 5 [(0, .ref (q 0)), (1, .int (nI (m + 1))), (2, .int (fiE tx en he (m + 1) (wdU tx en he wr m).2.2 u)), (4, .int (nI u))] → W p9 l9 e9 ({ frames := 1, cells := 0, slots := 0, locals := 20 }) s9 m9 ([.ref (q 0)] : List Value).toArray bl9 me9 c9 H locs 0 0 (MQ bl9 (WI D k (bMO k q th ea fa ch tn ((wdE tx en he wr).1) en ln sv ((wdE tx en he wr).2.1) dg ++ bI60 k (q 14) tx ++ bI10 k (q 16) (fun w => bI (lfE tx en he w (wdN tx en he wr))) ++ bI59 k (q 17) wdK ++ bI11 k (q 18) waI) ((wdE tx en he wr).2.2) A) ([.ref (q 0)] : List Value).toArray s9 0 0 A) (F0 m9 167 ls []) := by
        intro fuel
        induction fuel with
        | zero => intro u hu hgo hm8 hfuel_167; exact absurd hfuel_167 (Nat.not_lt_zero _)
        | succ fuel ih_167 =>
          intro u hu hgo hm8 hfuel_167 ls H locs hP hD hS hl
          have hwa9 := waK_all u
          have hwb9 := waK_all (u + 1)
          refine lv_iload hx hb dX13_word_167 (lv_at hl 3 rfl) ?_
          refine lv_bipush (v := 10) hx hb dX13_word_169 (by decide) ?_
          refine lv_icmp_ge (tgt := 219) hx hb dX13_word_171 (by decide) (fun c_1 => ?_) (fun c_1 => ?_)
          · skip
            have c_1 : 10 ≤ u := (nI_leI (a := 10) (b := u) (by omega) (by omega)).mp c_1
            refine lv_goto (tgt := 25) hx hb dX13_word_219 (by decide) ?_
            have e_2 : (fiE tx en he (m + 1) (wdU tx en he wr m).2.2 u : Int32) = (wdU tx en he wr (m + 1)).2.2 := by first | (with_reducible rfl) | (rw [wdU_s, show u = 10 by omega])
            exact ih_25 (m + 1) (by omega) (fun c hc => (Nat.lt_succ_iff_lt_or_eq.mp hc).elim (hg c) (fun e => by rw [e]; exact hgo)) (by omega) ls _ _ hP hD hS (lv_one hl 0 rfl rfl (lv_one hl 1 rfl rfl (lv_one hl 2 rfl (congrArg Value.int e_2) (lv_nil hl))))
          · skip
            have c_1 : ¬ 10 ≤ u := fun h => c_1 ((nI_leI (a := 10) (b := u) (by omega) (by omega)).mpr h)
            refine lv_aload_n hx hb dX13_word_174 rfl (lv_at hl 0 rfl) ?_
            refine va_get (D := D) (ci := 11) (v := .ref (q 16)) (C := RX13) (T := TX13) (N := 29) hx hb hts kc_RX13 hown hK hP 0 rfl rfl 20 (by decide) k_fieldLink_64 (fun _ h9 => h9) rfl dX13_word_175 ?_
            refine lv_iload hx hb dX13_word_178 (lv_at hl 3 rfl) ?_
            refine ia_ld hx hb hK hP 2 rfl u (by omega) (by decide) dX13_word_180 ?_
            refine lv_iconst (v := 1) hx hb dX13_word_181 (by decide) ?_
            refine lv_icmp_ne (tgt := 211) hx hb dX13_word_182 (by decide) (fun c_3 => ?_) (fun c_3 => ?_)
            · skip
              have c_3 : lfE tx en he u (m + 1) = false := bI1_f c_3
              refine lv_iload_n hx hb dX13_word_211 rfl (lv_at hl 2 rfl) ?_
              refine lv_istore_n (lv' := [(2, .int (fiE tx en he (m + 1) (wdU tx en he wr m).2.2 u)), (0, .ref (q 0)), (1, .int (nI (m + 1))), (4, .int (nI u))]) hx hb dX13_word_212 rfl hl (by decide) rfl (fun ls hl => ?_)
              refine lv_iinc (v := nI (u + 1)) (lv' := [(4, .int (nI (u + 1))), (2, .int (fiE tx en he (m + 1) (wdU tx en he wr m).2.2 u)), (0, .ref (q 0)), (1, .int (nI (m + 1)))]) hx hb dX13_word_213 hl (k := 3) rfl (nI_inc u) (by decide) rfl (fun ls hl => ?_)
              refine lv_goto (tgt := 167) hx hb dX13_word_216 (by decide) ?_
              have e_4 : (fiE tx en he (m + 1) (wdU tx en he wr m).2.2 u : Int32) = fiE tx en he (m + 1) (wdU tx en he wr m).2.2 (u + 1) := by first | (with_reducible rfl) | (rw [fiE_s]; first | rw [if_pos ⟨by assumption, by omega⟩] | rw [if_neg (fun h9 => absurd h9.2 (by omega))] | rw [if_neg (fun h9 => Bool.noConfusion (Eq.trans (Eq.symm h9.1) (by assumption)))])
              exact ih_167 (u + 1) (by omega) hgo hm8 (by omega) ls _ _ hP hD hS (lv_one hl 2 rfl rfl (lv_one hl 3 rfl rfl (lv_one hl 1 rfl (congrArg Value.int e_4) (lv_one hl 0 rfl rfl (lv_nil hl)))))
            · skip
              have c_3 : lfE tx en he u (m + 1) = true := bI1_t c_3
              refine lv_aload_n hx hb dX13_word_185 rfl (lv_at hl 0 rfl) ?_
              refine va_get (D := D) (ci := 11) (v := .ref (q 18)) (C := RX13) (T := TX13) (N := 29) hx hb hts kc_RX13 hown hK hP 0 rfl rfl 22 (by decide) k_fieldLink_70 (fun _ h9 => h9) rfl dX13_word_186 ?_
              refine lv_iload hx hb dX13_word_189 (lv_at hl 3 rfl) ?_
              refine ia_ld hx hb hK hP 4 rfl u (by omega) (by decide) dX13_word_191 ?_
              rw [show waI u = nI (waK u) from rfl]
              refine lv_iload_n hx hb dX13_word_192 rfl (lv_at hl 1 rfl) ?_
              refine ni_add hx hb (waK u) (m + 1) dX13_word_193 ?_
              refine lv_aload_n hx hb dX13_word_194 rfl (lv_at hl 0 rfl) ?_
              refine va_get (D := D) (ci := 11) (v := .ref (q 18)) (C := RX13) (T := TX13) (N := 29) hx hb hts kc_RX13 hown hK hP 0 rfl rfl 22 (by decide) k_fieldLink_70 (fun _ h9 => h9) rfl dX13_word_195 ?_
              refine lv_iload hx hb dX13_word_198 (lv_at hl 3 rfl) ?_
              refine lv_iconst (v := 1) hx hb dX13_word_200 (by decide) ?_
              refine ni_add hx hb u 1 dX13_word_201 ?_
              refine ia_ld hx hb hK hP 4 rfl (u + 1) (by omega) (by decide) dX13_word_202 ?_
              rw [show waI (u + 1) = nI (waK (u + 1)) from rfl]
              refine lv_icmp_ne (tgt := 211) hx hb dX13_word_203 (by decide) (fun c_5 => ?_) (fun c_5 => ?_)
              · skip
                have c_5 : ¬ ((waK u) + (m + 1)) = (waK (u + 1)) := fun h => c_5 ((nI_eq (a := (waK u) + (m + 1)) (b := waK (u + 1)) (by omega) (by omega)).mpr h)
                refine lv_iload_n hx hb dX13_word_211 rfl (lv_at hl 2 rfl) ?_
                refine lv_istore_n (lv' := [(2, .int (fiE tx en he (m + 1) (wdU tx en he wr m).2.2 u)), (0, .ref (q 0)), (1, .int (nI (m + 1))), (4, .int (nI u))]) hx hb dX13_word_212 rfl hl (by decide) rfl (fun ls hl => ?_)
                refine lv_iinc (v := nI (u + 1)) (lv' := [(4, .int (nI (u + 1))), (2, .int (fiE tx en he (m + 1) (wdU tx en he wr m).2.2 u)), (0, .ref (q 0)), (1, .int (nI (m + 1)))]) hx hb dX13_word_213 hl (k := 3) rfl (nI_inc u) (by decide) rfl (fun ls hl => ?_)
                refine lv_goto (tgt := 167) hx hb dX13_word_216 (by decide) ?_
                have e_6 : (fiE tx en he (m + 1) (wdU tx en he wr m).2.2 u : Int32) = fiE tx en he (m + 1) (wdU tx en he wr m).2.2 (u + 1) := by first | (with_reducible rfl) | (rw [fiE_s]; first | rw [if_pos ⟨by assumption, by omega⟩] | rw [if_neg (fun h9 => absurd h9.2 (by omega))] | rw [if_neg (fun h9 => Bool.noConfusion (Eq.trans (Eq.symm h9.1) (by assumption)))])
                exact ih_167 (u + 1) (by omega) hgo hm8 (by omega) ls _ _ hP hD hS (lv_one hl 2 rfl rfl (lv_one hl 3 rfl rfl (lv_one hl 1 rfl (congrArg Value.int e_6) (lv_one hl 0 rfl rfl (lv_nil hl)))))
              · skip
                have c_5 : ((waK u) + (m + 1)) = (waK (u + 1)) := (nI_eq (a := (waK u) + (m + 1)) (b := waK (u + 1)) (by omega) (by omega)).mp c_5
                refine lv_iload hx hb dX13_word_206 (lv_at hl 3 rfl) ?_
                refine lv_goto (tgt := 212) hx hb dX13_word_208 (by decide) ?_
                refine lv_istore_n (lv' := [(2, .int (nI u)), (0, .ref (q 0)), (1, .int (nI (m + 1))), (4, .int (nI u))]) hx hb dX13_word_212 rfl hl (by decide) rfl (fun ls hl => ?_)
                refine lv_iinc (v := nI (u + 1)) (lv' := [(4, .int (nI (u + 1))), (2, .int (nI u)), (0, .ref (q 0)), (1, .int (nI (m + 1)))]) hx hb dX13_word_213 hl (k := 3) rfl (nI_inc u) (by decide) rfl (fun ls hl => ?_)
                refine lv_goto (tgt := 167) hx hb dX13_word_216 (by decide) ?_
                have e_7 : (nI u : Int32) = fiE tx en he (m + 1) (wdU tx en he wr m).2.2 (u + 1) := by first | (with_reducible rfl) | (rw [fiE_s]; first | rw [if_pos ⟨by assumption, by omega⟩] | rw [if_neg (fun h9 => absurd h9.2 (by omega))] | rw [if_neg (fun h9 => Bool.noConfusion (Eq.trans (Eq.symm h9.1) (by assumption)))])
                exact ih_167 (u + 1) (by omega) hgo hm8 (by omega) ls _ _ hP hD hS (lv_one hl 2 rfl rfl (lv_one hl 3 rfl rfl (lv_one hl 1 rfl (congrArg Value.int e_7) (lv_one hl 0 rfl rfl (lv_nil hl)))))
      have loop_41 : ∀ (fuel : Nat) (u : Nat), (u ≤ 10) → (goE tx en he wr m = true) → (m < 8) → ((wdU tx en he wr m).1 = he + m) → 10 - u < fuel → ∀ (ls : Array Slot), ∀ (H : Heap) (locs : List Loc), va_P D vwCl (bMO k q th ea fa ch tn (he + m) en ln sv false dg ++ bI60 k (q 14) tx ++ bI10 k (q 16) (fil (fun w => bI (lfE tx en he w m)) (fun w => bI (lfE tx en he w (m + 1))) u) ++ bI59 k (q 17) wdK ++ bI11 k (q 18) waI) H → va_D A (bMO k q th ea fa ch tn (he + m) en ln sv false dg ++ bI60 k (q 14) tx ++ bI10 k (q 16) (fil (fun w => bI (lfE tx en he w m)) (fun w => bI (lfE tx en he w (m + 1))) u) ++ bI59 k (q 17) wdK ++ bI11 k (q 18) waI) → va_S A s9.heap H locs → lv_has ls 5 [(0, .ref (q 0)), (1, .int (nI m)), (2, .int ((wdU tx en he wr m).2.2)), (3, .int (bI (anE tx en he (m + 1) u))), (4, .int (nI u))] → W p9 l9 e9 ({ frames := 1, cells := 0, slots := 0, locals := 20 }) s9 m9 ([.ref (q 0)] : List Value).toArray bl9 me9 c9 H locs 0 0 (MQ bl9 (WI D k (bMO k q th ea fa ch tn ((wdE tx en he wr).1) en ln sv ((wdE tx en he wr).2.1) dg ++ bI60 k (q 14) tx ++ bI10 k (q 16) (fun w => bI (lfE tx en he w (wdN tx en he wr))) ++ bI59 k (q 17) wdK ++ bI11 k (q 18) waI) ((wdE tx en he wr).2.2) A) ([.ref (q 0)] : List Value).toArray s9 0 0 A) (F0 m9 41 ls []) := by
        intro fuel
        induction fuel with
        | zero => intro u hu hgo hm8 hU1 hfuel_41; exact absurd hfuel_41 (Nat.not_lt_zero _)
        | succ fuel ih_41 =>
          intro u hu hgo hm8 hU1 hfuel_41 ls H locs hP hD hS hl
          have hwa9 := waK_all u
          have hwb9 := waK_all (u + 1)
          refine lv_iload hx hb dX13_word_41 (lv_at hl 4 rfl) ?_
          refine lv_bipush (v := 10) hx hb dX13_word_43 (by decide) ?_
          refine lv_icmp_ge (tgt := 130) hx hb dX13_word_45 (by decide) (fun c_8 => ?_) (fun c_8 => ?_)
          · skip
            have c_8 : 10 ≤ u := (nI_leI (a := 10) (b := u) (by omega) (by omega)).mp c_8
            have hin9 : u = 10 := (by omega)
            rw [hin9] at hP hD hl
            obtain ⟨hP, hD⟩ := ext_i hP hD 2 rfl (g := (fun w => bI (lfE tx en he w (m + 1)))) (fun j hj => fil_in (by omega))
            have hP : va_P D vwCl (bMO k q th ea fa ch tn (he + m) en ln sv false dg ++ bI60 k (q 14) tx ++ bI10 k (q 16) (fun w => bI (lfE tx en he w (m + 1))) ++ bI59 k (q 17) wdK ++ bI11 k (q 18) waI) H := hP
            have hD : va_D A (bMO k q th ea fa ch tn (he + m) en ln sv false dg ++ bI60 k (q 14) tx ++ bI10 k (q 16) (fun w => bI (lfE tx en he w (m + 1))) ++ bI59 k (q 17) wdK ++ bI11 k (q 18) waI) := hD
            refine lv_aload_n hx hb dX13_word_130 rfl (lv_at hl 0 rfl) ?_
            refine lv_iload_n hx hb dX13_word_131 rfl (lv_at hl 3 rfl) ?_
            refine lv_if_ne (tgt := 139) hx hb dX13_word_132 (by decide) (fun c_9 => ?_) (fun c_9 => ?_)
            · skip
              have c_9 : (anE tx en he (m + 1) 10) = true := bI_1 c_9
              refine lv_iconst (v := 0) hx hb dX13_word_139 (by decide) ?_
              refine va_put (D := D) (ci := 11) (v := .int 0) (ty := .boolean) (C := RX13) (T := TX13) (N := 29) hx hb hts kc_RX13 tyX13 tyX13_ok nmX13 hown hK hP hD hS 0 rfl rfl 27 (by decide) k_fieldLink_238 (fun _ h9 => h9) rfl (by decide +kernel) rfl rfl (Nat.le_of_ble_eq_true rfl) dX13_word_140 (fun H locs hP hD hS => ?_)
              have hP : va_P D vwCl (bMO k q th ea fa ch tn (he + m) en ln sv false dg ++ bI60 k (q 14) tx ++ bI10 k (q 16) (fun w => bI (lfE tx en he w (m + 1))) ++ bI59 k (q 17) wdK ++ bI11 k (q 18) waI) H := hP
              have hD : va_D A (bMO k q th ea fa ch tn (he + m) en ln sv false dg ++ bI60 k (q 14) tx ++ bI10 k (q 16) (fun w => bI (lfE tx en he w (m + 1))) ++ bI59 k (q 17) wdK ++ bI11 k (q 18) waI) := hD
              refine lv_aload_n hx hb dX13_word_143 rfl (lv_at hl 0 rfl) ?_
              refine lv_dup hx hb dX13_word_144 rfl ?_
              refine va_get (D := D) (ci := 11) (v := .int (nI (he + m))) (C := RX13) (T := TX13) (N := 29) hx hb hts kc_RX13 hown hK hP 0 rfl rfl 24 (by decide) k_fieldLink_232 (fun _ h9 => h9) rfl dX13_word_145 ?_
              refine lv_iload_n hx hb dX13_word_148 rfl (lv_at hl 3 rfl) ?_
              refine lv_if_eq (tgt := 156) hx hb dX13_word_149 (by decide) (fun c_10 => ?_) (fun c_10 => ?_)
              · skip
                have c_10 : (anE tx en he (m + 1) 10) = false := bI_0 c_10
                exact Bool.noConfusion (Eq.trans (Eq.symm (by assumption : anE tx en he (m + 1) 10 = true)) (by assumption : anE tx en he (m + 1) 10 = false))
              · skip
                have c_10 : (anE tx en he (m + 1) 10) = true := bI_1 c_10
                refine lv_iconst (v := 1) hx hb dX13_word_152 (by decide) ?_
                refine lv_goto (tgt := 157) hx hb dX13_word_153 (by decide) ?_
                refine ni_add hx hb (he + m) 1 dX13_word_157 ?_
                refine va_put (D := D) (ci := 11) (v := .int (nI ((he + m) + 1))) (ty := .int) (C := RX13) (T := TX13) (N := 29) hx hb hts kc_RX13 tyX13 tyX13_ok nmX13 hown hK hP hD hS 0 rfl rfl 24 (by decide) k_fieldLink_232 (fun _ h9 => h9) rfl (by decide +kernel) rfl rfl (Nat.le_of_ble_eq_true rfl) dX13_word_158 (fun H locs hP hD hS => ?_)
                have hP : va_P D vwCl (bMO k q th ea fa ch tn ((he + m) + 1) en ln sv false dg ++ bI60 k (q 14) tx ++ bI10 k (q 16) (fun w => bI (lfE tx en he w (m + 1))) ++ bI59 k (q 17) wdK ++ bI11 k (q 18) waI) H := hP
                have hD : va_D A (bMO k q th ea fa ch tn ((he + m) + 1) en ln sv false dg ++ bI60 k (q 14) tx ++ bI10 k (q 16) (fun w => bI (lfE tx en he w (m + 1))) ++ bI59 k (q 17) wdK ++ bI11 k (q 18) waI) := hD
                refine lv_iinc (v := nI (m + 1)) (lv' := [(1, .int (nI (m + 1))), (0, .ref (q 0)), (2, .int ((wdU tx en he wr m).2.2)), (3, .int (bI (anE tx en he (m + 1) 10))), (4, .int (nI 10))]) hx hb dX13_word_161 hl (k := 1) rfl (nI_inc m) (by decide) rfl (fun ls hl => ?_)
                refine lv_iconst (v := 0) hx hb dX13_word_164 (by decide) ?_
                refine lv_istore (lv' := [(4, .int 0), (1, .int (nI (m + 1))), (0, .ref (q 0)), (2, .int ((wdU tx en he wr m).2.2)), (3, .int (bI (anE tx en he (m + 1) 10)))]) hx hb dX13_word_165 hl (by decide) rfl (fun ls hl => ?_)
                have e_11 : ((wdU tx en he wr m).2.2 : Int32) = fiE tx en he (m + 1) (wdU tx en he wr m).2.2 0 := by first | (with_reducible rfl) | (rfl)
                have e_12 : ((he + m) + 1 : Nat) = (wdU tx en he wr (m + 1)).1 := by first | (with_reducible rfl) | (rw [wdU_s]; show _ = (wdU tx en he wr m).1 + (if anE tx en he (m + 1) 10 = true then 1 else 0); rw [hU1, if_pos (by assumption)])
                have hP := Eq.mp (congrArg (fun z9 => va_P D vwCl (bMO k q th ea fa ch tn z9 en ln sv false dg ++ bI60 k (q 14) tx ++ bI10 k (q 16) (fun w => bI (lfE tx en he w (m + 1))) ++ bI59 k (q 17) wdK ++ bI11 k (q 18) waI) H) e_12) hP
                have hD := Eq.mp (congrArg (fun z9 => va_D A (bMO k q th ea fa ch tn z9 en ln sv false dg ++ bI60 k (q 14) tx ++ bI10 k (q 16) (fun w => bI (lfE tx en he w (m + 1))) ++ bI59 k (q 17) wdK ++ bI11 k (q 18) waI)) e_12) hD
                have e_13 : (false : Bool) = (wdU tx en he wr (m + 1)).2.1 := by first | (with_reducible rfl) | (rw [wdU_s]; show _ = !anE tx en he (m + 1) 10; rw [show anE tx en he (m + 1) 10 = true by assumption]; rfl)
                have hP := Eq.mp (congrArg (fun z9 => va_P D vwCl (bMO k q th ea fa ch tn ((wdU tx en he wr (m + 1)).1) en ln sv z9 dg ++ bI60 k (q 14) tx ++ bI10 k (q 16) (fun w => bI (lfE tx en he w (m + 1))) ++ bI59 k (q 17) wdK ++ bI11 k (q 18) waI) H) e_13) hP
                have hD := Eq.mp (congrArg (fun z9 => va_D A (bMO k q th ea fa ch tn ((wdU tx en he wr (m + 1)).1) en ln sv z9 dg ++ bI60 k (q 14) tx ++ bI10 k (q 16) (fun w => bI (lfE tx en he w (m + 1))) ++ bI59 k (q 17) wdK ++ bI11 k (q 18) waI)) e_13) hD
                exact loop_167 ((10 - 0) + 1) 0 (by omega) hgo hm8 (Nat.lt_succ_self _) ls _ _ hP hD hS (lv_one hl 2 rfl rfl (lv_one hl 1 rfl rfl (lv_one hl 3 rfl (congrArg Value.int e_11) (lv_one hl 0 rfl rfl (lv_nil hl)))))
            · skip
              have c_9 : (anE tx en he (m + 1) 10) = false := bI_0 c_9
              refine lv_iconst (v := 1) hx hb dX13_word_135 (by decide) ?_
              refine lv_goto (tgt := 140) hx hb dX13_word_136 (by decide) ?_
              refine va_put (D := D) (ci := 11) (v := .int 1) (ty := .boolean) (C := RX13) (T := TX13) (N := 29) hx hb hts kc_RX13 tyX13 tyX13_ok nmX13 hown hK hP hD hS 0 rfl rfl 27 (by decide) k_fieldLink_238 (fun _ h9 => h9) rfl (by decide +kernel) rfl rfl (Nat.le_of_ble_eq_true rfl) dX13_word_140 (fun H locs hP hD hS => ?_)
              have hP : va_P D vwCl (bMO k q th ea fa ch tn (he + m) en ln sv true dg ++ bI60 k (q 14) tx ++ bI10 k (q 16) (fun w => bI (lfE tx en he w (m + 1))) ++ bI59 k (q 17) wdK ++ bI11 k (q 18) waI) H := hP
              have hD : va_D A (bMO k q th ea fa ch tn (he + m) en ln sv true dg ++ bI60 k (q 14) tx ++ bI10 k (q 16) (fun w => bI (lfE tx en he w (m + 1))) ++ bI59 k (q 17) wdK ++ bI11 k (q 18) waI) := hD
              refine lv_aload_n hx hb dX13_word_143 rfl (lv_at hl 0 rfl) ?_
              refine lv_dup hx hb dX13_word_144 rfl ?_
              refine va_get (D := D) (ci := 11) (v := .int (nI (he + m))) (C := RX13) (T := TX13) (N := 29) hx hb hts kc_RX13 hown hK hP 0 rfl rfl 24 (by decide) k_fieldLink_232 (fun _ h9 => h9) rfl dX13_word_145 ?_
              refine lv_iload_n hx hb dX13_word_148 rfl (lv_at hl 3 rfl) ?_
              refine lv_if_eq (tgt := 156) hx hb dX13_word_149 (by decide) (fun c_14 => ?_) (fun c_14 => ?_)
              · skip
                have c_14 : (anE tx en he (m + 1) 10) = false := bI_0 c_14
                refine lv_iconst (v := 0) hx hb dX13_word_156 (by decide) ?_
                refine ni_add hx hb (he + m) 0 dX13_word_157 ?_
                refine va_put (D := D) (ci := 11) (v := .int (nI ((he + m) + 0))) (ty := .int) (C := RX13) (T := TX13) (N := 29) hx hb hts kc_RX13 tyX13 tyX13_ok nmX13 hown hK hP hD hS 0 rfl rfl 24 (by decide) k_fieldLink_232 (fun _ h9 => h9) rfl (by decide +kernel) rfl rfl (Nat.le_of_ble_eq_true rfl) dX13_word_158 (fun H locs hP hD hS => ?_)
                have hP : va_P D vwCl (bMO k q th ea fa ch tn ((he + m) + 0) en ln sv true dg ++ bI60 k (q 14) tx ++ bI10 k (q 16) (fun w => bI (lfE tx en he w (m + 1))) ++ bI59 k (q 17) wdK ++ bI11 k (q 18) waI) H := hP
                have hD : va_D A (bMO k q th ea fa ch tn ((he + m) + 0) en ln sv true dg ++ bI60 k (q 14) tx ++ bI10 k (q 16) (fun w => bI (lfE tx en he w (m + 1))) ++ bI59 k (q 17) wdK ++ bI11 k (q 18) waI) := hD
                refine lv_iinc (v := nI (m + 1)) (lv' := [(1, .int (nI (m + 1))), (0, .ref (q 0)), (2, .int ((wdU tx en he wr m).2.2)), (3, .int (bI (anE tx en he (m + 1) 10))), (4, .int (nI 10))]) hx hb dX13_word_161 hl (k := 1) rfl (nI_inc m) (by decide) rfl (fun ls hl => ?_)
                refine lv_iconst (v := 0) hx hb dX13_word_164 (by decide) ?_
                refine lv_istore (lv' := [(4, .int 0), (1, .int (nI (m + 1))), (0, .ref (q 0)), (2, .int ((wdU tx en he wr m).2.2)), (3, .int (bI (anE tx en he (m + 1) 10)))]) hx hb dX13_word_165 hl (by decide) rfl (fun ls hl => ?_)
                have e_15 : ((wdU tx en he wr m).2.2 : Int32) = fiE tx en he (m + 1) (wdU tx en he wr m).2.2 0 := by first | (with_reducible rfl) | (rfl)
                have e_16 : ((he + m) + 0 : Nat) = (wdU tx en he wr (m + 1)).1 := by first | (with_reducible rfl) | (rw [wdU_s]; show _ = (wdU tx en he wr m).1 + (if anE tx en he (m + 1) 10 = true then 1 else 0); rw [hU1, if_neg (by rw [show anE tx en he (m + 1) 10 = false by assumption]; decide)])
                have hP := Eq.mp (congrArg (fun z9 => va_P D vwCl (bMO k q th ea fa ch tn z9 en ln sv true dg ++ bI60 k (q 14) tx ++ bI10 k (q 16) (fun w => bI (lfE tx en he w (m + 1))) ++ bI59 k (q 17) wdK ++ bI11 k (q 18) waI) H) e_16) hP
                have hD := Eq.mp (congrArg (fun z9 => va_D A (bMO k q th ea fa ch tn z9 en ln sv true dg ++ bI60 k (q 14) tx ++ bI10 k (q 16) (fun w => bI (lfE tx en he w (m + 1))) ++ bI59 k (q 17) wdK ++ bI11 k (q 18) waI)) e_16) hD
                have e_17 : (true : Bool) = (wdU tx en he wr (m + 1)).2.1 := by first | (with_reducible rfl) | (rw [wdU_s]; show _ = !anE tx en he (m + 1) 10; rw [show anE tx en he (m + 1) 10 = false by assumption]; rfl)
                have hP := Eq.mp (congrArg (fun z9 => va_P D vwCl (bMO k q th ea fa ch tn ((wdU tx en he wr (m + 1)).1) en ln sv z9 dg ++ bI60 k (q 14) tx ++ bI10 k (q 16) (fun w => bI (lfE tx en he w (m + 1))) ++ bI59 k (q 17) wdK ++ bI11 k (q 18) waI) H) e_17) hP
                have hD := Eq.mp (congrArg (fun z9 => va_D A (bMO k q th ea fa ch tn ((wdU tx en he wr (m + 1)).1) en ln sv z9 dg ++ bI60 k (q 14) tx ++ bI10 k (q 16) (fun w => bI (lfE tx en he w (m + 1))) ++ bI59 k (q 17) wdK ++ bI11 k (q 18) waI)) e_17) hD
                exact loop_167 ((10 - 0) + 1) 0 (by omega) hgo hm8 (Nat.lt_succ_self _) ls _ _ hP hD hS (lv_one hl 2 rfl rfl (lv_one hl 1 rfl rfl (lv_one hl 3 rfl (congrArg Value.int e_15) (lv_one hl 0 rfl rfl (lv_nil hl)))))
              · skip
                have c_14 : (anE tx en he (m + 1) 10) = true := bI_1 c_14
                exact Bool.noConfusion (Eq.trans (Eq.symm (by assumption : anE tx en he (m + 1) 10 = true)) (by assumption : anE tx en he (m + 1) 10 = false))
          · skip
            have c_8 : ¬ 10 ≤ u := fun h => c_8 ((nI_leI (a := 10) (b := u) (by omega) (by omega)).mpr h)
            refine lv_aload_n hx hb dX13_word_48 rfl (lv_at hl 0 rfl) ?_
            refine va_get (D := D) (ci := 11) (v := .ref (q 16)) (C := RX13) (T := TX13) (N := 29) hx hb hts kc_RX13 hown hK hP 0 rfl rfl 20 (by decide) k_fieldLink_64 (fun _ h9 => h9) rfl dX13_word_49 ?_
            refine lv_iload hx hb dX13_word_52 (lv_at hl 4 rfl) ?_
            refine lv_dup2_11 hx hb dX13_word_54 rfl rfl ?_
            refine ia_ld hx hb hK hP 2 rfl u (by omega) (by decide) dX13_word_55 ?_
            refine lv_tope (show Value.int ((fil (fun w => bI (lfE tx en he w m)) (fun w => bI (lfE tx en he w (m + 1))) u) u) = Value.int (bI (lfE tx en he u m)) from congrArg Value.int (by unfold fil; rw [if_neg (Nat.lt_irrefl u)])) ?_
            refine lv_aload_n hx hb dX13_word_56 rfl (lv_at hl 0 rfl) ?_
            refine va_get (D := D) (ci := 11) (v := .ref (q 18)) (C := RX13) (T := TX13) (N := 29) hx hb hts kc_RX13 hown hK hP 0 rfl rfl 22 (by decide) k_fieldLink_70 (fun _ h9 => h9) rfl dX13_word_57 ?_
            refine lv_iload hx hb dX13_word_60 (lv_at hl 4 rfl) ?_
            refine ia_ld hx hb hK hP 4 rfl u (by omega) (by decide) dX13_word_62 ?_
            rw [show waI u = nI (waK u) from rfl]
            refine lv_iload_n hx hb dX13_word_63 rfl (lv_at hl 1 rfl) ?_
            refine ni_add hx hb (waK u) m dX13_word_64 ?_
            refine lv_aload_n hx hb dX13_word_65 rfl (lv_at hl 0 rfl) ?_
            refine va_get (D := D) (ci := 11) (v := .ref (q 18)) (C := RX13) (T := TX13) (N := 29) hx hb hts kc_RX13 hown hK hP 0 rfl rfl 22 (by decide) k_fieldLink_70 (fun _ h9 => h9) rfl dX13_word_66 ?_
            refine lv_iload hx hb dX13_word_69 (lv_at hl 4 rfl) ?_
            refine lv_iconst (v := 1) hx hb dX13_word_71 (by decide) ?_
            refine ni_add hx hb u 1 dX13_word_72 ?_
            refine ia_ld hx hb hK hP 4 rfl (u + 1) (by omega) (by decide) dX13_word_73 ?_
            rw [show waI (u + 1) = nI (waK (u + 1)) from rfl]
            refine lv_icmp_ge (tgt := 102) hx hb dX13_word_74 (by decide) (fun c_18 => ?_) (fun c_18 => ?_)
            · skip
              have c_18 : (waK (u + 1)) ≤ ((waK u) + m) := (nI_leI (a := waK (u + 1)) (b := (waK u) + m) (by omega) (by omega)).mp c_18
              refine lv_iconst (v := 0) hx hb dX13_word_102 (by decide) ?_
              refine lv_iand hx hb dX13_word_103 ?_
              refine ia_st hx hb hK hP hD hS 2 rfl u (by omega) (by decide) (bMO k q th ea fa ch tn (he + m) en ln sv false dg ++ bI60 k (q 14) tx ++ bI10 k (q 16) (upd (fil (fun w => bI (lfE tx en he w m)) (fun w => bI (lfE tx en he w (m + 1))) u) u ((bI (lfE tx en he u m)) &&& 0)) ++ bI59 k (q 17) wdK ++ bI11 k (q 18) waI) rfl dX13_word_104 (fun H locs hP hD hS => ?_)
              have e_19 : (upd (fil (fun w => bI (lfE tx en he w m)) (fun w => bI (lfE tx en he w (m + 1))) u) u ((bI (lfE tx en he u m)) &&& 0) : Nat → Int32) = fil (fun w => bI (lfE tx en he w m)) (fun w => bI (lfE tx en he w (m + 1))) (u + 1) := by first | (with_reducible rfl) | (first | (rw [lf_a (tx := tx) (en := en) (he := he) (w := u) (m := m) (by omega)]; exact fil_u (fun w => bI (lfE tx en he w m)) (fun w => bI (lfE tx en he w (m + 1))) u) | (rw [lf_b (tx := tx) (en := en) (he := he) (w := u) (m := m) (by assumption)]; exact fil_u (fun w => bI (lfE tx en he w m)) (fun w => bI (lfE tx en he w (m + 1))) u) | (rw [lf_c (tx := tx) (en := en) (he := he) (w := u) (m := m) (by omega) (by assumption)]; exact fil_u (fun w => bI (lfE tx en he w m)) (fun w => bI (lfE tx en he w (m + 1))) u))
              have hP := Eq.mp (congrArg (fun z9 => va_P D vwCl (bMO k q th ea fa ch tn (he + m) en ln sv false dg ++ bI60 k (q 14) tx ++ bI10 k (q 16) z9 ++ bI59 k (q 17) wdK ++ bI11 k (q 18) waI) H) e_19) hP
              have hD := Eq.mp (congrArg (fun z9 => va_D A (bMO k q th ea fa ch tn (he + m) en ln sv false dg ++ bI60 k (q 14) tx ++ bI10 k (q 16) z9 ++ bI59 k (q 17) wdK ++ bI11 k (q 18) waI)) e_19) hD
              refine lv_iload_n hx hb dX13_word_105 rfl (lv_at hl 3 rfl) ?_
              refine lv_aload_n hx hb dX13_word_106 rfl (lv_at hl 0 rfl) ?_
              refine va_get (D := D) (ci := 11) (v := .ref (q 16)) (C := RX13) (T := TX13) (N := 29) hx hb hts kc_RX13 hown hK hP 0 rfl rfl 20 (by decide) k_fieldLink_64 (fun _ h9 => h9) rfl dX13_word_107 ?_
              refine lv_iload hx hb dX13_word_110 (lv_at hl 4 rfl) ?_
              refine ia_ld hx hb hK hP 2 rfl u (by omega) (by decide) dX13_word_112 ?_
              refine lv_tope (show Value.int ((fil (fun w => bI (lfE tx en he w m)) (fun w => bI (lfE tx en he w (m + 1))) (u + 1)) u) = Value.int (bI (lfE tx en he u (m + 1))) from congrArg Value.int (by unfold fil; rw [if_pos (Nat.lt_succ_self u)])) ?_
              refine lv_iconst (v := 1) hx hb dX13_word_113 (by decide) ?_
              refine lv_icmp_ne (tgt := 121) hx hb dX13_word_114 (by decide) (fun c_20 => ?_) (fun c_20 => ?_)
              · skip
                have c_20 : lfE tx en he u (m + 1) = false := bI1_f c_20
                refine lv_iconst (v := 0) hx hb dX13_word_121 (by decide) ?_
                refine lv_ior hx hb dX13_word_122 ?_
                refine lv_istore_n (lv' := [(3, .int ((bI (anE tx en he (m + 1) u)) ||| 0)), (0, .ref (q 0)), (1, .int (nI m)), (2, .int ((wdU tx en he wr m).2.2)), (4, .int (nI u))]) hx hb dX13_word_123 rfl hl (by decide) rfl (fun ls hl => ?_)
                refine lv_iinc (v := nI (u + 1)) (lv' := [(4, .int (nI (u + 1))), (3, .int ((bI (anE tx en he (m + 1) u)) ||| 0)), (0, .ref (q 0)), (1, .int (nI m)), (2, .int ((wdU tx en he wr m).2.2))]) hx hb dX13_word_124 hl (k := 4) rfl (nI_inc u) (by decide) rfl (fun ls hl => ?_)
                refine lv_goto (tgt := 41) hx hb dX13_word_127 (by decide) ?_
                have e_21 : ((bI (anE tx en he (m + 1) u)) ||| 0 : Int32) = bI (anE tx en he (m + 1) (u + 1)) := by first | (with_reducible rfl) | (rw [anE_s]; first | (rw [show lfE tx en he u (m + 1) = true by assumption]; exact an_1 _) | (rw [show lfE tx en he u (m + 1) = false by assumption]; exact an_0 _))
                exact ih_41 (u + 1) (by omega) hgo hm8 hU1 (by omega) ls _ _ hP hD hS (lv_one hl 2 rfl rfl (lv_one hl 3 rfl rfl (lv_one hl 4 rfl rfl (lv_one hl 1 rfl (congrArg Value.int e_21) (lv_one hl 0 rfl rfl (lv_nil hl))))))
              · skip
                have c_20 : lfE tx en he u (m + 1) = true := bI1_t c_20
                refine lv_iconst (v := 1) hx hb dX13_word_117 (by decide) ?_
                refine lv_goto (tgt := 122) hx hb dX13_word_118 (by decide) ?_
                refine lv_ior hx hb dX13_word_122 ?_
                refine lv_istore_n (lv' := [(3, .int ((bI (anE tx en he (m + 1) u)) ||| 1)), (0, .ref (q 0)), (1, .int (nI m)), (2, .int ((wdU tx en he wr m).2.2)), (4, .int (nI u))]) hx hb dX13_word_123 rfl hl (by decide) rfl (fun ls hl => ?_)
                refine lv_iinc (v := nI (u + 1)) (lv' := [(4, .int (nI (u + 1))), (3, .int ((bI (anE tx en he (m + 1) u)) ||| 1)), (0, .ref (q 0)), (1, .int (nI m)), (2, .int ((wdU tx en he wr m).2.2))]) hx hb dX13_word_124 hl (k := 4) rfl (nI_inc u) (by decide) rfl (fun ls hl => ?_)
                refine lv_goto (tgt := 41) hx hb dX13_word_127 (by decide) ?_
                have e_22 : ((bI (anE tx en he (m + 1) u)) ||| 1 : Int32) = bI (anE tx en he (m + 1) (u + 1)) := by first | (with_reducible rfl) | (rw [anE_s]; first | (rw [show lfE tx en he u (m + 1) = true by assumption]; exact an_1 _) | (rw [show lfE tx en he u (m + 1) = false by assumption]; exact an_0 _))
                exact ih_41 (u + 1) (by omega) hgo hm8 hU1 (by omega) ls _ _ hP hD hS (lv_one hl 2 rfl rfl (lv_one hl 3 rfl rfl (lv_one hl 4 rfl rfl (lv_one hl 1 rfl (congrArg Value.int e_22) (lv_one hl 0 rfl rfl (lv_nil hl))))))
            · skip
              have c_18 : ¬ (waK (u + 1)) ≤ ((waK u) + m) := fun h => c_18 ((nI_leI (a := waK (u + 1)) (b := (waK u) + m) (by omega) (by omega)).mpr h)
              refine lv_aload_n hx hb dX13_word_77 rfl (lv_at hl 0 rfl) ?_
              refine va_get (D := D) (ci := 11) (v := .ref (q 17)) (C := RX13) (T := TX13) (N := 29) hx hb hts kc_RX13 hown hK hP 0 rfl rfl 21 (by decide) k_fieldLink_67 (fun _ h9 => h9) rfl dX13_word_78 ?_
              refine lv_aload_n hx hb dX13_word_81 rfl (lv_at hl 0 rfl) ?_
              refine va_get (D := D) (ci := 11) (v := .ref (q 18)) (C := RX13) (T := TX13) (N := 29) hx hb hts kc_RX13 hown hK hP 0 rfl rfl 22 (by decide) k_fieldLink_70 (fun _ h9 => h9) rfl dX13_word_82 ?_
              refine lv_iload hx hb dX13_word_85 (lv_at hl 4 rfl) ?_
              refine ia_ld hx hb hK hP 4 rfl u (by omega) (by decide) dX13_word_87 ?_
              rw [show waI u = nI (waK u) from rfl]
              refine lv_iload_n hx hb dX13_word_88 rfl (lv_at hl 1 rfl) ?_
              refine ni_add hx hb (waK u) m dX13_word_89 ?_
              refine ia_ld hx hb hK hP 3 rfl ((waK u) + m) (by have := waK_le (j := u + 1) (by omega); omega) (by decide) dX13_word_90 ?_
              refine lv_aload_n hx hb dX13_word_91 rfl (lv_at hl 0 rfl) ?_
              refine vp_callSi (W.runV (As := []) (rest := [.int (wdK ((waK u) + m)), .int (bI (lfE tx en he u m)), .int (nI u), .ref (q 16)]) hF (m_X13_sign l9 D k q th ea fa ch tn (he + m) en ln sv false dg tx hen (by omega)) (cwV 0 hts gX13_word_X13_sign rfl rfl rfl (by decide +kernel) ⟨Nat.le_of_ble_eq_true rfl, Nat.le_of_ble_eq_true rfl⟩) (rPreV hK hN hP [0, 1] rfl 0 11 rfl rfl) rfl rfl hl.1 rfl (lv_room (Nat.le_of_ble_eq_true rfl)) dX13_word_92 ⟨Nat.zero_le _, Nat.zero_le _⟩) (fun r_23 hr_23 => ?_)
              subst hr_23
              refine lv_icmp_ne (tgt := 102) hx hb dX13_word_95 (by decide) (fun c_24 => ?_) (fun c_24 => ?_)
              · skip
                refine lv_iconst (v := 0) hx hb dX13_word_102 (by decide) ?_
                refine lv_iand hx hb dX13_word_103 ?_
                refine ia_st hx hb hK hP hD hS 2 rfl u (by omega) (by decide) (bMO k q th ea fa ch tn (he + m) en ln sv false dg ++ bI60 k (q 14) tx ++ bI10 k (q 16) (upd (fil (fun w => bI (lfE tx en he w m)) (fun w => bI (lfE tx en he w (m + 1))) u) u ((bI (lfE tx en he u m)) &&& 0)) ++ bI59 k (q 17) wdK ++ bI11 k (q 18) waI) rfl dX13_word_104 (fun H locs hP hD hS => ?_)
                have e_25 : (upd (fil (fun w => bI (lfE tx en he w m)) (fun w => bI (lfE tx en he w (m + 1))) u) u ((bI (lfE tx en he u m)) &&& 0) : Nat → Int32) = fil (fun w => bI (lfE tx en he w m)) (fun w => bI (lfE tx en he w (m + 1))) (u + 1) := by first | (with_reducible rfl) | (first | (rw [lf_a (tx := tx) (en := en) (he := he) (w := u) (m := m) (by omega)]; exact fil_u (fun w => bI (lfE tx en he w m)) (fun w => bI (lfE tx en he w (m + 1))) u) | (rw [lf_b (tx := tx) (en := en) (he := he) (w := u) (m := m) (by assumption)]; exact fil_u (fun w => bI (lfE tx en he w m)) (fun w => bI (lfE tx en he w (m + 1))) u) | (rw [lf_c (tx := tx) (en := en) (he := he) (w := u) (m := m) (by omega) (by assumption)]; exact fil_u (fun w => bI (lfE tx en he w m)) (fun w => bI (lfE tx en he w (m + 1))) u))
                have hP := Eq.mp (congrArg (fun z9 => va_P D vwCl (bMO k q th ea fa ch tn (he + m) en ln sv false dg ++ bI60 k (q 14) tx ++ bI10 k (q 16) z9 ++ bI59 k (q 17) wdK ++ bI11 k (q 18) waI) H) e_25) hP
                have hD := Eq.mp (congrArg (fun z9 => va_D A (bMO k q th ea fa ch tn (he + m) en ln sv false dg ++ bI60 k (q 14) tx ++ bI10 k (q 16) z9 ++ bI59 k (q 17) wdK ++ bI11 k (q 18) waI)) e_25) hD
                refine lv_iload_n hx hb dX13_word_105 rfl (lv_at hl 3 rfl) ?_
                refine lv_aload_n hx hb dX13_word_106 rfl (lv_at hl 0 rfl) ?_
                refine va_get (D := D) (ci := 11) (v := .ref (q 16)) (C := RX13) (T := TX13) (N := 29) hx hb hts kc_RX13 hown hK hP 0 rfl rfl 20 (by decide) k_fieldLink_64 (fun _ h9 => h9) rfl dX13_word_107 ?_
                refine lv_iload hx hb dX13_word_110 (lv_at hl 4 rfl) ?_
                refine ia_ld hx hb hK hP 2 rfl u (by omega) (by decide) dX13_word_112 ?_
                refine lv_tope (show Value.int ((fil (fun w => bI (lfE tx en he w m)) (fun w => bI (lfE tx en he w (m + 1))) (u + 1)) u) = Value.int (bI (lfE tx en he u (m + 1))) from congrArg Value.int (by unfold fil; rw [if_pos (Nat.lt_succ_self u)])) ?_
                refine lv_iconst (v := 1) hx hb dX13_word_113 (by decide) ?_
                refine lv_icmp_ne (tgt := 121) hx hb dX13_word_114 (by decide) (fun c_26 => ?_) (fun c_26 => ?_)
                · skip
                  have c_26 : lfE tx en he u (m + 1) = false := bI1_f c_26
                  refine lv_iconst (v := 0) hx hb dX13_word_121 (by decide) ?_
                  refine lv_ior hx hb dX13_word_122 ?_
                  refine lv_istore_n (lv' := [(3, .int ((bI (anE tx en he (m + 1) u)) ||| 0)), (0, .ref (q 0)), (1, .int (nI m)), (2, .int ((wdU tx en he wr m).2.2)), (4, .int (nI u))]) hx hb dX13_word_123 rfl hl (by decide) rfl (fun ls hl => ?_)
                  refine lv_iinc (v := nI (u + 1)) (lv' := [(4, .int (nI (u + 1))), (3, .int ((bI (anE tx en he (m + 1) u)) ||| 0)), (0, .ref (q 0)), (1, .int (nI m)), (2, .int ((wdU tx en he wr m).2.2))]) hx hb dX13_word_124 hl (k := 4) rfl (nI_inc u) (by decide) rfl (fun ls hl => ?_)
                  refine lv_goto (tgt := 41) hx hb dX13_word_127 (by decide) ?_
                  have e_27 : ((bI (anE tx en he (m + 1) u)) ||| 0 : Int32) = bI (anE tx en he (m + 1) (u + 1)) := by first | (with_reducible rfl) | (rw [anE_s]; first | (rw [show lfE tx en he u (m + 1) = true by assumption]; exact an_1 _) | (rw [show lfE tx en he u (m + 1) = false by assumption]; exact an_0 _))
                  exact ih_41 (u + 1) (by omega) hgo hm8 hU1 (by omega) ls _ _ hP hD hS (lv_one hl 2 rfl rfl (lv_one hl 3 rfl rfl (lv_one hl 4 rfl rfl (lv_one hl 1 rfl (congrArg Value.int e_27) (lv_one hl 0 rfl rfl (lv_nil hl))))))
                · skip
                  have c_26 : lfE tx en he u (m + 1) = true := bI1_t c_26
                  refine lv_iconst (v := 1) hx hb dX13_word_117 (by decide) ?_
                  refine lv_goto (tgt := 122) hx hb dX13_word_118 (by decide) ?_
                  refine lv_ior hx hb dX13_word_122 ?_
                  refine lv_istore_n (lv' := [(3, .int ((bI (anE tx en he (m + 1) u)) ||| 1)), (0, .ref (q 0)), (1, .int (nI m)), (2, .int ((wdU tx en he wr m).2.2)), (4, .int (nI u))]) hx hb dX13_word_123 rfl hl (by decide) rfl (fun ls hl => ?_)
                  refine lv_iinc (v := nI (u + 1)) (lv' := [(4, .int (nI (u + 1))), (3, .int ((bI (anE tx en he (m + 1) u)) ||| 1)), (0, .ref (q 0)), (1, .int (nI m)), (2, .int ((wdU tx en he wr m).2.2))]) hx hb dX13_word_124 hl (k := 4) rfl (nI_inc u) (by decide) rfl (fun ls hl => ?_)
                  refine lv_goto (tgt := 41) hx hb dX13_word_127 (by decide) ?_
                  have e_28 : ((bI (anE tx en he (m + 1) u)) ||| 1 : Int32) = bI (anE tx en he (m + 1) (u + 1)) := by first | (with_reducible rfl) | (rw [anE_s]; first | (rw [show lfE tx en he u (m + 1) = true by assumption]; exact an_1 _) | (rw [show lfE tx en he u (m + 1) = false by assumption]; exact an_0 _))
                  exact ih_41 (u + 1) (by omega) hgo hm8 hU1 (by omega) ls _ _ hP hD hS (lv_one hl 2 rfl rfl (lv_one hl 3 rfl rfl (lv_one hl 4 rfl rfl (lv_one hl 1 rfl (congrArg Value.int e_28) (lv_one hl 0 rfl rfl (lv_nil hl))))))
              · skip
                refine lv_iconst (v := 1) hx hb dX13_word_98 (by decide) ?_
                refine lv_goto (tgt := 103) hx hb dX13_word_99 (by decide) ?_
                refine lv_iand hx hb dX13_word_103 ?_
                refine ia_st hx hb hK hP hD hS 2 rfl u (by omega) (by decide) (bMO k q th ea fa ch tn (he + m) en ln sv false dg ++ bI60 k (q 14) tx ++ bI10 k (q 16) (upd (fil (fun w => bI (lfE tx en he w m)) (fun w => bI (lfE tx en he w (m + 1))) u) u ((bI (lfE tx en he u m)) &&& 1)) ++ bI59 k (q 17) wdK ++ bI11 k (q 18) waI) rfl dX13_word_104 (fun H locs hP hD hS => ?_)
                have e_29 : (upd (fil (fun w => bI (lfE tx en he w m)) (fun w => bI (lfE tx en he w (m + 1))) u) u ((bI (lfE tx en he u m)) &&& 1) : Nat → Int32) = fil (fun w => bI (lfE tx en he w m)) (fun w => bI (lfE tx en he w (m + 1))) (u + 1) := by first | (with_reducible rfl) | (first | (rw [lf_a (tx := tx) (en := en) (he := he) (w := u) (m := m) (by omega)]; exact fil_u (fun w => bI (lfE tx en he w m)) (fun w => bI (lfE tx en he w (m + 1))) u) | (rw [lf_b (tx := tx) (en := en) (he := he) (w := u) (m := m) (by assumption)]; exact fil_u (fun w => bI (lfE tx en he w m)) (fun w => bI (lfE tx en he w (m + 1))) u) | (rw [lf_c (tx := tx) (en := en) (he := he) (w := u) (m := m) (by omega) (by assumption)]; exact fil_u (fun w => bI (lfE tx en he w m)) (fun w => bI (lfE tx en he w (m + 1))) u))
                have hP := Eq.mp (congrArg (fun z9 => va_P D vwCl (bMO k q th ea fa ch tn (he + m) en ln sv false dg ++ bI60 k (q 14) tx ++ bI10 k (q 16) z9 ++ bI59 k (q 17) wdK ++ bI11 k (q 18) waI) H) e_29) hP
                have hD := Eq.mp (congrArg (fun z9 => va_D A (bMO k q th ea fa ch tn (he + m) en ln sv false dg ++ bI60 k (q 14) tx ++ bI10 k (q 16) z9 ++ bI59 k (q 17) wdK ++ bI11 k (q 18) waI)) e_29) hD
                refine lv_iload_n hx hb dX13_word_105 rfl (lv_at hl 3 rfl) ?_
                refine lv_aload_n hx hb dX13_word_106 rfl (lv_at hl 0 rfl) ?_
                refine va_get (D := D) (ci := 11) (v := .ref (q 16)) (C := RX13) (T := TX13) (N := 29) hx hb hts kc_RX13 hown hK hP 0 rfl rfl 20 (by decide) k_fieldLink_64 (fun _ h9 => h9) rfl dX13_word_107 ?_
                refine lv_iload hx hb dX13_word_110 (lv_at hl 4 rfl) ?_
                refine ia_ld hx hb hK hP 2 rfl u (by omega) (by decide) dX13_word_112 ?_
                refine lv_tope (show Value.int ((fil (fun w => bI (lfE tx en he w m)) (fun w => bI (lfE tx en he w (m + 1))) (u + 1)) u) = Value.int (bI (lfE tx en he u (m + 1))) from congrArg Value.int (by unfold fil; rw [if_pos (Nat.lt_succ_self u)])) ?_
                refine lv_iconst (v := 1) hx hb dX13_word_113 (by decide) ?_
                refine lv_icmp_ne (tgt := 121) hx hb dX13_word_114 (by decide) (fun c_30 => ?_) (fun c_30 => ?_)
                · skip
                  have c_30 : lfE tx en he u (m + 1) = false := bI1_f c_30
                  refine lv_iconst (v := 0) hx hb dX13_word_121 (by decide) ?_
                  refine lv_ior hx hb dX13_word_122 ?_
                  refine lv_istore_n (lv' := [(3, .int ((bI (anE tx en he (m + 1) u)) ||| 0)), (0, .ref (q 0)), (1, .int (nI m)), (2, .int ((wdU tx en he wr m).2.2)), (4, .int (nI u))]) hx hb dX13_word_123 rfl hl (by decide) rfl (fun ls hl => ?_)
                  refine lv_iinc (v := nI (u + 1)) (lv' := [(4, .int (nI (u + 1))), (3, .int ((bI (anE tx en he (m + 1) u)) ||| 0)), (0, .ref (q 0)), (1, .int (nI m)), (2, .int ((wdU tx en he wr m).2.2))]) hx hb dX13_word_124 hl (k := 4) rfl (nI_inc u) (by decide) rfl (fun ls hl => ?_)
                  refine lv_goto (tgt := 41) hx hb dX13_word_127 (by decide) ?_
                  have e_31 : ((bI (anE tx en he (m + 1) u)) ||| 0 : Int32) = bI (anE tx en he (m + 1) (u + 1)) := by first | (with_reducible rfl) | (rw [anE_s]; first | (rw [show lfE tx en he u (m + 1) = true by assumption]; exact an_1 _) | (rw [show lfE tx en he u (m + 1) = false by assumption]; exact an_0 _))
                  exact ih_41 (u + 1) (by omega) hgo hm8 hU1 (by omega) ls _ _ hP hD hS (lv_one hl 2 rfl rfl (lv_one hl 3 rfl rfl (lv_one hl 4 rfl rfl (lv_one hl 1 rfl (congrArg Value.int e_31) (lv_one hl 0 rfl rfl (lv_nil hl))))))
                · skip
                  have c_30 : lfE tx en he u (m + 1) = true := bI1_t c_30
                  refine lv_iconst (v := 1) hx hb dX13_word_117 (by decide) ?_
                  refine lv_goto (tgt := 122) hx hb dX13_word_118 (by decide) ?_
                  refine lv_ior hx hb dX13_word_122 ?_
                  refine lv_istore_n (lv' := [(3, .int ((bI (anE tx en he (m + 1) u)) ||| 1)), (0, .ref (q 0)), (1, .int (nI m)), (2, .int ((wdU tx en he wr m).2.2)), (4, .int (nI u))]) hx hb dX13_word_123 rfl hl (by decide) rfl (fun ls hl => ?_)
                  refine lv_iinc (v := nI (u + 1)) (lv' := [(4, .int (nI (u + 1))), (3, .int ((bI (anE tx en he (m + 1) u)) ||| 1)), (0, .ref (q 0)), (1, .int (nI m)), (2, .int ((wdU tx en he wr m).2.2))]) hx hb dX13_word_124 hl (k := 4) rfl (nI_inc u) (by decide) rfl (fun ls hl => ?_)
                  refine lv_goto (tgt := 41) hx hb dX13_word_127 (by decide) ?_
                  have e_32 : ((bI (anE tx en he (m + 1) u)) ||| 1 : Int32) = bI (anE tx en he (m + 1) (u + 1)) := by first | (with_reducible rfl) | (rw [anE_s]; first | (rw [show lfE tx en he u (m + 1) = true by assumption]; exact an_1 _) | (rw [show lfE tx en he u (m + 1) = false by assumption]; exact an_0 _))
                  exact ih_41 (u + 1) (by omega) hgo hm8 hU1 (by omega) ls _ _ hP hD hS (lv_one hl 2 rfl rfl (lv_one hl 3 rfl rfl (lv_one hl 4 rfl rfl (lv_one hl 1 rfl (congrArg Value.int e_32) (lv_one hl 0 rfl rfl (lv_nil hl))))))
      refine lv_iload_n hx hb dX13_word_25 rfl (lv_at hl 2 rfl) ?_
      refine lv_if_ge (tgt := 222) hx hb dX13_word_26 (by decide) (fun c_33 => ?_) (fun c_33 => ?_)
      · skip
        have hk9 : wdN tx en he wr = m := wdN_at hg (by first | exact goE_f1 (by assumption) | exact goE_f2 (by assumption)) hm
        refine lv_iload_n hx hb dX13_word_222 rfl (lv_at hl 2 rfl) ?_
        have e_34 : ((wdU tx en he wr m).1 : Nat) = (wdE tx en he wr).1 := by first | (with_reducible rfl) | (unfold wdE; rw [hk9])
        have hP := Eq.mp (congrArg (fun z9 => va_P D vwCl (bMO k q th ea fa ch tn z9 en ln sv ((wdU tx en he wr m).2.1) dg ++ bI60 k (q 14) tx ++ bI10 k (q 16) (fun w => bI (lfE tx en he w m)) ++ bI59 k (q 17) wdK ++ bI11 k (q 18) waI) H) e_34) hP
        have hD := Eq.mp (congrArg (fun z9 => va_D A (bMO k q th ea fa ch tn z9 en ln sv ((wdU tx en he wr m).2.1) dg ++ bI60 k (q 14) tx ++ bI10 k (q 16) (fun w => bI (lfE tx en he w m)) ++ bI59 k (q 17) wdK ++ bI11 k (q 18) waI)) e_34) hD
        have e_35 : ((wdU tx en he wr m).2.1 : Bool) = (wdE tx en he wr).2.1 := by first | (with_reducible rfl) | (unfold wdE; rw [hk9])
        have hP := Eq.mp (congrArg (fun z9 => va_P D vwCl (bMO k q th ea fa ch tn ((wdE tx en he wr).1) en ln sv z9 dg ++ bI60 k (q 14) tx ++ bI10 k (q 16) (fun w => bI (lfE tx en he w m)) ++ bI59 k (q 17) wdK ++ bI11 k (q 18) waI) H) e_35) hP
        have hD := Eq.mp (congrArg (fun z9 => va_D A (bMO k q th ea fa ch tn ((wdE tx en he wr).1) en ln sv z9 dg ++ bI60 k (q 14) tx ++ bI10 k (q 16) (fun w => bI (lfE tx en he w m)) ++ bI59 k (q 17) wdK ++ bI11 k (q 18) waI)) e_35) hD
        have e_36 : ((fun w => bI (lfE tx en he w m)) : Nat → Int32) = fun w => bI (lfE tx en he w (wdN tx en he wr)) := by first | (with_reducible rfl) | (rw [hk9])
        have hP := Eq.mp (congrArg (fun z9 => va_P D vwCl (bMO k q th ea fa ch tn ((wdE tx en he wr).1) en ln sv ((wdE tx en he wr).2.1) dg ++ bI60 k (q 14) tx ++ bI10 k (q 16) z9 ++ bI59 k (q 17) wdK ++ bI11 k (q 18) waI) H) e_36) hP
        have hD := Eq.mp (congrArg (fun z9 => va_D A (bMO k q th ea fa ch tn ((wdE tx en he wr).1) en ln sv ((wdE tx en he wr).2.1) dg ++ bI60 k (q 14) tx ++ bI10 k (q 16) z9 ++ bI59 k (q 17) wdK ++ bI11 k (q 18) waI)) e_36) hD
        exact W.iret (v := (wdU tx en he wr m).2.2) hx hb hr (fun t9 ht hW => ⟨⟨_, (), rfl, (by unfold wdE; rw [hk9]), ⟨by rw [ht]; exact hP, va_K.moved hW.alike hK, hD⟩⟩, hS.F ht⟩) hS.2.2 dX13_word_223 hlocks
      · skip
        refine lv_aload_n hx hb dX13_word_29 rfl (lv_at hl 0 rfl) ?_
        refine va_get (D := D) (ci := 11) (v := .int (bI ((wdU tx en he wr m).2.1))) (C := RX13) (T := TX13) (N := 29) hx hb hts kc_RX13 hown hK hP 0 rfl rfl 27 (by decide) k_fieldLink_238 (fun _ h9 => h9) rfl dX13_word_30 ?_
        refine lv_if_ne (tgt := 222) hx hb dX13_word_33 (by decide) (fun c_37 => ?_) (fun c_37 => ?_)
        · skip
          have c_37 : ((wdU tx en he wr m).2.1) = true := bI_1 c_37
          have hk9 : wdN tx en he wr = m := wdN_at hg (by first | exact goE_f1 (by assumption) | exact goE_f2 (by assumption)) hm
          refine lv_iload_n hx hb dX13_word_222 rfl (lv_at hl 2 rfl) ?_
          have e_38 : ((wdU tx en he wr m).1 : Nat) = (wdE tx en he wr).1 := by first | (with_reducible rfl) | (unfold wdE; rw [hk9])
          have hP := Eq.mp (congrArg (fun z9 => va_P D vwCl (bMO k q th ea fa ch tn z9 en ln sv ((wdU tx en he wr m).2.1) dg ++ bI60 k (q 14) tx ++ bI10 k (q 16) (fun w => bI (lfE tx en he w m)) ++ bI59 k (q 17) wdK ++ bI11 k (q 18) waI) H) e_38) hP
          have hD := Eq.mp (congrArg (fun z9 => va_D A (bMO k q th ea fa ch tn z9 en ln sv ((wdU tx en he wr m).2.1) dg ++ bI60 k (q 14) tx ++ bI10 k (q 16) (fun w => bI (lfE tx en he w m)) ++ bI59 k (q 17) wdK ++ bI11 k (q 18) waI)) e_38) hD
          have e_39 : ((wdU tx en he wr m).2.1 : Bool) = (wdE tx en he wr).2.1 := by first | (with_reducible rfl) | (unfold wdE; rw [hk9])
          have hP := Eq.mp (congrArg (fun z9 => va_P D vwCl (bMO k q th ea fa ch tn ((wdE tx en he wr).1) en ln sv z9 dg ++ bI60 k (q 14) tx ++ bI10 k (q 16) (fun w => bI (lfE tx en he w m)) ++ bI59 k (q 17) wdK ++ bI11 k (q 18) waI) H) e_39) hP
          have hD := Eq.mp (congrArg (fun z9 => va_D A (bMO k q th ea fa ch tn ((wdE tx en he wr).1) en ln sv z9 dg ++ bI60 k (q 14) tx ++ bI10 k (q 16) (fun w => bI (lfE tx en he w m)) ++ bI59 k (q 17) wdK ++ bI11 k (q 18) waI)) e_39) hD
          have e_40 : ((fun w => bI (lfE tx en he w m)) : Nat → Int32) = fun w => bI (lfE tx en he w (wdN tx en he wr)) := by first | (with_reducible rfl) | (rw [hk9])
          have hP := Eq.mp (congrArg (fun z9 => va_P D vwCl (bMO k q th ea fa ch tn ((wdE tx en he wr).1) en ln sv ((wdE tx en he wr).2.1) dg ++ bI60 k (q 14) tx ++ bI10 k (q 16) z9 ++ bI59 k (q 17) wdK ++ bI11 k (q 18) waI) H) e_40) hP
          have hD := Eq.mp (congrArg (fun z9 => va_D A (bMO k q th ea fa ch tn ((wdE tx en he wr).1) en ln sv ((wdE tx en he wr).2.1) dg ++ bI60 k (q 14) tx ++ bI10 k (q 16) z9 ++ bI59 k (q 17) wdK ++ bI11 k (q 18) waI)) e_40) hD
          exact W.iret (v := (wdU tx en he wr m).2.2) hx hb hr (fun t9 ht hW => ⟨⟨_, (), rfl, (by unfold wdE; rw [hk9]), ⟨by rw [ht]; exact hP, va_K.moved hW.alike hK, hD⟩⟩, hS.F ht⟩) hS.2.2 dX13_word_223 hlocks
        · skip
          have c_37 : ((wdU tx en he wr m).2.1) = false := bI_0 c_37
          have hgo : goE tx en he wr m = true := goE_t (by assumption) (by assumption)
          have hU := wdU_he (m := m) (fun c hc => (Nat.lt_or_eq_of_le hc).elim (hg c) (fun e => by rw [e]; exact hgo))
          have hm8 : m < 8 := goE_lt hgo hm
          have e_41 : ((wdU tx en he wr m).1 : Nat) = he + m := by first | (with_reducible rfl) | (exact hU.1)
          have hP := Eq.mp (congrArg (fun z9 => va_P D vwCl (bMO k q th ea fa ch tn z9 en ln sv ((wdU tx en he wr m).2.1) dg ++ bI60 k (q 14) tx ++ bI10 k (q 16) (fun w => bI (lfE tx en he w m)) ++ bI59 k (q 17) wdK ++ bI11 k (q 18) waI) H) e_41) hP
          have hD := Eq.mp (congrArg (fun z9 => va_D A (bMO k q th ea fa ch tn z9 en ln sv ((wdU tx en he wr m).2.1) dg ++ bI60 k (q 14) tx ++ bI10 k (q 16) (fun w => bI (lfE tx en he w m)) ++ bI59 k (q 17) wdK ++ bI11 k (q 18) waI)) e_41) hD
          have e_42 : ((wdU tx en he wr m).2.1 : Bool) = false := by first | (with_reducible rfl) | (exact hU.2)
          have hP := Eq.mp (congrArg (fun z9 => va_P D vwCl (bMO k q th ea fa ch tn (he + m) en ln sv z9 dg ++ bI60 k (q 14) tx ++ bI10 k (q 16) (fun w => bI (lfE tx en he w m)) ++ bI59 k (q 17) wdK ++ bI11 k (q 18) waI) H) e_42) hP
          have hD := Eq.mp (congrArg (fun z9 => va_D A (bMO k q th ea fa ch tn (he + m) en ln sv z9 dg ++ bI60 k (q 14) tx ++ bI10 k (q 16) (fun w => bI (lfE tx en he w m)) ++ bI59 k (q 17) wdK ++ bI11 k (q 18) waI)) e_42) hD
          refine lv_iconst (v := 0) hx hb dX13_word_36 (by decide) ?_
          refine lv_istore_n (lv' := [(3, .int 0), (0, .ref (q 0)), (1, .int (nI m)), (2, .int ((wdU tx en he wr m).2.2))]) hx hb dX13_word_37 rfl hl (by decide) rfl (fun ls hl => ?_)
          refine lv_iconst (v := 0) hx hb dX13_word_38 (by decide) ?_
          refine lv_istore (lv' := [(4, .int 0), (3, .int 0), (0, .ref (q 0)), (1, .int (nI m)), (2, .int ((wdU tx en he wr m).2.2))]) hx hb dX13_word_39 hl (by decide) rfl (fun ls hl => ?_)
          have e_43 : (0 : Int32) = bI (anE tx en he (m + 1) 0) := by first | (with_reducible rfl) | (rfl)
          have e_44 : ((fun w => bI (lfE tx en he w m)) : Nat → Int32) = fil (fun w => bI (lfE tx en he w m)) (fun w => bI (lfE tx en he w (m + 1))) 0 := by first | (with_reducible rfl) | (exact fil_0 _ _)
          have hP := Eq.mp (congrArg (fun z9 => va_P D vwCl (bMO k q th ea fa ch tn (he + m) en ln sv false dg ++ bI60 k (q 14) tx ++ bI10 k (q 16) z9 ++ bI59 k (q 17) wdK ++ bI11 k (q 18) waI) H) e_44) hP
          have hD := Eq.mp (congrArg (fun z9 => va_D A (bMO k q th ea fa ch tn (he + m) en ln sv false dg ++ bI60 k (q 14) tx ++ bI10 k (q 16) z9 ++ bI59 k (q 17) wdK ++ bI11 k (q 18) waI)) e_44) hD
          exact loop_41 ((10 - 0) + 1) 0 (by omega) hgo hm8 hU.1 (Nat.lt_succ_self _) ls _ _ hP hD hS (lv_one hl 2 rfl rfl (lv_one hl 3 rfl rfl (lv_one hl 4 rfl rfl (lv_one hl 1 rfl (congrArg Value.int e_43) (lv_one hl 0 rfl rfl (lv_nil hl))))))
  have loop_2 : ∀ (fuel : Nat) (i : Nat), (i ≤ 10) → 10 - i < fuel → ∀ (ls : Array Slot), ∀ (H : Heap) (locs : List Loc), va_P D vwCl (bMO k q th ea fa ch tn he en ln sv wr dg ++ bI60 k (q 14) tx ++ bI10 k (q 16) (fil lf (fun _ => 1) i) ++ bI59 k (q 17) wdK ++ bI11 k (q 18) waI) H → va_D A (bMO k q th ea fa ch tn he en ln sv wr dg ++ bI60 k (q 14) tx ++ bI10 k (q 16) (fil lf (fun _ => 1) i) ++ bI59 k (q 17) wdK ++ bI11 k (q 18) waI) → va_S A s9.heap H locs → lv_has ls 5 [(0, .ref (q 0)), (1, .int (nI i))] → W p9 l9 e9 ({ frames := 1, cells := 0, slots := 0, locals := 20 }) s9 m9 ([.ref (q 0)] : List Value).toArray bl9 me9 c9 H locs 0 0 (MQ bl9 (WI D k (bMO k q th ea fa ch tn ((wdE tx en he wr).1) en ln sv ((wdE tx en he wr).2.1) dg ++ bI60 k (q 14) tx ++ bI10 k (q 16) (fun w => bI (lfE tx en he w (wdN tx en he wr))) ++ bI59 k (q 17) wdK ++ bI11 k (q 18) waI) ((wdE tx en he wr).2.2) A) ([.ref (q 0)] : List Value).toArray s9 0 0 A) (F0 m9 2 ls []) := by
    intro fuel
    induction fuel with
    | zero => intro i hi hfuel_2; exact absurd hfuel_2 (Nat.not_lt_zero _)
    | succ fuel ih_2 =>
      intro i hi hfuel_2 ls H locs hP hD hS hl
      refine lv_iload_n hx hb dX13_word_2 rfl (lv_at hl 1 rfl) ?_
      refine lv_bipush (v := 10) hx hb dX13_word_3 (by decide) ?_
      refine lv_icmp_ge (tgt := 21) hx hb dX13_word_5 (by decide) (fun c_45 => ?_) (fun c_45 => ?_)
      · skip
        have c_45 : 10 ≤ i := (nI_leI (a := 10) (b := i) (by omega) (by omega)).mp c_45
        obtain ⟨hP, hD⟩ := ext_i hP hD 2 rfl (g := fun w => bI (lfE tx en he w 0)) (fun j hj => (fil_in (by omega)).trans rfl)
        have hP : va_P D vwCl (bMO k q th ea fa ch tn he en ln sv wr dg ++ bI60 k (q 14) tx ++ bI10 k (q 16) (fun w => bI (lfE tx en he w 0)) ++ bI59 k (q 17) wdK ++ bI11 k (q 18) waI) H := hP
        have hD : va_D A (bMO k q th ea fa ch tn he en ln sv wr dg ++ bI60 k (q 14) tx ++ bI10 k (q 16) (fun w => bI (lfE tx en he w 0)) ++ bI59 k (q 17) wdK ++ bI11 k (q 18) waI) := hD
        refine lv_iconst (v := 0) hx hb dX13_word_21 (by decide) ?_
        refine lv_istore_n (lv' := [(1, .int 0), (0, .ref (q 0))]) hx hb dX13_word_22 rfl hl (by decide) rfl (fun ls hl => ?_)
        refine lv_iconst (v := (-1)) hx hb dX13_word_23 (by decide) ?_
        refine lv_istore_n (lv' := [(2, .int (-1)), (1, .int 0), (0, .ref (q 0))]) hx hb dX13_word_24 rfl hl (by decide) rfl (fun ls hl => ?_)
        have e_46 : ((-1) : Int32) = (wdU tx en he wr 0).2.2 := by first | (with_reducible rfl) | (rfl)
        have e_47 : (he : Nat) = (wdU tx en he wr 0).1 := by first | (with_reducible rfl) | (rfl)
        have hP := Eq.mp (congrArg (fun z9 => va_P D vwCl (bMO k q th ea fa ch tn z9 en ln sv wr dg ++ bI60 k (q 14) tx ++ bI10 k (q 16) (fun w => bI (lfE tx en he w 0)) ++ bI59 k (q 17) wdK ++ bI11 k (q 18) waI) H) e_47) hP
        have hD := Eq.mp (congrArg (fun z9 => va_D A (bMO k q th ea fa ch tn z9 en ln sv wr dg ++ bI60 k (q 14) tx ++ bI10 k (q 16) (fun w => bI (lfE tx en he w 0)) ++ bI59 k (q 17) wdK ++ bI11 k (q 18) waI)) e_47) hD
        have e_48 : (wr : Bool) = (wdU tx en he wr 0).2.1 := by first | (with_reducible rfl) | (rfl)
        have hP := Eq.mp (congrArg (fun z9 => va_P D vwCl (bMO k q th ea fa ch tn ((wdU tx en he wr 0).1) en ln sv z9 dg ++ bI60 k (q 14) tx ++ bI10 k (q 16) (fun w => bI (lfE tx en he w 0)) ++ bI59 k (q 17) wdK ++ bI11 k (q 18) waI) H) e_48) hP
        have hD := Eq.mp (congrArg (fun z9 => va_D A (bMO k q th ea fa ch tn ((wdU tx en he wr 0).1) en ln sv z9 dg ++ bI60 k (q 14) tx ++ bI10 k (q 16) (fun w => bI (lfE tx en he w 0)) ++ bI59 k (q 17) wdK ++ bI11 k (q 18) waI)) e_48) hD
        exact loop_25 ((9 - 0) + 1) 0 (by omega) (fun c hc => absurd hc (Nat.not_lt_zero c)) (Nat.lt_succ_self _) ls _ _ hP hD hS (lv_one hl 2 rfl rfl (lv_one hl 1 rfl rfl (lv_one hl 0 rfl (congrArg Value.int e_46) (lv_nil hl))))
      · skip
        have c_45 : ¬ 10 ≤ i := fun h => c_45 ((nI_leI (a := 10) (b := i) (by omega) (by omega)).mpr h)
        refine lv_aload_n hx hb dX13_word_8 rfl (lv_at hl 0 rfl) ?_
        refine va_get (D := D) (ci := 11) (v := .ref (q 16)) (C := RX13) (T := TX13) (N := 29) hx hb hts kc_RX13 hown hK hP 0 rfl rfl 20 (by decide) k_fieldLink_64 (fun _ h9 => h9) rfl dX13_word_9 ?_
        refine lv_iload_n hx hb dX13_word_12 rfl (lv_at hl 1 rfl) ?_
        refine lv_iconst (v := 1) hx hb dX13_word_13 (by decide) ?_
        refine ia_st hx hb hK hP hD hS 2 rfl i (by omega) (by decide) (bMO k q th ea fa ch tn he en ln sv wr dg ++ bI60 k (q 14) tx ++ bI10 k (q 16) (upd (fil lf (fun _ => 1) i) i 1) ++ bI59 k (q 17) wdK ++ bI11 k (q 18) waI) rfl dX13_word_14 (fun H locs hP hD hS => ?_)
        refine lv_iinc (v := nI (i + 1)) (lv' := [(1, .int (nI (i + 1))), (0, .ref (q 0))]) hx hb dX13_word_15 hl (k := 1) rfl (nI_inc i) (by decide) rfl (fun ls hl => ?_)
        refine lv_goto (tgt := 2) hx hb dX13_word_18 (by decide) ?_
        have e_49 : (upd (fil lf (fun _ => 1) i) i 1 : Nat → Int32) = fil lf (fun _ => 1) (i + 1) := by first | (with_reducible rfl) | (exact fil_u lf (fun _ => 1) i)
        have hP := Eq.mp (congrArg (fun z9 => va_P D vwCl (bMO k q th ea fa ch tn he en ln sv wr dg ++ bI60 k (q 14) tx ++ bI10 k (q 16) z9 ++ bI59 k (q 17) wdK ++ bI11 k (q 18) waI) H) e_49) hP
        have hD := Eq.mp (congrArg (fun z9 => va_D A (bMO k q th ea fa ch tn he en ln sv wr dg ++ bI60 k (q 14) tx ++ bI10 k (q 16) z9 ++ bI59 k (q 17) wdK ++ bI11 k (q 18) waI)) e_49) hD
        exact ih_2 (i + 1) (by omega) (by omega) ls _ _ hP hD hS (lv_one hl 1 rfl rfl (lv_one hl 0 rfl rfl (lv_nil hl)))
  refine lv_iconst (v := 0) hx hb dX13_word_0 (by decide) ?_
  refine lv_istore_n (lv' := [(1, .int 0), (0, .ref (q 0))]) hx hb dX13_word_1 rfl hl (by decide) rfl (fun ls hl => ?_)
  have e_50 : (lf : Nat → Int32) = fil lf (fun _ => 1) 0 := by first | (with_reducible rfl) | (exact fil_0 _ _)
  have hP := Eq.mp (congrArg (fun z9 => va_P D vwCl (bMO k q th ea fa ch tn he en ln sv wr dg ++ bI60 k (q 14) tx ++ bI10 k (q 16) z9 ++ bI59 k (q 17) wdK ++ bI11 k (q 18) waI) H) e_50) hP
  have hD := Eq.mp (congrArg (fun z9 => va_D A (bMO k q th ea fa ch tn he en ln sv wr dg ++ bI60 k (q 14) tx ++ bI10 k (q 16) z9 ++ bI59 k (q 17) wdK ++ bI11 k (q 18) waI)) e_50) hD
  exact loop_2 ((10 - 0) + 1) 0 (by omega) (Nat.lt_succ_self _) ls _ _ hP hD hS (lv_one hl 1 rfl rfl (lv_one hl 0 rfl rfl (lv_nil hl)))

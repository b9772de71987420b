/-! Numbers as texts; builders and texts made, read, compared. -/
/-- how many digits a number has -/
def nd (m : Nat) : Nat := if m < 10 then 1 else if m < 100 then 2 else if m < 1000 then 3 else if m < 10000 then 4 else if m < 100000 then 5 else if m < 1000000 then 6 else if m < 10000000 then 7 else if m < 100000000 then 8 else if m < 1000000000 then 9 else 10
theorem nd_pos (m : Nat) : 1 ≤ nd m ∧ nd m ≤ 10 := by
  unfold nd
  repeat (first | omega | split)
theorem p10_le {i : Nat} (h : i ≤ 9) : 10 ^ i ≤ 1000000000 := by
  have : ∀ i : Nat, i ≤ 9 → 10 ^ i ≤ 1000000000 := by decide +kernel
  exact this i h
theorem nd_of {m i : Nat} (h1 : 1 ≤ i) (h2 : i ≤ 9) (h : m < 10 ^ i) (hd : ∀ j, 1 ≤ j → j < i → ¬ m < 10 ^ j) : nd m = i := by
  have e1 := hd 1; have e2 := hd 2; have e3 := hd 3; have e4 := hd 4; have e5 := hd 5; have e6 := hd 6; have e7 := hd 7; have e8 := hd 8
  unfold nd
  rcases (show i = 1 ∨ i = 2 ∨ i = 3 ∨ i = 4 ∨ i = 5 ∨ i = 6 ∨ i = 7 ∨ i = 8 ∨ i = 9 by omega) with rfl | rfl | rfl | rfl | rfl | rfl | rfl | rfl | rfl <;> simp at h e1 e2 e3 e4 e5 e6 e7 e8 <;> repeat (first | omega | split)
theorem nd_ten {m : Nat} (hm : m ≤ 2 ^ 31) (hd : ∀ j, 1 ≤ j → j < 10 → ¬ m < 10 ^ j) : nd m = 10 := by
  have e9 := hd 9 (by decide) (by decide)
  unfold nd
  repeat (first | omega | split)
/-- a number's text is long enough -/
theorem nd_two {m t : Nat} (h : 100 ≤ m / 100 ^ t) (hm : m ≤ 2 ^ 31) : 2 * t + 3 ≤ nd m := by
  have h2 : 100 ^ (t + 1) ≤ m := by
    rw [Nat.pow_succ]
    have := (Nat.le_div_iff_mul_le (Nat.pow_pos (by decide))).mp h
    omega
  have ht : t ≤ 3 := by
    apply Classical.byContradiction
    intro q
    have : 100 ^ 5 ≤ 100 ^ (t + 1) := Nat.pow_le_pow_right (by decide) (by omega)
    omega
  unfold nd
  rcases (show t = 0 ∨ t = 1 ∨ t = 2 ∨ t = 3 by omega) with rfl | rfl | rfl | rfl <;> simp at h2 <;> repeat (first | omega | split)
theorem nd_one {m t : Nat} (h : 10 ≤ m / 100 ^ t) (hm : m ≤ 2 ^ 31) : 2 * t + 2 ≤ nd m := by
  have h2 : 10 * 100 ^ t ≤ m := by
    have := (Nat.le_div_iff_mul_le (Nat.pow_pos (by decide))).mp h
    omega
  have ht : t ≤ 4 := by
    apply Classical.byContradiction
    intro q
    have : 100 ^ 5 ≤ 100 ^ t := Nat.pow_le_pow_right (by decide) (by omega)
    omega
  unfold nd
  rcases (show t = 0 ∨ t = 1 ∨ t = 2 ∨ t = 3 ∨ t = 4 by omega) with rfl | rfl | rfl | rfl | rfl <;> simp at h2 <;> repeat (first | omega | split)
/-- the last digits: as many as were still to come -/
theorem nd_end1 {m t : Nat} (h : m / 100 ^ t < 10) (hp : 1 ≤ m / 100 ^ t ∨ t = 0) (hm : m ≤ 2 ^ 31) : nd m = 2 * t + 1 := by
  have h1 : m < 10 * 100 ^ t := (Nat.div_lt_iff_lt_mul (Nat.pow_pos (by decide))).mp h
  rcases hp with hp | rfl
  · have h2 : 100 ^ t ≤ m := by
      have := (Nat.le_div_iff_mul_le (Nat.pow_pos (by decide))).mp hp
      omega
    have ht : t ≤ 4 := by
      apply Classical.byContradiction
      intro q
      have : 100 ^ 5 ≤ 100 ^ t := Nat.pow_le_pow_right (by decide) (by omega)
      omega
    unfold nd
    rcases (show t = 0 ∨ t = 1 ∨ t = 2 ∨ t = 3 ∨ t = 4 by omega) with rfl | rfl | rfl | rfl | rfl <;> simp at h1 h2 <;> repeat (first | omega | split)
  · simp at h1
    unfold nd
    rw [if_pos h1]
theorem nd_end2 {m t : Nat} (h : m / 100 ^ t < 100) (h0 : 10 ≤ m / 100 ^ t) (hm : m ≤ 2 ^ 31) : nd m = 2 * t + 2 := by
  have h1 : m < 100 * 100 ^ t := (Nat.div_lt_iff_lt_mul (Nat.pow_pos (by decide))).mp h
  have h2 : 10 * 100 ^ t ≤ m := by
    have := (Nat.le_div_iff_mul_le (Nat.pow_pos (by decide))).mp h0
    omega
  have ht : t ≤ 4 := by
    apply Classical.byContradiction
    intro q
    have : 100 ^ 5 ≤ 100 ^ t := Nat.pow_le_pow_right (by decide) (by omega)
    omega
  unfold nd
  rcases (show t = 0 ∨ t = 1 ∨ t = 2 ∨ t = 3 ∨ t = 4 by omega) with rfl | rfl | rfl | rfl | rfl <;> simp at h1 h2 <;> repeat (first | omega | split)
/-! Numbers below 0. -/
theorem ng_toInt {m : Nat} (h : m ≤ 2 ^ 31) : (-(nI m)).toInt = -(m : Int) := by
  by_cases e : m = 2 ^ 31
  · subst e; decide +kernel
  · rw [Int32.toInt_neg, nI_toInt (by omega), Int.bmod_def]
    split <;> omega
theorem ng_neg {m : Nat} (h1 : 1 ≤ m) (h : m ≤ 2 ^ 31) : -(nI m) < 0 := by
  rw [Int32.lt_iff_toInt_lt, ng_toInt h]
  show -(m : Int) < 0
  omega
theorem ng_le {a b : Nat} (ha : a ≤ 2 ^ 31) (hb : b ≤ 2 ^ 31) : -(nI a) ≤ -(nI b) ↔ b ≤ a := by
  rw [Int32.le_iff_toInt_le, ng_toInt ha, ng_toInt hb]; omega
theorem ng_lt {a b : Nat} (ha : a ≤ 2 ^ 31) (hb : b ≤ 2 ^ 31) : -(nI a) < -(nI b) ↔ b < a := by
  rw [Int32.lt_iff_toInt_lt, ng_toInt ha, ng_toInt hb]; omega
theorem sz_le {m i : Nat} (hm : m ≤ 2 ^ 31) (hi : i ≤ 9) : -(nI m) ≤ -(nI (10 ^ i)) ↔ ¬ m < 10 ^ i := by
  have := p10_le hi
  rw [ng_le hm (by omega)]; omega
theorem sz_gt {m i : Nat} (hm : m ≤ 2 ^ 31) (hi : i ≤ 9) : ¬ (-(nI m) ≤ -(nI (10 ^ i))) ↔ m < 10 ^ i := by
  rw [sz_le hm hi]; omega
theorem p10_s (i : Nat) : 10 * (-(nI (10 ^ i))) = -(nI (10 ^ (i + 1))) := by
  rw [Nat.pow_succ, Nat.mul_comm, ← pk_mul]
  show nI 10 * -(nI (10 ^ i)) = _
  generalize nI 10 = a; generalize nI (10 ^ i) = b
  apply Int32.toBitVec_inj.mp
  show a.toBitVec * -b.toBitVec = -(a.toBitVec * b.toBitVec)
  rw [BitVec.mul_neg]
theorem nI_dec {a : Nat} (h : 1 ≤ a) : nI a + Int32.ofInt (-1) = nI (a - 1) := by
  obtain ⟨b, rfl⟩ : ∃ b, a = b + 1 := ⟨a - 1, by omega⟩
  exact pk_m1 b
theorem ng_ng (m : Nat) : -(-(nI m)) = nI m := Int32.neg_neg _
theorem nI_ge0 {m : Nat} (h : m < 2 ^ 31) : 0 ≤ nI m := Int32.not_lt.mp (nI_nn h)
theorem dv_le {m : Nat} (h : m ≤ 2 ^ 31) (t : Nat) : m / 100 ^ t ≤ 2 ^ 31 := Nat.le_trans (Nat.div_le_self _ _) h
theorem dv_d (m t : Nat) : m / 100 ^ (t + 1) = m / 100 ^ t / 100 := by rw [Nat.pow_succ, Nat.div_div_eq_div_mul]
theorem dv_pos {m t : Nat} (h : 100 ≤ m / 100 ^ t) : 1 ≤ m / 100 ^ (t + 1) := by rw [dv_d]; omega
theorem gc_gt {q m t : Nat} (_ : q ≤ q) (h : m / 100 ^ t ≤ 2 ^ 31) : -(nI (m / 100 ^ t)) > -100 ↔ m / 100 ^ t < 100 := by
  show -(nI 100) < -(nI (m / 100 ^ t)) ↔ _
  rw [ng_lt (by decide) h]
theorem gc_le {q m t : Nat} (_ : q ≤ q) (h : m / 100 ^ t ≤ 2 ^ 31) : ¬ (-(nI (m / 100 ^ t)) > -100) ↔ 100 ≤ m / 100 ^ t := by
  rw [gc_gt (Nat.le_refl q) h]; omega
theorem gc_ge9 {a : Nat} (h : a < 100) : -9 ≤ -(nI a) ↔ a < 10 := by
  show -(nI 9) ≤ -(nI a) ↔ _
  rw [ng_le (by decide) (by omega)]; omega
theorem gc_lt9 {a : Nat} (h : a < 100) : ¬ (-9 ≤ -(nI a)) ↔ 10 ≤ a := by rw [gc_ge9 h]; omega
theorem ng_div {a : Nat} (h : a ≤ 2 ^ 31) : -(nI a) / 100 = -(nI (a / 100)) := by
  apply Int32.toInt_inj.mp
  rw [Int32.toInt_div, ng_toInt h, ng_toInt (by omega), show (100 : Int32).toInt = 100 by decide]
  have e : (-(a : Int)).tdiv 100 = -((a / 100 : Nat) : Int) := by
    rw [Int.neg_tdiv]
    rfl
  rw [e, Int.bmod_def]
  split <;> omega
theorem dv_s {m t : Nat} (h : m / 100 ^ t ≤ 2 ^ 31) : -(nI (m / 100 ^ t)) / 100 = -(nI (m / 100 ^ (t + 1))) := by rw [ng_div h, dv_d]
theorem dv_r {m : Nat} (h : m ≤ 2 ^ 31) (t : Nat) : -(nI (m / 100 ^ (t + 1))) * 100 - -(nI (m / 100 ^ t)) = nI (m / 100 ^ t % 100) := by
  rw [dv_d]
  generalize m / 100 ^ t = a
  have h1 : nI a = nI (a / 100 * 100) + nI (a % 100) := by rw [nI_add]; congr 1; omega
  rw [h1, ← pk_mul]
  show -(nI (a / 100)) * nI 100 - -(nI (a / 100) * nI 100 + nI (a % 100)) = _
  generalize nI (a / 100) = x; generalize nI (a % 100) = y; generalize nI 100 = z
  apply Int32.toBitVec_inj.mp
  show -x.toBitVec * z.toBitVec - -(x.toBitVec * z.toBitVec + y.toBitVec) = y.toBitVec
  generalize x.toBitVec = x; generalize y.toBitVec = y; generalize z.toBitVec = z
  rw [BitVec.neg_mul, BitVec.sub_eq_add_neg, BitVec.neg_neg, ← BitVec.add_assoc, BitVec.add_comm (-(x * z)), BitVec.add_right_neg, BitVec.zero_add]
theorem dg1_7 {r : Nat} (h : r < 100) : l7 (dg1 r) := ⟨48 + r % 10, by omega, rfl⟩
theorem dg10_7 {r : Nat} (h : r < 100) : l7 (dg10 r) := ⟨48 + r / 10, by omega, rfl⟩
theorem dg1_nar {r : Nat} (h : r < 100) : vp_nar .byte (dg1 r) = dg1 r := nar7 (dg1_7 h)
theorem dg10_nar {r : Nat} (h : r < 100) : vp_nar .byte (dg10 r) = dg10 r := nar7 (dg10_7 h)
theorem gd_even (m t : Nat) : m / 10 ^ (2 * t) = m / 100 ^ t := by rw [Nat.pow_mul]
theorem gd_odd (m t : Nat) : m / 10 ^ (2 * t + 1) = m / 100 ^ t / 10 := by rw [Nat.pow_succ, Nat.div_div_eq_div_mul.symm, gd_even]
/-- two digits more -/
theorem gc_step {m ix t : Nat} {g : Nat → Int32} (hx : 2 * t + 3 ≤ ix) (h : ∀ j, j < 2 * t → g (ix - 1 - j) = nI (48 + m / 10 ^ j % 10)) :
    ∀ j, j < 2 * (t + 1) → (upd (upd g (ix - 2 * t - 1) (dg1 (m / 100 ^ t % 100))) (ix - 2 * t - 1 - 1) (dg10 (m / 100 ^ t % 100))) (ix - 1 - j) = nI (48 + m / 10 ^ j % 10) := by
  intro j hj
  by_cases e1 : j = 2 * t
  · subst e1
    rw [upd_at, if_neg (by omega), upd_at, if_pos (by omega), gd_even]
    unfold dg1
    congr 2; omega
  · by_cases e2 : j = 2 * t + 1
    · subst e2
      rw [upd_at, if_pos (by omega), gd_odd]
      unfold dg10
      congr 2; omega
    · rw [upd_at, if_neg (by omega), upd_at, if_neg (by omega)]
      exact h j (by omega)
/-- one digit more -/
theorem gc_one {m ix t : Nat} {g : Nat → Int32} (hx : 2 * t + 1 ≤ ix) (hq : m / 100 ^ t < 10) (h : ∀ j, j < 2 * t → g (ix - 1 - j) = nI (48 + m / 10 ^ j % 10)) :
    ∀ j, j < 2 * t + 1 → (upd g (ix - 2 * t - 1) (dg1 (m / 100 ^ t))) (ix - 1 - j) = nI (48 + m / 10 ^ j % 10) := by
  intro j hj
  by_cases e1 : j = 2 * t
  · subst e1
    rw [upd_at, if_pos (by omega), gd_even]
    rfl
  · rw [upd_at, if_neg (by omega)]
    exact h j (by omega)
theorem gc_two {m ix t : Nat} {g : Nat → Int32} (hx : 2 * t + 2 ≤ ix) (hq : m / 100 ^ t < 100) (h : ∀ j, j < 2 * t → g (ix - 1 - j) = nI (48 + m / 10 ^ j % 10)) :
    ∀ j, j < 2 * t + 2 → (upd (upd g (ix - 2 * t - 1) (dg1 (m / 100 ^ t))) (ix - 2 * t - 1 - 1) (dg10 (m / 100 ^ t))) (ix - 1 - j) = nI (48 + m / 10 ^ j % 10) := by
  intro j hj
  by_cases e1 : j = 2 * t
  · subst e1
    rw [upd_at, if_neg (by omega), upd_at, if_pos (by omega), gd_even]
    rfl
  · by_cases e2 : j = 2 * t + 1
    · subst e2
      rw [upd_at, if_pos (by omega), gd_odd]
      unfold dg10
      congr 2; omega
    · rw [upd_at, if_neg (by omega), upd_at, if_neg (by omega)]
      exact h j (by omega)
/-- a number's text -/
def itP (m : Nat) : List Int32 := (List.range (nd m)).map (fun i => nI (48 + m / 10 ^ (nd m - 1 - i) % 10))
def itN (m : Nat) : List Int32 := 45 :: itP m
theorem itP_len (m : Nat) : (itP m).length = nd m := by unfold itP; rw [List.length_map, List.length_range]
theorem itN_len (m : Nat) : (itN m).length = nd m + 1 := by show (itP m).length + 1 = _; rw [itP_len]
theorem itP_get {m j : Nat} (h : j < nd m) : (itP m).getD j 0 = nI (48 + m / 10 ^ (nd m - 1 - j) % 10) := by
  unfold itP
  rw [List.getD_eq_getElem?_getD, List.getElem?_map, List.getElem?_range h]
  rfl
theorem itP_at {m n cap : Nat} {g f : Nat → Int32} (h : Bf g cap ∧ (∀ j, j < nd m → g (n + nd m - 1 - j) = nI (48 + m / 10 ^ j % 10)) ∧ ∀ j, j < n + nd m - nd m → g j = f j) : ∀ j, j < nd m → g (n + j) = (itP m).getD j 0 := by
  intro j hj
  rw [itP_get hj, ← h.2.1 (nd m - 1 - j) (by omega)]
  congr 1; omega
theorem itN_at {m n cap : Nat} {g f : Nat → Int32} (h : Bf g cap ∧ (∀ j, j < nd m → g (n + (nd m + 1) - 1 - j) = nI (48 + m / 10 ^ j % 10)) ∧ (∀ j, j < n + (nd m + 1) - nd m - 1 → g j = f j) ∧ g (n + (nd m + 1) - nd m - 1) = 45) : ∀ j, j < nd m + 1 → g (n + j) = (itN m).getD j 0 := by
  intro j hj
  cases j with
  | zero =>
    show g (n + 0) = 45
    rw [← h.2.2.2]
    congr 1; omega
  | succ j =>
    show g (n + (j + 1)) = (itP m).getD j 0
    rw [itP_get (by omega), ← h.2.1 (nd m - 1 - j) (by omega)]
    congr 1; omega
theorem itP_7 (m : Nat) : T7 (itP m) := by
  intro x hx
  obtain ⟨i, -, rfl⟩ := List.mem_map.mp hx
  exact ⟨_, by omega, rfl⟩
theorem itN_7 (m : Nat) : T7 (itN m) := by
  intro x hx
  rcases List.mem_cons.mp hx with rfl | hx
  · exact ⟨45, by decide, rfl⟩
  · exact itP_7 m x hx
/-- two rows say the same -/
def eqB (f : Nat → Int32) (m : Nat) (g : Nat → Int32) (n : Nat) : Bool := decide (m = n) && (List.range m).all (fun j => decide (f j = g j))
theorem eqB_iff {f g : Nat → Int32} {m n : Nat} : eqB f m g n = true ↔ m = n ∧ ∀ j, j < m → f j = g j := by
  unfold eqB
  rw [Bool.and_eq_true, decide_eq_true_iff, List.all_eq_true]
  constructor
  · rintro ⟨h1, h2⟩
    exact ⟨h1, fun j hj => of_decide_eq_true (h2 j (List.mem_range.mpr hj))⟩
  · rintro ⟨h1, h2⟩
    exact ⟨h1, fun j hj => decide_eq_true (h2 j (List.mem_range.mp hj))⟩
theorem eqB_yes {f g : Nat → Int32} {m n : Nat} (h : m = n) (h2 : ∀ j, j < m → f j = g j) : eqB f m g n = true := eqB_iff.mpr ⟨h, h2⟩
theorem eqB_no {f g : Nat → Int32} {m n i : Nat} (hi : i < m) (h : ¬ f i = g i) : eqB f m g n = false := by
  cases e : eqB f m g n with
  | false => rfl
  | true => exact absurd ((eqB_iff.mp e).2 i hi) h
theorem eqB_len {f g : Nat → Int32} {m n : Nat} (h : ¬ m = n) : eqB f m g n = false := by
  cases e : eqB f m g n with
  | false => rfl
  | true => exact absurd (eqB_iff.mp e).1 h
/-- of two texts -/
theorem eqB_tx {f g : Nat → Int32} {l r : List Int32} (hl : Tx f l) (hr : Tx g r) : eqB f l.length g r.length = decide (l = r) := by
  by_cases e : l = r
  · subst e
    rw [decide_eq_true rfl]
    exact eqB_yes rfl (fun j hj => (hl j hj).trans (hr j hj).symm)
  · rw [decide_eq_false e]
    cases e2 : eqB f l.length g r.length with
    | false => rfl
    | true =>
      obtain ⟨h1, h2⟩ := eqB_iff.mp e2
      refine absurd (List.ext_getElem h1 (fun j h3 h4 => ?_)) e
      have h5 := h2 j h3
      rw [hl j h3, hr j h4, List.getD_eq_getElem?_getD, List.getD_eq_getElem?_getD, List.getElem?_eq_getElem h3, List.getElem?_eq_getElem h4] at h5
      exact h5
theorem and255 {q : Nat} (h : q < 128) : nI q &&& 255 = nI q := by
  have : ∀ q : Nat, q < 128 → nI q &&& 255 = nI q := by decide +kernel
  exact this q h
theorem ch7 {q : Nat} (h : q < 128) : ((nI q).toUInt32 % 65536).toInt32 = nI q := by
  have : ∀ q : Nat, q < 128 → ((nI q).toUInt32 % 65536).toInt32 = nI q := by decide +kernel
  exact this q h
theorem ch_n {q : Nat} (h : q < 128) : narrow .char (.int (nI q)) = .int (nI q) := by
  have := pk_nc (nI q)
  rw [ch7 h] at this
  exact this

set_option maxHeartbeats 4000000 in
set_option maxRecDepth 100000 in
theorem t_stringSize_p (l9 : Launch) (hl9 : l9.stackTraces = false) (E : EK) (D : va_G) (k : Nat → ClassId) (sz : Nat) (m : Nat) (hm : m < 2 ^ 31) : Met l9 yJ6_stringSize_0f7a4 wsJ6_stringSize_0f7a4 ({ frames := 0, cells := 0, slots := 0, locals := 0 }) (TPc E D k [.int (nI m)] ([]) sz) (va_Qi (fun (r : Int32) (u9 : Unit) => r = nI (nd m)) (TB D k (va_A ([]) sz) (fun u9 : Unit => [])) (va_A ([]) sz)) (0) (0) (va_A ([]) sz) := by
  refine tMet (y := yJ6_stringSize_0f7a4) (cc := cJ6_stringSize_0f7a4) (maxL := 4) (ret := (some .int)) (Qc := fun A => va_Qi (fun (r : Int32) (u9 : Unit) => r = nI (nd m)) (TB D k (A) (fun u9 : Unit => [])) (A)) [.int (nI m)] (by decide) rfl (Nat.le_of_ble_eq_true rfl) ?_
  intro p9 e9 s9 m9 bl9 me9 c9 ls A H hF hr hlocks hP hK hE hD hA hS hl hin
  have hl : lv_has ls 4 [(0, .int (nI m))] := hl
  obtain ⟨hx, hb, hml, hown, hts⟩ := id hF
  have loop_16 : ∀ (fuel : Nat) (i : Nat), (1 ≤ i) → (i ≤ 10) → (∀ j, 1 ≤ j → j < i → ¬ m < 10 ^ j) → 10 - i < fuel → ∀ (ls : Array Slot) (H : Heap) (locs : List Loc), va_P D vwCl ([]) H → va_D A ([]) → va_S A s9.heap H locs → lv_has ls 4 [(0, .int (-(nI m))), (1, .int 0), (2, .int (-(nI (10 ^ i)))), (3, .int (nI i))] → W p9 l9 e9 ({ frames := 0, cells := 0, slots := 0, locals := 0 }) s9 m9 ([.int (nI m)] : List Value).toArray bl9 me9 c9 H locs (0) (0) (MQ bl9 (va_Qi (fun (r : Int32) (u9 : Unit) => r = nI (nd m)) (TB D k (A) (fun u9 : Unit => [])) (A)) ([.int (nI m)] : List Value).toArray s9 (0) (0) A) (F0 m9 16 ls []) := by
    intro fuel
    induction fuel with
    | zero => intro i hi hi2 hd hfuel_16; exact absurd hfuel_16 (Nat.not_lt_zero _)
    | succ fuel ih_16 =>
      intro i hi hi2 hd hfuel_16 ls H locs hP hD hS hl
      refine lv_iload_n hx hb dJ6_stringSize_0f7a4_16 rfl (lv_at hl 3 rfl) ?_
      refine lv_bipush (v := 10) hx hb dJ6_stringSize_0f7a4_17 (by decide) ?_
      refine lv_icmp_ge (tgt := 42) hx hb dJ6_stringSize_0f7a4_19 (by decide) (fun c_1 => ?_) (fun c_1 => ?_)
      · skip
        have c_1 : 10 ≤ i := (nI_leI (a := 10) (b := i) (by omega) (by omega)).mp c_1
        refine lv_bipush (v := 10) hx hb dJ6_stringSize_0f7a4_42 (by decide) ?_
        refine lv_iload_n hx hb dJ6_stringSize_0f7a4_44 rfl (lv_at hl 1 rfl) ?_
        refine ni_add hx hb 10 0 dJ6_stringSize_0f7a4_45 ?_
        exact W.iret (v := 10) hx hb hr (fun t9 ht hW => ⟨⟨_, (), rfl, (by rw [nd_ten (by omega) (fun j h8 h9 => hd j h8 (by omega))]), ⟨by rw [ht]; exact hP, va_K.moved hW.alike hK, hD⟩⟩, hS.F ht⟩) hS.2.2 dJ6_stringSize_0f7a4_46 hlocks
      · skip
        have c_1 : ¬ 10 ≤ i := fun h => c_1 ((nI_leI (a := 10) (b := i) (by omega) (by omega)).mpr h)
        refine lv_iload_n hx hb dJ6_stringSize_0f7a4_22 rfl (lv_at hl 0 rfl) ?_
        refine lv_iload_n hx hb dJ6_stringSize_0f7a4_23 rfl (lv_at hl 2 rfl) ?_
        refine lv_icmp_le (tgt := 31) hx hb dJ6_stringSize_0f7a4_24 (by decide) (fun c_2 => ?_) (fun c_2 => ?_)
        · skip
          have c_2 : ¬ m < 10 ^ i := (sz_le (by omega) (by omega)).mp c_2
          refine lv_bipush (v := 10) hx hb dJ6_stringSize_0f7a4_31 (by decide) ?_
          refine lv_iload_n hx hb dJ6_stringSize_0f7a4_33 rfl (lv_at hl 2 rfl) ?_
          refine lv_imul hx hb dJ6_stringSize_0f7a4_34 ?_
          refine lv_tope (v2 := .int (-(nI (10 ^ (i + 1))))) (congrArg Value.int (by exact p10_s i)) ?_
          refine lv_istore_n (lv' := [(2, .int (-(nI (10 ^ (i + 1))))), (0, .int (-(nI m))), (1, .int 0), (3, .int (nI i))]) hx hb dJ6_stringSize_0f7a4_35 rfl hl (by decide) rfl (fun ls hl => ?_)
          refine lv_iinc (v := nI (i + 1)) (lv' := [(3, .int (nI (i + 1))), (2, .int (-(nI (10 ^ (i + 1))))), (0, .int (-(nI m))), (1, .int 0)]) hx hb dJ6_stringSize_0f7a4_36 hl (k := 3) rfl (nI_inc i) (by decide) rfl (fun ls hl => ?_)
          refine lv_goto (tgt := 16) hx hb dJ6_stringSize_0f7a4_39 (by decide) ?_
          exact ih_16 (i + 1) (by omega) (by omega) (fun j h8 h9 => if h7 : j < i then hd j h8 h7 else (by rw [show j = i by omega]; exact c_2)) (by omega) ls _ _ hP hD hS (lv_one hl 2 rfl rfl (lv_one hl 3 rfl rfl (lv_one hl 1 rfl rfl (lv_one hl 0 rfl rfl (lv_nil hl)))))
        · skip
          have c_2 : m < 10 ^ i := (sz_gt (by omega) (by omega)).mp c_2
          refine lv_iload_n hx hb dJ6_stringSize_0f7a4_27 rfl (lv_at hl 3 rfl) ?_
          refine lv_iload_n hx hb dJ6_stringSize_0f7a4_28 rfl (lv_at hl 1 rfl) ?_
          refine ni_add hx hb i 0 dJ6_stringSize_0f7a4_29 ?_
          exact W.iret (v := nI (i + 0)) hx hb hr (fun t9 ht hW => ⟨⟨_, (), rfl, (by rw [nd_of hi (by omega) (by assumption) hd]), ⟨by rw [ht]; exact hP, va_K.moved hW.alike hK, hD⟩⟩, hS.F ht⟩) hS.2.2 dJ6_stringSize_0f7a4_30 hlocks
  refine lv_iconst (v := 1) hx hb dJ6_stringSize_0f7a4_0 (by decide) ?_
  refine lv_istore_n (lv' := [(1, .int 1), (0, .int (nI m))]) hx hb dJ6_stringSize_0f7a4_1 rfl hl (by decide) rfl (fun ls hl => ?_)
  refine lv_iload_n hx hb dJ6_stringSize_0f7a4_2 rfl (lv_at hl 1 rfl) ?_
  refine lv_if_lt (tgt := 11) hx hb dJ6_stringSize_0f7a4_3 (by decide) (fun c_3 => ?_) (fun c_3 => ?_)
  · skip
    exact absurd c_3 (nI_nn hm)
  · skip
    refine lv_iconst (v := 0) hx hb dJ6_stringSize_0f7a4_6 (by decide) ?_
    refine lv_istore_n (lv' := [(1, .int 0), (0, .int (nI m))]) hx hb dJ6_stringSize_0f7a4_7 rfl hl (by decide) rfl (fun ls hl => ?_)
    refine lv_iload_n hx hb dJ6_stringSize_0f7a4_8 rfl (lv_at hl 1 rfl) ?_
    refine lv_ineg hx hb dJ6_stringSize_0f7a4_9 ?_
    refine lv_tope (v2 := .int (-(nI m))) (congrArg Value.int (by rfl)) ?_
    refine lv_istore_n (lv' := [(0, .int (-(nI m))), (1, .int 0)]) hx hb dJ6_stringSize_0f7a4_10 rfl hl (by decide) rfl (fun ls hl => ?_)
    refine lv_bipush (v := (-10)) hx hb dJ6_stringSize_0f7a4_11 (by decide) ?_
    refine lv_istore_n (lv' := [(2, .int (-10)), (0, .int (-(nI m))), (1, .int 0)]) hx hb dJ6_stringSize_0f7a4_13 rfl hl (by decide) rfl (fun ls hl => ?_)
    refine lv_iconst (v := 1) hx hb dJ6_stringSize_0f7a4_14 (by decide) ?_
    refine lv_istore_n (lv' := [(3, .int 1), (2, .int (-10)), (0, .int (-(nI m))), (1, .int 0)]) hx hb dJ6_stringSize_0f7a4_15 rfl hl (by decide) rfl (fun ls hl => ?_)
    have e_4 : ((-10) : Int32) = -(nI (10 ^ 1)) := by first | (with_reducible rfl) | (decide)
    exact loop_16 ((10 - 1) + 1) 1 (by decide) (by decide) (fun j h1 h2 => by omega) (Nat.lt_succ_self _) ls _ _ hP hD hS (lv_one hl 2 rfl rfl (lv_one hl 3 rfl rfl (lv_one hl 1 rfl (congrArg Value.int e_4) (lv_one hl 0 rfl rfl (lv_nil hl)))))

set_option maxHeartbeats 4000000 in
set_option maxRecDepth 100000 in
theorem t_stringSize_n (l9 : Launch) (hl9 : l9.stackTraces = false) (E : EK) (D : va_G) (k : Nat → ClassId) (sz : Nat) (m : Nat) (h1 : 1 ≤ m) (hm : m ≤ 2 ^ 31) : Met l9 yJ6_stringSize_0f7a4 wsJ6_stringSize_0f7a4 ({ frames := 0, cells := 0, slots := 0, locals := 0 }) (TPc E D k [.int (-(nI m))] ([]) sz) (va_Qi (fun (r : Int32) (u9 : Unit) => r = nI (nd m + 1)) (TB D k (va_A ([]) sz) (fun u9 : Unit => [])) (va_A ([]) sz)) (0) (0) (va_A ([]) sz) := by
  refine tMet (y := yJ6_stringSize_0f7a4) (cc := cJ6_stringSize_0f7a4) (maxL := 4) (ret := (some .int)) (Qc := fun A => va_Qi (fun (r : Int32) (u9 : Unit) => r = nI (nd m + 1)) (TB D k (A) (fun u9 : Unit => [])) (A)) [.int (-(nI m))] (by decide) rfl (Nat.le_of_ble_eq_true rfl) ?_
  intro p9 e9 s9 m9 bl9 me9 c9 ls A H hF hr hlocks hP hK hE hD hA hS hl hin
  have hl : lv_has ls 4 [(0, .int (-(nI m)))] := hl
  obtain ⟨hx, hb, hml, hown, hts⟩ := id hF
  have loop_16 : ∀ (fuel : Nat) (i : Nat), (1 ≤ i) → (i ≤ 10) → (∀ j, 1 ≤ j → j < i → ¬ m < 10 ^ j) → 10 - i < fuel → ∀ (ls : Array Slot) (H : Heap) (locs : List Loc), va_P D vwCl ([]) H → va_D A ([]) → va_S A s9.heap H locs → lv_has ls 4 [(0, .int (-(nI m))), (1, .int 1), (2, .int (-(nI (10 ^ i)))), (3, .int (nI i))] → W p9 l9 e9 ({ frames := 0, cells := 0, slots := 0, locals := 0 }) s9 m9 ([.int (-(nI m))] : List Value).toArray bl9 me9 c9 H locs (0) (0) (MQ bl9 (va_Qi (fun (r : Int32) (u9 : Unit) => r = nI (nd m + 1)) (TB D k (A) (fun u9 : Unit => [])) (A)) ([.int (-(nI m))] : List Value).toArray s9 (0) (0) A) (F0 m9 16 ls []) := by
    intro fuel
    induction fuel with
    | zero => intro i hi hi2 hd hfuel_16; exact absurd hfuel_16 (Nat.not_lt_zero _)
    | succ fuel ih_16 =>
      intro i hi hi2 hd hfuel_16 ls H locs hP hD hS hl
      refine lv_iload_n hx hb dJ6_stringSize_0f7a4_16 rfl (lv_at hl 3 rfl) ?_
      refine lv_bipush (v := 10) hx hb dJ6_stringSize_0f7a4_17 (by decide) ?_
      refine lv_icmp_ge (tgt := 42) hx hb dJ6_stringSize_0f7a4_19 (by decide) (fun c_1 => ?_) (fun c_1 => ?_)
      · skip
        have c_1 : 10 ≤ i := (nI_leI (a := 10) (b := i) (by omega) (by omega)).mp c_1
        refine lv_bipush (v := 10) hx hb dJ6_stringSize_0f7a4_42 (by decide) ?_
        refine lv_iload_n hx hb dJ6_stringSize_0f7a4_44 rfl (lv_at hl 1 rfl) ?_
        refine ni_add hx hb 10 1 dJ6_stringSize_0f7a4_45 ?_
        exact W.iret (v := 11) hx hb hr (fun t9 ht hW => ⟨⟨_, (), rfl, (by rw [nd_ten (by omega) (fun j h8 h9 => hd j h8 (by omega))]), ⟨by rw [ht]; exact hP, va_K.moved hW.alike hK, hD⟩⟩, hS.F ht⟩) hS.2.2 dJ6_stringSize_0f7a4_46 hlocks
      · skip
        have c_1 : ¬ 10 ≤ i := fun h => c_1 ((nI_leI (a := 10) (b := i) (by omega) (by omega)).mpr h)
        refine lv_iload_n hx hb dJ6_stringSize_0f7a4_22 rfl (lv_at hl 0 rfl) ?_
        refine lv_iload_n hx hb dJ6_stringSize_0f7a4_23 rfl (lv_at hl 2 rfl) ?_
        refine lv_icmp_le (tgt := 31) hx hb dJ6_stringSize_0f7a4_24 (by decide) (fun c_2 => ?_) (fun c_2 => ?_)
        · skip
          have c_2 : ¬ m < 10 ^ i := (sz_le (by omega) (by omega)).mp c_2
          refine lv_bipush (v := 10) hx hb dJ6_stringSize_0f7a4_31 (by decide) ?_
          refine lv_iload_n hx hb dJ6_stringSize_0f7a4_33 rfl (lv_at hl 2 rfl) ?_
          refine lv_imul hx hb dJ6_stringSize_0f7a4_34 ?_
          refine lv_tope (v2 := .int (-(nI (10 ^ (i + 1))))) (congrArg Value.int (by exact p10_s i)) ?_
          refine lv_istore_n (lv' := [(2, .int (-(nI (10 ^ (i + 1))))), (0, .int (-(nI m))), (1, .int 1), (3, .int (nI i))]) hx hb dJ6_stringSize_0f7a4_35 rfl hl (by decide) rfl (fun ls hl => ?_)
          refine lv_iinc (v := nI (i + 1)) (lv' := [(3, .int (nI (i + 1))), (2, .int (-(nI (10 ^ (i + 1))))), (0, .int (-(nI m))), (1, .int 1)]) hx hb dJ6_stringSize_0f7a4_36 hl (k := 3) rfl (nI_inc i) (by decide) rfl (fun ls hl => ?_)
          refine lv_goto (tgt := 16) hx hb dJ6_stringSize_0f7a4_39 (by decide) ?_
          exact ih_16 (i + 1) (by omega) (by omega) (fun j h8 h9 => if h7 : j < i then hd j h8 h7 else (by rw [show j = i by omega]; exact c_2)) (by omega) ls _ _ hP hD hS (lv_one hl 2 rfl rfl (lv_one hl 3 rfl rfl (lv_one hl 1 rfl rfl (lv_one hl 0 rfl rfl (lv_nil hl)))))
        · skip
          have c_2 : m < 10 ^ i := (sz_gt (by omega) (by omega)).mp c_2
          refine lv_iload_n hx hb dJ6_stringSize_0f7a4_27 rfl (lv_at hl 3 rfl) ?_
          refine lv_iload_n hx hb dJ6_stringSize_0f7a4_28 rfl (lv_at hl 1 rfl) ?_
          refine ni_add hx hb i 1 dJ6_stringSize_0f7a4_29 ?_
          exact W.iret (v := nI (i + 1)) hx hb hr (fun t9 ht hW => ⟨⟨_, (), rfl, (by rw [nd_of hi (by omega) (by assumption) hd]), ⟨by rw [ht]; exact hP, va_K.moved hW.alike hK, hD⟩⟩, hS.F ht⟩) hS.2.2 dJ6_stringSize_0f7a4_30 hlocks
  refine lv_iconst (v := 1) hx hb dJ6_stringSize_0f7a4_0 (by decide) ?_
  refine lv_istore_n (lv' := [(1, .int 1), (0, .int (-(nI m)))]) hx hb dJ6_stringSize_0f7a4_1 rfl hl (by decide) rfl (fun ls hl => ?_)
  refine lv_iload_n hx hb dJ6_stringSize_0f7a4_2 rfl (lv_at hl 1 rfl) ?_
  refine lv_if_lt (tgt := 11) hx hb dJ6_stringSize_0f7a4_3 (by decide) (fun c_3 => ?_) (fun c_3 => ?_)
  · skip
    refine lv_bipush (v := (-10)) hx hb dJ6_stringSize_0f7a4_11 (by decide) ?_
    refine lv_istore_n (lv' := [(2, .int (-10)), (1, .int 1), (0, .int (-(nI m)))]) hx hb dJ6_stringSize_0f7a4_13 rfl hl (by decide) rfl (fun ls hl => ?_)
    refine lv_iconst (v := 1) hx hb dJ6_stringSize_0f7a4_14 (by decide) ?_
    refine lv_istore_n (lv' := [(3, .int 1), (2, .int (-10)), (1, .int 1), (0, .int (-(nI m)))]) hx hb dJ6_stringSize_0f7a4_15 rfl hl (by decide) rfl (fun ls hl => ?_)
    have e_4 : ((-10) : Int32) = -(nI (10 ^ 1)) := by first | (with_reducible rfl) | (decide)
    exact loop_16 ((10 - 1) + 1) 1 (by decide) (by decide) (fun j h1 h2 => by omega) (Nat.lt_succ_self _) ls _ _ hP hD hS (lv_one hl 3 rfl rfl (lv_one hl 2 rfl rfl (lv_one hl 1 rfl (congrArg Value.int e_4) (lv_one hl 0 rfl rfl (lv_nil hl)))))
  · skip
    exact absurd (ng_neg h1 hm) c_3

set_option maxHeartbeats 4000000 in
set_option maxRecDepth 100000 in
theorem t_getChars_p (l9 : Launch) (hl9 : l9.stackTraces = false) (E : EK) (D : va_G) (k : Nat → ClassId) (sz : Nat) (ix m b cap : Nat) (f : Nat → Int32) (hm : m < 2 ^ 31) (hix : nd m ≤ ix) (hcap : ix ≤ cap) (hc2 : cap < 2 ^ 29) (hb : Bf f cap) : Met l9 yJ6_getChars_ba4f3 wsJ6_getChars_ba4f3 ({ frames := 0, cells := 0, slots := 0, locals := 0 }) (TPc E D k [.int (nI m), .int (nI ix), .ref b] (bAB k b cap f) sz) (va_Qi (fun (r : Int32) (u9 : Nat → Int32) => Bf u9 cap ∧ (∀ j, j < nd m → u9 (ix - 1 - j) = nI (48 + m / 10 ^ j % 10)) ∧ (∀ j, j < ix - nd m → u9 j = f j)) (TB D k (va_A (bAB k b cap f) sz) (fun u9 : Nat → Int32 => bAB k b cap u9)) (va_A (bAB k b cap f) sz)) (0) (0) (va_A (bAB k b cap f) sz) := by
  have hm9 : m ≤ 2 ^ 31 := by omega
  refine tMet (y := yJ6_getChars_ba4f3) (cc := cJ6_getChars_ba4f3) (maxL := 7) (ret := (some .int)) (Qc := fun A => va_Qi (fun (r : Int32) (u9 : Nat → Int32) => Bf u9 cap ∧ (∀ j, j < nd m → u9 (ix - 1 - j) = nI (48 + m / 10 ^ j % 10)) ∧ (∀ j, j < ix - nd m → u9 j = f j)) (TB D k (A) (fun u9 : Nat → Int32 => bAB k b cap u9)) (A)) [.int (nI m), .int (nI ix), .ref b] (by decide) rfl (Nat.le_of_ble_eq_true rfl) ?_
  intro p9 e9 s9 m9 bl9 me9 c9 ls A H hF hr hlocks hP hK hE hD hA hS hl hin
  have hl : lv_has ls 7 [(0, .int (nI m)), (1, .int (nI ix)), (2, .ref b)] := hl
  obtain ⟨hx, hb, hml, hown, hts⟩ := id hF
  have k_fieldLink_83 : (Cond.fieldLink RJ6 83 "java/lang/Integer" "DigitOnes" "[B").before _ s9 = true := hts (.fieldLink RJ6 83 "java/lang/Integer" "DigitOnes" "[B") (by decide +kernel)
  have k_fieldLink_87 : (Cond.fieldLink RJ6 87 "java/lang/Integer" "DigitTens" "[B").before _ s9 = true := hts (.fieldLink RJ6 87 "java/lang/Integer" "DigitTens" "[B") (by decide +kernel)
  have loop_22 : ∀ (fuel : Nat) (t : Nat) (g : Nat → Int32), (2 * t + 1 ≤ ix) → (1 ≤ m / 100 ^ t ∨ t = 0) → (Bf g cap) → ((∀ j, j < 2 * t → g (ix - 1 - j) = nI (48 + m / 10 ^ j % 10))) → ((∀ j, j < ix - 2 * t → g j = f j)) → ix - 2 * t < fuel → ∀ (ls : Array Slot) (H : Heap) (locs : List Loc), va_P D vwCl (bAB k b cap g) H → va_D A (bAB k b cap g) → va_S A s9.heap H locs → lv_has ls 7 [(0, .int (-(nI (m / 100 ^ t)))), (1, .int (nI ix)), (2, .ref b), (5, .int (nI (ix - 2 * t))), (6, .int 0)] → W p9 l9 e9 ({ frames := 0, cells := 0, slots := 0, locals := 0 }) s9 m9 ([.int (nI m), .int (nI ix), .ref b] : List Value).toArray bl9 me9 c9 H locs (0) (0) (MQ bl9 (va_Qi (fun (r : Int32) (u9 : Nat → Int32) => Bf u9 cap ∧ (∀ j, j < nd m → u9 (ix - 1 - j) = nI (48 + m / 10 ^ j % 10)) ∧ (∀ j, j < ix - nd m → u9 j = f j)) (TB D k (A) (fun u9 : Nat → Int32 => bAB k b cap u9)) (A)) ([.int (nI m), .int (nI ix), .ref b] : List Value).toArray s9 (0) (0) A) (F0 m9 22 ls []) := by
    intro fuel
    induction fuel with
    | zero => intro t g ht hp hg h2 h3 hfuel_22; exact absurd hfuel_22 (Nat.not_lt_zero _)
    | succ fuel ih_22 =>
      intro t g ht hp hg h2 h3 hfuel_22 ls H locs hP hD hS hl
      refine lv_iload_n hx hb dJ6_getChars_ba4f3_22 rfl (lv_at hl 0 rfl) ?_
      refine lv_bipush (v := (-100)) hx hb dJ6_getChars_ba4f3_23 (by decide) ?_
      refine lv_icmp_gt (tgt := 72) hx hb dJ6_getChars_ba4f3_25 (by decide) (fun c_1 => ?_) (fun c_1 => ?_)
      · skip
        have c_1 : m / 100 ^ t < 100 := (gc_gt (by omega) (dv_le hm9 t)).mp c_1
        have hlt9 := c_1
        refine lv_aload_n hx hb dJ6_getChars_ba4f3_72 rfl (lv_at hl 2 rfl) ?_
        refine lv_iinc (v := nI (ix - 2 * t - 1)) (lv' := [(5, .int (nI (ix - 2 * t - 1))), (0, .int (-(nI (m / 100 ^ t)))), (1, .int (nI ix)), (2, .ref b), (6, .int 0)]) hx hb dJ6_getChars_ba4f3_73 hl (k := 3) rfl (nI_dec (by omega)) (by decide) rfl (fun ls hl => ?_)
        refine lv_iload hx hb dJ6_getChars_ba4f3_76 (lv_at hl 0 rfl) ?_
        refine va_gets hx hb hE.2.2.2.2.2.2.2.1 hS hown k_fieldLink_83 (fun _ h9 => h9) dJ6_getChars_ba4f3_78 ?_
        refine lv_iload_n hx hb dJ6_getChars_ba4f3_81 rfl (lv_at hl 1 rfl) ?_
        refine lv_ineg hx hb dJ6_getChars_ba4f3_82 ?_
        refine lv_tope (v2 := .int (nI (m / 100 ^ t))) (congrArg Value.int (by exact ng_ng _)) ?_
        refine va_tb hx hb hE.2.2.2.2.2.2.2.2.1 hS (nI_vin (j := (m / 100 ^ t)) (by omega) (by decide)) (by rw [nI_clamp (Nat.lt_trans (by omega) (show 100 < 2 ^ 31 by decide))]) dJ6_getChars_ba4f3_83 ?_
        refine by_st hx hb hK hP hD hS 0 rfl (ix - 2 * t - 1) (by omega) (by omega) (dg1_nar (by omega)) (bAB k b cap (upd g (ix - 2 * t - 1) (dg1 (m / 100 ^ t)))) rfl dJ6_getChars_ba4f3_84 (fun H locs hP hD hS => ?_)
        refine lv_iload_n hx hb dJ6_getChars_ba4f3_85 rfl (lv_at hl 1 rfl) ?_
        refine lv_bipush (v := (-9)) hx hb dJ6_getChars_ba4f3_86 (by decide) ?_
        refine lv_icmp_ge (tgt := 104) hx hb dJ6_getChars_ba4f3_88 (by decide) (fun c_2 => ?_) (fun c_2 => ?_)
        · skip
          have c_2 : m / 100 ^ t < 10 := (gc_ge9 (by omega)).mp c_2
          have hnd9 := nd_end1 c_2 hp hm9
          refine lv_iload hx hb dJ6_getChars_ba4f3_104 (lv_at hl 4 rfl) ?_
          refine lv_if_eq (tgt := 118) hx hb dJ6_getChars_ba4f3_106 (by decide) (fun c_3 => ?_) (fun c_3 => ?_)
          · skip
            refine lv_iload hx hb dJ6_getChars_ba4f3_118 (lv_at hl 0 rfl) ?_
            exact W.iret (v := nI (ix - 2 * t - 1)) hx hb hr (fun t9 ht hW => ⟨⟨_, upd g (ix - 2 * t - 1) (dg1 (m / 100 ^ t)), rfl, (by rw [hnd9]; exact ⟨Bf_upd hg (fit7 (dg1_7 (by omega))), gc_one (by omega) (by omega) h2, fun j hj => (by rw [upd_at, if_neg (by omega)]; exact h3 j (by omega))⟩), ⟨by rw [ht]; exact hP, va_K.moved hW.alike hK, hD⟩⟩, hS.F ht⟩) hS.2.2 dJ6_getChars_ba4f3_120 hlocks
          · first | exact absurd c_3 (by decide) | exact absurd (by decide) c_3
        · skip
          have c_2 : 10 ≤ m / 100 ^ t := (gc_lt9 (by omega)).mp c_2
          have hnd9 := nd_end2 hlt9 c_2 hm9
          refine lv_aload_n hx hb dJ6_getChars_ba4f3_91 rfl (lv_at hl 3 rfl) ?_
          refine lv_iinc (v := nI (ix - 2 * t - 1 - 1)) (lv' := [(5, .int (nI (ix - 2 * t - 1 - 1))), (0, .int (-(nI (m / 100 ^ t)))), (1, .int (nI ix)), (2, .ref b), (6, .int 0)]) hx hb dJ6_getChars_ba4f3_92 hl (k := 0) rfl (nI_dec (by omega)) (by decide) rfl (fun ls hl => ?_)
          refine lv_iload hx hb dJ6_getChars_ba4f3_95 (lv_at hl 0 rfl) ?_
          refine va_gets hx hb hE.2.2.2.2.2.2.2.2.2.1 hS hown k_fieldLink_87 (fun _ h9 => h9) dJ6_getChars_ba4f3_97 ?_
          refine lv_iload_n hx hb dJ6_getChars_ba4f3_100 rfl (lv_at hl 1 rfl) ?_
          refine lv_ineg hx hb dJ6_getChars_ba4f3_101 ?_
          refine lv_tope (v2 := .int (nI (m / 100 ^ t))) (congrArg Value.int (by exact ng_ng _)) ?_
          refine va_tb hx hb hE.2.2.2.2.2.2.2.2.2.2.1 hS (nI_vin (j := (m / 100 ^ t)) (by omega) (by decide)) (by rw [nI_clamp (Nat.lt_trans (by omega) (show 100 < 2 ^ 31 by decide))]) dJ6_getChars_ba4f3_102 ?_
          refine by_st hx hb hK hP hD hS 0 rfl (ix - 2 * t - 1 - 1) (by omega) (by omega) (dg10_nar (by omega)) (bAB k b cap (upd (upd g (ix - 2 * t - 1) (dg1 (m / 100 ^ t))) (ix - 2 * t - 1 - 1) (dg10 (m / 100 ^ t)))) rfl dJ6_getChars_ba4f3_103 (fun H locs hP hD hS => ?_)
          refine lv_iload hx hb dJ6_getChars_ba4f3_104 (lv_at hl 4 rfl) ?_
          refine lv_if_eq (tgt := 118) hx hb dJ6_getChars_ba4f3_106 (by decide) (fun c_4 => ?_) (fun c_4 => ?_)
          · skip
            refine lv_iload hx hb dJ6_getChars_ba4f3_118 (lv_at hl 0 rfl) ?_
            exact W.iret (v := nI (ix - 2 * t - 1 - 1)) hx hb hr (fun t9 ht hW => ⟨⟨_, upd (upd g (ix - 2 * t - 1) (dg1 (m / 100 ^ t))) (ix - 2 * t - 1 - 1) (dg10 (m / 100 ^ t)), rfl, (by rw [hnd9]; exact ⟨Bf_upd (Bf_upd hg (fit7 (dg1_7 (by omega)))) (fit7 (dg10_7 (by omega))), gc_two (by omega) hlt9 h2, fun j hj => (by rw [upd_at, if_neg (by omega), upd_at, if_neg (by omega)]; exact h3 j (by omega))⟩), ⟨by rw [ht]; exact hP, va_K.moved hW.alike hK, hD⟩⟩, hS.F ht⟩) hS.2.2 dJ6_getChars_ba4f3_120 hlocks
          · first | exact absurd c_4 (by decide) | exact absurd (by decide) c_4
      · skip
        have c_1 : 100 ≤ m / 100 ^ t := (gc_le (by omega) (dv_le hm9 t)).mp c_1
        have hlen9 := nd_two c_1 hm9
        refine lv_iload_n hx hb dJ6_getChars_ba4f3_28 rfl (lv_at hl 0 rfl) ?_
        refine lv_bipush (v := 100) hx hb dJ6_getChars_ba4f3_29 (by decide) ?_
        refine lv_idiv hx hb dJ6_getChars_ba4f3_31 (by decide) ?_
        refine lv_tope (v2 := .int (-(nI (m / 100 ^ (t + 1))))) (congrArg Value.int (by exact dv_s (dv_le hm9 t))) ?_
        refine lv_istore_n (lv' := [(3, .int (-(nI (m / 100 ^ (t + 1))))), (0, .int (-(nI (m / 100 ^ t)))), (1, .int (nI ix)), (2, .ref b), (5, .int (nI (ix - 2 * t))), (6, .int 0)]) hx hb dJ6_getChars_ba4f3_32 rfl hl (by decide) rfl (fun ls hl => ?_)
        refine lv_iload_n hx hb dJ6_getChars_ba4f3_33 rfl (lv_at hl 0 rfl) ?_
        refine lv_bipush (v := 100) hx hb dJ6_getChars_ba4f3_34 (by decide) ?_
        refine lv_imul hx hb dJ6_getChars_ba4f3_36 ?_
        refine lv_iload_n hx hb dJ6_getChars_ba4f3_37 rfl (lv_at hl 1 rfl) ?_
        refine lv_isub hx hb dJ6_getChars_ba4f3_38 ?_
        refine lv_tope (v2 := .int (nI (m / 100 ^ t % 100))) (congrArg Value.int (by exact dv_r hm9 t)) ?_
        refine lv_istore (lv' := [(4, .int (nI (m / 100 ^ t % 100))), (3, .int (-(nI (m / 100 ^ (t + 1))))), (0, .int (-(nI (m / 100 ^ t)))), (1, .int (nI ix)), (2, .ref b), (5, .int (nI (ix - 2 * t))), (6, .int 0)]) hx hb dJ6_getChars_ba4f3_39 hl (by decide) rfl (fun ls hl => ?_)
        refine lv_iload_n hx hb dJ6_getChars_ba4f3_41 rfl (lv_at hl 1 rfl) ?_
        refine lv_istore_n (lv' := [(0, .int (-(nI (m / 100 ^ (t + 1))))), (4, .int (nI (m / 100 ^ t % 100))), (3, .int (-(nI (m / 100 ^ (t + 1))))), (1, .int (nI ix)), (2, .ref b), (5, .int (nI (ix - 2 * t))), (6, .int 0)]) hx hb dJ6_getChars_ba4f3_42 rfl hl (by decide) rfl (fun ls hl => ?_)
        refine lv_aload_n hx hb dJ6_getChars_ba4f3_43 rfl (lv_at hl 4 rfl) ?_
        refine lv_iinc (v := nI (ix - 2 * t - 1)) (lv' := [(5, .int (nI (ix - 2 * t - 1))), (0, .int (-(nI (m / 100 ^ (t + 1))))), (4, .int (nI (m / 100 ^ t % 100))), (3, .int (-(nI (m / 100 ^ (t + 1))))), (1, .int (nI ix)), (2, .ref b), (6, .int 0)]) hx hb dJ6_getChars_ba4f3_44 hl (k := 5) rfl (nI_dec (by omega)) (by decide) rfl (fun ls hl => ?_)
        refine lv_iload hx hb dJ6_getChars_ba4f3_47 (lv_at hl 0 rfl) ?_
        refine va_gets hx hb hE.2.2.2.2.2.2.2.1 hS hown k_fieldLink_83 (fun _ h9 => h9) dJ6_getChars_ba4f3_49 ?_
        refine lv_iload hx hb dJ6_getChars_ba4f3_52 (lv_at hl 2 rfl) ?_
        refine va_tb hx hb hE.2.2.2.2.2.2.2.2.1 hS (nI_vin (j := (m / 100 ^ t % 100)) (Nat.mod_lt _ (by decide)) (by decide)) (by rw [nI_clamp (Nat.lt_trans (Nat.mod_lt _ (by decide)) (show 100 < 2 ^ 31 by decide))]) dJ6_getChars_ba4f3_54 ?_
        refine by_st hx hb hK hP hD hS 0 rfl (ix - 2 * t - 1) (by omega) (by omega) (dg1_nar (Nat.mod_lt _ (by decide))) (bAB k b cap (upd g (ix - 2 * t - 1) (dg1 (m / 100 ^ t % 100)))) rfl dJ6_getChars_ba4f3_55 (fun H locs hP hD hS => ?_)
        refine lv_aload_n hx hb dJ6_getChars_ba4f3_56 rfl (lv_at hl 5 rfl) ?_
        refine lv_iinc (v := nI (ix - 2 * t - 1 - 1)) (lv' := [(5, .int (nI (ix - 2 * t - 1 - 1))), (0, .int (-(nI (m / 100 ^ (t + 1))))), (4, .int (nI (m / 100 ^ t % 100))), (3, .int (-(nI (m / 100 ^ (t + 1))))), (1, .int (nI ix)), (2, .ref b), (6, .int 0)]) hx hb dJ6_getChars_ba4f3_57 hl (k := 0) rfl (nI_dec (by omega)) (by decide) rfl (fun ls hl => ?_)
        refine lv_iload hx hb dJ6_getChars_ba4f3_60 (lv_at hl 0 rfl) ?_
        refine va_gets hx hb hE.2.2.2.2.2.2.2.2.2.1 hS hown k_fieldLink_87 (fun _ h9 => h9) dJ6_getChars_ba4f3_62 ?_
        refine lv_iload hx hb dJ6_getChars_ba4f3_65 (lv_at hl 2 rfl) ?_
        refine va_tb hx hb hE.2.2.2.2.2.2.2.2.2.2.1 hS (nI_vin (j := (m / 100 ^ t % 100)) (Nat.mod_lt _ (by decide)) (by decide)) (by rw [nI_clamp (Nat.lt_trans (Nat.mod_lt _ (by decide)) (show 100 < 2 ^ 31 by decide))]) dJ6_getChars_ba4f3_67 ?_
        refine by_st hx hb hK hP hD hS 0 rfl (ix - 2 * t - 1 - 1) (by omega) (by omega) (dg10_nar (Nat.mod_lt _ (by decide))) (bAB k b cap (upd (upd g (ix - 2 * t - 1) (dg1 (m / 100 ^ t % 100))) (ix - 2 * t - 1 - 1) (dg10 (m / 100 ^ t % 100)))) rfl dJ6_getChars_ba4f3_68 (fun H locs hP hD hS => ?_)
        refine lv_goto (tgt := 22) hx hb dJ6_getChars_ba4f3_69 (by decide) ?_
        have e_5 : (nI (ix - 2 * t - 1 - 1) : Int32) = nI (ix - 2 * (t + 1)) := by first | (with_reducible rfl) | (congr 1; omega)
        exact ih_22 (t + 1) (upd (upd g (ix - 2 * t - 1) (dg1 (m / 100 ^ t % 100))) (ix - 2 * t - 1 - 1) (dg10 (m / 100 ^ t % 100))) (by have := nd_two c_1 hm9; omega) (Or.inl (dv_pos c_1)) (Bf_upd (Bf_upd hg (fit7 (dg1_7 (Nat.mod_lt _ (by decide))))) (fit7 (dg10_7 (Nat.mod_lt _ (by decide))))) (gc_step (by have := nd_two c_1 hm9; omega) h2) (fun j hj => by rw [upd_at, if_neg (by omega), upd_at, if_neg (by omega)]; exact h3 j (by omega)) (by omega) ls _ _ hP hD hS (lv_one hl 1 rfl rfl (lv_one hl 4 rfl rfl (lv_one hl 5 rfl rfl (lv_one hl 0 rfl (congrArg Value.int e_5) (lv_one hl 6 rfl rfl (lv_nil hl))))))
  refine lv_iload_n hx hb dJ6_getChars_ba4f3_0 rfl (lv_at hl 1 rfl) ?_
  refine lv_istore (lv' := [(5, .int (nI ix)), (0, .int (nI m)), (1, .int (nI ix)), (2, .ref b)]) hx hb dJ6_getChars_ba4f3_1 hl (by decide) rfl (fun ls hl => ?_)
  refine lv_iload_n hx hb dJ6_getChars_ba4f3_3 rfl (lv_at hl 1 rfl) ?_
  refine lv_if_ge (tgt := 11) hx hb dJ6_getChars_ba4f3_4 (by decide) (fun c_6 => ?_) (fun c_6 => ?_)
  · skip
    refine lv_iconst (v := 0) hx hb dJ6_getChars_ba4f3_11 (by decide) ?_
    refine lv_istore (lv' := [(6, .int 0), (5, .int (nI ix)), (0, .int (nI m)), (1, .int (nI ix)), (2, .ref b)]) hx hb dJ6_getChars_ba4f3_12 hl (by decide) rfl (fun ls hl => ?_)
    refine lv_iload hx hb dJ6_getChars_ba4f3_14 (lv_at hl 0 rfl) ?_
    refine lv_if_ne (tgt := 22) hx hb dJ6_getChars_ba4f3_16 (by decide) (fun c_7 => ?_) (fun c_7 => ?_)
    · first | exact absurd c_7 (by decide) | exact absurd (by decide) c_7
    · skip
      refine lv_iload_n hx hb dJ6_getChars_ba4f3_19 rfl (lv_at hl 2 rfl) ?_
      refine lv_ineg hx hb dJ6_getChars_ba4f3_20 ?_
      refine lv_tope (v2 := .int (-(nI m))) (congrArg Value.int (by rfl)) ?_
      refine lv_istore_n (lv' := [(0, .int (-(nI m))), (6, .int 0), (5, .int (nI ix)), (1, .int (nI ix)), (2, .ref b)]) hx hb dJ6_getChars_ba4f3_21 rfl hl (by decide) rfl (fun ls hl => ?_)
      have e_8 : (-(nI m) : Int32) = -(nI (m / 100 ^ 0)) := by first | (with_reducible rfl) | (rw [Nat.pow_zero, Nat.div_one])
      have e_9 : (nI ix : Int32) = nI (ix - 2 * 0) := by first | (with_reducible rfl) | (rfl)
      exact loop_22 ((ix - 2 * 0) + 1) 0 f (by have := nd_pos m; omega) (Or.inr rfl) hb (fun j hj => by omega) (fun j hj => rfl) (Nat.lt_succ_self _) ls _ _ hP hD hS (lv_one hl 0 rfl (congrArg Value.int e_8) (lv_one hl 3 rfl rfl (lv_one hl 4 rfl rfl (lv_one hl 2 rfl (congrArg Value.int e_9) (lv_one hl 1 rfl rfl (lv_nil hl))))))
  · skip
    exact absurd (nI_ge0 hm) c_6

set_option maxHeartbeats 4000000 in
set_option maxRecDepth 100000 in
theorem t_getChars_n (l9 : Launch) (hl9 : l9.stackTraces = false) (E : EK) (D : va_G) (k : Nat → ClassId) (sz : Nat) (ix m b cap : Nat) (f : Nat → Int32) (h1 : 1 ≤ m) (hm : m ≤ 2 ^ 31) (hix : nd m + 1 ≤ ix) (hcap : ix ≤ cap) (hc2 : cap < 2 ^ 29) (hb : Bf f cap) : Met l9 yJ6_getChars_ba4f3 wsJ6_getChars_ba4f3 ({ frames := 0, cells := 0, slots := 0, locals := 0 }) (TPc E D k [.int (-(nI m)), .int (nI ix), .ref b] (bAB k b cap f) sz) (va_Qi (fun (r : Int32) (u9 : Nat → Int32) => Bf u9 cap ∧ (∀ j, j < nd m → u9 (ix - 1 - j) = nI (48 + m / 10 ^ j % 10)) ∧ (∀ j, j < ix - nd m + 1 → u9 j = f j) ∧ u9 (ix - nd m - 1) = 45) (TB D k (va_A (bAB k b cap f) sz) (fun u9 : Nat → Int32 => bAB k b cap u9)) (va_A (bAB k b cap f) sz)) (0) (0) (va_A (bAB k b cap f) sz) := by
  have hm9 : m ≤ 2 ^ 31 := by omega
  refine tMet (y := yJ6_getChars_ba4f3) (cc := cJ6_getChars_ba4f3) (maxL := 7) (ret := (some .int)) (Qc := fun A => va_Qi (fun (r : Int32) (u9 : Nat → Int32) => Bf u9 cap ∧ (∀ j, j < nd m → u9 (ix - 1 - j) = nI (48 + m / 10 ^ j % 10)) ∧ (∀ j, j < ix - nd m + 1 → u9 j = f j) ∧ u9 (ix - nd m - 1) = 45) (TB D k (A) (fun u9 : Nat → Int32 => bAB k b cap u9)) (A)) [.int (-(nI m)), .int (nI ix), .ref b] (by decide) rfl (Nat.le_of_ble_eq_true rfl) ?_
  intro p9 e9 s9 m9 bl9 me9 c9 ls A H hF hr hlocks hP hK hE hD hA hS hl hin
  have hl : lv_has ls 7 [(0, .int (-(nI m))), (1, .int (nI ix)), (2, .ref b)] := hl
  obtain ⟨hx, hb, hml, hown, hts⟩ := id hF
  have k_fieldLink_83 : (Cond.fieldLink RJ6 83 "java/lang/Integer" "DigitOnes" "[B").before _ s9 = true := hts (.fieldLink RJ6 83 "java/lang/Integer" "DigitOnes" "[B") (by decide +kernel)
  have k_fieldLink_87 : (Cond.fieldLink RJ6 87 "java/lang/Integer" "DigitTens" "[B").before _ s9 = true := hts (.fieldLink RJ6 87 "java/lang/Integer" "DigitTens" "[B") (by decide +kernel)
  have loop_22 : ∀ (fuel : Nat) (t : Nat) (g : Nat → Int32), (2 * t + 1 ≤ ix) → (1 ≤ m / 100 ^ t ∨ t = 0) → (Bf g cap) → ((∀ j, j < 2 * t → g (ix - 1 - j) = nI (48 + m / 10 ^ j % 10))) → ((∀ j, j < ix - 2 * t → g j = f j)) → ix - 2 * t < fuel → ∀ (ls : Array Slot) (H : Heap) (locs : List Loc), va_P D vwCl (bAB k b cap g) H → va_D A (bAB k b cap g) → va_S A s9.heap H locs → lv_has ls 7 [(0, .int (-(nI (m / 100 ^ t)))), (1, .int (nI ix)), (2, .ref b), (5, .int (nI (ix - 2 * t))), (6, .int 1)] → W p9 l9 e9 ({ frames := 0, cells := 0, slots := 0, locals := 0 }) s9 m9 ([.int (-(nI m)), .int (nI ix), .ref b] : List Value).toArray bl9 me9 c9 H locs (0) (0) (MQ bl9 (va_Qi (fun (r : Int32) (u9 : Nat → Int32) => Bf u9 cap ∧ (∀ j, j < nd m → u9 (ix - 1 - j) = nI (48 + m / 10 ^ j % 10)) ∧ (∀ j, j < ix - nd m + 1 → u9 j = f j) ∧ u9 (ix - nd m - 1) = 45) (TB D k (A) (fun u9 : Nat → Int32 => bAB k b cap u9)) (A)) ([.int (-(nI m)), .int (nI ix), .ref b] : List Value).toArray s9 (0) (0) A) (F0 m9 22 ls []) := by
    intro fuel
    induction fuel with
    | zero => intro t g ht hp hg h2 h3 hfuel_22; exact absurd hfuel_22 (Nat.not_lt_zero _)
    | succ fuel ih_22 =>
      intro t g ht hp hg h2 h3 hfuel_22 ls H locs hP hD hS hl
      refine lv_iload_n hx hb dJ6_getChars_ba4f3_22 rfl (lv_at hl 0 rfl) ?_
      refine lv_bipush (v := (-100)) hx hb dJ6_getChars_ba4f3_23 (by decide) ?_
      refine lv_icmp_gt (tgt := 72) hx hb dJ6_getChars_ba4f3_25 (by decide) (fun c_1 => ?_) (fun c_1 => ?_)
      · skip
        have c_1 : m / 100 ^ t < 100 := (gc_gt (by omega) (dv_le hm9 t)).mp c_1
        have hlt9 := c_1
        refine lv_aload_n hx hb dJ6_getChars_ba4f3_72 rfl (lv_at hl 2 rfl) ?_
        refine lv_iinc (v := nI (ix - 2 * t - 1)) (lv' := [(5, .int (nI (ix - 2 * t - 1))), (0, .int (-(nI (m / 100 ^ t)))), (1, .int (nI ix)), (2, .ref b), (6, .int 1)]) hx hb dJ6_getChars_ba4f3_73 hl (k := 3) rfl (nI_dec (by omega)) (by decide) rfl (fun ls hl => ?_)
        refine lv_iload hx hb dJ6_getChars_ba4f3_76 (lv_at hl 0 rfl) ?_
        refine va_gets hx hb hE.2.2.2.2.2.2.2.1 hS hown k_fieldLink_83 (fun _ h9 => h9) dJ6_getChars_ba4f3_78 ?_
        refine lv_iload_n hx hb dJ6_getChars_ba4f3_81 rfl (lv_at hl 1 rfl) ?_
        refine lv_ineg hx hb dJ6_getChars_ba4f3_82 ?_
        refine lv_tope (v2 := .int (nI (m / 100 ^ t))) (congrArg Value.int (by exact ng_ng _)) ?_
        refine va_tb hx hb hE.2.2.2.2.2.2.2.2.1 hS (nI_vin (j := (m / 100 ^ t)) (by omega) (by decide)) (by rw [nI_clamp (Nat.lt_trans (by omega) (show 100 < 2 ^ 31 by decide))]) dJ6_getChars_ba4f3_83 ?_
        refine by_st hx hb hK hP hD hS 0 rfl (ix - 2 * t - 1) (by omega) (by omega) (dg1_nar (by omega)) (bAB k b cap (upd g (ix - 2 * t - 1) (dg1 (m / 100 ^ t)))) rfl dJ6_getChars_ba4f3_84 (fun H locs hP hD hS => ?_)
        refine lv_iload_n hx hb dJ6_getChars_ba4f3_85 rfl (lv_at hl 1 rfl) ?_
        refine lv_bipush (v := (-9)) hx hb dJ6_getChars_ba4f3_86 (by decide) ?_
        refine lv_icmp_ge (tgt := 104) hx hb dJ6_getChars_ba4f3_88 (by decide) (fun c_2 => ?_) (fun c_2 => ?_)
        · skip
          have c_2 : m / 100 ^ t < 10 := (gc_ge9 (by omega)).mp c_2
          have hnd9 := nd_end1 c_2 hp hm9
          refine lv_iload hx hb dJ6_getChars_ba4f3_104 (lv_at hl 4 rfl) ?_
          refine lv_if_eq (tgt := 118) hx hb dJ6_getChars_ba4f3_106 (by decide) (fun c_3 => ?_) (fun c_3 => ?_)
          · first | exact absurd c_3 (by decide) | exact absurd (by decide) c_3
          · skip
            refine lv_aload_n hx hb dJ6_getChars_ba4f3_109 rfl (lv_at hl 3 rfl) ?_
            refine lv_iinc (v := nI (ix - 2 * t - 1 - 1)) (lv' := [(5, .int (nI (ix - 2 * t - 1 - 1))), (0, .int (-(nI (m / 100 ^ t)))), (1, .int (nI ix)), (2, .ref b), (6, .int 1)]) hx hb dJ6_getChars_ba4f3_110 hl (k := 0) rfl (nI_dec (by omega)) (by decide) rfl (fun ls hl => ?_)
            refine lv_iload hx hb dJ6_getChars_ba4f3_113 (lv_at hl 0 rfl) ?_
            refine lv_bipush (v := 45) hx hb dJ6_getChars_ba4f3_115 (by decide) ?_
            refine by_st hx hb hK hP hD hS 0 rfl (ix - 2 * t - 1 - 1) (by omega) (by omega) (by decide) (bAB k b cap (upd (upd g (ix - 2 * t - 1) (dg1 (m / 100 ^ t))) (ix - 2 * t - 1 - 1) 45)) rfl dJ6_getChars_ba4f3_117 (fun H locs hP hD hS => ?_)
            refine lv_iload hx hb dJ6_getChars_ba4f3_118 (lv_at hl 0 rfl) ?_
            exact W.iret (v := nI (ix - 2 * t - 1 - 1)) hx hb hr (fun t9 ht hW => ⟨⟨_, upd (upd g (ix - 2 * t - 1) (dg1 (m / 100 ^ t))) (ix - 2 * t - 1 - 1) 45, rfl, (by rw [hnd9]; exact ⟨Bf_upd (Bf_upd hg (fit7 (dg1_7 (by omega)))) (by decide), fun j hj => (by rw [upd_at, if_neg (by omega)]; exact gc_one (by omega) (by omega) h2 j hj), fun j hj => (by rw [upd_at, if_neg (by omega), upd_at, if_neg (by omega)]; exact h3 j (by omega)), (by rw [upd_at, if_pos (by omega)])⟩), ⟨by rw [ht]; exact hP, va_K.moved hW.alike hK, hD⟩⟩, hS.F ht⟩) hS.2.2 dJ6_getChars_ba4f3_120 hlocks
        · skip
          have c_2 : 10 ≤ m / 100 ^ t := (gc_lt9 (by omega)).mp c_2
          have hnd9 := nd_end2 hlt9 c_2 hm9
          refine lv_aload_n hx hb dJ6_getChars_ba4f3_91 rfl (lv_at hl 3 rfl) ?_
          refine lv_iinc (v := nI (ix - 2 * t - 1 - 1)) (lv' := [(5, .int (nI (ix - 2 * t - 1 - 1))), (0, .int (-(nI (m / 100 ^ t)))), (1, .int (nI ix)), (2, .ref b), (6, .int 1)]) hx hb dJ6_getChars_ba4f3_92 hl (k := 0) rfl (nI_dec (by omega)) (by decide) rfl (fun ls hl => ?_)
          refine lv_iload hx hb dJ6_getChars_ba4f3_95 (lv_at hl 0 rfl) ?_
          refine va_gets hx hb hE.2.2.2.2.2.2.2.2.2.1 hS hown k_fieldLink_87 (fun _ h9 => h9) dJ6_getChars_ba4f3_97 ?_
          refine lv_iload_n hx hb dJ6_getChars_ba4f3_100 rfl (lv_at hl 1 rfl) ?_
          refine lv_ineg hx hb dJ6_getChars_ba4f3_101 ?_
          refine lv_tope (v2 := .int (nI (m / 100 ^ t))) (congrArg Value.int (by exact ng_ng _)) ?_
          refine va_tb hx hb hE.2.2.2.2.2.2.2.2.2.2.1 hS (nI_vin (j := (m / 100 ^ t)) (by omega) (by decide)) (by rw [nI_clamp (Nat.lt_trans (by omega) (show 100 < 2 ^ 31 by decide))]) dJ6_getChars_ba4f3_102 ?_
          refine by_st hx hb hK hP hD hS 0 rfl (ix - 2 * t - 1 - 1) (by omega) (by omega) (dg10_nar (by omega)) (bAB k b cap (upd (upd g (ix - 2 * t - 1) (dg1 (m / 100 ^ t))) (ix - 2 * t - 1 - 1) (dg10 (m / 100 ^ t)))) rfl dJ6_getChars_ba4f3_103 (fun H locs hP hD hS => ?_)
          refine lv_iload hx hb dJ6_getChars_ba4f3_104 (lv_at hl 4 rfl) ?_
          refine lv_if_eq (tgt := 118) hx hb dJ6_getChars_ba4f3_106 (by decide) (fun c_4 => ?_) (fun c_4 => ?_)
          · first | exact absurd c_4 (by decide) | exact absurd (by decide) c_4
          · skip
            refine lv_aload_n hx hb dJ6_getChars_ba4f3_109 rfl (lv_at hl 3 rfl) ?_
            refine lv_iinc (v := nI (ix - 2 * t - 1 - 1 - 1)) (lv' := [(5, .int (nI (ix - 2 * t - 1 - 1 - 1))), (0, .int (-(nI (m / 100 ^ t)))), (1, .int (nI ix)), (2, .ref b), (6, .int 1)]) hx hb dJ6_getChars_ba4f3_110 hl (k := 0) rfl (nI_dec (by omega)) (by decide) rfl (fun ls hl => ?_)
            refine lv_iload hx hb dJ6_getChars_ba4f3_113 (lv_at hl 0 rfl) ?_
            refine lv_bipush (v := 45) hx hb dJ6_getChars_ba4f3_115 (by decide) ?_
            refine by_st hx hb hK hP hD hS 0 rfl (ix - 2 * t - 1 - 1 - 1) (by omega) (by omega) (by decide) (bAB k b cap (upd (upd (upd g (ix - 2 * t - 1) (dg1 (m / 100 ^ t))) (ix - 2 * t - 1 - 1) (dg10 (m / 100 ^ t))) (ix - 2 * t - 1 - 1 - 1) 45)) rfl dJ6_getChars_ba4f3_117 (fun H locs hP hD hS => ?_)
            refine lv_iload hx hb dJ6_getChars_ba4f3_118 (lv_at hl 0 rfl) ?_
            exact W.iret (v := nI (ix - 2 * t - 1 - 1 - 1)) hx hb hr (fun t9 ht hW => ⟨⟨_, upd (upd (upd g (ix - 2 * t - 1) (dg1 (m / 100 ^ t))) (ix - 2 * t - 1 - 1) (dg10 (m / 100 ^ t))) (ix - 2 * t - 1 - 1 - 1) 45, rfl, (by rw [hnd9]; exact ⟨Bf_upd (Bf_upd (Bf_upd hg (fit7 (dg1_7 (by omega)))) (fit7 (dg10_7 (by omega)))) (by decide), fun j hj => (by rw [upd_at, if_neg (by omega)]; exact gc_two (by omega) hlt9 h2 j hj), fun j hj => (by rw [upd_at, if_neg (by omega), upd_at, if_neg (by omega), upd_at, if_neg (by omega)]; exact h3 j (by omega)), (by rw [upd_at, if_pos (by omega)])⟩), ⟨by rw [ht]; exact hP, va_K.moved hW.alike hK, hD⟩⟩, hS.F ht⟩) hS.2.2 dJ6_getChars_ba4f3_120 hlocks
      · skip
        have c_1 : 100 ≤ m / 100 ^ t := (gc_le (by omega) (dv_le hm9 t)).mp c_1
        have hlen9 := nd_two c_1 hm9
        refine lv_iload_n hx hb dJ6_getChars_ba4f3_28 rfl (lv_at hl 0 rfl) ?_
        refine lv_bipush (v := 100) hx hb dJ6_getChars_ba4f3_29 (by decide) ?_
        refine lv_idiv hx hb dJ6_getChars_ba4f3_31 (by decide) ?_
        refine lv_tope (v2 := .int (-(nI (m / 100 ^ (t + 1))))) (congrArg Value.int (by exact dv_s (dv_le hm9 t))) ?_
        refine lv_istore_n (lv' := [(3, .int (-(nI (m / 100 ^ (t + 1))))), (0, .int (-(nI (m / 100 ^ t)))), (1, .int (nI ix)), (2, .ref b), (5, .int (nI (ix - 2 * t))), (6, .int 1)]) hx hb dJ6_getChars_ba4f3_32 rfl hl (by decide) rfl (fun ls hl => ?_)
        refine lv_iload_n hx hb dJ6_getChars_ba4f3_33 rfl (lv_at hl 0 rfl) ?_
        refine lv_bipush (v := 100) hx hb dJ6_getChars_ba4f3_34 (by decide) ?_
        refine lv_imul hx hb dJ6_getChars_ba4f3_36 ?_
        refine lv_iload_n hx hb dJ6_getChars_ba4f3_37 rfl (lv_at hl 1 rfl) ?_
        refine lv_isub hx hb dJ6_getChars_ba4f3_38 ?_
        refine lv_tope (v2 := .int (nI (m / 100 ^ t % 100))) (congrArg Value.int (by exact dv_r hm9 t)) ?_
        refine lv_istore (lv' := [(4, .int (nI (m / 100 ^ t % 100))), (3, .int (-(nI (m / 100 ^ (t + 1))))), (0, .int (-(nI (m / 100 ^ t)))), (1, .int (nI ix)), (2, .ref b), (5, .int (nI (ix - 2 * t))), (6, .int 1)]) hx hb dJ6_getChars_ba4f3_39 hl (by decide) rfl (fun ls hl => ?_)
        refine lv_iload_n hx hb dJ6_getChars_ba4f3_41 rfl (lv_at hl 1 rfl) ?_
        refine lv_istore_n (lv' := [(0, .int (-(nI (m / 100 ^ (t + 1))))), (4, .int (nI (m / 100 ^ t % 100))), (3, .int (-(nI (m / 100 ^ (t + 1))))), (1, .int (nI ix)), (2, .ref b), (5, .int (nI (ix - 2 * t))), (6, .int 1)]) hx hb dJ6_getChars_ba4f3_42 rfl hl (by decide) rfl (fun ls hl => ?_)
        refine lv_aload_n hx hb dJ6_getChars_ba4f3_43 rfl (lv_at hl 4 rfl) ?_
        refine lv_iinc (v := nI (ix - 2 * t - 1)) (lv' := [(5, .int (nI (ix - 2 * t - 1))), (0, .int (-(nI (m / 100 ^ (t + 1))))), (4, .int (nI (m / 100 ^ t % 100))), (3, .int (-(nI (m / 100 ^ (t + 1))))), (1, .int (nI ix)), (2, .ref b), (6, .int 1)]) hx hb dJ6_getChars_ba4f3_44 hl (k := 5) rfl (nI_dec (by omega)) (by decide) rfl (fun ls hl => ?_)
        refine lv_iload hx hb dJ6_getChars_ba4f3_47 (lv_at hl 0 rfl) ?_
        refine va_gets hx hb hE.2.2.2.2.2.2.2.1 hS hown k_fieldLink_83 (fun _ h9 => h9) dJ6_getChars_ba4f3_49 ?_
        refine lv_iload hx hb dJ6_getChars_ba4f3_52 (lv_at hl 2 rfl) ?_
        refine va_tb hx hb hE.2.2.2.2.2.2.2.2.1 hS (nI_vin (j := (m / 100 ^ t % 100)) (Nat.mod_lt _ (by decide)) (by decide)) (by rw [nI_clamp (Nat.lt_trans (Nat.mod_lt _ (by decide)) (show 100 < 2 ^ 31 by decide))]) dJ6_getChars_ba4f3_54 ?_
        refine by_st hx hb hK hP hD hS 0 rfl (ix - 2 * t - 1) (by omega) (by omega) (dg1_nar (Nat.mod_lt _ (by decide))) (bAB k b cap (upd g (ix - 2 * t - 1) (dg1 (m / 100 ^ t % 100)))) rfl dJ6_getChars_ba4f3_55 (fun H locs hP hD hS => ?_)
        refine lv_aload_n hx hb dJ6_getChars_ba4f3_56 rfl (lv_at hl 5 rfl) ?_
        refine lv_iinc (v := nI (ix - 2 * t - 1 - 1)) (lv' := [(5, .int (nI (ix - 2 * t - 1 - 1))), (0, .int (-(nI (m / 100 ^ (t + 1))))), (4, .int (nI (m / 100 ^ t % 100))), (3, .int (-(nI (m / 100 ^ (t + 1))))), (1, .int (nI ix)), (2, .ref b), (6, .int 1)]) hx hb dJ6_getChars_ba4f3_57 hl (k := 0) rfl (nI_dec (by omega)) (by decide) rfl (fun ls hl => ?_)
        refine lv_iload hx hb dJ6_getChars_ba4f3_60 (lv_at hl 0 rfl) ?_
        refine va_gets hx hb hE.2.2.2.2.2.2.2.2.2.1 hS hown k_fieldLink_87 (fun _ h9 => h9) dJ6_getChars_ba4f3_62 ?_
        refine lv_iload hx hb dJ6_getChars_ba4f3_65 (lv_at hl 2 rfl) ?_
        refine va_tb hx hb hE.2.2.2.2.2.2.2.2.2.2.1 hS (nI_vin (j := (m / 100 ^ t % 100)) (Nat.mod_lt _ (by decide)) (by decide)) (by rw [nI_clamp (Nat.lt_trans (Nat.mod_lt _ (by decide)) (show 100 < 2 ^ 31 by decide))]) dJ6_getChars_ba4f3_67 ?_
        refine by_st hx hb hK hP hD hS 0 rfl (ix - 2 * t - 1 - 1) (by omega) (by omega) (dg10_nar (Nat.mod_lt _ (by decide))) (bAB k b cap (upd (upd g (ix - 2 * t - 1) (dg1 (m / 100 ^ t % 100))) (ix - 2 * t - 1 - 1) (dg10 (m / 100 ^ t % 100)))) rfl dJ6_getChars_ba4f3_68 (fun H locs hP hD hS => ?_)
        refine lv_goto (tgt := 22) hx hb dJ6_getChars_ba4f3_69 (by decide) ?_
        have e_5 : (nI (ix - 2 * t - 1 - 1) : Int32) = nI (ix - 2 * (t + 1)) := by first | (with_reducible rfl) | (congr 1; omega)
        exact ih_22 (t + 1) (upd (upd g (ix - 2 * t - 1) (dg1 (m / 100 ^ t % 100))) (ix - 2 * t - 1 - 1) (dg10 (m / 100 ^ t % 100))) (by have := nd_two c_1 hm9; omega) (Or.inl (dv_pos c_1)) (Bf_upd (Bf_upd hg (fit7 (dg1_7 (Nat.mod_lt _ (by decide))))) (fit7 (dg10_7 (Nat.mod_lt _ (by decide))))) (gc_step (by have := nd_two c_1 hm9; omega) h2) (fun j hj => by rw [upd_at, if_neg (by omega), upd_at, if_neg (by omega)]; exact h3 j (by omega)) (by omega) ls _ _ hP hD hS (lv_one hl 1 rfl rfl (lv_one hl 4 rfl rfl (lv_one hl 5 rfl rfl (lv_one hl 0 rfl (congrArg Value.int e_5) (lv_one hl 6 rfl rfl (lv_nil hl))))))
  refine lv_iload_n hx hb dJ6_getChars_ba4f3_0 rfl (lv_at hl 1 rfl) ?_
  refine lv_istore (lv' := [(5, .int (nI ix)), (0, .int (-(nI m))), (1, .int (nI ix)), (2, .ref b)]) hx hb dJ6_getChars_ba4f3_1 hl (by decide) rfl (fun ls hl => ?_)
  refine lv_iload_n hx hb dJ6_getChars_ba4f3_3 rfl (lv_at hl 1 rfl) ?_
  refine lv_if_ge (tgt := 11) hx hb dJ6_getChars_ba4f3_4 (by decide) (fun c_6 => ?_) (fun c_6 => ?_)
  · skip
    exact absurd (ng_neg h1 hm) (Int32.not_lt.mpr c_6)
  · skip
    refine lv_iconst (v := 1) hx hb dJ6_getChars_ba4f3_7 (by decide) ?_
    refine lv_goto (tgt := 12) hx hb dJ6_getChars_ba4f3_8 (by decide) ?_
    refine lv_istore (lv' := [(6, .int 1), (5, .int (nI ix)), (0, .int (-(nI m))), (1, .int (nI ix)), (2, .ref b)]) hx hb dJ6_getChars_ba4f3_12 hl (by decide) rfl (fun ls hl => ?_)
    refine lv_iload hx hb dJ6_getChars_ba4f3_14 (lv_at hl 0 rfl) ?_
    refine lv_if_ne (tgt := 22) hx hb dJ6_getChars_ba4f3_16 (by decide) (fun c_7 => ?_) (fun c_7 => ?_)
    · skip
      have e_8 : (-(nI m) : Int32) = -(nI (m / 100 ^ 0)) := by first | (with_reducible rfl) | (rw [Nat.pow_zero, Nat.div_one])
      have e_9 : (nI ix : Int32) = nI (ix - 2 * 0) := by first | (with_reducible rfl) | (rfl)
      exact loop_22 ((ix - 2 * 0) + 1) 0 f (by have := nd_pos m; omega) (Or.inr rfl) hb (fun j hj => by omega) (fun j hj => rfl) (Nat.lt_succ_self _) ls _ _ hP hD hS (lv_one hl 2 rfl (congrArg Value.int e_8) (lv_one hl 3 rfl rfl (lv_one hl 4 rfl rfl (lv_one hl 1 rfl (congrArg Value.int e_9) (lv_one hl 0 rfl rfl (lv_nil hl))))))
    · first | exact absurd c_7 (by decide) | exact absurd (by decide) c_7

set_option maxHeartbeats 4000000 in
set_option maxRecDepth 100000 in
theorem t_J5_appendI_p (l9 : Launch) (hl9 : l9.stackTraces = false) (E : EK) (D : va_G) (k : Nat → ClassId) (sz : Nat) (a b n cap : Nat) (f : Nat → Int32) (m : Nat) (hm : m < 2 ^ 31) (hm2 : n + (nd m) < 2 ^ 28) (hcap : cap < 2 ^ 28) (hn : n ≤ cap) (hf : Bf f cap) : Met l9 yJ5_append_c97b9 wsJ5_append_c97b9 ({ frames := 4, cells := 1, slots := gms cap (n + (nd m)), locals := 104 }) (TPc E D k [.ref a, .int (nI m)] (bSO k a b n ++ bAB k b cap f) sz) (va_Qq (fun (r : Option Nat) (u9 : Nat × (Nat → Int32)) => r = some a ∧ Bf u9.2 (gcap cap (n + (nd m))) ∧ (∀ j, j < n → u9.2 j = f j) ∧ ∀ j, j < nd m → u9.2 (n + j) = (itP m).getD j 0) (TB D k (va_A (bSO k a b n ++ bAB k b cap f) sz) (fun u9 : Nat × (Nat → Int32) => bSO k a u9.1 (n + (nd m)) ++ bAB k u9.1 (gcap cap (n + (nd m))) u9.2)) (va_A (bSO k a b n ++ bAB k b cap f) sz)) (1) (gms cap (n + (nd m))) (va_A (bSO k a b n ++ bAB k b cap f) sz) := by
  refine tMet (y := yJ5_append_c97b9) (cc := cJ5_append_c97b9) (maxL := 4) (ret := (some (.object "java/lang/AbstractStringBuilder"))) (Qc := fun A => va_Qq (fun (r : Option Nat) (u9 : Nat × (Nat → Int32)) => r = some a ∧ Bf u9.2 (gcap cap (n + (nd m))) ∧ (∀ j, j < n → u9.2 j = f j) ∧ ∀ j, j < nd m → u9.2 (n + j) = (itP m).getD j 0) (TB D k (A) (fun u9 : Nat × (Nat → Int32) => bSO k a u9.1 (n + (nd m)) ++ bAB k u9.1 (gcap cap (n + (nd m))) u9.2)) (A)) [.ref a, .int (nI m)] (by decide) rfl (Nat.le_of_ble_eq_true rfl) ?_
  intro p9 e9 s9 m9 bl9 me9 c9 ls A H hF hr hlocks hP hK hE hD hA hS hl hin
  have hl : lv_has ls 4 [(0, .ref a), (1, .int (nI m))] := hl
  obtain ⟨hx, hb, hml, hown, hts⟩ := id hF
  have k_fieldLink_79 : (Cond.fieldLink RJ5 79 "java/lang/AbstractStringBuilder" "count" "I").before _ s9 = true := hts (.fieldLink RJ5 79 "java/lang/AbstractStringBuilder" "count" "I") (by decide +kernel)
  have kc_RJ4 : ∀ w ∈ u_ws RJ4 TJ4 4, w ∈ wsJ5_append_c97b9 := by decide +kernel
  have k_fieldLink_15 : (Cond.fieldLink RJ5 15 "java/lang/AbstractStringBuilder" "value" "[B").before _ s9 = true := hts (.fieldLink RJ5 15 "java/lang/AbstractStringBuilder" "value" "[B") (by decide +kernel)
  refine lv_aload_n hx hb dJ5_append_c97b9_0 rfl (lv_at hl 0 rfl) ?_
  refine va_get (D := D) (ci := 1) (v := .int (nI n)) (C := RJ4) (T := TJ4) (N := 4) hx hb hts kc_RJ4 hown hK hP 0 rfl rfl 3 (by decide) k_fieldLink_79 (fun _ h9 => h9) rfl dJ5_append_c97b9_1 ?_
  refine lv_istore_n (lv' := [(2, .int (nI n)), (0, .ref a), (1, .int (nI m))]) hx hb dJ5_append_c97b9_4 rfl hl (by decide) rfl (fun ls hl => ?_)
  refine lv_iload_n hx hb dJ5_append_c97b9_5 rfl (lv_at hl 0 rfl) ?_
  refine lv_iload_n hx hb dJ5_append_c97b9_6 rfl (lv_at hl 2 rfl) ?_
  have hP : va_P D vwCl ([] ++ (bSO k a b n ++ bAB k b cap f)) H := hP
  have hD : va_D A ([] ++ (bSO k a b n ++ bAB k b cap f)) := hD
  have hFc := tFree hD hS hA
  refine va_calli (va_runS (As := [.int (nI m)]) (rest := [.int (nI n)]) hF (fr_i (bSO k a b n ++ bAB k b cap f) (t_stringSize_p l9 hl9 E D k H.size m hm)) (va_cwS 1 hts gJ5_append_c97b9_J6_stringSize_0f7a4 rfl rfl rfl (by decide +kernel) ⟨Nat.le_of_ble_eq_true rfl, Nat.le_of_ble_eq_true rfl⟩) (tPreS hK hE hS hA hP hD) rfl rfl hl.1 rfl (lv_room (Nat.le_of_ble_eq_true rfl)) dJ5_append_c97b9_7 ⟨(Nat.le_of_ble_eq_true rfl), (by show 0 ≤ gms cap (n + (nd m)); omega)⟩) hS (fun q _ h => hFc q h) hFc (fun r_2 u_3 t9 H1 locs ht hvm hw_4 hB hz1 hk1 hS => ?_)
  obtain ⟨hP, -, hD⟩ := hB
  rw [ht] at hP
  replace hP : va_P D vwCl (([]) ++ (bSO k a b n ++ bAB k b cap f)) H1 := hP
  replace hD : va_D A (([]) ++ (bSO k a b n ++ bAB k b cap f)) := hD.weaken (fun _ q _ h => hFc q.1 h)
  replace hP : va_P D vwCl (bSO k a b n ++ bAB k b cap f) H1 := hP
  replace hD : va_D A (bSO k a b n ++ bAB k b cap f) := hD
  replace hw_4 : r_2 = nI (nd m) := hw_4
  clear hz1 hvm hFc hk1 ht
  clear t9
  generalize H1 = H at hP hS ⊢
  refine lv_tope (v2 := .int (nI (nd m))) (by rw [hw_4]) ?_
  refine ni_add hx hb n (nd m) dJ5_append_c97b9_10 ?_
  refine lv_istore_n (lv' := [(3, .int (nI (n + (nd m)))), (2, .int (nI n)), (0, .ref a), (1, .int (nI m))]) hx hb dJ5_append_c97b9_11 rfl hl (by decide) rfl (fun ls hl => ?_)
  refine lv_aload_n hx hb dJ5_append_c97b9_12 rfl (lv_at hl 2 rfl) ?_
  refine lv_iload_n hx hb dJ5_append_c97b9_13 rfl (lv_at hl 0 rfl) ?_
  have hFc := tFree hD hS hA
  refine va_callv (va_runU (As := [.int (nI (n + (nd m)))]) (rest := []) hF (t_J5_ensureCapacityInternal_d00df l9 hl9 E D k H.size a b n cap f (n + (nd m)) (by omega) (by omega) hf) (va_cwU 1 hts gJ5_append_c97b9_J5_ensureCapacityInternal_d00df_u100J4 rfl rfl rfl rfl (by decide +kernel) ⟨Nat.le_of_ble_eq_true rfl, Nat.le_of_ble_eq_true rfl⟩) (tPreV (rcv hK hP 0 1 rfl rfl) hK hE hS hA hP hD) rfl rfl hl.1 rfl (lv_room (Nat.le_of_ble_eq_true rfl)) dJ5_append_c97b9_14 ⟨(Nat.le_of_ble_eq_true rfl), (by show gms cap (n + (nd m)) ≤ gms cap (n + (nd m)); omega)⟩) hS (fun q _ h => hFc q h) hFc (fun u_7 t9 H1 locs ht hvm h7 hB hz1 hk1 hS => ?_)
  obtain ⟨hP, -, hD⟩ := hB
  rw [ht] at hP
  replace hP : va_P D vwCl (bSO k a u_7.1 n ++ bAB k u_7.1 (gcap cap (n + (nd m))) u_7.2) H1 := hP
  replace hD : va_D A (bSO k a u_7.1 n ++ bAB k u_7.1 (gcap cap (n + (nd m))) u_7.2) := hD.weaken (fun _ q _ h => hFc q.1 h)
  replace h7 : Bf u_7.2 (gcap cap (n + (nd m))) ∧ ∀ j, j < cap → u_7.2 j = f j := h7
  clear hz1 hvm hFc hk1 ht
  clear t9
  generalize H1 = H at hP hS ⊢
  refine lv_aload_n hx hb dJ5_append_c97b9_17 rfl (lv_at hl 2 rfl) ?_
  have hFc := tFree hD hS hA
  refine va_calli (va_runU (As := []) (rest := []) hF (fr_i (bAB k u_7.1 (gcap cap (n + (nd m))) u_7.2) (t_J5_isLatin1_aae02 l9 hl9 E D k H.size a u_7.1 n )) (va_cwU 0 hts gJ5_append_c97b9_J5_isLatin1_aae02_u83J4 rfl rfl rfl rfl (by decide +kernel) ⟨Nat.le_of_ble_eq_true rfl, Nat.le_of_ble_eq_true rfl⟩) (tPreV (rcv hK hP 0 1 rfl rfl) hK hE hS hA hP hD) rfl rfl hl.1 rfl (lv_room (Nat.le_of_ble_eq_true rfl)) dJ5_append_c97b9_18 ⟨(Nat.le_of_ble_eq_true rfl), (by show gms cap (n + (nd m)) ≤ gms cap (n + (nd m)); omega)⟩) hS (fun q _ h => hFc q h) hFc (fun r_9 u_10 t9 H1 locs ht hvm hw_11 hB hz1 hk1 hS => ?_)
  obtain ⟨hP, -, hD⟩ := hB
  rw [ht] at hP
  replace hP : va_P D vwCl ((bSO k a u_7.1 n) ++ bAB k u_7.1 (gcap cap (n + (nd m))) u_7.2) H1 := hP
  replace hD : va_D A ((bSO k a u_7.1 n) ++ bAB k u_7.1 (gcap cap (n + (nd m))) u_7.2) := hD.weaken (fun _ q _ h => hFc q.1 h)
  replace hw_11 : r_9 = 1 := hw_11
  clear hz1 hvm hFc hk1 ht
  clear t9
  generalize H1 = H at hP hS ⊢
  refine lv_tope (v2 := .int 1) (by rw [hw_11]) ?_
  refine lv_if_eq (tgt := 37) hx hb dJ5_append_c97b9_21 (by decide) (fun c_12 => ?_) (fun c_12 => ?_)
  · first | exact absurd c_12 (by decide) | exact absurd (by decide) c_12
  · skip
    refine lv_iload_n hx hb dJ5_append_c97b9_24 rfl (lv_at hl 3 rfl) ?_
    refine lv_iload_n hx hb dJ5_append_c97b9_25 rfl (lv_at hl 0 rfl) ?_
    refine lv_aload_n hx hb dJ5_append_c97b9_26 rfl (lv_at hl 2 rfl) ?_
    refine va_get (D := D) (ci := 1) (v := .ref u_7.1) (C := RJ4) (T := TJ4) (N := 4) hx hb hts kc_RJ4 hown hK hP 0 rfl rfl 0 (by decide) k_fieldLink_15 (fun _ h9 => h9) rfl dJ5_append_c97b9_27 ?_
    have hP : va_P D vwCl (bAB k u_7.1 (gcap cap (n + (nd m))) u_7.2 ++ bSO k a u_7.1 n) H := vP_perm hP (pmX (pmS (bSO k a u_7.1 n) (pmE (bAB k u_7.1 (gcap cap (n + (nd m))) u_7.2))))
    have hD : va_D A (bAB k u_7.1 (gcap cap (n + (nd m))) u_7.2 ++ bSO k a u_7.1 n) := vD_perm hD (pmX (pmS (bSO k a u_7.1 n) (pmE (bAB k u_7.1 (gcap cap (n + (nd m))) u_7.2))))
    have hFc := tFree hD hS hA
    refine va_calli (va_runS (As := [.int (nI m), .int (nI (n + (nd m))), .ref u_7.1]) (rest := []) hF (fr_i (bSO k a u_7.1 n) (t_getChars_p l9 hl9 E D k H.size (n + (nd m)) m u_7.1 (gcap cap (n + (nd m))) u_7.2 hm (by omega) (by have := gcap_ge cap (n + (nd m)); omega) (by have := gcap_lt (cap := cap) (n := n + (nd m)) (b := 2 ^ 28) (by omega) (by omega); omega) h7.1)) (va_cwS 3 hts gJ5_append_c97b9_J6_getChars_ba4f3 rfl rfl rfl (by decide +kernel) ⟨Nat.le_of_ble_eq_true rfl, Nat.le_of_ble_eq_true rfl⟩) (tPreS hK hE hS hA hP hD) rfl rfl hl.1 rfl (lv_room (Nat.le_of_ble_eq_true rfl)) dJ5_append_c97b9_30 ⟨(Nat.le_of_ble_eq_true rfl), (by show gms cap (n + (nd m)) ≤ gms cap (n + (nd m)); omega)⟩) hS (fun q _ h => hFc q h) hFc (fun r_14 u_15 t9 H1 locs ht hvm h30 hB hz1 hk1 hS => ?_)
    obtain ⟨hP, -, hD⟩ := hB
    rw [ht] at hP
    replace hP : va_P D vwCl ((bAB k u_7.1 (gcap cap (n + (nd m))) u_15) ++ bSO k a u_7.1 n) H1 := hP
    replace hD : va_D A ((bAB k u_7.1 (gcap cap (n + (nd m))) u_15) ++ bSO k a u_7.1 n) := hD.weaken (fun _ q _ h => hFc q.1 h)
    replace h30 : Bf u_15 (gcap cap (n + (nd m))) ∧ (∀ j, j < nd m → u_15 ((n + (nd m)) - 1 - j) = nI (48 + m / 10 ^ j % 10)) ∧ (∀ j, j < (n + (nd m)) - nd m → u_15 j = u_7.2 j) := h30
    clear hz1 hvm hFc hk1 ht
    clear t9
    generalize H1 = H at hP hS ⊢
    refine lv_pop hx hb dJ5_append_c97b9_33 rfl ?_
    refine lv_goto (tgt := 48) hx hb dJ5_append_c97b9_34 (by decide) ?_
    refine lv_aload_n hx hb dJ5_append_c97b9_48 rfl (lv_at hl 2 rfl) ?_
    refine lv_iload_n hx hb dJ5_append_c97b9_49 rfl (lv_at hl 0 rfl) ?_
    refine va_put (D := D) (ci := 1) (v := .int (nI (n + (nd m)))) (ty := .int) (C := RJ4) (T := TJ4) (N := 4) hx hb hts kc_RJ4 tyJ4 tyJ4_ok nmJ4 hown hK hP hD hS 1 rfl rfl 3 (by decide) k_fieldLink_79 (fun _ h9 => h9) rfl (by decide +kernel) rfl rfl (Nat.le_of_ble_eq_true rfl) dJ5_append_c97b9_50 (fun H locs hP hD hS => ?_)
    have hP : va_P D vwCl (bAB k u_7.1 (gcap cap (n + (nd m))) u_15 ++ bSO k a u_7.1 (n + (nd m))) H := hP
    have hD : va_D A (bAB k u_7.1 (gcap cap (n + (nd m))) u_15 ++ bSO k a u_7.1 (n + (nd m))) := hD
    refine lv_aload_n hx hb dJ5_append_c97b9_53 rfl (lv_at hl 2 rfl) ?_
    have hP : va_P D vwCl (bSO k a u_7.1 (n + (nd m)) ++ bAB k u_7.1 (gcap cap (n + (nd m))) u_15) H := vP_perm hP (pmX (pmS (bAB k u_7.1 (gcap cap (n + (nd m))) u_15) (pmE (bSO k a u_7.1 (n + (nd m))))))
    have hD : va_D A (bSO k a u_7.1 (n + (nd m)) ++ bAB k u_7.1 (gcap cap (n + (nd m))) u_15) := vD_perm hD (pmX (pmS (bAB k u_7.1 (gcap cap (n + (nd m))) u_15) (pmE (bSO k a u_7.1 (n + (nd m))))))
    exact W.aret (v := .ref a) hx hb hr (Or.inl ⟨_, rfl⟩) (Or.inr ⟨_, rfl⟩) (fun t9 ht hW => ⟨⟨some a, (u_7.1, u_15), rfl, (by exact ⟨rfl, h30.1, fun j hj => (by rw [h30.2.2 j (by omega)]; exact h7.2 j (by omega)), itP_at h30⟩), ⟨by rw [ht]; exact hP, va_K.moved hW.alike hK, hD⟩⟩, hS.F ht⟩) hS.2.2 dJ5_append_c97b9_54 hlocks

set_option maxHeartbeats 4000000 in
set_option maxRecDepth 100000 in
theorem t_J4_appendI_p (l9 : Launch) (hl9 : l9.stackTraces = false) (E : EK) (D : va_G) (k : Nat → ClassId) (sz : Nat) (a b n cap : Nat) (f : Nat → Int32) (m : Nat) (hm : m < 2 ^ 31) (hm2 : n + (nd m) < 2 ^ 28) (hcap : cap < 2 ^ 28) (hn : n ≤ cap) (hf : Bf f cap) : Met l9 yJ4_append_bf812 wsJ4_append_bf812 ({ frames := 5, cells := 1, slots := gms cap (n + (nd m)), locals := 127 }) (TPc E D k [.ref a, .int (nI m)] (bSO k a b n ++ bAB k b cap f) sz) (va_Qq (fun (r : Option Nat) (u9 : Nat × (Nat → Int32)) => r = some a ∧ Bf u9.2 (gcap cap (n + (nd m))) ∧ (∀ j, j < n → u9.2 j = f j) ∧ ∀ j, j < nd m → u9.2 (n + j) = (itP m).getD j 0) (TB D k (va_A (bSO k a b n ++ bAB k b cap f) sz) (fun u9 : Nat × (Nat → Int32) => bSO k a u9.1 (n + (nd m)) ++ bAB k u9.1 (gcap cap (n + (nd m))) u9.2)) (va_A (bSO k a b n ++ bAB k b cap f) sz)) (1) (gms cap (n + (nd m))) (va_A (bSO k a b n ++ bAB k b cap f) sz) := by
  refine tMet (y := yJ4_append_bf812) (cc := cJ4_append_bf812) (maxL := 2) (ret := (some (.object "java/lang/StringBuilder"))) (Qc := fun A => va_Qq (fun (r : Option Nat) (u9 : Nat × (Nat → Int32)) => r = some a ∧ Bf u9.2 (gcap cap (n + (nd m))) ∧ (∀ j, j < n → u9.2 j = f j) ∧ ∀ j, j < nd m → u9.2 (n + j) = (itP m).getD j 0) (TB D k (A) (fun u9 : Nat × (Nat → Int32) => bSO k a u9.1 (n + (nd m)) ++ bAB k u9.1 (gcap cap (n + (nd m))) u9.2)) (A)) [.ref a, .int (nI m)] (by decide) rfl (Nat.le_of_ble_eq_true rfl) ?_
  intro p9 e9 s9 m9 bl9 me9 c9 ls A H hF hr hlocks hP hK hE hD hA hS hl hin
  have hl : lv_has ls 2 [(0, .ref a), (1, .int (nI m))] := hl
  obtain ⟨hx, hb, hml, hown, hts⟩ := id hF
  refine lv_aload_n hx hb dJ4_append_bf812_0 rfl (lv_at hl 0 rfl) ?_
  refine lv_iload_n hx hb dJ4_append_bf812_1 rfl (lv_at hl 1 rfl) ?_
  have hFc := tFree hD hS hA
  refine va_callq (va_runSU (As := [.int (nI m)]) (rest := []) (hK.1 1 _ rfl).2 hF (t_J5_appendI_p l9 hl9 E D k H.size a b n cap f m hm hm2 hcap hn hf) (va_cwSU 1 hts gJ4_append_bf812_J5_append_c97b9_s53 rfl rfl rfl (by decide +kernel) ⟨Nat.le_of_ble_eq_true rfl, Nat.le_of_ble_eq_true rfl⟩) (tPreV (rcv hK hP 0 1 rfl rfl) hK hE hS hA hP hD) rfl rfl hl.1 rfl (lv_room (Nat.le_of_ble_eq_true rfl)) dJ4_append_bf812_2 ⟨(Nat.le_of_ble_eq_true rfl), (by show gms cap (n + (nd m)) ≤ gms cap (n + (nd m)); omega)⟩) hS (fun q _ h => hFc q h) hFc (fun r_2 u_3 t9 H1 locs ht hvm h2 hB hz1 hk1 hS => ?_)
  obtain ⟨hP, -, hD⟩ := hB
  rw [ht] at hP
  replace hP : va_P D vwCl (bSO k a u_3.1 (n + (nd m)) ++ bAB k u_3.1 (gcap cap (n + (nd m))) u_3.2) H1 := hP
  replace hD : va_D A (bSO k a u_3.1 (n + (nd m)) ++ bAB k u_3.1 (gcap cap (n + (nd m))) u_3.2) := hD.weaken (fun _ q _ h => hFc q.1 h)
  replace h2 : r_2 = some a ∧ Bf u_3.2 (gcap cap (n + (nd m))) ∧ (∀ j, j < n → u_3.2 j = f j) ∧ ∀ j, j < nd m → u_3.2 (n + j) = (itP m).getD j 0 := h2
  clear hz1 hvm hFc hk1 ht
  clear t9
  generalize H1 = H at hP hS ⊢
  refine lv_tope (v2 := .ref a) (by rw [h2.1]; rfl) ?_
  refine lv_pop hx hb dJ4_append_bf812_5 rfl ?_
  refine lv_aload_n hx hb dJ4_append_bf812_6 rfl (lv_at hl 0 rfl) ?_
  exact W.aret (v := .ref a) hx hb hr (Or.inl ⟨_, rfl⟩) (Or.inr ⟨_, rfl⟩) (fun t9 ht hW => ⟨⟨some a, u_3, rfl, (by exact ⟨rfl, h2.2⟩), ⟨by rw [ht]; exact hP, va_K.moved hW.alike hK, hD⟩⟩, hS.F ht⟩) hS.2.2 dJ4_append_bf812_7 hlocks

set_option maxHeartbeats 4000000 in
set_option maxRecDepth 100000 in
theorem t_J5_appendI_n (l9 : Launch) (hl9 : l9.stackTraces = false) (E : EK) (D : va_G) (k : Nat → ClassId) (sz : Nat) (a b n cap : Nat) (f : Nat → Int32) (m : Nat) (h1 : 1 ≤ m) (hm : m ≤ 2 ^ 31) (hm2 : n + (nd m + 1) < 2 ^ 28) (hcap : cap < 2 ^ 28) (hn : n ≤ cap) (hf : Bf f cap) : Met l9 yJ5_append_c97b9 wsJ5_append_c97b9 ({ frames := 4, cells := 1, slots := gms cap (n + (nd m + 1)), locals := 104 }) (TPc E D k [.ref a, .int (-(nI m))] (bSO k a b n ++ bAB k b cap f) sz) (va_Qq (fun (r : Option Nat) (u9 : Nat × (Nat → Int32)) => r = some a ∧ Bf u9.2 (gcap cap (n + (nd m + 1))) ∧ (∀ j, j < n → u9.2 j = f j) ∧ ∀ j, j < nd m + 1 → u9.2 (n + j) = (itN m).getD j 0) (TB D k (va_A (bSO k a b n ++ bAB k b cap f) sz) (fun u9 : Nat × (Nat → Int32) => bSO k a u9.1 (n + (nd m + 1)) ++ bAB k u9.1 (gcap cap (n + (nd m + 1))) u9.2)) (va_A (bSO k a b n ++ bAB k b cap f) sz)) (1) (gms cap (n + (nd m + 1))) (va_A (bSO k a b n ++ bAB k b cap f) sz) := by
  refine tMet (y := yJ5_append_c97b9) (cc := cJ5_append_c97b9) (maxL := 4) (ret := (some (.object "java/lang/AbstractStringBuilder"))) (Qc := fun A => va_Qq (fun (r : Option Nat) (u9 : Nat × (Nat → Int32)) => r = some a ∧ Bf u9.2 (gcap cap (n + (nd m + 1))) ∧ (∀ j, j < n → u9.2 j = f j) ∧ ∀ j, j < nd m + 1 → u9.2 (n + j) = (itN m).getD j 0) (TB D k (A) (fun u9 : Nat × (Nat → Int32) => bSO k a u9.1 (n + (nd m + 1)) ++ bAB k u9.1 (gcap cap (n + (nd m + 1))) u9.2)) (A)) [.ref a, .int (-(nI m))] (by decide) rfl (Nat.le_of_ble_eq_true rfl) ?_
  intro p9 e9 s9 m9 bl9 me9 c9 ls A H hF hr hlocks hP hK hE hD hA hS hl hin
  have hl : lv_has ls 4 [(0, .ref a), (1, .int (-(nI m)))] := hl
  obtain ⟨hx, hb, hml, hown, hts⟩ := id hF
  have k_fieldLink_79 : (Cond.fieldLink RJ5 79 "java/lang/AbstractStringBuilder" "count" "I").before _ s9 = true := hts (.fieldLink RJ5 79 "java/lang/AbstractStringBuilder" "count" "I") (by decide +kernel)
  have kc_RJ4 : ∀ w ∈ u_ws RJ4 TJ4 4, w ∈ wsJ5_append_c97b9 := by decide +kernel
  have k_fieldLink_15 : (Cond.fieldLink RJ5 15 "java/lang/AbstractStringBuilder" "value" "[B").before _ s9 = true := hts (.fieldLink RJ5 15 "java/lang/AbstractStringBuilder" "value" "[B") (by decide +kernel)
  refine lv_aload_n hx hb dJ5_append_c97b9_0 rfl (lv_at hl 0 rfl) ?_
  refine va_get (D := D) (ci := 1) (v := .int (nI n)) (C := RJ4) (T := TJ4) (N := 4) hx hb hts kc_RJ4 hown hK hP 0 rfl rfl 3 (by decide) k_fieldLink_79 (fun _ h9 => h9) rfl dJ5_append_c97b9_1 ?_
  refine lv_istore_n (lv' := [(2, .int (nI n)), (0, .ref a), (1, .int (-(nI m)))]) hx hb dJ5_append_c97b9_4 rfl hl (by decide) rfl (fun ls hl => ?_)
  refine lv_iload_n hx hb dJ5_append_c97b9_5 rfl (lv_at hl 0 rfl) ?_
  refine lv_iload_n hx hb dJ5_append_c97b9_6 rfl (lv_at hl 2 rfl) ?_
  have hP : va_P D vwCl ([] ++ (bSO k a b n ++ bAB k b cap f)) H := hP
  have hD : va_D A ([] ++ (bSO k a b n ++ bAB k b cap f)) := hD
  have hFc := tFree hD hS hA
  refine va_calli (va_runS (As := [.int (-(nI m))]) (rest := [.int (nI n)]) hF (fr_i (bSO k a b n ++ bAB k b cap f) (t_stringSize_n l9 hl9 E D k H.size m h1 hm)) (va_cwS 1 hts gJ5_append_c97b9_J6_stringSize_0f7a4 rfl rfl rfl (by decide +kernel) ⟨Nat.le_of_ble_eq_true rfl, Nat.le_of_ble_eq_true rfl⟩) (tPreS hK hE hS hA hP hD) rfl rfl hl.1 rfl (lv_room (Nat.le_of_ble_eq_true rfl)) dJ5_append_c97b9_7 ⟨(Nat.le_of_ble_eq_true rfl), (by show 0 ≤ gms cap (n + (nd m + 1)); omega)⟩) hS (fun q _ h => hFc q h) hFc (fun r_2 u_3 t9 H1 locs ht hvm hw_4 hB hz1 hk1 hS => ?_)
  obtain ⟨hP, -, hD⟩ := hB
  rw [ht] at hP
  replace hP : va_P D vwCl (([]) ++ (bSO k a b n ++ bAB k b cap f)) H1 := hP
  replace hD : va_D A (([]) ++ (bSO k a b n ++ bAB k b cap f)) := hD.weaken (fun _ q _ h => hFc q.1 h)
  replace hP : va_P D vwCl (bSO k a b n ++ bAB k b cap f) H1 := hP
  replace hD : va_D A (bSO k a b n ++ bAB k b cap f) := hD
  replace hw_4 : r_2 = nI (nd m + 1) := hw_4
  clear hz1 hvm hFc hk1 ht
  clear t9
  generalize H1 = H at hP hS ⊢
  refine lv_tope (v2 := .int (nI (nd m + 1))) (by rw [hw_4]) ?_
  refine ni_add hx hb n (nd m + 1) dJ5_append_c97b9_10 ?_
  refine lv_istore_n (lv' := [(3, .int (nI (n + (nd m + 1)))), (2, .int (nI n)), (0, .ref a), (1, .int (-(nI m)))]) hx hb dJ5_append_c97b9_11 rfl hl (by decide) rfl (fun ls hl => ?_)
  refine lv_aload_n hx hb dJ5_append_c97b9_12 rfl (lv_at hl 2 rfl) ?_
  refine lv_iload_n hx hb dJ5_append_c97b9_13 rfl (lv_at hl 0 rfl) ?_
  have hFc := tFree hD hS hA
  refine va_callv (va_runU (As := [.int (nI (n + (nd m + 1)))]) (rest := []) hF (t_J5_ensureCapacityInternal_d00df l9 hl9 E D k H.size a b n cap f (n + (nd m + 1)) (by omega) (by omega) hf) (va_cwU 1 hts gJ5_append_c97b9_J5_ensureCapacityInternal_d00df_u100J4 rfl rfl rfl rfl (by decide +kernel) ⟨Nat.le_of_ble_eq_true rfl, Nat.le_of_ble_eq_true rfl⟩) (tPreV (rcv hK hP 0 1 rfl rfl) hK hE hS hA hP hD) rfl rfl hl.1 rfl (lv_room (Nat.le_of_ble_eq_true rfl)) dJ5_append_c97b9_14 ⟨(Nat.le_of_ble_eq_true rfl), (by show gms cap (n + (nd m + 1)) ≤ gms cap (n + (nd m + 1)); omega)⟩) hS (fun q _ h => hFc q h) hFc (fun u_7 t9 H1 locs ht hvm h7 hB hz1 hk1 hS => ?_)
  obtain ⟨hP, -, hD⟩ := hB
  rw [ht] at hP
  replace hP : va_P D vwCl (bSO k a u_7.1 n ++ bAB k u_7.1 (gcap cap (n + (nd m + 1))) u_7.2) H1 := hP
  replace hD : va_D A (bSO k a u_7.1 n ++ bAB k u_7.1 (gcap cap (n + (nd m + 1))) u_7.2) := hD.weaken (fun _ q _ h => hFc q.1 h)
  replace h7 : Bf u_7.2 (gcap cap (n + (nd m + 1))) ∧ ∀ j, j < cap → u_7.2 j = f j := h7
  clear hz1 hvm hFc hk1 ht
  clear t9
  generalize H1 = H at hP hS ⊢
  refine lv_aload_n hx hb dJ5_append_c97b9_17 rfl (lv_at hl 2 rfl) ?_
  have hFc := tFree hD hS hA
  refine va_calli (va_runU (As := []) (rest := []) hF (fr_i (bAB k u_7.1 (gcap cap (n + (nd m + 1))) u_7.2) (t_J5_isLatin1_aae02 l9 hl9 E D k H.size a u_7.1 n )) (va_cwU 0 hts gJ5_append_c97b9_J5_isLatin1_aae02_u83J4 rfl rfl rfl rfl (by decide +kernel) ⟨Nat.le_of_ble_eq_true rfl, Nat.le_of_ble_eq_true rfl⟩) (tPreV (rcv hK hP 0 1 rfl rfl) hK hE hS hA hP hD) rfl rfl hl.1 rfl (lv_room (Nat.le_of_ble_eq_true rfl)) dJ5_append_c97b9_18 ⟨(Nat.le_of_ble_eq_true rfl), (by show gms cap (n + (nd m + 1)) ≤ gms cap (n + (nd m + 1)); omega)⟩) hS (fun q _ h => hFc q h) hFc (fun r_9 u_10 t9 H1 locs ht hvm hw_11 hB hz1 hk1 hS => ?_)
  obtain ⟨hP, -, hD⟩ := hB
  rw [ht] at hP
  replace hP : va_P D vwCl ((bSO k a u_7.1 n) ++ bAB k u_7.1 (gcap cap (n + (nd m + 1))) u_7.2) H1 := hP
  replace hD : va_D A ((bSO k a u_7.1 n) ++ bAB k u_7.1 (gcap cap (n + (nd m + 1))) u_7.2) := hD.weaken (fun _ q _ h => hFc q.1 h)
  replace hw_11 : r_9 = 1 := hw_11
  clear hz1 hvm hFc hk1 ht
  clear t9
  generalize H1 = H at hP hS ⊢
  refine lv_tope (v2 := .int 1) (by rw [hw_11]) ?_
  refine lv_if_eq (tgt := 37) hx hb dJ5_append_c97b9_21 (by decide) (fun c_12 => ?_) (fun c_12 => ?_)
  · first | exact absurd c_12 (by decide) | exact absurd (by decide) c_12
  · skip
    refine lv_iload_n hx hb dJ5_append_c97b9_24 rfl (lv_at hl 3 rfl) ?_
    refine lv_iload_n hx hb dJ5_append_c97b9_25 rfl (lv_at hl 0 rfl) ?_
    refine lv_aload_n hx hb dJ5_append_c97b9_26 rfl (lv_at hl 2 rfl) ?_
    refine va_get (D := D) (ci := 1) (v := .ref u_7.1) (C := RJ4) (T := TJ4) (N := 4) hx hb hts kc_RJ4 hown hK hP 0 rfl rfl 0 (by decide) k_fieldLink_15 (fun _ h9 => h9) rfl dJ5_append_c97b9_27 ?_
    have hP : va_P D vwCl (bAB k u_7.1 (gcap cap (n + (nd m + 1))) u_7.2 ++ bSO k a u_7.1 n) H := vP_perm hP (pmX (pmS (bSO k a u_7.1 n) (pmE (bAB k u_7.1 (gcap cap (n + (nd m + 1))) u_7.2))))
    have hD : va_D A (bAB k u_7.1 (gcap cap (n + (nd m + 1))) u_7.2 ++ bSO k a u_7.1 n) := vD_perm hD (pmX (pmS (bSO k a u_7.1 n) (pmE (bAB k u_7.1 (gcap cap (n + (nd m + 1))) u_7.2))))
    have hFc := tFree hD hS hA
    refine va_calli (va_runS (As := [.int (-(nI m)), .int (nI (n + (nd m + 1))), .ref u_7.1]) (rest := []) hF (fr_i (bSO k a u_7.1 n) (t_getChars_n l9 hl9 E D k H.size (n + (nd m + 1)) m u_7.1 (gcap cap (n + (nd m + 1))) u_7.2 h1 hm (by omega) (by have := gcap_ge cap (n + (nd m + 1)); omega) (by have := gcap_lt (cap := cap) (n := n + (nd m + 1)) (b := 2 ^ 28) (by omega) (by omega); omega) h7.1)) (va_cwS 3 hts gJ5_append_c97b9_J6_getChars_ba4f3 rfl rfl rfl (by decide +kernel) ⟨Nat.le_of_ble_eq_true rfl, Nat.le_of_ble_eq_true rfl⟩) (tPreS hK hE hS hA hP hD) rfl rfl hl.1 rfl (lv_room (Nat.le_of_ble_eq_true rfl)) dJ5_append_c97b9_30 ⟨(Nat.le_of_ble_eq_true rfl), (by show gms cap (n + (nd m + 1)) ≤ gms cap (n + (nd m + 1)); omega)⟩) hS (fun q _ h => hFc q h) hFc (fun r_14 u_15 t9 H1 locs ht hvm h30 hB hz1 hk1 hS => ?_)
    obtain ⟨hP, -, hD⟩ := hB
    rw [ht] at hP
    replace hP : va_P D vwCl ((bAB k u_7.1 (gcap cap (n + (nd m + 1))) u_15) ++ bSO k a u_7.1 n) H1 := hP
    replace hD : va_D A ((bAB k u_7.1 (gcap cap (n + (nd m + 1))) u_15) ++ bSO k a u_7.1 n) := hD.weaken (fun _ q _ h => hFc q.1 h)
    replace h30 : Bf u_15 (gcap cap (n + (nd m + 1))) ∧ (∀ j, j < nd m → u_15 ((n + (nd m + 1)) - 1 - j) = nI (48 + m / 10 ^ j % 10)) ∧ (∀ j, j < (n + (nd m + 1)) - nd m + 1 → u_15 j = u_7.2 j) ∧ u_15 ((n + (nd m + 1)) - nd m - 1) = 45 := h30
    clear hz1 hvm hFc hk1 ht
    clear t9
    generalize H1 = H at hP hS ⊢
    refine lv_pop hx hb dJ5_append_c97b9_33 rfl ?_
    refine lv_goto (tgt := 48) hx hb dJ5_append_c97b9_34 (by decide) ?_
    refine lv_aload_n hx hb dJ5_append_c97b9_48 rfl (lv_at hl 2 rfl) ?_
    refine lv_iload_n hx hb dJ5_append_c97b9_49 rfl (lv_at hl 0 rfl) ?_
    refine va_put (D := D) (ci := 1) (v := .int (nI (n + (nd m + 1)))) (ty := .int) (C := RJ4) (T := TJ4) (N := 4) hx hb hts kc_RJ4 tyJ4 tyJ4_ok nmJ4 hown hK hP hD hS 1 rfl rfl 3 (by decide) k_fieldLink_79 (fun _ h9 => h9) rfl (by decide +kernel) rfl rfl (Nat.le_of_ble_eq_true rfl) dJ5_append_c97b9_50 (fun H locs hP hD hS => ?_)
    have hP : va_P D vwCl (bAB k u_7.1 (gcap cap (n + (nd m + 1))) u_15 ++ bSO k a u_7.1 (n + (nd m + 1))) H := hP
    have hD : va_D A (bAB k u_7.1 (gcap cap (n + (nd m + 1))) u_15 ++ bSO k a u_7.1 (n + (nd m + 1))) := hD
    refine lv_aload_n hx hb dJ5_append_c97b9_53 rfl (lv_at hl 2 rfl) ?_
    have hP : va_P D vwCl (bSO k a u_7.1 (n + (nd m + 1)) ++ bAB k u_7.1 (gcap cap (n + (nd m + 1))) u_15) H := vP_perm hP (pmX (pmS (bAB k u_7.1 (gcap cap (n + (nd m + 1))) u_15) (pmE (bSO k a u_7.1 (n + (nd m + 1))))))
    have hD : va_D A (bSO k a u_7.1 (n + (nd m + 1)) ++ bAB k u_7.1 (gcap cap (n + (nd m + 1))) u_15) := vD_perm hD (pmX (pmS (bAB k u_7.1 (gcap cap (n + (nd m + 1))) u_15) (pmE (bSO k a u_7.1 (n + (nd m + 1))))))
    exact W.aret (v := .ref a) hx hb hr (Or.inl ⟨_, rfl⟩) (Or.inr ⟨_, rfl⟩) (fun t9 ht hW => ⟨⟨some a, (u_7.1, u_15), rfl, (by exact ⟨rfl, h30.1, fun j hj => (by rw [h30.2.2.1 j (by omega)]; exact h7.2 j (by omega)), itN_at h30⟩), ⟨by rw [ht]; exact hP, va_K.moved hW.alike hK, hD⟩⟩, hS.F ht⟩) hS.2.2 dJ5_append_c97b9_54 hlocks

set_option maxHeartbeats 4000000 in
set_option maxRecDepth 100000 in
theorem t_J4_appendI_n (l9 : Launch) (hl9 : l9.stackTraces = false) (E : EK) (D : va_G) (k : Nat → ClassId) (sz : Nat) (a b n cap : Nat) (f : Nat → Int32) (m : Nat) (h1 : 1 ≤ m) (hm : m ≤ 2 ^ 31) (hm2 : n + (nd m + 1) < 2 ^ 28) (hcap : cap < 2 ^ 28) (hn : n ≤ cap) (hf : Bf f cap) : Met l9 yJ4_append_bf812 wsJ4_append_bf812 ({ frames := 5, cells := 1, slots := gms cap (n + (nd m + 1)), locals := 127 }) (TPc E D k [.ref a, .int (-(nI m))] (bSO k a b n ++ bAB k b cap f) sz) (va_Qq (fun (r : Option Nat) (u9 : Nat × (Nat → Int32)) => r = some a ∧ Bf u9.2 (gcap cap (n + (nd m + 1))) ∧ (∀ j, j < n → u9.2 j = f j) ∧ ∀ j, j < nd m + 1 → u9.2 (n + j) = (itN m).getD j 0) (TB D k (va_A (bSO k a b n ++ bAB k b cap f) sz) (fun u9 : Nat × (Nat → Int32) => bSO k a u9.1 (n + (nd m + 1)) ++ bAB k u9.1 (gcap cap (n + (nd m + 1))) u9.2)) (va_A (bSO k a b n ++ bAB k b cap f) sz)) (1) (gms cap (n + (nd m + 1))) (va_A (bSO k a b n ++ bAB k b cap f) sz) := by
  refine tMet (y := yJ4_append_bf812) (cc := cJ4_append_bf812) (maxL := 2) (ret := (some (.object "java/lang/StringBuilder"))) (Qc := fun A => va_Qq (fun (r : Option Nat) (u9 : Nat × (Nat → Int32)) => r = some a ∧ Bf u9.2 (gcap cap (n + (nd m + 1))) ∧ (∀ j, j < n → u9.2 j = f j) ∧ ∀ j, j < nd m + 1 → u9.2 (n + j) = (itN m).getD j 0) (TB D k (A) (fun u9 : Nat × (Nat → Int32) => bSO k a u9.1 (n + (nd m + 1)) ++ bAB k u9.1 (gcap cap (n + (nd m + 1))) u9.2)) (A)) [.ref a, .int (-(nI m))] (by decide) rfl (Nat.le_of_ble_eq_true rfl) ?_
  intro p9 e9 s9 m9 bl9 me9 c9 ls A H hF hr hlocks hP hK hE hD hA hS hl hin
  have hl : lv_has ls 2 [(0, .ref a), (1, .int (-(nI m)))] := hl
  obtain ⟨hx, hb, hml, hown, hts⟩ := id hF
  refine lv_aload_n hx hb dJ4_append_bf812_0 rfl (lv_at hl 0 rfl) ?_
  refine lv_iload_n hx hb dJ4_append_bf812_1 rfl (lv_at hl 1 rfl) ?_
  have hFc := tFree hD hS hA
  refine va_callq (va_runSU (As := [.int (-(nI m))]) (rest := []) (hK.1 1 _ rfl).2 hF (t_J5_appendI_n l9 hl9 E D k H.size a b n cap f m h1 hm hm2 hcap hn hf) (va_cwSU 1 hts gJ4_append_bf812_J5_append_c97b9_s53 rfl rfl rfl (by decide +kernel) ⟨Nat.le_of_ble_eq_true rfl, Nat.le_of_ble_eq_true rfl⟩) (tPreV (rcv hK hP 0 1 rfl rfl) hK hE hS hA hP hD) rfl rfl hl.1 rfl (lv_room (Nat.le_of_ble_eq_true rfl)) dJ4_append_bf812_2 ⟨(Nat.le_of_ble_eq_true rfl), (by show gms cap (n + (nd m + 1)) ≤ gms cap (n + (nd m + 1)); omega)⟩) hS (fun q _ h => hFc q h) hFc (fun r_2 u_3 t9 H1 locs ht hvm h2 hB hz1 hk1 hS => ?_)
  obtain ⟨hP, -, hD⟩ := hB
  rw [ht] at hP
  replace hP : va_P D vwCl (bSO k a u_3.1 (n + (nd m + 1)) ++ bAB k u_3.1 (gcap cap (n + (nd m + 1))) u_3.2) H1 := hP
  replace hD : va_D A (bSO k a u_3.1 (n + (nd m + 1)) ++ bAB k u_3.1 (gcap cap (n + (nd m + 1))) u_3.2) := hD.weaken (fun _ q _ h => hFc q.1 h)
  replace h2 : r_2 = some a ∧ Bf u_3.2 (gcap cap (n + (nd m + 1))) ∧ (∀ j, j < n → u_3.2 j = f j) ∧ ∀ j, j < nd m + 1 → u_3.2 (n + j) = (itN m).getD j 0 := h2
  clear hz1 hvm hFc hk1 ht
  clear t9
  generalize H1 = H at hP hS ⊢
  refine lv_tope (v2 := .ref a) (by rw [h2.1]; rfl) ?_
  refine lv_pop hx hb dJ4_append_bf812_5 rfl ?_
  refine lv_aload_n hx hb dJ4_append_bf812_6 rfl (lv_at hl 0 rfl) ?_
  exact W.aret (v := .ref a) hx hb hr (Or.inl ⟨_, rfl⟩) (Or.inr ⟨_, rfl⟩) (fun t9 ht hW => ⟨⟨some a, u_3, rfl, (by exact ⟨rfl, h2.2⟩), ⟨by rw [ht]; exact hP, va_K.moved hW.alike hK, hD⟩⟩, hS.F ht⟩) hS.2.2 dJ4_append_bf812_7 hlocks

set_option maxHeartbeats 4000000 in
set_option maxRecDepth 100000 in
theorem t_J5_init_d00df (l9 : Launch) (hl9 : l9.stackTraces = false) (E : EK) (D : va_G) (k : Nat → ClassId) (sz : Nat) (a c : Nat) (hc : c < 2 ^ 28) : Met l9 yJ5_init_d00df wsJ5_init_d00df ({ frames := 1, cells := 1, slots := c, locals := 20 }) (TPc E D k [.ref a, .int (nI c)] (bOJ4 k a .null (.int 0) (.int 0) (.int 0)) sz) (va_Qv (fun (u9 : Nat) => True) (TB D k (va_A (bOJ4 k a .null (.int 0) (.int 0) (.int 0)) sz) (fun u9 : Nat => bSO k a u9 0 ++ bAB k u9 c (fun _ => 0))) (va_A (bOJ4 k a .null (.int 0) (.int 0) (.int 0)) sz)) (1) (c) (va_A (bOJ4 k a .null (.int 0) (.int 0) (.int 0)) sz) := by
  refine tMet (y := yJ5_init_d00df) (cc := cJ5_init_d00df) (maxL := 2) (ret := none) (Qc := fun A => va_Qv (fun (u9 : Nat) => True) (TB D k (A) (fun u9 : Nat => bSO k a u9 0 ++ bAB k u9 c (fun _ => 0))) (A)) [.ref a, .int (nI c)] (by decide) rfl (Nat.le_of_ble_eq_true rfl) ?_
  intro p9 e9 s9 m9 bl9 me9 c9 ls A H hF hr hlocks hP hK hE hD hA hS hl hin
  have hl : lv_has ls 2 [(0, .ref a), (1, .int (nI c))] := hl
  obtain ⟨hx, hb, hml, hown, hts⟩ := id hF
  have k_fieldLink_18 : (Cond.fieldLink RJ5 18 "java/lang/String" "COMPACT_STRINGS" "Z").before _ s9 = true := hts (.fieldLink RJ5 18 "java/lang/String" "COMPACT_STRINGS" "Z") (by decide +kernel)
  have k_fieldLink_15 : (Cond.fieldLink RJ5 15 "java/lang/AbstractStringBuilder" "value" "[B").before _ s9 = true := hts (.fieldLink RJ5 15 "java/lang/AbstractStringBuilder" "value" "[B") (by decide +kernel)
  have kc_RJ4 : ∀ w ∈ u_ws RJ4 TJ4 4, w ∈ wsJ5_init_d00df := by decide +kernel
  have k_fieldLink_22 : (Cond.fieldLink RJ5 22 "java/lang/AbstractStringBuilder" "coder" "B").before _ s9 = true := hts (.fieldLink RJ5 22 "java/lang/AbstractStringBuilder" "coder" "B") (by decide +kernel)
  refine lv_aload_n hx hb dJ5_init_d00df_0 rfl (lv_at hl 0 rfl) ?_
  refine W.objInit hx hb hown (hts (.methodLink RJ5 3 objectInit) (by decide +kernel)) (hts (.instanceMethod objectInit) (by decide +kernel)) (hts (.code objectInit ⟨#[0xb1]⟩ 1 none) (by decide +kernel)) rfl (by rw [hml]; exact hl.1) rfl dJ5_init_d00df_1 (Nat.le_of_ble_eq_true rfl) (Nat.le_of_ble_eq_true rfl) ?_
  refine W.eq (g2 := F0 m9 4 ls []) rfl ?_
  refine va_gets hx hb hE.2.2.2.2.2.1.2.2.2.2.2.2.1 hS hown k_fieldLink_18 (fun _ h9 => h9) dJ5_init_d00df_4 ?_
  refine lv_if_eq (tgt := 25) hx hb dJ5_init_d00df_7 (by decide) (fun c_1 => ?_) (fun c_1 => ?_)
  · first | exact absurd c_1 (by decide) | exact absurd (by decide) c_1
  · skip
    refine lv_aload_n hx hb dJ5_init_d00df_10 rfl (lv_at hl 0 rfl) ?_
    refine lv_iload_n hx hb dJ5_init_d00df_11 rfl (lv_at hl 1 rfl) ?_
    refine nw_arr (atype := .byte) hx hb (hts (.arrayClass .byte) (by decide +kernel)) rfl hK hP hD hS hA (a0 := (c, .inl (fun _ => 0))) (N' := c) (fun _ => rfl) (nI_nn (by omega)) (nI_clamp (by omega)) (by show c * 1 ≤ 536870912; omega) (Nat.le_of_ble_eq_true rfl) (by show c ≤ c; omega) 8 rfl dJ5_init_d00df_12 (fun q_2 H hP hD hS => ?_)
    have hP : va_P D vwCl (bAB k q_2 c (fun _ => 0) ++ bOJ4 k a .null (.int 0) (.int 0) (.int 0)) H := vP_perm hP (pmN _ _)
    have hD : va_D A (bAB k q_2 c (fun _ => 0) ++ bOJ4 k a .null (.int 0) (.int 0) (.int 0)) := vD_perm hD (pmN _ _)
    refine va_put (D := D) (ci := 1) (v := .ref q_2) (ty := (.array .byte)) (C := RJ4) (T := TJ4) (N := 4) hx hb hts kc_RJ4 tyJ4 tyJ4_ok nmJ4 hown hK hP hD hS 1 rfl rfl 0 (by decide) k_fieldLink_15 (fun _ h9 => h9) rfl (by decide +kernel) rfl rfl (Nat.le_of_ble_eq_true rfl) dJ5_init_d00df_14 (fun H locs hP hD hS => ?_)
    have hP : va_P D vwCl (bAB k q_2 c (fun _ => 0) ++ bOJ4 k a (.ref q_2) (.int 0) (.int 0) (.int 0)) H := hP
    have hD : va_D A (bAB k q_2 c (fun _ => 0) ++ bOJ4 k a (.ref q_2) (.int 0) (.int 0) (.int 0)) := hD
    refine lv_aload_n hx hb dJ5_init_d00df_17 rfl (lv_at hl 0 rfl) ?_
    refine lv_iconst (v := 0) hx hb dJ5_init_d00df_18 (by decide) ?_
    refine va_put (D := D) (ci := 1) (v := .int 0) (ty := .byte) (C := RJ4) (T := TJ4) (N := 4) hx hb hts kc_RJ4 tyJ4 tyJ4_ok nmJ4 hown hK hP hD hS 1 rfl rfl 1 (by decide) k_fieldLink_22 (fun _ h9 => h9) rfl (by decide +kernel) rfl rfl (Nat.le_of_ble_eq_true rfl) dJ5_init_d00df_19 (fun H locs hP hD hS => ?_)
    have hP : va_P D vwCl (bAB k q_2 c (fun _ => 0) ++ bOJ4 k a (.ref q_2) (.int 0) (.int 0) (.int 0)) H := hP
    have hD : va_D A (bAB k q_2 c (fun _ => 0) ++ bOJ4 k a (.ref q_2) (.int 0) (.int 0) (.int 0)) := hD
    refine lv_goto (tgt := 38) hx hb dJ5_init_d00df_22 (by decide) ?_
    have hP : va_P D vwCl (bAB k q_2 c (fun _ => 0) ++ bSO k a q_2 0) H := hP
    have hD : va_D A (bAB k q_2 c (fun _ => 0) ++ bSO k a q_2 0) := hD
    have hP : va_P D vwCl (bSO k a q_2 0 ++ bAB k q_2 c (fun _ => 0)) H := vP_perm hP (pmX (pmS (bAB k q_2 c (fun _ => 0)) (pmE (bSO k a q_2 0))))
    have hD : va_D A (bSO k a q_2 0 ++ bAB k q_2 c (fun _ => 0)) := vD_perm hD (pmX (pmS (bAB k q_2 c (fun _ => 0)) (pmE (bSO k a q_2 0))))
    exact W.vret hx hb hr (fun t9 ht hW => ⟨⟨q_2, rfl, (by trivial), ⟨by rw [ht]; exact hP, va_K.moved hW.alike hK, hD⟩⟩, hS.F ht⟩) hS.2.2 dJ5_init_d00df_38 hlocks

set_option maxHeartbeats 4000000 in
set_option maxRecDepth 100000 in
theorem t_J4_init_da8c8 (l9 : Launch) (hl9 : l9.stackTraces = false) (E : EK) (D : va_G) (k : Nat → ClassId) (sz : Nat) (a : Nat) : Met l9 yJ4_init_da8c8 wsJ4_init_da8c8 ({ frames := 2, cells := 1, slots := 16, locals := 41 }) (TPc E D k [.ref a] (bOJ4 k a .null (.int 0) (.int 0) (.int 0)) sz) (va_Qv (fun (u9 : Nat) => True) (TB D k (va_A (bOJ4 k a .null (.int 0) (.int 0) (.int 0)) sz) (fun u9 : Nat => bSO k a u9 0 ++ bAB k u9 16 (fun _ => 0))) (va_A (bOJ4 k a .null (.int 0) (.int 0) (.int 0)) sz)) (1) (16) (va_A (bOJ4 k a .null (.int 0) (.int 0) (.int 0)) sz) := by
  refine tMet (y := yJ4_init_da8c8) (cc := cJ4_init_da8c8) (maxL := 1) (ret := none) (Qc := fun A => va_Qv (fun (u9 : Nat) => True) (TB D k (A) (fun u9 : Nat => bSO k a u9 0 ++ bAB k u9 16 (fun _ => 0))) (A)) [.ref a] (by decide) rfl (Nat.le_of_ble_eq_true rfl) ?_
  intro p9 e9 s9 m9 bl9 me9 c9 ls A H hF hr hlocks hP hK hE hD hA hS hl hin
  have hl : lv_has ls 1 [(0, .ref a)] := hl
  obtain ⟨hx, hb, hml, hown, hts⟩ := id hF
  refine lv_aload_n hx hb dJ4_init_da8c8_0 rfl (lv_at hl 0 rfl) ?_
  refine lv_bipush (v := 16) hx hb dJ4_init_da8c8_1 (by decide) ?_
  have hFc := tFree hD hS hA
  refine va_callv (va_runI (As := [.int 16]) (rest := []) hF (t_J5_init_d00df l9 hl9 E D k H.size a 16 (by omega)) (cwI 1 hts gJ4_init_da8c8_J5_init_d00df rfl rfl rfl (hts (.initialized RJ5) (by decide +kernel)) (hts (.methodLink RJ4 1 yJ5_init_d00df) (by decide +kernel)) (hts (.instanceMethod yJ5_init_d00df) (by decide +kernel)) rfl (by decide +kernel) ⟨Nat.le_of_ble_eq_true rfl, Nat.le_of_ble_eq_true rfl⟩) (tPreI hK hE hS hA hP hD) rfl rfl hl.1 rfl (lv_room (Nat.le_of_ble_eq_true rfl)) dJ4_init_da8c8_3 ⟨(Nat.le_of_ble_eq_true rfl), (Nat.le_of_ble_eq_true rfl)⟩) hS (fun q _ h => hFc q h) hFc (fun u_3 t9 H1 locs ht hvm hw_4 hB hz1 hk1 hS => ?_)
  obtain ⟨hP, -, hD⟩ := hB
  rw [ht] at hP
  replace hP : va_P D vwCl (bSO k a u_3 0 ++ bAB k u_3 16 (fun _ => 0)) H1 := hP
  replace hD : va_D A (bSO k a u_3 0 ++ bAB k u_3 16 (fun _ => 0)) := hD.weaken (fun _ q _ h => hFc q.1 h)
  replace hw_4 : True := hw_4
  clear hz1 hvm hFc hk1 ht
  clear t9
  generalize H1 = H at hP hS ⊢
  exact W.vret hx hb hr (fun t9 ht hW => ⟨⟨u_3, rfl, (by trivial), ⟨by rw [ht]; exact hP, va_K.moved hW.alike hK, hD⟩⟩, hS.F ht⟩) hS.2.2 dJ4_init_da8c8_6 hlocks

set_option maxHeartbeats 4000000 in
set_option maxRecDepth 100000 in
theorem t_J5_init_a7421 (l9 : Launch) (hl9 : l9.stackTraces = false) (E : EK) (D : va_G) (k : Nat → ClassId) (sz : Nat) (a s t m : Nat) (g : Nat → Int32) (hm : m < 2 ^ 27) (hg : Bf g m) : Met l9 yJ5_init_a7421 wsJ5_init_a7421 ({ frames := 7, cells := 1 + 1, slots := m + 16, locals := 169 }) (TPc E D k [.ref a, .ref s] (bOJ4 k a .null (.int 0) (.int 0) (.int 0) ++ (bTO k s t ++ bAB k t m g)) sz) (va_Qv (fun (u9 : Nat × (Nat → Int32)) => Bf u9.2 (m + 16) ∧ ∀ j, j < m → u9.2 j = g j) (TB D k (va_A (bOJ4 k a .null (.int 0) (.int 0) (.int 0) ++ (bTO k s t ++ bAB k t m g)) sz) (fun u9 : Nat × (Nat → Int32) => bSO k a u9.1 m ++ (bAB k u9.1 (m + 16) u9.2 ++ (bTO k s t ++ bAB k t m g)))) (va_A (bOJ4 k a .null (.int 0) (.int 0) (.int 0) ++ (bTO k s t ++ bAB k t m g)) sz)) (1 + 1) (m + 16) (va_A (bOJ4 k a .null (.int 0) (.int 0) (.int 0) ++ (bTO k s t ++ bAB k t m g)) sz) := by
  refine tMet (y := yJ5_init_a7421) (cc := cJ5_init_a7421) (maxL := 5) (ret := none) (Qc := fun A => va_Qv (fun (u9 : Nat × (Nat → Int32)) => Bf u9.2 (m + 16) ∧ ∀ j, j < m → u9.2 j = g j) (TB D k (A) (fun u9 : Nat × (Nat → Int32) => bSO k a u9.1 m ++ (bAB k u9.1 (m + 16) u9.2 ++ (bTO k s t ++ bAB k t m g)))) (A)) [.ref a, .ref s] (by decide) rfl (Nat.le_of_ble_eq_true rfl) ?_
  intro p9 e9 s9 m9 bl9 me9 c9 ls A H hF hr hlocks hP hK hE hD hA hS hl hin
  have hl : lv_has ls 5 [(0, .ref a), (1, .ref s)] := hl
  obtain ⟨hx, hb, hml, hown, hts⟩ := id hF
  have k_constant_38 : (Cond.constant RJ5 38 (2147483631)).before _ s9 = true := hts (.constant RJ5 38 (2147483631)) (by decide +kernel)
  have k_fieldLink_22 : (Cond.fieldLink RJ5 22 "java/lang/AbstractStringBuilder" "coder" "B").before _ s9 = true := hts (.fieldLink RJ5 22 "java/lang/AbstractStringBuilder" "coder" "B") (by decide +kernel)
  have kc_RJ4 : ∀ w ∈ u_ws RJ4 TJ4 4, w ∈ wsJ5_init_a7421 := by decide +kernel
  have k_fieldLink_15 : (Cond.fieldLink RJ5 15 "java/lang/AbstractStringBuilder" "value" "[B").before _ s9 = true := hts (.fieldLink RJ5 15 "java/lang/AbstractStringBuilder" "value" "[B") (by decide +kernel)
  refine lv_aload_n hx hb dJ5_init_a7421_0 rfl (lv_at hl 0 rfl) ?_
  refine W.objInit hx hb hown (hts (.methodLink RJ5 3 objectInit) (by decide +kernel)) (hts (.instanceMethod objectInit) (by decide +kernel)) (hts (.code objectInit ⟨#[0xb1]⟩ 1 none) (by decide +kernel)) rfl (by rw [hml]; exact hl.1) rfl dJ5_init_a7421_1 (Nat.le_of_ble_eq_true rfl) (Nat.le_of_ble_eq_true rfl) ?_
  refine W.eq (g2 := F0 m9 4 ls []) rfl ?_
  refine lv_aload_n hx hb dJ5_init_a7421_4 rfl (lv_at hl 1 rfl) ?_
  have hP : va_P D vwCl (bAB k t m g ++ (bOJ4 k a .null (.int 0) (.int 0) (.int 0) ++ bTO k s t)) H := vP_perm hP (pmX (pmS (bOJ4 k a .null (.int 0) (.int 0) (.int 0)) (pmS (bTO k s t) (pmE (bAB k t m g)))))
  have hD : va_D A (bAB k t m g ++ (bOJ4 k a .null (.int 0) (.int 0) (.int 0) ++ bTO k s t)) := vD_perm hD (pmX (pmS (bOJ4 k a .null (.int 0) (.int 0) (.int 0)) (pmS (bTO k s t) (pmE (bAB k t m g)))))
  have hP : va_P D vwCl (bTO k s t ++ (bAB k t m g ++ bOJ4 k a .null (.int 0) (.int 0) (.int 0))) H := vP_perm hP (pmX (pmS (bAB k t m g) (pmS (bOJ4 k a .null (.int 0) (.int 0) (.int 0)) (pmE (bTO k s t)))))
  have hD : va_D A (bTO k s t ++ (bAB k t m g ++ bOJ4 k a .null (.int 0) (.int 0) (.int 0))) := vD_perm hD (pmX (pmS (bAB k t m g) (pmS (bOJ4 k a .null (.int 0) (.int 0) (.int 0)) (pmE (bTO k s t)))))
  have hP : va_P D vwCl ((bTO k s t ++ bAB k t m g) ++ bOJ4 k a .null (.int 0) (.int 0) (.int 0)) H := vP_perm hP (pa2 _ _ _)
  have hD : va_D A ((bTO k s t ++ bAB k t m g) ++ bOJ4 k a .null (.int 0) (.int 0) (.int 0)) := vD_perm hD (pa2 _ _ _)
  have hFc := tFree hD hS hA
  refine va_calli (va_runV (As := []) (rest := []) hF (fr_i (bOJ4 k a .null (.int 0) (.int 0) (.int 0)) (t_J0_length_8abf5 l9 hl9 E D k H.size s t m g )) (cwV 0 hts gJ5_init_a7421_J0_length_8abf5 rfl rfl rfl (by decide +kernel) ⟨Nat.le_of_ble_eq_true rfl, Nat.le_of_ble_eq_true rfl⟩) (tPreV (rcv hK hP 0 0 rfl rfl) hK hE hS hA hP hD) rfl rfl hl.1 rfl (lv_room (Nat.le_of_ble_eq_true rfl)) dJ5_init_a7421_5 ⟨(by show 0 ≤ 1 + 1; first | omega | (rw [show gms (m + 16) (0 + m) = 0 from if_pos (by omega)]; omega)), (by show 0 ≤ m + 16; first | omega | (rw [show gms (m + 16) (0 + m) = 0 from if_pos (by omega)]; omega))⟩) hS (fun q _ h => hFc q h) hFc (fun r_2 u_3 t9 H1 locs ht hvm hw_4 hB hz1 hk1 hS => ?_)
  obtain ⟨hP, -, hD⟩ := hB
  rw [ht] at hP
  replace hP : va_P D vwCl ((bTO k s t ++ bAB k t m g) ++ bOJ4 k a .null (.int 0) (.int 0) (.int 0)) H1 := hP
  replace hD : va_D A ((bTO k s t ++ bAB k t m g) ++ bOJ4 k a .null (.int 0) (.int 0) (.int 0)) := hD.weaken (fun _ q _ h => hFc q.1 h)
  replace hP : va_P D vwCl (bTO k s t ++ (bAB k t m g ++ bOJ4 k a .null (.int 0) (.int 0) (.int 0))) H1 := vP_perm hP (pb2 _ _ _)
  replace hD : va_D A (bTO k s t ++ (bAB k t m g ++ bOJ4 k a .null (.int 0) (.int 0) (.int 0))) := vD_perm hD (pb2 _ _ _)
  replace hw_4 : r_2 = nI m := hw_4
  clear hz1 hvm hFc hk1 ht
  clear t9
  generalize H1 = H at hP hS ⊢
  refine lv_tope (v2 := .int (nI m)) (by rw [hw_4]) ?_
  refine lv_istore_n (lv' := [(2, .int (nI m)), (0, .ref a), (1, .ref s)]) hx hb dJ5_init_a7421_8 rfl hl (by decide) rfl (fun ls hl => ?_)
  refine lv_iload_n hx hb dJ5_init_a7421_9 rfl (lv_at hl 0 rfl) ?_
  refine lv_ldc hx hb hown k_constant_38 dJ5_init_a7421_10 ?_
  refine lv_icmp_ge (tgt := 22) hx hb dJ5_init_a7421_12 (by decide) (fun c_5 => ?_) (fun c_5 => ?_)
  · skip
    have c_5 : 2147483631 ≤ m := (nI_leI (a := 2147483631) (b := m) (by omega) (by omega)).mp c_5
    omega
  · skip
    have c_5 : ¬ 2147483631 ≤ m := fun h => c_5 ((nI_leI (a := 2147483631) (b := m) (by omega) (by omega)).mpr h)
    refine lv_iload_n hx hb dJ5_init_a7421_15 rfl (lv_at hl 0 rfl) ?_
    refine lv_bipush (v := 16) hx hb dJ5_init_a7421_16 (by decide) ?_
    refine ni_add hx hb m 16 dJ5_init_a7421_18 ?_
    refine lv_goto (tgt := 24) hx hb dJ5_init_a7421_19 (by decide) ?_
    refine lv_istore_n (lv' := [(3, .int (nI (m + 16))), (2, .int (nI m)), (0, .ref a), (1, .ref s)]) hx hb dJ5_init_a7421_24 rfl hl (by decide) rfl (fun ls hl => ?_)
    refine lv_aload_n hx hb dJ5_init_a7421_25 rfl (lv_at hl 3 rfl) ?_
    have hFc := tFree hD hS hA
    refine va_calli (va_runV (As := []) (rest := []) hF (fr_i (bAB k t m g ++ bOJ4 k a .null (.int 0) (.int 0) (.int 0)) (t_J0_coder_7d493 l9 hl9 E D k H.size s t )) (cwV 0 hts gJ5_init_a7421_J0_coder_7d493 rfl rfl rfl (by decide +kernel) ⟨Nat.le_of_ble_eq_true rfl, Nat.le_of_ble_eq_true rfl⟩) (tPreV (rcv hK hP 0 0 rfl rfl) hK hE hS hA hP hD) rfl rfl hl.1 rfl (lv_room (Nat.le_of_ble_eq_true rfl)) dJ5_init_a7421_26 ⟨(by show 0 ≤ 1 + 1; first | omega | (rw [show gms (m + 16) (0 + m) = 0 from if_pos (by omega)]; omega)), (by show 0 ≤ m + 16; first | omega | (rw [show gms (m + 16) (0 + m) = 0 from if_pos (by omega)]; omega))⟩) hS (fun q _ h => hFc q h) hFc (fun r_7 u_8 t9 H1 locs ht hvm hw_9 hB hz1 hk1 hS => ?_)
    obtain ⟨hP, -, hD⟩ := hB
    rw [ht] at hP
    replace hP : va_P D vwCl ((bTO k s t) ++ (bAB k t m g ++ bOJ4 k a .null (.int 0) (.int 0) (.int 0))) H1 := hP
    replace hD : va_D A ((bTO k s t) ++ (bAB k t m g ++ bOJ4 k a .null (.int 0) (.int 0) (.int 0))) := hD.weaken (fun _ q _ h => hFc q.1 h)
    replace hw_9 : r_7 = 0 := hw_9
    clear hz1 hvm hFc hk1 ht
    clear t9
    generalize H1 = H at hP hS ⊢
    refine lv_tope (v2 := .int 0) (by rw [hw_9]) ?_
    refine lv_istore (lv' := [(4, .int 0), (3, .int (nI (m + 16))), (2, .int (nI m)), (0, .ref a), (1, .ref s)]) hx hb dJ5_init_a7421_29 hl (by decide) rfl (fun ls hl => ?_)
    refine lv_aload_n hx hb dJ5_init_a7421_31 rfl (lv_at hl 3 rfl) ?_
    refine lv_iload hx hb dJ5_init_a7421_32 (lv_at hl 0 rfl) ?_
    refine va_put (D := D) (ci := 1) (v := .int 0) (ty := .byte) (C := RJ4) (T := TJ4) (N := 4) hx hb hts kc_RJ4 tyJ4 tyJ4_ok nmJ4 hown hK hP hD hS 2 rfl rfl 1 (by decide) k_fieldLink_22 (fun _ h9 => h9) rfl (by decide +kernel) rfl rfl (Nat.le_of_ble_eq_true rfl) dJ5_init_a7421_34 (fun H locs hP hD hS => ?_)
    have hP : va_P D vwCl (bTO k s t ++ (bAB k t m g ++ bOJ4 k a .null (.int 0) (.int 0) (.int 0))) H := hP
    have hD : va_D A (bTO k s t ++ (bAB k t m g ++ bOJ4 k a .null (.int 0) (.int 0) (.int 0))) := hD
    refine lv_aload_n hx hb dJ5_init_a7421_37 rfl (lv_at hl 3 rfl) ?_
    refine lv_iload hx hb dJ5_init_a7421_38 (lv_at hl 0 rfl) ?_
    refine lv_if_ne (tgt := 49) hx hb dJ5_init_a7421_40 (by decide) (fun c_10 => ?_) (fun c_10 => ?_)
    · first | exact absurd c_10 (by decide) | exact absurd (by decide) c_10
    · skip
      refine lv_iload_n hx hb dJ5_init_a7421_43 rfl (lv_at hl 1 rfl) ?_
      refine nw_arr (atype := .byte) hx hb (hts (.arrayClass .byte) (by decide +kernel)) rfl hK hP hD hS hA (a0 := (m + 16, .inl (fun _ => 0))) (N' := (m + 16)) (fun _ => rfl) (nI_nn (by omega)) (nI_clamp (by omega)) (by show (m + 16) * 1 ≤ 536870912; omega) (by show 1 ≤ 1 + 1; first | omega | (rw [show gms (m + 16) (0 + m) = 0 from if_pos (by omega)]; omega)) (by show m + 16 ≤ m + 16; first | omega | (rw [show gms (m + 16) (0 + m) = 0 from if_pos (by omega)]; omega)) 8 rfl dJ5_init_a7421_44 (fun q_11 H hP hD hS => ?_)
      have hP : va_P D vwCl (bAB k q_11 (m + 16) (fun _ => 0) ++ (bTO k s t ++ (bAB k t m g ++ bOJ4 k a .null (.int 0) (.int 0) (.int 0)))) H := vP_perm hP (pmN _ _)
      have hD : va_D A (bAB k q_11 (m + 16) (fun _ => 0) ++ (bTO k s t ++ (bAB k t m g ++ bOJ4 k a .null (.int 0) (.int 0) (.int 0)))) := vD_perm hD (pmN _ _)
      refine lv_goto (tgt := 53) hx hb dJ5_init_a7421_46 (by decide) ?_
      refine va_put (D := D) (ci := 1) (v := .ref q_11) (ty := (.array .byte)) (C := RJ4) (T := TJ4) (N := 4) hx hb hts kc_RJ4 tyJ4 tyJ4_ok nmJ4 hown hK hP hD hS 3 rfl rfl 0 (by decide) k_fieldLink_15 (fun _ h9 => h9) rfl (by decide +kernel) rfl rfl (Nat.le_of_ble_eq_true rfl) dJ5_init_a7421_53 (fun H locs hP hD hS => ?_)
      have hP : va_P D vwCl (bAB k q_11 (m + 16) (fun _ => 0) ++ (bTO k s t ++ (bAB k t m g ++ bOJ4 k a (.ref q_11) (.int 0) (.int 0) (.int 0)))) H := hP
      have hD : va_D A (bAB k q_11 (m + 16) (fun _ => 0) ++ (bTO k s t ++ (bAB k t m g ++ bOJ4 k a (.ref q_11) (.int 0) (.int 0) (.int 0)))) := hD
      refine lv_aload_n hx hb dJ5_init_a7421_56 rfl (lv_at hl 3 rfl) ?_
      refine lv_aload_n hx hb dJ5_init_a7421_57 rfl (lv_at hl 4 rfl) ?_
      have hP : va_P D vwCl (bAB k q_11 (m + 16) (fun _ => 0) ++ (bTO k s t ++ (bAB k t m g ++ bSO k a q_11 0))) H := hP
      have hD : va_D A (bAB k q_11 (m + 16) (fun _ => 0) ++ (bTO k s t ++ (bAB k t m g ++ bSO k a q_11 0))) := hD
      have hP : va_P D vwCl (bAB k t m g ++ (bAB k q_11 (m + 16) (fun _ => 0) ++ (bTO k s t ++ bSO k a q_11 0))) H := vP_perm hP (pmS (bAB k q_11 (m + 16) (fun _ => 0)) (pmS (bTO k s t) (pm0 (bAB k t m g) (bSO k a q_11 0))))
      have hD : va_D A (bAB k t m g ++ (bAB k q_11 (m + 16) (fun _ => 0) ++ (bTO k s t ++ bSO k a q_11 0))) := vD_perm hD (pmS (bAB k q_11 (m + 16) (fun _ => 0)) (pmS (bTO k s t) (pm0 (bAB k t m g) (bSO k a q_11 0))))
      have hP : va_P D vwCl (bTO k s t ++ (bAB k t m g ++ (bAB k q_11 (m + 16) (fun _ => 0) ++ bSO k a q_11 0))) H := vP_perm hP (pmS (bAB k t m g) (pmS (bAB k q_11 (m + 16) (fun _ => 0)) (pm0 (bTO k s t) (bSO k a q_11 0))))
      have hD : va_D A (bTO k s t ++ (bAB k t m g ++ (bAB k q_11 (m + 16) (fun _ => 0) ++ bSO k a q_11 0))) := vD_perm hD (pmS (bAB k t m g) (pmS (bAB k q_11 (m + 16) (fun _ => 0)) (pm0 (bTO k s t) (bSO k a q_11 0))))
      have hP : va_P D vwCl (bAB k q_11 (m + 16) (fun _ => 0) ++ (bTO k s t ++ (bAB k t m g ++ bSO k a q_11 0))) H := vP_perm hP (pmS (bTO k s t) (pmS (bAB k t m g) (pm0 (bAB k q_11 (m + 16) (fun _ => 0)) (bSO k a q_11 0))))
      have hD : va_D A (bAB k q_11 (m + 16) (fun _ => 0) ++ (bTO k s t ++ (bAB k t m g ++ bSO k a q_11 0))) := vD_perm hD (pmS (bTO k s t) (pmS (bAB k t m g) (pm0 (bAB k q_11 (m + 16) (fun _ => 0)) (bSO k a q_11 0))))
      have hP : va_P D vwCl (bSO k a q_11 0 ++ (bAB k q_11 (m + 16) (fun _ => 0) ++ (bTO k s t ++ bAB k t m g))) H := vP_perm hP (pmX (pmS (bAB k q_11 (m + 16) (fun _ => 0)) (pmS (bTO k s t) (pmS (bAB k t m g) (pmE (bSO k a q_11 0))))))
      have hD : va_D A (bSO k a q_11 0 ++ (bAB k q_11 (m + 16) (fun _ => 0) ++ (bTO k s t ++ bAB k t m g))) := vD_perm hD (pmX (pmS (bAB k q_11 (m + 16) (fun _ => 0)) (pmS (bTO k s t) (pmS (bAB k t m g) (pmE (bSO k a q_11 0))))))
      have hFc := tFree hD hS hA
      refine va_callq (va_runU (As := [.ref s]) (rest := []) hF (t_J4_append_cf1ce l9 hl9 E D k H.size a q_11 0 (m + 16) (fun _ => 0) s t m g (by omega) hg (by omega) (by omega) (Bf_0 _)) (va_cwO 1 hts gJ5_init_a7421_J4_append_cf1ce_u43J4 rfl rfl rfl (by decide +kernel : Cond.code yJ5_append_cf1ce cJ5_append_cf1ce 3 (some (.object "java/lang/AbstractStringBuilder")) ∈ wsJ5_init_a7421) (by decide +kernel) ⟨Nat.le_of_ble_eq_true rfl, Nat.le_of_ble_eq_true rfl⟩) (tPreV (rcv hK hP 0 1 rfl rfl) hK hE hS hA hP hD) rfl rfl hl.1 rfl (lv_room (Nat.le_of_ble_eq_true rfl)) dJ5_init_a7421_58 ⟨(by show 2 ≤ 1 + 1; first | omega | (rw [show gms (m + 16) (0 + m) = 0 from if_pos (by omega)]; omega)), (by show m + 16 + (gms (m + 16) (0 + m)) ≤ m + 16; first | omega | (rw [show gms (m + 16) (0 + m) = 0 from if_pos (by omega)]; omega))⟩) hS (fun q _ h => hFc q h) hFc (fun r_13 u_14 t9 H1 locs ht hvm h58 hB hz1 hk1 hS => ?_)
      obtain ⟨hP, -, hD⟩ := hB
      rw [ht] at hP
      replace hP : va_P D vwCl (bSO k a u_14.1 (0 + m) ++ (bAB k u_14.1 (gcap (m + 16) (0 + m)) u_14.2 ++ (bTO k s t ++ bAB k t m g))) H1 := hP
      replace hD : va_D A (bSO k a u_14.1 (0 + m) ++ (bAB k u_14.1 (gcap (m + 16) (0 + m)) u_14.2 ++ (bTO k s t ++ bAB k t m g))) := hD.weaken (fun _ q _ h => hFc q.1 h)
      replace h58 : r_13 = some a ∧ Bf u_14.2 (gcap (m + 16) (0 + m)) ∧ (∀ j, j < 0 → u_14.2 j = (fun _ => 0) j) ∧ ∀ j, j < m → u_14.2 (0 + j) = g j := h58
      clear hz1 hvm hFc hk1 ht
      clear t9
      generalize H1 = H at hP hS ⊢
      refine lv_tope (v2 := .ref a) (by rw [h58.1]; rfl) ?_
      have h16 : gcap (m + 16) (0 + m) = m + 16 := if_pos (by omega)
      refine lv_pop hx hb dJ5_init_a7421_61 rfl ?_
      have e_15 : (0 + m : Nat) = m := by first | (with_reducible rfl) | (omega)
      have hP := Eq.mp (congrArg (fun z9 => va_P D vwCl (bSO k a u_14.1 z9 ++ (bAB k u_14.1 (gcap (m + 16) (0 + m)) u_14.2 ++ (bTO k s t ++ bAB k t m g))) H) e_15) hP
      have hD := Eq.mp (congrArg (fun z9 => va_D A (bSO k a u_14.1 z9 ++ (bAB k u_14.1 (gcap (m + 16) (0 + m)) u_14.2 ++ (bTO k s t ++ bAB k t m g)))) e_15) hD
      have e_16 : (gcap (m + 16) (0 + m) : Nat) = m + 16 := by first | (with_reducible rfl) | (omega)
      have hP := Eq.mp (congrArg (fun z9 => va_P D vwCl (bSO k a u_14.1 m ++ (bAB k u_14.1 z9 u_14.2 ++ (bTO k s t ++ bAB k t m g))) H) e_16) hP
      have hD := Eq.mp (congrArg (fun z9 => va_D A (bSO k a u_14.1 m ++ (bAB k u_14.1 z9 u_14.2 ++ (bTO k s t ++ bAB k t m g)))) e_16) hD
      refine W.widen (k := 1 + 1) (n := m + 16) (by show 2 ≤ 1 + 1; first | omega | (rw [show gms (m + 16) (0 + m) = 0 from if_pos (by omega)]; omega)) (by show m + 16 + (gms (m + 16) (0 + m)) ≤ m + 16; first | omega | (rw [show gms (m + 16) (0 + m) = 0 from if_pos (by omega)]; omega)) ?_
      exact W.vret hx hb hr (fun t9 ht hW => ⟨⟨(u_14.1, u_14.2), rfl, (by have h16 : gcap (m + 16) (0 + m) = m + 16 := if_pos (by omega); rw [h16] at h58; exact ⟨h58.2.1, fun j hj => (by have h59 := h58.2.2.2 j hj; rw [Nat.zero_add] at h59; exact h59)⟩), ⟨by rw [ht]; exact hP, va_K.moved hW.alike hK, hD⟩⟩, hS.F ht⟩) hS.2.2 dJ5_init_a7421_62 hlocks

set_option maxHeartbeats 4000000 in
set_option maxRecDepth 100000 in
theorem t_J4_init_a7421 (l9 : Launch) (hl9 : l9.stackTraces = false) (E : EK) (D : va_G) (k : Nat → ClassId) (sz : Nat) (a s t m : Nat) (g : Nat → Int32) (hm : m < 2 ^ 27) (hg : Bf g m) : Met l9 yJ4_init_a7421 wsJ4_init_a7421 ({ frames := 8, cells := 1 + 1, slots := m + 16, locals := 193 }) (TPc E D k [.ref a, .ref s] (bOJ4 k a .null (.int 0) (.int 0) (.int 0) ++ (bTO k s t ++ bAB k t m g)) sz) (va_Qv (fun (u9 : Nat × (Nat → Int32)) => Bf u9.2 (m + 16) ∧ ∀ j, j < m → u9.2 j = g j) (TB D k (va_A (bOJ4 k a .null (.int 0) (.int 0) (.int 0) ++ (bTO k s t ++ bAB k t m g)) sz) (fun u9 : Nat × (Nat → Int32) => bSO k a u9.1 m ++ (bAB k u9.1 (m + 16) u9.2 ++ (bTO k s t ++ bAB k t m g)))) (va_A (bOJ4 k a .null (.int 0) (.int 0) (.int 0) ++ (bTO k s t ++ bAB k t m g)) sz)) (1 + 1) (m + 16) (va_A (bOJ4 k a .null (.int 0) (.int 0) (.int 0) ++ (bTO k s t ++ bAB k t m g)) sz) := by
  refine tMet (y := yJ4_init_a7421) (cc := cJ4_init_a7421) (maxL := 2) (ret := none) (Qc := fun A => va_Qv (fun (u9 : Nat × (Nat → Int32)) => Bf u9.2 (m + 16) ∧ ∀ j, j < m → u9.2 j = g j) (TB D k (A) (fun u9 : Nat × (Nat → Int32) => bSO k a u9.1 m ++ (bAB k u9.1 (m + 16) u9.2 ++ (bTO k s t ++ bAB k t m g)))) (A)) [.ref a, .ref s] (by decide) rfl (Nat.le_of_ble_eq_true rfl) ?_
  intro p9 e9 s9 m9 bl9 me9 c9 ls A H hF hr hlocks hP hK hE hD hA hS hl hin
  have hl : lv_has ls 2 [(0, .ref a), (1, .ref s)] := hl
  obtain ⟨hx, hb, hml, hown, hts⟩ := id hF
  refine lv_aload_n hx hb dJ4_init_a7421_0 rfl (lv_at hl 0 rfl) ?_
  refine lv_aload_n hx hb dJ4_init_a7421_1 rfl (lv_at hl 1 rfl) ?_
  have hFc := tFree hD hS hA
  refine va_callv (va_runI (As := [.ref s]) (rest := []) hF (t_J5_init_a7421 l9 hl9 E D k H.size a s t m g hm hg) (cwI 1 hts gJ4_init_a7421_J5_init_a7421 rfl rfl rfl (hts (.initialized RJ5) (by decide +kernel)) (hts (.methodLink RJ4 7 yJ5_init_a7421) (by decide +kernel)) (hts (.instanceMethod yJ5_init_a7421) (by decide +kernel)) rfl (by decide +kernel) ⟨Nat.le_of_ble_eq_true rfl, Nat.le_of_ble_eq_true rfl⟩) (tPreI hK hE hS hA hP hD) rfl rfl hl.1 rfl (lv_room (Nat.le_of_ble_eq_true rfl)) dJ4_init_a7421_2 ⟨(by show 1 + 1 ≤ 1 + 1; omega), (by show m + 16 ≤ m + 16; omega)⟩) hS (fun q _ h => hFc q h) hFc (fun u_3 t9 H1 locs ht hvm h2 hB hz1 hk1 hS => ?_)
  obtain ⟨hP, -, hD⟩ := hB
  rw [ht] at hP
  replace hP : va_P D vwCl (bSO k a u_3.1 m ++ (bAB k u_3.1 (m + 16) u_3.2 ++ (bTO k s t ++ bAB k t m g))) H1 := hP
  replace hD : va_D A (bSO k a u_3.1 m ++ (bAB k u_3.1 (m + 16) u_3.2 ++ (bTO k s t ++ bAB k t m g))) := hD.weaken (fun _ q _ h => hFc q.1 h)
  replace h2 : Bf u_3.2 (m + 16) ∧ ∀ j, j < m → u_3.2 j = g j := h2
  clear hz1 hvm hFc hk1 ht
  clear t9
  generalize H1 = H at hP hS ⊢
  exact W.vret hx hb hr (fun t9 ht hW => ⟨⟨u_3, rfl, (by exact h2), ⟨by rw [ht]; exact hP, va_K.moved hW.alike hK, hD⟩⟩, hS.F ht⟩) hS.2.2 dJ4_init_a7421_5 hlocks

set_option maxHeartbeats 4000000 in
set_option maxRecDepth 100000 in
theorem t_J7_checkLength_df160 (l9 : Launch) (hl9 : l9.stackTraces = false) (E : EK) (D : va_G) (k : Nat → ClassId) (sz : Nat) (x y : Nat) (h : x ≤ y) (hy : y < 2 ^ 30) : Met l9 yJ7_checkLength_df160 wsJ7_checkLength_df160 ({ frames := 0, cells := 0, slots := 0, locals := 0 }) (TPc E D k [.int (nI x), .int (nI y)] ([]) sz) (va_Qv (fun (u9 : Unit) => True) (TB D k (va_A ([]) sz) (fun u9 : Unit => [])) (va_A ([]) sz)) (0) (0) (va_A ([]) sz) := by
  refine tMet (y := yJ7_checkLength_df160) (cc := cJ7_checkLength_df160) (maxL := 2) (ret := none) (Qc := fun A => va_Qv (fun (u9 : Unit) => True) (TB D k (A) (fun u9 : Unit => [])) (A)) [.int (nI x), .int (nI y)] (by decide) rfl (Nat.le_of_ble_eq_true rfl) ?_
  intro p9 e9 s9 m9 bl9 me9 c9 ls A H hF hr hlocks hP hK hE hD hA hS hl hin
  have hl : lv_has ls 2 [(0, .int (nI x)), (1, .int (nI y))] := hl
  obtain ⟨hx, hb, hml, hown, hts⟩ := id hF
  refine lv_iload_n hx hb dJ7_checkLength_df160_0 rfl (lv_at hl 1 rfl) ?_
  refine lv_iload_n hx hb dJ7_checkLength_df160_1 rfl (lv_at hl 0 rfl) ?_
  refine lv_icmp_ge (tgt := 37) hx hb dJ7_checkLength_df160_2 (by decide) (fun c_1 => ?_) (fun c_1 => ?_)
  · skip
    have c_1 : x ≤ y := (nI_leI (a := x) (b := y) (by omega) (by omega)).mp c_1
    exact W.vret hx hb hr (fun t9 ht hW => ⟨⟨(), rfl, (by trivial), ⟨by rw [ht]; exact hP, va_K.moved hW.alike hK, hD⟩⟩, hS.F ht⟩) hS.2.2 dJ7_checkLength_df160_37 hlocks
  · skip
    have c_1 : ¬ x ≤ y := fun h => c_1 ((nI_leI (a := x) (b := y) (by omega) (by omega)).mpr h)
    omega

set_option maxHeartbeats 4000000 in
set_option maxRecDepth 100000 in
theorem t_J7_copyOfRangeByte_39247 (l9 : Launch) (hl9 : l9.stackTraces = false) (E : EK) (D : va_G) (k : Nat → ClassId) (sz : Nat) (b cap : Nat) (f : Nat → Int32) (n : Nat) (hn : n ≤ cap) (hcap : cap < 2 ^ 28) (hf : Bf f cap) : Met l9 yJ7_copyOfRangeByte_39247 wsJ7_copyOfRangeByte_39247 ({ frames := 1, cells := 1, slots := n, locals := 60 }) (TPc E D k [.ref b, .int 0, .int (nI n)] (bAB k b cap f) sz) (va_Qq (fun (r : Option Nat) (u9 : Nat × (Nat → Int32)) => r = some u9.1 ∧ Bf u9.2 n ∧ ∀ j, j < n → u9.2 j = f j) (TB D k (va_A (bAB k b cap f) sz) (fun u9 : Nat × (Nat → Int32) => bAB k b cap f ++ bAB k u9.1 n u9.2)) (va_A (bAB k b cap f) sz)) (1) (n) (va_A (bAB k b cap f) sz) := by
  refine tMet (y := yJ7_copyOfRangeByte_39247) (cc := cJ7_copyOfRangeByte_39247) (maxL := 5) (ret := (some (.array .byte))) (Qc := fun A => va_Qq (fun (r : Option Nat) (u9 : Nat × (Nat → Int32)) => r = some u9.1 ∧ Bf u9.2 n ∧ ∀ j, j < n → u9.2 j = f j) (TB D k (A) (fun u9 : Nat × (Nat → Int32) => bAB k b cap f ++ bAB k u9.1 n u9.2)) (A)) [.ref b, .int 0, .int (nI n)] (by decide) rfl (Nat.le_of_ble_eq_true rfl) ?_
  intro p9 e9 s9 m9 bl9 me9 c9 ls A H hF hr hlocks hP hK hE hD hA hS hl hin
  have hl : lv_has ls 5 [(0, .ref b), (1, .int 0), (2, .int (nI n))] := hl
  obtain ⟨hx, hb, hml, hown, hts⟩ := id hF
  refine lv_iload_n hx hb dJ7_copyOfRangeByte_39247_0 rfl (lv_at hl 1 rfl) ?_
  refine lv_iload_n hx hb dJ7_copyOfRangeByte_39247_1 rfl (lv_at hl 2 rfl) ?_
  have hP : va_P D vwCl ([] ++ (bAB k b cap f)) H := hP
  have hD : va_D A ([] ++ (bAB k b cap f)) := hD
  have hFc := tFree hD hS hA
  refine va_callv (va_runS (As := [.int 0, .int (nI n)]) (rest := []) hF (fr_v (bAB k b cap f) (t_J7_checkLength_df160 l9 hl9 E D k H.size 0 n (by omega) (by omega))) (va_cwS 2 hts gJ7_copyOfRangeByte_39247_J7_checkLength_df160 rfl rfl rfl (by decide +kernel) ⟨Nat.le_of_ble_eq_true rfl, Nat.le_of_ble_eq_true rfl⟩) (tPreS hK hE hS hA hP hD) rfl rfl hl.1 rfl (lv_room (Nat.le_of_ble_eq_true rfl)) dJ7_copyOfRangeByte_39247_2 ⟨(Nat.le_of_ble_eq_true rfl), (by show 0 ≤ n; omega)⟩) hS (fun q _ h => hFc q h) hFc (fun u_3 t9 H1 locs ht hvm hw_4 hB hz1 hk1 hS => ?_)
  obtain ⟨hP, -, hD⟩ := hB
  rw [ht] at hP
  replace hP : va_P D vwCl (([]) ++ bAB k b cap f) H1 := hP
  replace hD : va_D A (([]) ++ bAB k b cap f) := hD.weaken (fun _ q _ h => hFc q.1 h)
  replace hP : va_P D vwCl (bAB k b cap f) H1 := hP
  replace hD : va_D A (bAB k b cap f) := hD
  replace hw_4 : True := hw_4
  clear hz1 hvm hFc hk1 ht
  clear t9
  generalize H1 = H at hP hS ⊢
  refine lv_iload_n hx hb dJ7_copyOfRangeByte_39247_5 rfl (lv_at hl 2 rfl) ?_
  refine lv_iload_n hx hb dJ7_copyOfRangeByte_39247_6 rfl (lv_at hl 1 rfl) ?_
  refine ni_sub hx hb n 0 (by omega) dJ7_copyOfRangeByte_39247_7 ?_
  refine lv_istore_n (lv' := [(3, .int (nI (n - 0))), (0, .ref b), (1, .int 0), (2, .int (nI n))]) hx hb dJ7_copyOfRangeByte_39247_8 rfl hl (by decide) rfl (fun ls hl => ?_)
  refine lv_iload_n hx hb dJ7_copyOfRangeByte_39247_9 rfl (lv_at hl 0 rfl) ?_
  refine nw_arr (atype := .byte) hx hb (hts (.arrayClass .byte) (by decide +kernel)) rfl hK hP hD hS hA (a0 := (n - 0, .inl (fun _ => 0))) (N' := (n - 0)) (fun _ => rfl) (nI_nn (by omega)) (nI_clamp (by omega)) (by show (n - 0) * 1 ≤ 536870912; omega) (Nat.le_of_ble_eq_true rfl) (by show n - 0 ≤ n; omega) 8 rfl dJ7_copyOfRangeByte_39247_10 (fun q_5 H hP hD hS => ?_)
  have hP : va_P D vwCl (bAB k q_5 (n - 0) (fun _ => 0) ++ bAB k b cap f) H := vP_perm hP (pmN _ _)
  have hD : va_D A (bAB k q_5 (n - 0) (fun _ => 0) ++ bAB k b cap f) := vD_perm hD (pmN _ _)
  refine lv_astore (lv' := [(4, .ref q_5), (3, .int (nI (n - 0))), (0, .ref b), (1, .int 0), (2, .int (nI n))]) hx hb dJ7_copyOfRangeByte_39247_12 hl (by decide) rfl (fun ls hl => ?_)
  refine lv_aload_n hx hb dJ7_copyOfRangeByte_39247_14 rfl (lv_at hl 2 rfl) ?_
  refine lv_iload_n hx hb dJ7_copyOfRangeByte_39247_15 rfl (lv_at hl 3 rfl) ?_
  refine lv_aload hx hb dJ7_copyOfRangeByte_39247_16 (lv_at hl 0 rfl) ?_
  refine lv_iconst (v := 0) hx hb dJ7_copyOfRangeByte_39247_18 (by decide) ?_
  refine lv_aload_n hx hb dJ7_copyOfRangeByte_39247_19 rfl (lv_at hl 2 rfl) ?_
  refine va_alen (v := nI cap) hx hb hK hP 1 8 rfl rfl rfl dJ7_copyOfRangeByte_39247_20 ?_
  refine lv_iload_n hx hb dJ7_copyOfRangeByte_39247_21 rfl (lv_at hl 3 rfl) ?_
  refine ni_sub hx hb cap 0 (by omega) dJ7_copyOfRangeByte_39247_22 ?_
  refine lv_iload_n hx hb dJ7_copyOfRangeByte_39247_23 rfl (lv_at hl 1 rfl) ?_
  refine va_mmin hx hb (hml.trans hl.1.symm) hown (hts (.methodLink RJ7 304 Lib.Math.min.name) (by decide +kernel)) (hts (.static Lib.Math.min.name) (by decide +kernel)) (hts (.initialized "java/lang/Math") (by decide +kernel)) (hts (.code Lib.Math.min.name Lib.Math.min.code 2 (some .int)) (by decide +kernel)) (Nat.le_of_ble_eq_true rfl) (Nat.le_of_ble_eq_true rfl) (Nat.zero_le _) (Nat.zero_le _) dJ7_copyOfRangeByte_39247_24 ?_
  rw [show (if (nI (n - 0)) < (nI (cap - 0)) then (nI (n - 0)) else (nI (cap - 0)) : Int32) = nI (min (cap - 0) (n - 0)) from nI_min (a := cap - 0) (b := n - 0) (by omega) (by omega)]
  refine by_cp hx hb (hml.trans hl.1.symm) hown (hts (.methodLink RJ7 150 arraycopyName) (by decide +kernel)) (hts (.native arraycopyName) (by decide +kernel)) (hts (.static arraycopyName) (by decide +kernel)) (hts (.initialized "java/lang/System") (by decide +kernel)) hK hP hD hS 1 0 rfl rfl (sp := 0) (dp := 0) (n := (min (cap - 0) (n - 0))) rfl rfl rfl (by omega) (by omega) (by omega) (by omega) (fun i hi => by rw [Nat.zero_add]; exact hf i (by omega)) (Nat.le_of_ble_eq_true rfl) (Nat.le_of_ble_eq_true rfl) (bAB k q_5 (n - 0) (cpy (fun _ => 0) 0 f 0 (min (cap - 0) (n - 0))) ++ bAB k b cap f) rfl dJ7_copyOfRangeByte_39247_27 (fun H locs hP hD hS => ?_)
  refine lv_aload hx hb dJ7_copyOfRangeByte_39247_30 (lv_at hl 0 rfl) ?_
  have hP : va_P D vwCl (bAB k b cap f ++ bAB k q_5 (n - 0) (cpy (fun _ => 0) 0 f 0 (min (cap - 0) (n - 0)))) H := vP_perm hP (pmX (pmS (bAB k q_5 (n - 0) (cpy (fun _ => 0) 0 f 0 (min (cap - 0) (n - 0)))) (pmE (bAB k b cap f))))
  have hD : va_D A (bAB k b cap f ++ bAB k q_5 (n - 0) (cpy (fun _ => 0) 0 f 0 (min (cap - 0) (n - 0)))) := vD_perm hD (pmX (pmS (bAB k q_5 (n - 0) (cpy (fun _ => 0) 0 f 0 (min (cap - 0) (n - 0)))) (pmE (bAB k b cap f))))
  have e_6 : (n - 0 : Nat) = n := by first | (with_reducible rfl) | (rfl)
  have hP := Eq.mp (congrArg (fun z9 => va_P D vwCl (bAB k b cap f ++ bAB k q_5 z9 (cpy (fun _ => 0) 0 f 0 (min (cap - 0) (n - 0)))) H) e_6) hP
  have hD := Eq.mp (congrArg (fun z9 => va_D A (bAB k b cap f ++ bAB k q_5 z9 (cpy (fun _ => 0) 0 f 0 (min (cap - 0) (n - 0))))) e_6) hD
  refine W.widen (k := 1) (n := n) (Nat.le_of_ble_eq_true rfl) (by show n - 0 ≤ n; omega) ?_
  exact W.aret (v := .ref q_5) hx hb hr (Or.inl ⟨_, rfl⟩) (Or.inr ⟨_, rfl⟩) (fun t9 ht hW => ⟨⟨some q_5, (q_5, cpy (fun _ => 0) 0 f 0 (min (cap - 0) (n - 0))), rfl, (by exact ⟨rfl, Bf_cpy (Bf_0 _) hf (by omega), fun j hj => (by rw [cpy_at, if_pos (by omega)]; congr 1; omega)⟩), ⟨by rw [ht]; exact hP, va_K.moved hW.alike hK, hD⟩⟩, hS.F ht⟩) hS.2.2 dJ7_copyOfRangeByte_39247_32 hlocks

set_option maxHeartbeats 4000000 in
set_option maxRecDepth 100000 in
theorem t_J7_copyOfRange_39247 (l9 : Launch) (hl9 : l9.stackTraces = false) (E : EK) (D : va_G) (k : Nat → ClassId) (sz : Nat) (b cap : Nat) (f : Nat → Int32) (n : Nat) (hn : n ≤ cap) (hcap : cap < 2 ^ 28) (hf : Bf f cap) : Met l9 yJ7_copyOfRange_39247 wsJ7_copyOfRange_39247 ({ frames := 2, cells := 1, slots := n, locals := 84 }) (TPc E D k [.ref b, .int 0, .int (nI n)] (bAB k b cap f) sz) (va_Qq (fun (r : Option Nat) (u9 : Nat × (Nat → Int32)) => r = some u9.1 ∧ Bf u9.2 n ∧ ∀ j, j < n → u9.2 j = f j) (TB D k (va_A (bAB k b cap f) sz) (fun u9 : Nat × (Nat → Int32) => bAB k b cap f ++ bAB k u9.1 n u9.2)) (va_A (bAB k b cap f) sz)) (1) (n) (va_A (bAB k b cap f) sz) := by
  refine tMet (y := yJ7_copyOfRange_39247) (cc := cJ7_copyOfRange_39247) (maxL := 3) (ret := (some (.array .byte))) (Qc := fun A => va_Qq (fun (r : Option Nat) (u9 : Nat × (Nat → Int32)) => r = some u9.1 ∧ Bf u9.2 n ∧ ∀ j, j < n → u9.2 j = f j) (TB D k (A) (fun u9 : Nat × (Nat → Int32) => bAB k b cap f ++ bAB k u9.1 n u9.2)) (A)) [.ref b, .int 0, .int (nI n)] (by decide) rfl (Nat.le_of_ble_eq_true rfl) ?_
  intro p9 e9 s9 m9 bl9 me9 c9 ls A H hF hr hlocks hP hK hE hD hA hS hl hin
  have hl : lv_has ls 3 [(0, .ref b), (1, .int 0), (2, .int (nI n))] := hl
  obtain ⟨hx, hb, hml, hown, hts⟩ := id hF
  refine lv_iload_n hx hb dJ7_copyOfRange_39247_0 rfl (lv_at hl 1 rfl) ?_
  refine lv_if_ne (tgt := 10) hx hb dJ7_copyOfRange_39247_1 (by decide) (fun c_1 => ?_) (fun c_1 => ?_)
  · first | exact absurd c_1 (by decide) | exact absurd (by decide) c_1
  · skip
    refine lv_iload_n hx hb dJ7_copyOfRange_39247_4 rfl (lv_at hl 2 rfl) ?_
    refine lv_aload_n hx hb dJ7_copyOfRange_39247_5 rfl (lv_at hl 0 rfl) ?_
    refine va_alen (v := nI cap) hx hb hK hP 0 8 rfl rfl rfl dJ7_copyOfRange_39247_6 ?_
    refine lv_icmp_eq (tgt := 17) hx hb dJ7_copyOfRange_39247_7 (by decide) (fun c_2 => ?_) (fun c_2 => ?_)
    · skip
      have c_2 : n = cap := (nI_eq (a := n) (b := cap) (by omega) (by omega)).mp c_2
      refine lv_aload_n hx hb dJ7_copyOfRange_39247_17 rfl (lv_at hl 0 rfl) ?_
      refine va_clone hx hb (hml.trans hl.1.symm) hown (hts (.methodLink RJ7 310 ⟨"[B", "clone", "()Ljava/lang/Object;"⟩) (by decide +kernel)) (hts (.sameMethod "[B" "java/lang/Object" "clone" "()Ljava/lang/Object;") (by decide +kernel)) (hts (.native ⟨"java/lang/Object", "clone", "()Ljava/lang/Object;"⟩) (by decide +kernel)) (hts (.instanceMethod ⟨"java/lang/Object", "clone", "()Ljava/lang/Object;"⟩) (by decide +kernel)) (hts (.selects "[B" ⟨"[B", "clone", "()Ljava/lang/Object;"⟩ ⟨"java/lang/Object", "clone", "()Ljava/lang/Object;"⟩) (by decide +kernel)) hE.2.2.1.2.1 hK hP hD hS hA 0 8 rfl rfl (hK.2 8 _ rfl).2 (fit_row hf) (Nat.le_of_ble_eq_true rfl) (Nat.le_of_ble_eq_true rfl) (Nat.le_of_ble_eq_true rfl) (by show cap ≤ n; omega) dJ7_copyOfRange_39247_18 (fun q_3 H _ hP hD hS => ?_)
      have hP : va_P D vwCl (bAB k q_3 cap f ++ bAB k b cap f) H := vP_perm hP (pmN _ _)
      have hD : va_D A (bAB k q_3 cap f ++ bAB k b cap f) := vD_perm hD (pmN _ _)
      refine va_castA hx hb hown (hts (.classLink RJ7 311 "[B") (by decide +kernel)) hP 0 rfl (hK.2 8 _ rfl).2 dJ7_copyOfRange_39247_21 ?_
      have hP : va_P D vwCl (bAB k b cap f ++ bAB k q_3 cap f) H := vP_perm hP (pmX (pmS (bAB k q_3 cap f) (pmE (bAB k b cap f))))
      have hD : va_D A (bAB k b cap f ++ bAB k q_3 cap f) := vD_perm hD (pmX (pmS (bAB k q_3 cap f) (pmE (bAB k b cap f))))
      have e_4 : (cap : Nat) = n := by first | (with_reducible rfl) | (omega)
      have hP := Eq.mp (congrArg (fun z9 => va_P D vwCl (bAB k b cap f ++ bAB k q_3 z9 f) H) e_4) hP
      have hD := Eq.mp (congrArg (fun z9 => va_D A (bAB k b cap f ++ bAB k q_3 z9 f)) e_4) hD
      refine W.widen (k := 1) (n := n) (Nat.le_of_ble_eq_true rfl) (by show cap ≤ n; omega) ?_
      exact W.aret (v := .ref q_3) hx hb hr (Or.inl ⟨_, rfl⟩) (Or.inr ⟨_, rfl⟩) (fun t9 ht hW => ⟨⟨some q_3, (q_3, f), rfl, (by exact ⟨rfl, Bf_le hf (by omega), fun j hj => rfl⟩), ⟨by rw [ht]; exact hP, va_K.moved hW.alike hK, hD⟩⟩, hS.F ht⟩) hS.2.2 dJ7_copyOfRange_39247_24 hlocks
    · skip
      have c_2 : ¬ n = cap := fun h => c_2 ((nI_eq (a := n) (b := cap) (by omega) (by omega)).mpr h)
      refine lv_aload_n hx hb dJ7_copyOfRange_39247_10 rfl (lv_at hl 0 rfl) ?_
      refine lv_iload_n hx hb dJ7_copyOfRange_39247_11 rfl (lv_at hl 1 rfl) ?_
      refine lv_iload_n hx hb dJ7_copyOfRange_39247_12 rfl (lv_at hl 2 rfl) ?_
      have hFc := tFree hD hS hA
      refine va_callq (va_runS (As := [.ref b, .int 0, .int (nI n)]) (rest := []) hF (t_J7_copyOfRangeByte_39247 l9 hl9 E D k H.size b cap f n hn hcap hf) (va_cwS 3 hts gJ7_copyOfRange_39247_J7_copyOfRangeByte_39247 rfl rfl rfl (by decide +kernel) ⟨Nat.le_of_ble_eq_true rfl, Nat.le_of_ble_eq_true rfl⟩) (tPreS hK hE hS hA hP hD) rfl rfl hl.1 rfl (lv_room (Nat.le_of_ble_eq_true rfl)) dJ7_copyOfRange_39247_13 ⟨(Nat.le_of_ble_eq_true rfl), (by show n ≤ n; omega)⟩) hS (fun q _ h => hFc q h) hFc (fun r_6 u_7 t9 H1 locs ht hvm h13 hB hz1 hk1 hS => ?_)
      obtain ⟨hP, -, hD⟩ := hB
      rw [ht] at hP
      replace hP : va_P D vwCl (bAB k b cap f ++ bAB k u_7.1 n u_7.2) H1 := hP
      replace hD : va_D A (bAB k b cap f ++ bAB k u_7.1 n u_7.2) := hD.weaken (fun _ q _ h => hFc q.1 h)
      replace h13 : r_6 = some u_7.1 ∧ Bf u_7.2 n ∧ ∀ j, j < n → u_7.2 j = f j := h13
      clear hz1 hvm hFc hk1 ht
      clear t9
      generalize H1 = H at hP hS ⊢
      refine lv_tope (v2 := .ref u_7.1) (by rw [h13.1]; rfl) ?_
      exact W.aret (v := .ref u_7.1) hx hb hr (Or.inl ⟨_, rfl⟩) (Or.inr ⟨_, rfl⟩) (fun t9 ht hW => ⟨⟨some u_7.1, u_7, rfl, (by exact h13), ⟨by rw [ht]; exact hP, va_K.moved hW.alike hK, hD⟩⟩, hS.F ht⟩) hS.2.2 dJ7_copyOfRange_39247_16 hlocks

set_option maxHeartbeats 4000000 in
set_option maxRecDepth 100000 in
theorem t_J0_init_db425 (l9 : Launch) (hl9 : l9.stackTraces = false) (E : EK) (D : va_G) (k : Nat → ClassId) (sz : Nat) (s a b cap : Nat) (f : Nat → Int32) (n : Nat) (hn : n ≤ cap) (hcap : cap < 2 ^ 28) (hf : Bf f cap) : Met l9 yJ0_init_db425 wsJ0_init_db425 ({ frames := 3, cells := 1, slots := n, locals := 106 }) (TPc E D k [.ref s, .ref a, .null] (bOJ0 k s .null (.int 0) (.int 0) (.int 0) ++ (bSO k a b n ++ bAB k b cap f)) sz) (va_Qv (fun (u9 : Nat × (Nat → Int32)) => Bf u9.2 n ∧ ∀ j, j < n → u9.2 j = f j) (TB D k (va_A (bOJ0 k s .null (.int 0) (.int 0) (.int 0) ++ (bSO k a b n ++ bAB k b cap f)) sz) (fun u9 : Nat × (Nat → Int32) => bTO k s u9.1 ++ (bAB k u9.1 n u9.2 ++ (bSO k a b n ++ bAB k b cap f)))) (va_A (bOJ0 k s .null (.int 0) (.int 0) (.int 0) ++ (bSO k a b n ++ bAB k b cap f)) sz)) (1) (n) (va_A (bOJ0 k s .null (.int 0) (.int 0) (.int 0) ++ (bSO k a b n ++ bAB k b cap f)) sz) := by
  refine tMet (y := yJ0_init_db425) (cc := cJ0_init_db425) (maxL := 5) (ret := none) (Qc := fun A => va_Qv (fun (u9 : Nat × (Nat → Int32)) => Bf u9.2 n ∧ ∀ j, j < n → u9.2 j = f j) (TB D k (A) (fun u9 : Nat × (Nat → Int32) => bTO k s u9.1 ++ (bAB k u9.1 n u9.2 ++ (bSO k a b n ++ bAB k b cap f)))) (A)) [.ref s, .ref a, .null] (by decide) rfl (Nat.le_of_ble_eq_true rfl) ?_
  intro p9 e9 s9 m9 bl9 me9 c9 ls A H hF hr hlocks hP hK hE hD hA hS hl hin
  have hl : lv_has ls 5 [(0, .ref s), (1, .ref a), (2, .null)] := hl
  obtain ⟨hx, hb, hml, hown, hts⟩ := id hF
  have k_fieldLink_15 : (Cond.fieldLink RJ0 15 "java/lang/String" "coder" "B").before _ s9 = true := hts (.fieldLink RJ0 15 "java/lang/String" "coder" "B") (by decide +kernel)
  have kc_RJ0 : ∀ w ∈ u_ws RJ0 TJ0 4, w ∈ wsJ0_init_db425 := by decide +kernel
  have k_fieldLink_9 : (Cond.fieldLink RJ0 9 "java/lang/String" "value" "[B").before _ s9 = true := hts (.fieldLink RJ0 9 "java/lang/String" "value" "[B") (by decide +kernel)
  refine lv_aload_n hx hb dJ0_init_db425_0 rfl (lv_at hl 0 rfl) ?_
  refine W.objInit hx hb hown (hts (.methodLink RJ0 1 objectInit) (by decide +kernel)) (hts (.instanceMethod objectInit) (by decide +kernel)) (hts (.code objectInit ⟨#[0xb1]⟩ 1 none) (by decide +kernel)) rfl (by rw [hml]; exact hl.1) rfl dJ0_init_db425_1 (Nat.le_of_ble_eq_true rfl) (Nat.le_of_ble_eq_true rfl) ?_
  refine W.eq (g2 := F0 m9 4 ls []) rfl ?_
  refine lv_aload_n hx hb dJ0_init_db425_4 rfl (lv_at hl 1 rfl) ?_
  have hP : va_P D vwCl (bAB k b cap f ++ (bOJ0 k s .null (.int 0) (.int 0) (.int 0) ++ bSO k a b n)) H := vP_perm hP (pmX (pmS (bOJ0 k s .null (.int 0) (.int 0) (.int 0)) (pmS (bSO k a b n) (pmE (bAB k b cap f)))))
  have hD : va_D A (bAB k b cap f ++ (bOJ0 k s .null (.int 0) (.int 0) (.int 0) ++ bSO k a b n)) := vD_perm hD (pmX (pmS (bOJ0 k s .null (.int 0) (.int 0) (.int 0)) (pmS (bSO k a b n) (pmE (bAB k b cap f)))))
  have hP : va_P D vwCl (bOJ0 k s .null (.int 0) (.int 0) (.int 0) ++ (bAB k b cap f ++ bSO k a b n)) H := vP_perm hP (pmS (bAB k b cap f) (pm0 (bOJ0 k s .null (.int 0) (.int 0) (.int 0)) (bSO k a b n)))
  have hD : va_D A (bOJ0 k s .null (.int 0) (.int 0) (.int 0) ++ (bAB k b cap f ++ bSO k a b n)) := vD_perm hD (pmS (bAB k b cap f) (pm0 (bOJ0 k s .null (.int 0) (.int 0) (.int 0)) (bSO k a b n)))
  have hP : va_P D vwCl (bSO k a b n ++ (bOJ0 k s .null (.int 0) (.int 0) (.int 0) ++ bAB k b cap f)) H := vP_perm hP (pmX (pmS (bOJ0 k s .null (.int 0) (.int 0) (.int 0)) (pmS (bAB k b cap f) (pmE (bSO k a b n)))))
  have hD : va_D A (bSO k a b n ++ (bOJ0 k s .null (.int 0) (.int 0) (.int 0) ++ bAB k b cap f)) := vD_perm hD (pmX (pmS (bOJ0 k s .null (.int 0) (.int 0) (.int 0)) (pmS (bAB k b cap f) (pmE (bSO k a b n)))))
  have hFc := tFree hD hS hA
  refine va_callq (va_runU (As := []) (rest := []) hF (fr_q (bOJ0 k s .null (.int 0) (.int 0) (.int 0) ++ bAB k b cap f) (t_J5_getValue_6d5f1 l9 hl9 E D k H.size a b n )) (va_cwU 0 hts gJ0_init_db425_J5_getValue_6d5f1_u552J4 rfl rfl rfl rfl (by decide +kernel) ⟨Nat.le_of_ble_eq_true rfl, Nat.le_of_ble_eq_true rfl⟩) (tPreV (rcv hK hP 0 1 rfl rfl) hK hE hS hA hP hD) rfl rfl hl.1 rfl (lv_room (Nat.le_of_ble_eq_true rfl)) dJ0_init_db425_5 ⟨(Nat.le_of_ble_eq_true rfl), (by show 0 ≤ n; omega)⟩) hS (fun q _ h => hFc q h) hFc (fun r_2 u_3 t9 H1 locs ht hvm hw_4 hB hz1 hk1 hS => ?_)
  obtain ⟨hP, -, hD⟩ := hB
  rw [ht] at hP
  replace hP : va_P D vwCl ((bSO k a b n) ++ (bOJ0 k s .null (.int 0) (.int 0) (.int 0) ++ bAB k b cap f)) H1 := hP
  replace hD : va_D A ((bSO k a b n) ++ (bOJ0 k s .null (.int 0) (.int 0) (.int 0) ++ bAB k b cap f)) := hD.weaken (fun _ q _ h => hFc q.1 h)
  replace hw_4 : r_2 = some b := hw_4
  clear hz1 hvm hFc hk1 ht
  clear t9
  generalize H1 = H at hP hS ⊢
  refine lv_tope (v2 := .ref b) (by rw [hw_4]; rfl) ?_
  refine lv_astore_n (lv' := [(3, .ref b), (0, .ref s), (1, .ref a), (2, .null)]) hx hb dJ0_init_db425_8 rfl hl (by decide) rfl (fun ls hl => ?_)
  refine lv_aload_n hx hb dJ0_init_db425_9 rfl (lv_at hl 2 rfl) ?_
  have hFc := tFree hD hS hA
  refine va_calli (va_runU (As := []) (rest := []) hF (fr_i (bOJ0 k s .null (.int 0) (.int 0) (.int 0) ++ bAB k b cap f) (t_J4_length_8abf5 l9 hl9 E D k H.size a b n )) (va_cwO 0 hts gJ0_init_db425_J4_length_8abf5_u549J4 rfl rfl rfl (by decide +kernel : Cond.code yJ5_length_8abf5 cJ5_length_8abf5 1 (some .int) ∈ wsJ0_init_db425) (by decide +kernel) ⟨Nat.le_of_ble_eq_true rfl, Nat.le_of_ble_eq_true rfl⟩) (tPreV (rcv hK hP 0 1 rfl rfl) hK hE hS hA hP hD) rfl rfl hl.1 rfl (lv_room (Nat.le_of_ble_eq_true rfl)) dJ0_init_db425_10 ⟨(Nat.le_of_ble_eq_true rfl), (by show 0 ≤ n; omega)⟩) hS (fun q _ h => hFc q h) hFc (fun r_6 u_7 t9 H1 locs ht hvm hw_8 hB hz1 hk1 hS => ?_)
  obtain ⟨hP, -, hD⟩ := hB
  rw [ht] at hP
  replace hP : va_P D vwCl ((bSO k a b n) ++ (bOJ0 k s .null (.int 0) (.int 0) (.int 0) ++ bAB k b cap f)) H1 := hP
  replace hD : va_D A ((bSO k a b n) ++ (bOJ0 k s .null (.int 0) (.int 0) (.int 0) ++ bAB k b cap f)) := hD.weaken (fun _ q _ h => hFc q.1 h)
  replace hw_8 : r_6 = nI n := hw_8
  clear hz1 hvm hFc hk1 ht
  clear t9
  generalize H1 = H at hP hS ⊢
  refine lv_tope (v2 := .int (nI n)) (by rw [hw_8]) ?_
  refine lv_istore (lv' := [(4, .int (nI n)), (3, .ref b), (0, .ref s), (1, .ref a), (2, .null)]) hx hb dJ0_init_db425_13 hl (by decide) rfl (fun ls hl => ?_)
  refine lv_aload_n hx hb dJ0_init_db425_15 rfl (lv_at hl 3 rfl) ?_
  have hFc := tFree hD hS hA
  refine va_calli (va_runU (As := []) (rest := []) hF (fr_i (bOJ0 k s .null (.int 0) (.int 0) (.int 0) ++ bAB k b cap f) (t_J5_isLatin1_aae02 l9 hl9 E D k H.size a b n )) (va_cwU 0 hts gJ0_init_db425_J5_isLatin1_aae02_u1047J4 rfl rfl rfl rfl (by decide +kernel) ⟨Nat.le_of_ble_eq_true rfl, Nat.le_of_ble_eq_true rfl⟩) (tPreV (rcv hK hP 0 1 rfl rfl) hK hE hS hA hP hD) rfl rfl hl.1 rfl (lv_room (Nat.le_of_ble_eq_true rfl)) dJ0_init_db425_16 ⟨(Nat.le_of_ble_eq_true rfl), (by show 0 ≤ n; omega)⟩) hS (fun q _ h => hFc q h) hFc (fun r_10 u_11 t9 H1 locs ht hvm hw_12 hB hz1 hk1 hS => ?_)
  obtain ⟨hP, -, hD⟩ := hB
  rw [ht] at hP
  replace hP : va_P D vwCl ((bSO k a b n) ++ (bOJ0 k s .null (.int 0) (.int 0) (.int 0) ++ bAB k b cap f)) H1 := hP
  replace hD : va_D A ((bSO k a b n) ++ (bOJ0 k s .null (.int 0) (.int 0) (.int 0) ++ bAB k b cap f)) := hD.weaken (fun _ q _ h => hFc q.1 h)
  replace hw_12 : r_10 = 1 := hw_12
  clear hz1 hvm hFc hk1 ht
  clear t9
  generalize H1 = H at hP hS ⊢
  refine lv_tope (v2 := .int 1) (by rw [hw_12]) ?_
  refine lv_if_eq (tgt := 41) hx hb dJ0_init_db425_19 (by decide) (fun c_13 => ?_) (fun c_13 => ?_)
  · first | exact absurd c_13 (by decide) | exact absurd (by decide) c_13
  · skip
    refine lv_aload_n hx hb dJ0_init_db425_22 rfl (lv_at hl 2 rfl) ?_
    refine lv_iconst (v := 0) hx hb dJ0_init_db425_23 (by decide) ?_
    refine va_putF (D := D) (ci := 0) (v := .int 0) (ty := .byte) (C := RJ0) (T := TJ0) (N := 4) hx hb hts kc_RJ0 tyJ0 tyJ0_ok nmJ0 hown hK hP hD hS 1 rfl rfl 1 (by decide) k_fieldLink_15 (fun _ h9 => h9) rfl (hin rfl) rfl (by decide +kernel) rfl rfl (Nat.le_of_ble_eq_true rfl) dJ0_init_db425_24 (fun H locs hP hD hS => ?_)
    have hP : va_P D vwCl (bSO k a b n ++ (bOJ0 k s .null (.int 0) (.int 0) (.int 0) ++ bAB k b cap f)) H := hP
    have hD : va_D A (bSO k a b n ++ (bOJ0 k s .null (.int 0) (.int 0) (.int 0) ++ bAB k b cap f)) := hD
    refine lv_aload_n hx hb dJ0_init_db425_27 rfl (lv_at hl 2 rfl) ?_
    refine lv_aload_n hx hb dJ0_init_db425_28 rfl (lv_at hl 1 rfl) ?_
    refine lv_iconst (v := 0) hx hb dJ0_init_db425_29 (by decide) ?_
    refine lv_iload hx hb dJ0_init_db425_30 (lv_at hl 0 rfl) ?_
    have hP : va_P D vwCl (bOJ0 k s .null (.int 0) (.int 0) (.int 0) ++ (bSO k a b n ++ bAB k b cap f)) H := vP_perm hP (pmS (bSO k a b n) (pm0 (bOJ0 k s .null (.int 0) (.int 0) (.int 0)) (bAB k b cap f)))
    have hD : va_D A (bOJ0 k s .null (.int 0) (.int 0) (.int 0) ++ (bSO k a b n ++ bAB k b cap f)) := vD_perm hD (pmS (bSO k a b n) (pm0 (bOJ0 k s .null (.int 0) (.int 0) (.int 0)) (bAB k b cap f)))
    have hP : va_P D vwCl (bSO k a b n ++ (bOJ0 k s .null (.int 0) (.int 0) (.int 0) ++ bAB k b cap f)) H := vP_perm hP (pmS (bOJ0 k s .null (.int 0) (.int 0) (.int 0)) (pm0 (bSO k a b n) (bAB k b cap f)))
    have hD : va_D A (bSO k a b n ++ (bOJ0 k s .null (.int 0) (.int 0) (.int 0) ++ bAB k b cap f)) := vD_perm hD (pmS (bOJ0 k s .null (.int 0) (.int 0) (.int 0)) (pm0 (bSO k a b n) (bAB k b cap f)))
    have hP : va_P D vwCl (bAB k b cap f ++ (bSO k a b n ++ bOJ0 k s .null (.int 0) (.int 0) (.int 0))) H := vP_perm hP (pmX (pmS (bSO k a b n) (pmS (bOJ0 k s .null (.int 0) (.int 0) (.int 0)) (pmE (bAB k b cap f)))))
    have hD : va_D A (bAB k b cap f ++ (bSO k a b n ++ bOJ0 k s .null (.int 0) (.int 0) (.int 0))) := vD_perm hD (pmX (pmS (bSO k a b n) (pmS (bOJ0 k s .null (.int 0) (.int 0) (.int 0)) (pmE (bAB k b cap f)))))
    have hFc := tFree hD hS hA
    refine va_callq (va_runS (As := [.ref b, .int 0, .int (nI n)]) (rest := [.ref s]) hF (fr_q (bSO k a b n ++ bOJ0 k s .null (.int 0) (.int 0) (.int 0)) (t_J7_copyOfRange_39247 l9 hl9 E D k H.size b cap f n hn hcap hf)) (va_cwS 3 hts gJ0_init_db425_J7_copyOfRange_39247 rfl rfl rfl (by decide +kernel) ⟨Nat.le_of_ble_eq_true rfl, Nat.le_of_ble_eq_true rfl⟩) (tPreS hK hE hS hA hP hD) rfl rfl hl.1 rfl (lv_room (Nat.le_of_ble_eq_true rfl)) dJ0_init_db425_32 ⟨(Nat.le_of_ble_eq_true rfl), (by show n ≤ n; omega)⟩) hS (fun q _ h => hFc q h) hFc (fun r_15 u_16 t9 H1 locs ht hvm h32 hB hz1 hk1 hS => ?_)
    obtain ⟨hP, -, hD⟩ := hB
    rw [ht] at hP
    replace hP : va_P D vwCl ((bAB k b cap f ++ bAB k u_16.1 n u_16.2) ++ (bSO k a b n ++ bOJ0 k s .null (.int 0) (.int 0) (.int 0))) H1 := hP
    replace hD : va_D A ((bAB k b cap f ++ bAB k u_16.1 n u_16.2) ++ (bSO k a b n ++ bOJ0 k s .null (.int 0) (.int 0) (.int 0))) := hD.weaken (fun _ q _ h => hFc q.1 h)
    replace hP : va_P D vwCl (bAB k b cap f ++ (bAB k u_16.1 n u_16.2 ++ (bSO k a b n ++ bOJ0 k s .null (.int 0) (.int 0) (.int 0)))) H1 := vP_perm hP (pb2 _ _ _)
    replace hD : va_D A (bAB k b cap f ++ (bAB k u_16.1 n u_16.2 ++ (bSO k a b n ++ bOJ0 k s .null (.int 0) (.int 0) (.int 0)))) := vD_perm hD (pb2 _ _ _)
    replace h32 : r_15 = some u_16.1 ∧ Bf u_16.2 n ∧ ∀ j, j < n → u_16.2 j = f j := h32
    clear hz1 hvm hFc hk1 ht
    clear t9
    generalize H1 = H at hP hS ⊢
    refine lv_tope (v2 := .ref u_16.1) (by rw [h32.1]; rfl) ?_
    refine va_putF (D := D) (ci := 0) (v := .ref u_16.1) (ty := (.array .byte)) (C := RJ0) (T := TJ0) (N := 4) hx hb hts kc_RJ0 tyJ0 tyJ0_ok nmJ0 hown hK hP hD hS 3 rfl rfl 0 (by decide) k_fieldLink_9 (fun _ h9 => h9) rfl (hin rfl) rfl (by decide +kernel) rfl rfl (Nat.le_of_ble_eq_true rfl) dJ0_init_db425_35 (fun H locs hP hD hS => ?_)
    have hP : va_P D vwCl (bAB k b cap f ++ (bAB k u_16.1 n u_16.2 ++ (bSO k a b n ++ bOJ0 k s (.ref u_16.1) (.int 0) (.int 0) (.int 0)))) H := hP
    have hD : va_D A (bAB k b cap f ++ (bAB k u_16.1 n u_16.2 ++ (bSO k a b n ++ bOJ0 k s (.ref u_16.1) (.int 0) (.int 0) (.int 0)))) := hD
    refine lv_goto (tgt := 97) hx hb dJ0_init_db425_38 (by decide) ?_
    have hP : va_P D vwCl (bAB k b cap f ++ (bAB k u_16.1 n u_16.2 ++ (bSO k a b n ++ bTO k s u_16.1))) H := hP
    have hD : va_D A (bAB k b cap f ++ (bAB k u_16.1 n u_16.2 ++ (bSO k a b n ++ bTO k s u_16.1))) := hD
    have hP : va_P D vwCl (bSO k a b n ++ (bAB k b cap f ++ (bAB k u_16.1 n u_16.2 ++ bTO k s u_16.1))) H := vP_perm hP (pmS (bAB k b cap f) (pmS (bAB k u_16.1 n u_16.2) (pm0 (bSO k a b n) (bTO k s u_16.1))))
    have hD : va_D A (bSO k a b n ++ (bAB k b cap f ++ (bAB k u_16.1 n u_16.2 ++ bTO k s u_16.1))) := vD_perm hD (pmS (bAB k b cap f) (pmS (bAB k u_16.1 n u_16.2) (pm0 (bSO k a b n) (bTO k s u_16.1))))
    have hP : va_P D vwCl (bAB k u_16.1 n u_16.2 ++ (bSO k a b n ++ (bAB k b cap f ++ bTO k s u_16.1))) H := vP_perm hP (pmS (bSO k a b n) (pmS (bAB k b cap f) (pm0 (bAB k u_16.1 n u_16.2) (bTO k s u_16.1))))
    have hD : va_D A (bAB k u_16.1 n u_16.2 ++ (bSO k a b n ++ (bAB k b cap f ++ bTO k s u_16.1))) := vD_perm hD (pmS (bSO k a b n) (pmS (bAB k b cap f) (pm0 (bAB k u_16.1 n u_16.2) (bTO k s u_16.1))))
    have hP : va_P D vwCl (bTO k s u_16.1 ++ (bAB k u_16.1 n u_16.2 ++ (bSO k a b n ++ bAB k b cap f))) H := vP_perm hP (pmX (pmS (bAB k u_16.1 n u_16.2) (pmS (bSO k a b n) (pmS (bAB k b cap f) (pmE (bTO k s u_16.1))))))
    have hD : va_D A (bTO k s u_16.1 ++ (bAB k u_16.1 n u_16.2 ++ (bSO k a b n ++ bAB k b cap f))) := vD_perm hD (pmX (pmS (bAB k u_16.1 n u_16.2) (pmS (bSO k a b n) (pmS (bAB k b cap f) (pmE (bTO k s u_16.1))))))
    exact W.vret hx hb hr (fun t9 ht hW => ⟨⟨u_16, rfl, (by exact h32.2), ⟨by rw [ht]; exact hP, va_K.moved hW.alike hK, hD⟩⟩, hS.F ht⟩) hS.2.2 dJ0_init_db425_97 hlocks

set_option maxHeartbeats 4000000 in
set_option maxRecDepth 100000 in
theorem t_J0_init_81219 (l9 : Launch) (hl9 : l9.stackTraces = false) (E : EK) (D : va_G) (k : Nat → ClassId) (sz : Nat) (s a b cap : Nat) (f : Nat → Int32) (n : Nat) (hn : n ≤ cap) (hcap : cap < 2 ^ 28) (hf : Bf f cap) : Met l9 yJ0_init_81219 wsJ0_init_81219 ({ frames := 4, cells := 1, slots := n, locals := 130 }) (TPc E D k [.ref s, .ref a] (bOJ0 k s .null (.int 0) (.int 0) (.int 0) ++ (bSO k a b n ++ bAB k b cap f)) sz) (va_Qv (fun (u9 : Nat × (Nat → Int32)) => Bf u9.2 n ∧ ∀ j, j < n → u9.2 j = f j) (TB D k (va_A (bOJ0 k s .null (.int 0) (.int 0) (.int 0) ++ (bSO k a b n ++ bAB k b cap f)) sz) (fun u9 : Nat × (Nat → Int32) => bTO k s u9.1 ++ (bAB k u9.1 n u9.2 ++ (bSO k a b n ++ bAB k b cap f)))) (va_A (bOJ0 k s .null (.int 0) (.int 0) (.int 0) ++ (bSO k a b n ++ bAB k b cap f)) sz)) (1) (n) (va_A (bOJ0 k s .null (.int 0) (.int 0) (.int 0) ++ (bSO k a b n ++ bAB k b cap f)) sz) := by
  refine tMet (y := yJ0_init_81219) (cc := cJ0_init_81219) (maxL := 2) (ret := none) (Qc := fun A => va_Qv (fun (u9 : Nat × (Nat → Int32)) => Bf u9.2 n ∧ ∀ j, j < n → u9.2 j = f j) (TB D k (A) (fun u9 : Nat × (Nat → Int32) => bTO k s u9.1 ++ (bAB k u9.1 n u9.2 ++ (bSO k a b n ++ bAB k b cap f)))) (A)) [.ref s, .ref a] (by decide) rfl (Nat.le_of_ble_eq_true rfl) ?_
  intro p9 e9 s9 m9 bl9 me9 c9 ls A H hF hr hlocks hP hK hE hD hA hS hl hin
  have hl : lv_has ls 2 [(0, .ref s), (1, .ref a)] := hl
  obtain ⟨hx, hb, hml, hown, hts⟩ := id hF
  refine lv_aload_n hx hb dJ0_init_81219_0 rfl (lv_at hl 0 rfl) ?_
  refine lv_aload_n hx hb dJ0_init_81219_1 rfl (lv_at hl 1 rfl) ?_
  refine lv_null hx hb dJ0_init_81219_2 ?_
  have hFc := tFree hD hS hA
  refine va_callv (va_runI (As := [.ref a, .null]) (rest := []) hF (t_J0_init_db425 l9 hl9 E D k H.size s a b cap f n hn hcap hf) (cwI 2 hts gJ0_init_81219_J0_init_db425 rfl rfl rfl (hts (.initialized RJ0) (by decide +kernel)) (hts (.methodLink RJ0 489 yJ0_init_db425) (by decide +kernel)) (hts (.instanceMethod yJ0_init_db425) (by decide +kernel)) rfl (by decide +kernel) ⟨Nat.le_of_ble_eq_true rfl, Nat.le_of_ble_eq_true rfl⟩) (tPreI hK hE hS hA hP hD) rfl rfl hl.1 rfl (lv_room (Nat.le_of_ble_eq_true rfl)) dJ0_init_81219_3 ⟨(Nat.le_of_ble_eq_true rfl), (by show n ≤ n; omega)⟩) hS (fun q _ h => hFc q h) hFc (fun u_3 t9 H1 locs ht hvm h3 hB hz1 hk1 hS => ?_)
  obtain ⟨hP, -, hD⟩ := hB
  rw [ht] at hP
  replace hP : va_P D vwCl (bTO k s u_3.1 ++ (bAB k u_3.1 n u_3.2 ++ (bSO k a b n ++ bAB k b cap f))) H1 := hP
  replace hD : va_D A (bTO k s u_3.1 ++ (bAB k u_3.1 n u_3.2 ++ (bSO k a b n ++ bAB k b cap f))) := hD.weaken (fun _ q _ h => hFc q.1 h)
  replace h3 : Bf u_3.2 n ∧ ∀ j, j < n → u_3.2 j = f j := h3
  clear hz1 hvm hFc hk1 ht
  clear t9
  generalize H1 = H at hP hS ⊢
  exact W.vret hx hb hr (fun t9 ht hW => ⟨⟨u_3, rfl, (by exact h3), ⟨by rw [ht]; exact hP, va_K.moved hW.alike hK, hD⟩⟩, hS.F ht⟩) hS.2.2 dJ0_init_81219_6 hlocks

set_option maxHeartbeats 4000000 in
set_option maxRecDepth 100000 in
theorem t_J4_toString_0e30d (l9 : Launch) (hl9 : l9.stackTraces = false) (E : EK) (D : va_G) (k : Nat → ClassId) (sz : Nat) (a b cap : Nat) (f : Nat → Int32) (n : Nat) (hn : n ≤ cap) (hcap : cap < 2 ^ 28) (hf : Bf f cap) : Met l9 yJ4_toString_0e30d wsJ4_toString_0e30d ({ frames := 5, cells := 1 + 1, slots := 4 + n, locals := 151 }) (TPc E D k [.ref a] (bSO k a b n ++ bAB k b cap f) sz) (va_Qq (fun (r : Option Nat) (u9 : Nat × Nat × (Nat → Int32)) => r = some u9.1 ∧ Bf u9.2.2 n ∧ ∀ j, j < n → u9.2.2 j = f j) (TB D k (va_A (bSO k a b n ++ bAB k b cap f) sz) (fun u9 : Nat × Nat × (Nat → Int32) => bTO k u9.1 u9.2.1 ++ (bAB k u9.2.1 n u9.2.2 ++ (bSO k a b n ++ bAB k b cap f)))) (va_A (bSO k a b n ++ bAB k b cap f) sz)) (1 + 1) (4 + n) (va_A (bSO k a b n ++ bAB k b cap f) sz) := by
  refine tMet (y := yJ4_toString_0e30d) (cc := cJ4_toString_0e30d) (maxL := 1) (ret := (some (.object "java/lang/String"))) (Qc := fun A => va_Qq (fun (r : Option Nat) (u9 : Nat × Nat × (Nat → Int32)) => r = some u9.1 ∧ Bf u9.2.2 n ∧ ∀ j, j < n → u9.2.2 j = f j) (TB D k (A) (fun u9 : Nat × Nat × (Nat → Int32) => bTO k u9.1 u9.2.1 ++ (bAB k u9.2.1 n u9.2.2 ++ (bSO k a b n ++ bAB k b cap f)))) (A)) [.ref a] (by decide) rfl (Nat.le_of_ble_eq_true rfl) ?_
  intro p9 e9 s9 m9 bl9 me9 c9 ls A H hF hr hlocks hP hK hE hD hA hS hl hin
  have hl : lv_has ls 1 [(0, .ref a)] := hl
  obtain ⟨hx, hb, hml, hown, hts⟩ := id hF
  have kc_RJ0 : ∀ w ∈ u_ws RJ0 TJ0 4, w ∈ wsJ4_toString_0e30d := by decide +kernel
  refine va_new (ci := 0) (fs := [.null, .int 0, .int 0, .int 0]) (C := RJ0) (T := TJ0) (N := 4) hx hb hts kc_RJ0 tyJ0 tyJ0_ok hown (hts (.classLink RJ4 18 RJ0) (by decide +kernel)) (hts (.instantiable RJ0 4) (by decide +kernel)) (hts (.initialized RJ0) (by decide +kernel)) hK hP hD hS hA rfl (fun j hj => by rcases (show j = 0 ∨ j = 1 ∨ j = 2 ∨ j = 3 by omega) with rfl | rfl | rfl | rfl <;> rfl) (by show 1 ≤ 1 + 1; omega) (by show 4 ≤ 4 + n; omega) dJ4_toString_0e30d_0 (fun q_1 H hP hD hS => ?_)
  have hP : va_P D vwCl (bOJ0 k q_1 .null (.int 0) (.int 0) (.int 0) ++ (bSO k a b n ++ bAB k b cap f)) H := vP_perm hP (pmN _ _)
  have hD : va_D A (bOJ0 k q_1 .null (.int 0) (.int 0) (.int 0) ++ (bSO k a b n ++ bAB k b cap f)) := vD_perm hD (pmN _ _)
  refine lv_dup hx hb dJ4_toString_0e30d_3 rfl ?_
  refine lv_aload_n hx hb dJ4_toString_0e30d_4 rfl (lv_at hl 0 rfl) ?_
  have hFc := tFree hD hS hA
  refine va_callv (va_runI (As := [.ref a]) (rest := [.ref q_1]) hF (t_J0_init_81219 l9 hl9 E D k H.size q_1 a b cap f n hn hcap hf) (cwI 1 hts gJ4_toString_0e30d_J0_init_81219 rfl rfl rfl (hts (.initialized RJ0) (by decide +kernel)) (hts (.methodLink RJ4 137 yJ0_init_81219) (by decide +kernel)) (hts (.instanceMethod yJ0_init_81219) (by decide +kernel)) rfl (by decide +kernel) ⟨Nat.le_of_ble_eq_true rfl, Nat.le_of_ble_eq_true rfl⟩) (tPreI hK hE hS hA hP hD) rfl rfl hl.1 rfl (lv_room (Nat.le_of_ble_eq_true rfl)) dJ4_toString_0e30d_5 ⟨(by show 2 ≤ 1 + 1; omega), (by show 4 + n ≤ 4 + n; omega)⟩) hS (fun q _ h => hFc q h) hFc (fun u_4 t9 H1 locs ht hvm h5 hB hz1 hk1 hS => ?_)
  obtain ⟨hP, -, hD⟩ := hB
  rw [ht] at hP
  replace hP : va_P D vwCl (bTO k q_1 u_4.1 ++ (bAB k u_4.1 n u_4.2 ++ (bSO k a b n ++ bAB k b cap f))) H1 := hP
  replace hD : va_D A (bTO k q_1 u_4.1 ++ (bAB k u_4.1 n u_4.2 ++ (bSO k a b n ++ bAB k b cap f))) := hD.weaken (fun _ q _ h => hFc q.1 h)
  replace h5 : Bf u_4.2 n ∧ ∀ j, j < n → u_4.2 j = f j := h5
  clear hz1 hvm hFc hk1 ht
  clear t9
  generalize H1 = H at hP hS ⊢
  refine W.widen (k := 1 + 1) (n := 4 + n) (by show 2 ≤ 1 + 1; omega) (by show 4 + n ≤ 4 + n; omega) ?_
  exact W.aret (v := .ref q_1) hx hb hr (Or.inl ⟨_, rfl⟩) (Or.inr ⟨_, rfl⟩) (fun t9 ht hW => ⟨⟨some q_1, (q_1, u_4), rfl, (by exact ⟨rfl, h5⟩), ⟨by rw [ht]; exact hP, va_K.moved hW.alike hK, hD⟩⟩, hS.F ht⟩) hS.2.2 dJ4_toString_0e30d_8 hlocks

set_option maxHeartbeats 4000000 in
set_option maxRecDepth 100000 in
theorem t_J1_equals_b5fdf (l9 : Launch) (hl9 : l9.stackTraces = false) (E : EK) (D : va_G) (k : Nat → ClassId) (sz : Nat) (t m : Nat) (f : Nat → Int32) (v n : Nat) (g : Nat → Int32) (hm : m < 2 ^ 28) (hn : n < 2 ^ 28) : Met l9 yJ1_equals_b5fdf wsJ1_equals_b5fdf ({ frames := 0, cells := 0, slots := 0, locals := 0 }) (TPc E D k [.ref t, .ref v] (bAB k t m f ++ bAB k v n g) sz) (va_Qi (fun (r : Int32) (u9 : Unit) => r = bI (eqB f m g n)) (TB D k (va_A (bAB k t m f ++ bAB k v n g) sz) (fun u9 : Unit => bAB k t m f ++ bAB k v n g)) (va_A (bAB k t m f ++ bAB k v n g) sz)) (0) (0) (va_A (bAB k t m f ++ bAB k v n g) sz) := by
  refine tMet (y := yJ1_equals_b5fdf) (cc := cJ1_equals_b5fdf) (maxL := 3) (ret := (some .boolean)) (Qc := fun A => va_Qi (fun (r : Int32) (u9 : Unit) => r = bI (eqB f m g n)) (TB D k (A) (fun u9 : Unit => bAB k t m f ++ bAB k v n g)) (A)) [.ref t, .ref v] (by decide) rfl (Nat.le_of_ble_eq_true rfl) ?_
  intro p9 e9 s9 m9 bl9 me9 c9 ls A H hF hr hlocks hP hK hE hD hA hS hl hin
  have hl : lv_has ls 3 [(0, .ref t), (1, .ref v)] := hl
  obtain ⟨hx, hb, hml, hown, hts⟩ := id hF
  have loop_9 : ∀ (fuel : Nat) (i : Nat), (i ≤ m) → (m = n) → (∀ j, j < i → f j = g j) → m - i < fuel → ∀ (ls : Array Slot) (H : Heap) (locs : List Loc), va_P D vwCl (bAB k t m f ++ bAB k v n g) H → va_D A (bAB k t m f ++ bAB k v n g) → va_S A s9.heap H locs → lv_has ls 3 [(0, .ref t), (1, .ref v), (2, .int (nI i))] → W p9 l9 e9 ({ frames := 0, cells := 0, slots := 0, locals := 0 }) s9 m9 ([.ref t, .ref v] : List Value).toArray bl9 me9 c9 H locs (0) (0) (MQ bl9 (va_Qi (fun (r : Int32) (u9 : Unit) => r = bI (eqB f m g n)) (TB D k (A) (fun u9 : Unit => bAB k t m f ++ bAB k v n g)) (A)) ([.ref t, .ref v] : List Value).toArray s9 (0) (0) A) (F0 m9 9 ls []) := by
    intro fuel
    induction fuel with
    | zero => intro i hi hmn he hfuel_9; exact absurd hfuel_9 (Nat.not_lt_zero _)
    | succ fuel ih_9 =>
      intro i hi hmn he hfuel_9 ls H locs hP hD hS hl
      refine lv_iload_n hx hb dJ1_equals_b5fdf_9 rfl (lv_at hl 2 rfl) ?_
      refine lv_aload_n hx hb dJ1_equals_b5fdf_10 rfl (lv_at hl 0 rfl) ?_
      refine va_alen (v := nI m) hx hb hK hP 0 8 rfl rfl rfl dJ1_equals_b5fdf_11 ?_
      refine lv_icmp_ge (tgt := 32) hx hb dJ1_equals_b5fdf_12 (by decide) (fun c_1 => ?_) (fun c_1 => ?_)
      · skip
        have c_1 : m ≤ i := (nI_leI (a := m) (b := i) (by omega) (by omega)).mp c_1
        refine lv_iconst (v := 1) hx hb dJ1_equals_b5fdf_32 (by decide) ?_
        exact W.zret (v := 1) hx hb hr (rfl) (fun t9 ht hW => ⟨⟨_, (), rfl, (by rw [eqB_yes hmn (fun j hj => he j (by omega))]; rfl), ⟨by rw [ht]; exact hP, va_K.moved hW.alike hK, hD⟩⟩, hS.F ht⟩) hS.2.2 dJ1_equals_b5fdf_33 hlocks
      · skip
        have c_1 : ¬ m ≤ i := fun h => c_1 ((nI_leI (a := m) (b := i) (by omega) (by omega)).mpr h)
        refine lv_aload_n hx hb dJ1_equals_b5fdf_15 rfl (lv_at hl 0 rfl) ?_
        refine lv_iload_n hx hb dJ1_equals_b5fdf_16 rfl (lv_at hl 2 rfl) ?_
        refine by_ld hx hb hK hP 0 rfl i (by omega) (by omega) dJ1_equals_b5fdf_17 ?_
        refine lv_aload_n hx hb dJ1_equals_b5fdf_18 rfl (lv_at hl 1 rfl) ?_
        refine lv_iload_n hx hb dJ1_equals_b5fdf_19 rfl (lv_at hl 2 rfl) ?_
        refine by_ld hx hb hK hP 1 rfl i (by omega) (by omega) dJ1_equals_b5fdf_20 ?_
        refine lv_icmp_eq (tgt := 26) hx hb dJ1_equals_b5fdf_21 (by decide) (fun c_2 => ?_) (fun c_2 => ?_)
        · skip
          refine lv_iinc (v := nI (i + 1)) (lv' := [(2, .int (nI (i + 1))), (0, .ref t), (1, .ref v)]) hx hb dJ1_equals_b5fdf_26 hl (k := 2) rfl (nI_inc i) (by decide) rfl (fun ls hl => ?_)
          refine lv_goto (tgt := 9) hx hb dJ1_equals_b5fdf_29 (by decide) ?_
          exact ih_9 (i + 1) (by omega) hmn (fun j hj => if h7 : j < i then he j h7 else (by rw [show j = i by omega]; exact c_2)) (by omega) ls _ _ hP hD hS (lv_one hl 1 rfl rfl (lv_one hl 2 rfl rfl (lv_one hl 0 rfl rfl (lv_nil hl))))
        · skip
          refine lv_iconst (v := 0) hx hb dJ1_equals_b5fdf_24 (by decide) ?_
          exact W.zret (v := 0) hx hb hr (rfl) (fun t9 ht hW => ⟨⟨_, (), rfl, (by rw [eqB_no (i := i) (by omega) c_2]; rfl), ⟨by rw [ht]; exact hP, va_K.moved hW.alike hK, hD⟩⟩, hS.F ht⟩) hS.2.2 dJ1_equals_b5fdf_25 hlocks
  refine lv_aload_n hx hb dJ1_equals_b5fdf_0 rfl (lv_at hl 0 rfl) ?_
  refine va_alen (v := nI m) hx hb hK hP 0 8 rfl rfl rfl dJ1_equals_b5fdf_1 ?_
  refine lv_aload_n hx hb dJ1_equals_b5fdf_2 rfl (lv_at hl 1 rfl) ?_
  refine va_alen (v := nI n) hx hb hK hP 1 8 rfl rfl rfl dJ1_equals_b5fdf_3 ?_
  refine lv_icmp_ne (tgt := 34) hx hb dJ1_equals_b5fdf_4 (by decide) (fun c_3 => ?_) (fun c_3 => ?_)
  · skip
    have c_3 : ¬ m = n := fun h => c_3 ((nI_eq (a := m) (b := n) (by omega) (by omega)).mpr h)
    refine lv_iconst (v := 0) hx hb dJ1_equals_b5fdf_34 (by decide) ?_
    exact W.zret (v := 0) hx hb hr (rfl) (fun t9 ht hW => ⟨⟨_, (), rfl, (by rw [eqB_len c_3]; rfl), ⟨by rw [ht]; exact hP, va_K.moved hW.alike hK, hD⟩⟩, hS.F ht⟩) hS.2.2 dJ1_equals_b5fdf_35 hlocks
  · skip
    have c_3 : m = n := (nI_eq (a := m) (b := n) (by omega) (by omega)).mp c_3
    refine lv_iconst (v := 0) hx hb dJ1_equals_b5fdf_7 (by decide) ?_
    refine lv_istore_n (lv' := [(2, .int 0), (0, .ref t), (1, .ref v)]) hx hb dJ1_equals_b5fdf_8 rfl hl (by decide) rfl (fun ls hl => ?_)
    exact loop_9 ((m - 0) + 1) 0 (by omega) (by omega) (fun j hj => by omega) (Nat.lt_succ_self _) ls _ _ hP hD hS (lv_one hl 1 rfl rfl (lv_one hl 2 rfl rfl (lv_one hl 0 rfl rfl (lv_nil hl))))

set_option maxHeartbeats 4000000 in
set_option maxRecDepth 100000 in
theorem t_J0_equals_9ea2d (l9 : Launch) (hl9 : l9.stackTraces = false) (E : EK) (D : va_G) (k : Nat → ClassId) (sz : Nat) (s p t m : Nat) (f : Nat → Int32) (v n : Nat) (g : Nat → Int32) (hm : m < 2 ^ 28) (hn : n < 2 ^ 28) : Met l9 yJ0_equals_9ea2d wsJ0_equals_9ea2d ({ frames := 1, cells := 0, slots := 0, locals := 22 }) (TPc E D k [.ref s, .ref p] (bTO k s t ++ (bAB k t m f ++ (bTO k p v ++ bAB k v n g))) sz) (va_Qi (fun (r : Int32) (u9 : Unit) => r = bI (eqB f m g n)) (TB D k (va_A (bTO k s t ++ (bAB k t m f ++ (bTO k p v ++ bAB k v n g))) sz) (fun u9 : Unit => bTO k s t ++ (bAB k t m f ++ (bTO k p v ++ bAB k v n g)))) (va_A (bTO k s t ++ (bAB k t m f ++ (bTO k p v ++ bAB k v n g))) sz)) (0) (0) (va_A (bTO k s t ++ (bAB k t m f ++ (bTO k p v ++ bAB k v n g))) sz) := by
  refine tMet (y := yJ0_equals_9ea2d) (cc := cJ0_equals_9ea2d) (maxL := 3) (ret := (some .boolean)) (Qc := fun A => va_Qi (fun (r : Int32) (u9 : Unit) => r = bI (eqB f m g n)) (TB D k (A) (fun u9 : Unit => bTO k s t ++ (bAB k t m f ++ (bTO k p v ++ bAB k v n g)))) (A)) [.ref s, .ref p] (by decide) rfl (Nat.le_of_ble_eq_true rfl) ?_
  intro p9 e9 s9 m9 bl9 me9 c9 ls A H hF hr hlocks hP hK hE hD hA hS hl hin
  have hl : lv_has ls 3 [(0, .ref s), (1, .ref p)] := hl
  obtain ⟨hx, hb, hml, hown, hts⟩ := id hF
  have k_fieldLink_38 : (Cond.fieldLink RJ0 38 "java/lang/String" "COMPACT_STRINGS" "Z").before _ s9 = true := hts (.fieldLink RJ0 38 "java/lang/String" "COMPACT_STRINGS" "Z") (by decide +kernel)
  have k_fieldLink_15 : (Cond.fieldLink RJ0 15 "java/lang/String" "coder" "B").before _ s9 = true := hts (.fieldLink RJ0 15 "java/lang/String" "coder" "B") (by decide +kernel)
  have kc_RJ0 : ∀ w ∈ u_ws RJ0 TJ0 4, w ∈ wsJ0_equals_9ea2d := by decide +kernel
  have k_fieldLink_9 : (Cond.fieldLink RJ0 9 "java/lang/String" "value" "[B").before _ s9 = true := hts (.fieldLink RJ0 9 "java/lang/String" "value" "[B") (by decide +kernel)
  refine lv_aload_n hx hb dJ0_equals_9ea2d_0 rfl (lv_at hl 0 rfl) ?_
  refine lv_aload_n hx hb dJ0_equals_9ea2d_1 rfl (lv_at hl 1 rfl) ?_
  refine lv_acmp_ne (rx := some s) (ry := some p) (tgt := 7) hx hb dJ0_equals_9ea2d_2 (by decide) (fun c_1 => ?_) (fun c_1 => ?_)
  · skip
    refine lv_aload_n hx hb dJ0_equals_9ea2d_7 rfl (lv_at hl 1 rfl) ?_
    refine va_instS hx hb hown (hts (.classLink RJ0 10 "java/lang/String") (by decide +kernel)) (hK.1 0 _ rfl).2 (rcv hK hP 2 0 rfl rfl) dJ0_equals_9ea2d_8 ?_
    refine lv_if_eq (tgt := 54) hx hb dJ0_equals_9ea2d_11 (by decide) (fun c_2 => ?_) (fun c_2 => ?_)
    · first | exact absurd c_2 (by decide) | exact absurd (by decide) c_2
    · skip
      refine lv_aload_n hx hb dJ0_equals_9ea2d_14 rfl (lv_at hl 1 rfl) ?_
      refine va_castS hx hb hown (hts (.classLink RJ0 10 "java/lang/String") (by decide +kernel)) (hK.1 0 _ rfl).2 (rcv hK hP 2 0 rfl rfl) dJ0_equals_9ea2d_15 ?_
      refine lv_astore_n (lv' := [(2, .ref p), (0, .ref s), (1, .ref p)]) hx hb dJ0_equals_9ea2d_18 rfl hl (by decide) rfl (fun ls hl => ?_)
      refine va_gets hx hb hE.2.2.2.2.2.1.2.2.2.2.2.2.1 hS hown k_fieldLink_38 (fun _ h9 => h9) dJ0_equals_9ea2d_19 ?_
      refine lv_if_eq (tgt := 36) hx hb dJ0_equals_9ea2d_22 (by decide) (fun c_3 => ?_) (fun c_3 => ?_)
      · first | exact absurd c_3 (by decide) | exact absurd (by decide) c_3
      · skip
        refine lv_aload_n hx hb dJ0_equals_9ea2d_25 rfl (lv_at hl 1 rfl) ?_
        refine va_get (D := D) (ci := 0) (v := .int 0) (C := RJ0) (T := TJ0) (N := 4) hx hb hts kc_RJ0 hown hK hP 0 rfl rfl 1 (by decide) k_fieldLink_15 (fun _ h9 => h9) rfl dJ0_equals_9ea2d_26 ?_
        refine lv_aload_n hx hb dJ0_equals_9ea2d_29 rfl (lv_at hl 0 rfl) ?_
        refine va_get (D := D) (ci := 0) (v := .int 0) (C := RJ0) (T := TJ0) (N := 4) hx hb hts kc_RJ0 hown hK hP 2 rfl rfl 1 (by decide) k_fieldLink_15 (fun _ h9 => h9) rfl dJ0_equals_9ea2d_30 ?_
        refine lv_icmp_ne (tgt := 54) hx hb dJ0_equals_9ea2d_33 (by decide) (fun c_4 => ?_) (fun c_4 => ?_)
        · first | exact absurd c_4 (by decide) | exact absurd (by decide) c_4
        · skip
          refine lv_aload_n hx hb dJ0_equals_9ea2d_36 rfl (lv_at hl 1 rfl) ?_
          refine va_get (D := D) (ci := 0) (v := .ref t) (C := RJ0) (T := TJ0) (N := 4) hx hb hts kc_RJ0 hown hK hP 0 rfl rfl 0 (by decide) k_fieldLink_9 (fun _ h9 => h9) rfl dJ0_equals_9ea2d_37 ?_
          refine lv_aload_n hx hb dJ0_equals_9ea2d_40 rfl (lv_at hl 0 rfl) ?_
          refine va_get (D := D) (ci := 0) (v := .ref v) (C := RJ0) (T := TJ0) (N := 4) hx hb hts kc_RJ0 hown hK hP 2 rfl rfl 0 (by decide) k_fieldLink_9 (fun _ h9 => h9) rfl dJ0_equals_9ea2d_41 ?_
          have hP : va_P D vwCl (bTO k p v ++ (bTO k s t ++ (bAB k t m f ++ bAB k v n g))) H := vP_perm hP (pmS (bTO k s t) (pmS (bAB k t m f) (pm0 (bTO k p v) (bAB k v n g))))
          have hD : va_D A (bTO k p v ++ (bTO k s t ++ (bAB k t m f ++ bAB k v n g))) := vD_perm hD (pmS (bTO k s t) (pmS (bAB k t m f) (pm0 (bTO k p v) (bAB k v n g))))
          have hP : va_P D vwCl (bTO k s t ++ (bTO k p v ++ (bAB k t m f ++ bAB k v n g))) H := vP_perm hP (pmS (bTO k p v) (pm0 (bTO k s t) (bAB k t m f ++ bAB k v n g)))
          have hD : va_D A (bTO k s t ++ (bTO k p v ++ (bAB k t m f ++ bAB k v n g))) := vD_perm hD (pmS (bTO k p v) (pm0 (bTO k s t) (bAB k t m f ++ bAB k v n g)))
          have hP : va_P D vwCl (bAB k v n g ++ (bTO k s t ++ (bTO k p v ++ bAB k t m f))) H := vP_perm hP (pmX (pmS (bTO k s t) (pmS (bTO k p v) (pmS (bAB k t m f) (pmE (bAB k v n g))))))
          have hD : va_D A (bAB k v n g ++ (bTO k s t ++ (bTO k p v ++ bAB k t m f))) := vD_perm hD (pmX (pmS (bTO k s t) (pmS (bTO k p v) (pmS (bAB k t m f) (pmE (bAB k v n g))))))
          have hP : va_P D vwCl (bAB k t m f ++ (bAB k v n g ++ (bTO k s t ++ bTO k p v))) H := vP_perm hP (pmX (pmS (bAB k v n g) (pmS (bTO k s t) (pmS (bTO k p v) (pmE (bAB k t m f))))))
          have hD : va_D A (bAB k t m f ++ (bAB k v n g ++ (bTO k s t ++ bTO k p v))) := vD_perm hD (pmX (pmS (bAB k v n g) (pmS (bTO k s t) (pmS (bTO k p v) (pmE (bAB k t m f))))))
          have hP : va_P D vwCl ((bAB k t m f ++ bAB k v n g) ++ (bTO k s t ++ bTO k p v)) H := vP_perm hP (pa2 _ _ _)
          have hD : va_D A ((bAB k t m f ++ bAB k v n g) ++ (bTO k s t ++ bTO k p v)) := vD_perm hD (pa2 _ _ _)
          have hFc := tFree hD hS hA
          refine va_calli (va_runS (As := [.ref t, .ref v]) (rest := []) hF (fr_i (bTO k s t ++ bTO k p v) (t_J1_equals_b5fdf l9 hl9 E D k H.size t m f v n g hm hn)) (va_cwS 2 hts gJ0_equals_9ea2d_J1_equals_b5fdf rfl rfl rfl (by decide +kernel) ⟨Nat.le_of_ble_eq_true rfl, Nat.le_of_ble_eq_true rfl⟩) (tPreS hK hE hS hA hP hD) rfl rfl hl.1 rfl (lv_room (Nat.le_of_ble_eq_true rfl)) dJ0_equals_9ea2d_44 ⟨(Nat.le_of_ble_eq_true rfl), (Nat.le_of_ble_eq_true rfl)⟩) hS (fun q _ h => hFc q h) hFc (fun r_6 u_7 t9 H1 locs ht hvm hw_8 hB hz1 hk1 hS => ?_)
          obtain ⟨hP, -, hD⟩ := hB
          rw [ht] at hP
          replace hP : va_P D vwCl ((bAB k t m f ++ bAB k v n g) ++ (bTO k s t ++ bTO k p v)) H1 := hP
          replace hD : va_D A ((bAB k t m f ++ bAB k v n g) ++ (bTO k s t ++ bTO k p v)) := hD.weaken (fun _ q _ h => hFc q.1 h)
          replace hP : va_P D vwCl (bAB k t m f ++ (bAB k v n g ++ (bTO k s t ++ bTO k p v))) H1 := vP_perm hP (pb2 _ _ _)
          replace hD : va_D A (bAB k t m f ++ (bAB k v n g ++ (bTO k s t ++ bTO k p v))) := vD_perm hD (pb2 _ _ _)
          replace hw_8 : r_6 = bI (eqB f m g n) := hw_8
          clear hz1 hvm hFc hk1 ht
          clear t9
          generalize H1 = H at hP hS ⊢
          refine lv_tope (v2 := .int (bI (eqB f m g n))) (by rw [hw_8]) ?_
          refine lv_if_eq (tgt := 54) hx hb dJ0_equals_9ea2d_47 (by decide) (fun c_9 => ?_) (fun c_9 => ?_)
          · skip
            have c_9 : (eqB f m g n) = false := bI_0 c_9
            refine lv_iconst (v := 0) hx hb dJ0_equals_9ea2d_54 (by decide) ?_
            have hP : va_P D vwCl (bAB k v n g ++ (bAB k t m f ++ (bTO k s t ++ bTO k p v))) H := vP_perm hP (pmS (bAB k t m f) (pm0 (bAB k v n g) (bTO k s t ++ bTO k p v)))
            have hD : va_D A (bAB k v n g ++ (bAB k t m f ++ (bTO k s t ++ bTO k p v))) := vD_perm hD (pmS (bAB k t m f) (pm0 (bAB k v n g) (bTO k s t ++ bTO k p v)))
            have hP : va_P D vwCl (bTO k p v ++ (bAB k v n g ++ (bAB k t m f ++ bTO k s t))) H := vP_perm hP (pmX (pmS (bAB k v n g) (pmS (bAB k t m f) (pmS (bTO k s t) (pmE (bTO k p v))))))
            have hD : va_D A (bTO k p v ++ (bAB k v n g ++ (bAB k t m f ++ bTO k s t))) := vD_perm hD (pmX (pmS (bAB k v n g) (pmS (bAB k t m f) (pmS (bTO k s t) (pmE (bTO k p v))))))
            have hP : va_P D vwCl (bAB k t m f ++ (bTO k p v ++ (bAB k v n g ++ bTO k s t))) H := vP_perm hP (pmS (bTO k p v) (pmS (bAB k v n g) (pm0 (bAB k t m f) (bTO k s t))))
            have hD : va_D A (bAB k t m f ++ (bTO k p v ++ (bAB k v n g ++ bTO k s t))) := vD_perm hD (pmS (bTO k p v) (pmS (bAB k v n g) (pm0 (bAB k t m f) (bTO k s t))))
            have hP : va_P D vwCl (bTO k s t ++ (bAB k t m f ++ (bTO k p v ++ bAB k v n g))) H := vP_perm hP (pmX (pmS (bAB k t m f) (pmS (bTO k p v) (pmS (bAB k v n g) (pmE (bTO k s t))))))
            have hD : va_D A (bTO k s t ++ (bAB k t m f ++ (bTO k p v ++ bAB k v n g))) := vD_perm hD (pmX (pmS (bAB k t m f) (pmS (bTO k p v) (pmS (bAB k v n g) (pmE (bTO k s t))))))
            exact W.zret (v := 0) hx hb hr (rfl) (fun t9 ht hW => ⟨⟨_, (), rfl, (by rw [c_9]; rfl), ⟨by rw [ht]; exact hP, va_K.moved hW.alike hK, hD⟩⟩, hS.F ht⟩) hS.2.2 dJ0_equals_9ea2d_55 hlocks
          · skip
            have c_9 : (eqB f m g n) = true := bI_1 c_9
            refine lv_iconst (v := 1) hx hb dJ0_equals_9ea2d_50 (by decide) ?_
            refine lv_goto (tgt := 55) hx hb dJ0_equals_9ea2d_51 (by decide) ?_
            have hP : va_P D vwCl (bAB k v n g ++ (bAB k t m f ++ (bTO k s t ++ bTO k p v))) H := vP_perm hP (pmS (bAB k t m f) (pm0 (bAB k v n g) (bTO k s t ++ bTO k p v)))
            have hD : va_D A (bAB k v n g ++ (bAB k t m f ++ (bTO k s t ++ bTO k p v))) := vD_perm hD (pmS (bAB k t m f) (pm0 (bAB k v n g) (bTO k s t ++ bTO k p v)))
            have hP : va_P D vwCl (bTO k p v ++ (bAB k v n g ++ (bAB k t m f ++ bTO k s t))) H := vP_perm hP (pmX (pmS (bAB k v n g) (pmS (bAB k t m f) (pmS (bTO k s t) (pmE (bTO k p v))))))
            have hD : va_D A (bTO k p v ++ (bAB k v n g ++ (bAB k t m f ++ bTO k s t))) := vD_perm hD (pmX (pmS (bAB k v n g) (pmS (bAB k t m f) (pmS (bTO k s t) (pmE (bTO k p v))))))
            have hP : va_P D vwCl (bAB k t m f ++ (bTO k p v ++ (bAB k v n g ++ bTO k s t))) H := vP_perm hP (pmS (bTO k p v) (pmS (bAB k v n g) (pm0 (bAB k t m f) (bTO k s t))))
            have hD : va_D A (bAB k t m f ++ (bTO k p v ++ (bAB k v n g ++ bTO k s t))) := vD_perm hD (pmS (bTO k p v) (pmS (bAB k v n g) (pm0 (bAB k t m f) (bTO k s t))))
            have hP : va_P D vwCl (bTO k s t ++ (bAB k t m f ++ (bTO k p v ++ bAB k v n g))) H := vP_perm hP (pmX (pmS (bAB k t m f) (pmS (bTO k p v) (pmS (bAB k v n g) (pmE (bTO k s t))))))
            have hD : va_D A (bTO k s t ++ (bAB k t m f ++ (bTO k p v ++ bAB k v n g))) := vD_perm hD (pmX (pmS (bAB k t m f) (pmS (bTO k p v) (pmS (bAB k v n g) (pmE (bTO k s t))))))
            exact W.zret (v := 1) hx hb hr (rfl) (fun t9 ht hW => ⟨⟨_, (), rfl, (by rw [c_9]; rfl), ⟨by rw [ht]; exact hP, va_K.moved hW.alike hK, hD⟩⟩, hS.F ht⟩) hS.2.2 dJ0_equals_9ea2d_55 hlocks
  · skip
    exact absurd (hD.1 0 2 _ _ rfl rfl (Option.some.inj (Classical.byContradiction c_1))) (by decide)

set_option maxHeartbeats 4000000 in
set_option maxRecDepth 100000 in
theorem t_checkIndex_null (l9 : Launch) (hl9 : l9.stackTraces = false) (E : EK) (D : va_G) (k : Nat → ClassId) (sz : Nat) (x n : Nat) (hx : x < n) (hn : n < 2 ^ 30) : Met l9 yJ3_checkIndex_8e157 wsJ3_checkIndex_8e157 ({ frames := 0, cells := 0, slots := 0, locals := 0 }) (TPc E D k [.int (nI x), .int (nI n), .null] ([]) sz) (va_Qi (fun (r : Int32) (u9 : Unit) => r = nI x) (TB D k (va_A ([]) sz) (fun u9 : Unit => [])) (va_A ([]) sz)) (0) (0) (va_A ([]) sz) := by
  refine tMet (y := yJ3_checkIndex_8e157) (cc := cJ3_checkIndex_8e157) (maxL := 3) (ret := (some .int)) (Qc := fun A => va_Qi (fun (r : Int32) (u9 : Unit) => r = nI x) (TB D k (A) (fun u9 : Unit => [])) (A)) [.int (nI x), .int (nI n), .null] (by decide) rfl (Nat.le_of_ble_eq_true rfl) ?_
  intro p9 e9 s9 m9 bl9 me9 c9 ls A H hF hr hlocks hP hK hE hD hA hS hl hin
  have hl : lv_has ls 3 [(0, .int (nI x)), (1, .int (nI n)), (2, .null)] := hl
  obtain ⟨hx, hb, hml, hown, hts⟩ := id hF
  refine lv_iload_n hx hb dJ3_checkIndex_8e157_0 rfl (lv_at hl 0 rfl) ?_
  refine lv_if_lt (tgt := 9) hx hb dJ3_checkIndex_8e157_1 (by decide) (fun c_1 => ?_) (fun c_1 => ?_)
  · skip
    exact absurd c_1 (nI_nn (by omega))
  · skip
    refine lv_iload_n hx hb dJ3_checkIndex_8e157_4 rfl (lv_at hl 0 rfl) ?_
    refine lv_iload_n hx hb dJ3_checkIndex_8e157_5 rfl (lv_at hl 1 rfl) ?_
    refine lv_icmp_lt (tgt := 16) hx hb dJ3_checkIndex_8e157_6 (by decide) (fun c_2 => ?_) (fun c_2 => ?_)
    · skip
      have c_2 : x < n := (nI_ltI (a := x) (b := n) (by omega) (by omega)).mp c_2
      refine lv_iload_n hx hb dJ3_checkIndex_8e157_16 rfl (lv_at hl 0 rfl) ?_
      exact W.iret (v := nI x) hx hb hr (fun t9 ht hW => ⟨⟨_, (), rfl, (by rfl), ⟨by rw [ht]; exact hP, va_K.moved hW.alike hK, hD⟩⟩, hS.F ht⟩) hS.2.2 dJ3_checkIndex_8e157_17 hlocks
    · skip
      have c_2 : ¬ x < n := fun h => c_2 ((nI_ltI (a := x) (b := n) (by omega) (by omega)).mpr h)
      omega

set_option maxHeartbeats 4000000 in
set_option maxRecDepth 100000 in
theorem t_checkIndex_ref (l9 : Launch) (hl9 : l9.stackTraces = false) (E : EK) (D : va_G) (k : Nat → ClassId) (sz : Nat) (x n a9 : Nat) (hx : x < n) (hn : n < 2 ^ 30) : Met l9 yJ3_checkIndex_8e157 wsJ3_checkIndex_8e157 ({ frames := 0, cells := 0, slots := 0, locals := 0 }) (TPc E D k [.int (nI x), .int (nI n), .ref a9] ([]) sz) (va_Qi (fun (r : Int32) (u9 : Unit) => r = nI x) (TB D k (va_A ([]) sz) (fun u9 : Unit => [])) (va_A ([]) sz)) (0) (0) (va_A ([]) sz) := by
  refine tMet (y := yJ3_checkIndex_8e157) (cc := cJ3_checkIndex_8e157) (maxL := 3) (ret := (some .int)) (Qc := fun A => va_Qi (fun (r : Int32) (u9 : Unit) => r = nI x) (TB D k (A) (fun u9 : Unit => [])) (A)) [.int (nI x), .int (nI n), .ref a9] (by decide) rfl (Nat.le_of_ble_eq_true rfl) ?_
  intro p9 e9 s9 m9 bl9 me9 c9 ls A H hF hr hlocks hP hK hE hD hA hS hl hin
  have hl : lv_has ls 3 [(0, .int (nI x)), (1, .int (nI n)), (2, .ref a9)] := hl
  obtain ⟨hx, hb, hml, hown, hts⟩ := id hF
  refine lv_iload_n hx hb dJ3_checkIndex_8e157_0 rfl (lv_at hl 0 rfl) ?_
  refine lv_if_lt (tgt := 9) hx hb dJ3_checkIndex_8e157_1 (by decide) (fun c_1 => ?_) (fun c_1 => ?_)
  · skip
    exact absurd c_1 (nI_nn (by omega))
  · skip
    refine lv_iload_n hx hb dJ3_checkIndex_8e157_4 rfl (lv_at hl 0 rfl) ?_
    refine lv_iload_n hx hb dJ3_checkIndex_8e157_5 rfl (lv_at hl 1 rfl) ?_
    refine lv_icmp_lt (tgt := 16) hx hb dJ3_checkIndex_8e157_6 (by decide) (fun c_2 => ?_) (fun c_2 => ?_)
    · skip
      have c_2 : x < n := (nI_ltI (a := x) (b := n) (by omega) (by omega)).mp c_2
      refine lv_iload_n hx hb dJ3_checkIndex_8e157_16 rfl (lv_at hl 0 rfl) ?_
      exact W.iret (v := nI x) hx hb hr (fun t9 ht hW => ⟨⟨_, (), rfl, (by rfl), ⟨by rw [ht]; exact hP, va_K.moved hW.alike hK, hD⟩⟩, hS.F ht⟩) hS.2.2 dJ3_checkIndex_8e157_17 hlocks
    · skip
      have c_2 : ¬ x < n := fun h => c_2 ((nI_ltI (a := x) (b := n) (by omega) (by omega)).mpr h)
      omega

set_option maxHeartbeats 4000000 in
set_option maxRecDepth 100000 in
theorem t_J0_checkIndex_df160 (l9 : Launch) (hl9 : l9.stackTraces = false) (E : EK) (D : va_G) (k : Nat → ClassId) (sz : Nat) (x n : Nat) (hx : x < n) (hn : n < 2 ^ 30) : Met l9 yJ0_checkIndex_df160 wsJ0_checkIndex_df160 ({ frames := 1, cells := 0, slots := 0, locals := 22 }) (TPc E D k [.int (nI x), .int (nI n)] ([]) sz) (va_Qv (fun (u9 : Unit) => True) (TB D k (va_A ([]) sz) (fun u9 : Unit => [])) (va_A ([]) sz)) (0) (0) (va_A ([]) sz) := by
  refine tMet (y := yJ0_checkIndex_df160) (cc := cJ0_checkIndex_df160) (maxL := 2) (ret := none) (Qc := fun A => va_Qv (fun (u9 : Unit) => True) (TB D k (A) (fun u9 : Unit => [])) (A)) [.int (nI x), .int (nI n)] (by decide) rfl (Nat.le_of_ble_eq_true rfl) ?_
  intro p9 e9 s9 m9 bl9 me9 c9 ls A H hF hr hlocks hP hK hE hD hA hS hl hin
  have hl : lv_has ls 2 [(0, .int (nI x)), (1, .int (nI n))] := hl
  obtain ⟨hx, hb, hml, hown, hts⟩ := id hF
  have k_fieldLink_1053 : (Cond.fieldLink RJ0 1053 "jdk/internal/util/Preconditions" "SIOOBE_FORMATTER" "Ljava/util/function/BiFunction;").before _ s9 = true := hts (.fieldLink RJ0 1053 "jdk/internal/util/Preconditions" "SIOOBE_FORMATTER" "Ljava/util/function/BiFunction;") (by decide +kernel)
  refine lv_iload_n hx hb dJ0_checkIndex_df160_0 rfl (lv_at hl 0 rfl) ?_
  refine lv_iload_n hx hb dJ0_checkIndex_df160_1 rfl (lv_at hl 1 rfl) ?_
  rcases hE.2.2.2.2.2.1.2.2.2.2.2.2.2.2.2.1 with hz9 | ⟨a9, hz9⟩
  · refine va_gets hx hb hz9 hS hown k_fieldLink_1053 (fun _ h9 => h9) dJ0_checkIndex_df160_2 ?_
    have hP : va_P D vwCl ([] ++ ([])) H := hP
    have hD : va_D A ([] ++ ([])) := hD
    have hFc := tFree hD hS hA
    refine va_calli (va_runS (As := [.int (nI x), .int (nI n), .null]) (rest := []) hF (t_checkIndex_null l9 hl9 E D k H.size x n hx hn) (va_cwS 3 hts gJ0_checkIndex_df160_J3_checkIndex_8e157 rfl rfl rfl (by decide +kernel) ⟨Nat.le_of_ble_eq_true rfl, Nat.le_of_ble_eq_true rfl⟩) (tPreS hK hE hS hA hP hD) rfl rfl hl.1 rfl (lv_room (Nat.le_of_ble_eq_true rfl)) dJ0_checkIndex_df160_5 ⟨(Nat.le_of_ble_eq_true rfl), (Nat.le_of_ble_eq_true rfl)⟩) hS (fun q _ h => hFc q h) hFc (fun r_2 u_3 t9 H1 locs ht hvm hw_4 hB hz1 hk1 hS => ?_)
    obtain ⟨hP, -, hD⟩ := hB
    rw [ht] at hP
    replace hP : va_P D vwCl ([]) H1 := hP
    replace hD : va_D A ([]) := hD.weaken (fun _ q _ h => hFc q.1 h)
    replace hw_4 : r_2 = nI x := hw_4
    clear hz1 hvm hFc hk1 ht
    clear t9
    generalize H1 = H at hP hS ⊢
    refine lv_tope (v2 := .int (nI x)) (by rw [hw_4]) ?_
    refine lv_pop hx hb dJ0_checkIndex_df160_8 rfl ?_
    exact W.vret hx hb hr (fun t9 ht hW => ⟨⟨(), rfl, (by trivial), ⟨by rw [ht]; exact hP, va_K.moved hW.alike hK, hD⟩⟩, hS.F ht⟩) hS.2.2 dJ0_checkIndex_df160_9 hlocks
  · refine va_gets hx hb hz9 hS hown k_fieldLink_1053 (fun _ h9 => h9) dJ0_checkIndex_df160_2 ?_
    have hP : va_P D vwCl ([] ++ ([])) H := hP
    have hD : va_D A ([] ++ ([])) := hD
    have hFc := tFree hD hS hA
    refine va_calli (va_runS (As := [.int (nI x), .int (nI n), .ref a9]) (rest := []) hF (t_checkIndex_ref l9 hl9 E D k H.size x n a9 hx hn) (va_cwS 3 hts gJ0_checkIndex_df160_J3_checkIndex_8e157 rfl rfl rfl (by decide +kernel) ⟨Nat.le_of_ble_eq_true rfl, Nat.le_of_ble_eq_true rfl⟩) (tPreS hK hE hS hA hP hD) rfl rfl hl.1 rfl (lv_room (Nat.le_of_ble_eq_true rfl)) dJ0_checkIndex_df160_5 ⟨(Nat.le_of_ble_eq_true rfl), (Nat.le_of_ble_eq_true rfl)⟩) hS (fun q _ h => hFc q h) hFc (fun r_6 u_7 t9 H1 locs ht hvm hw_8 hB hz1 hk1 hS => ?_)
    obtain ⟨hP, -, hD⟩ := hB
    rw [ht] at hP
    replace hP : va_P D vwCl ([]) H1 := hP
    replace hD : va_D A ([]) := hD.weaken (fun _ q _ h => hFc q.1 h)
    replace hw_8 : r_6 = nI x := hw_8
    clear hz1 hvm hFc hk1 ht
    clear t9
    generalize H1 = H at hP hS ⊢
    refine lv_tope (v2 := .int (nI x)) (by rw [hw_8]) ?_
    refine lv_pop hx hb dJ0_checkIndex_df160_8 rfl ?_
    exact W.vret hx hb hr (fun t9 ht hW => ⟨⟨(), rfl, (by trivial), ⟨by rw [ht]; exact hP, va_K.moved hW.alike hK, hD⟩⟩, hS.F ht⟩) hS.2.2 dJ0_checkIndex_df160_9 hlocks

set_option maxHeartbeats 4000000 in
set_option maxRecDepth 100000 in
theorem t_J1_charAt_3b067 (l9 : Launch) (hl9 : l9.stackTraces = false) (E : EK) (D : va_G) (k : Nat → ClassId) (sz : Nat) (t m : Nat) (f : Nat → Int32) (x q : Nat) (hx : x < m) (hm : m < 2 ^ 28) (hq : f x = nI q) (h7 : q < 128) : Met l9 yJ1_charAt_3b067 wsJ1_charAt_3b067 ({ frames := 2, cells := 0, slots := 0, locals := 43 }) (TPc E D k [.ref t, .int (nI x)] (bAB k t m f) sz) (va_Qi (fun (r : Int32) (u9 : Unit) => r = nI q) (TB D k (va_A (bAB k t m f) sz) (fun u9 : Unit => bAB k t m f)) (va_A (bAB k t m f) sz)) (0) (0) (va_A (bAB k t m f) sz) := by
  refine tMet (y := yJ1_charAt_3b067) (cc := cJ1_charAt_3b067) (maxL := 2) (ret := (some .char)) (Qc := fun A => va_Qi (fun (r : Int32) (u9 : Unit) => r = nI q) (TB D k (A) (fun u9 : Unit => bAB k t m f)) (A)) [.ref t, .int (nI x)] (by decide) rfl (Nat.le_of_ble_eq_true rfl) ?_
  intro p9 e9 s9 m9 bl9 me9 c9 ls A H hF hr hlocks hP hK hE hD hA hS hl hin
  have hl : lv_has ls 2 [(0, .ref t), (1, .int (nI x))] := hl
  obtain ⟨hx, hb, hml, hown, hts⟩ := id hF
  refine lv_iload_n hx hb dJ1_charAt_3b067_0 rfl (lv_at hl 1 rfl) ?_
  refine lv_aload_n hx hb dJ1_charAt_3b067_1 rfl (lv_at hl 0 rfl) ?_
  refine va_alen (v := nI m) hx hb hK hP 0 8 rfl rfl rfl dJ1_charAt_3b067_2 ?_
  have hP : va_P D vwCl ([] ++ (bAB k t m f)) H := hP
  have hD : va_D A ([] ++ (bAB k t m f)) := hD
  have hFc := tFree hD hS hA
  refine va_callv (va_runS (As := [.int (nI x), .int (nI m)]) (rest := []) hF (fr_v (bAB k t m f) (t_J0_checkIndex_df160 l9 hl9 E D k H.size x m hx (by omega))) (va_cwS 2 hts gJ1_charAt_3b067_J0_checkIndex_df160 rfl rfl rfl (by decide +kernel) ⟨Nat.le_of_ble_eq_true rfl, Nat.le_of_ble_eq_true rfl⟩) (tPreS hK hE hS hA hP hD) rfl rfl hl.1 rfl (lv_room (Nat.le_of_ble_eq_true rfl)) dJ1_charAt_3b067_3 ⟨(Nat.le_of_ble_eq_true rfl), (Nat.le_of_ble_eq_true rfl)⟩) hS (fun q _ h => hFc q h) hFc (fun u_3 t9 H1 locs ht hvm hw_4 hB hz1 hk1 hS => ?_)
  obtain ⟨hP, -, hD⟩ := hB
  rw [ht] at hP
  replace hP : va_P D vwCl (([]) ++ bAB k t m f) H1 := hP
  replace hD : va_D A (([]) ++ bAB k t m f) := hD.weaken (fun _ q _ h => hFc q.1 h)
  replace hP : va_P D vwCl (bAB k t m f) H1 := hP
  replace hD : va_D A (bAB k t m f) := hD
  replace hw_4 : True := hw_4
  clear hz1 hvm hFc hk1 ht
  clear t9
  generalize H1 = H at hP hS ⊢
  refine lv_aload_n hx hb dJ1_charAt_3b067_6 rfl (lv_at hl 0 rfl) ?_
  refine lv_iload_n hx hb dJ1_charAt_3b067_7 rfl (lv_at hl 1 rfl) ?_
  refine by_ld hx hb hK hP 0 rfl x (by omega) (by omega) dJ1_charAt_3b067_8 ?_
  refine lv_sipush (v := 255) hx hb dJ1_charAt_3b067_9 (by decide) ?_
  refine lv_iand hx hb dJ1_charAt_3b067_12 ?_
  refine lv_tope (v2 := .int (nI q)) (congrArg Value.int (by rw [hq]; exact and255 h7)) ?_
  refine lv_i2c (v := nI q) hx hb dJ1_charAt_3b067_13 (ch7 h7) ?_
  exact W.zret (v := nI q) hx hb hr (ch_n h7) (fun t9 ht hW => ⟨⟨_, (), rfl, (by rfl), ⟨by rw [ht]; exact hP, va_K.moved hW.alike hK, hD⟩⟩, hS.F ht⟩) hS.2.2 dJ1_charAt_3b067_14 hlocks

set_option maxHeartbeats 4000000 in
set_option maxRecDepth 100000 in
theorem t_J0_charAt_5068e (l9 : Launch) (hl9 : l9.stackTraces = false) (E : EK) (D : va_G) (k : Nat → ClassId) (sz : Nat) (s t m : Nat) (f : Nat → Int32) (x q : Nat) (hx : x < m) (hm : m < 2 ^ 28) (hq : f x = nI q) (h7 : q < 128) : Met l9 yJ0_charAt_5068e wsJ0_charAt_5068e ({ frames := 3, cells := 0, slots := 0, locals := 64 }) (TPc E D k [.ref s, .int (nI x)] (bTO k s t ++ bAB k t m f) sz) (va_Qi (fun (r : Int32) (u9 : Unit) => r = nI q) (TB D k (va_A (bTO k s t ++ bAB k t m f) sz) (fun u9 : Unit => bTO k s t ++ bAB k t m f)) (va_A (bTO k s t ++ bAB k t m f) sz)) (0) (0) (va_A (bTO k s t ++ bAB k t m f) sz) := by
  refine tMet (y := yJ0_charAt_5068e) (cc := cJ0_charAt_5068e) (maxL := 2) (ret := (some .char)) (Qc := fun A => va_Qi (fun (r : Int32) (u9 : Unit) => r = nI q) (TB D k (A) (fun u9 : Unit => bTO k s t ++ bAB k t m f)) (A)) [.ref s, .int (nI x)] (by decide) rfl (Nat.le_of_ble_eq_true rfl) ?_
  intro p9 e9 s9 m9 bl9 me9 c9 ls A H hF hr hlocks hP hK hE hD hA hS hl hin
  have hl : lv_has ls 2 [(0, .ref s), (1, .int (nI x))] := hl
  obtain ⟨hx, hb, hml, hown, hts⟩ := id hF
  have k_fieldLink_9 : (Cond.fieldLink RJ0 9 "java/lang/String" "value" "[B").before _ s9 = true := hts (.fieldLink RJ0 9 "java/lang/String" "value" "[B") (by decide +kernel)
  have kc_RJ0 : ∀ w ∈ u_ws RJ0 TJ0 4, w ∈ wsJ0_charAt_5068e := by decide +kernel
  refine lv_aload_n hx hb dJ0_charAt_5068e_0 rfl (lv_at hl 0 rfl) ?_
  have hFc := tFree hD hS hA
  refine va_calli (va_runV (As := []) (rest := []) hF (fr_i (bAB k t m f) (t_J0_isLatin1_aae02 l9 hl9 E D k H.size s t )) (cwV 0 hts gJ0_charAt_5068e_J0_isLatin1_aae02 rfl rfl rfl (by decide +kernel) ⟨Nat.le_of_ble_eq_true rfl, Nat.le_of_ble_eq_true rfl⟩) (tPreV (rcv hK hP 0 0 rfl rfl) hK hE hS hA hP hD) rfl rfl hl.1 rfl (lv_room (Nat.le_of_ble_eq_true rfl)) dJ0_charAt_5068e_1 ⟨(Nat.le_of_ble_eq_true rfl), (Nat.le_of_ble_eq_true rfl)⟩) hS (fun q _ h => hFc q h) hFc (fun r_2 u_3 t9 H1 locs ht hvm hw_4 hB hz1 hk1 hS => ?_)
  obtain ⟨hP, -, hD⟩ := hB
  rw [ht] at hP
  replace hP : va_P D vwCl ((bTO k s t) ++ bAB k t m f) H1 := hP
  replace hD : va_D A ((bTO k s t) ++ bAB k t m f) := hD.weaken (fun _ q _ h => hFc q.1 h)
  replace hw_4 : r_2 = 1 := hw_4
  clear hz1 hvm hFc hk1 ht
  clear t9
  generalize H1 = H at hP hS ⊢
  refine lv_tope (v2 := .int 1) (by rw [hw_4]) ?_
  refine lv_if_eq (tgt := 16) hx hb dJ0_charAt_5068e_4 (by decide) (fun c_5 => ?_) (fun c_5 => ?_)
  · first | exact absurd c_5 (by decide) | exact absurd (by decide) c_5
  · skip
    refine lv_aload_n hx hb dJ0_charAt_5068e_7 rfl (lv_at hl 0 rfl) ?_
    refine va_get (D := D) (ci := 0) (v := .ref t) (C := RJ0) (T := TJ0) (N := 4) hx hb hts kc_RJ0 hown hK hP 0 rfl rfl 0 (by decide) k_fieldLink_9 (fun _ h9 => h9) rfl dJ0_charAt_5068e_8 ?_
    refine lv_iload_n hx hb dJ0_charAt_5068e_11 rfl (lv_at hl 1 rfl) ?_
    have hP : va_P D vwCl (bAB k t m f ++ bTO k s t) H := vP_perm hP (pmX (pmS (bTO k s t) (pmE (bAB k t m f))))
    have hD : va_D A (bAB k t m f ++ bTO k s t) := vD_perm hD (pmX (pmS (bTO k s t) (pmE (bAB k t m f))))
    have hFc := tFree hD hS hA
    refine va_calli (va_runS (As := [.ref t, .int (nI x)]) (rest := []) hF (fr_i (bTO k s t) (t_J1_charAt_3b067 l9 hl9 E D k H.size t m f x q hx hm hq h7)) (va_cwS 2 hts gJ0_charAt_5068e_J1_charAt_3b067 rfl rfl rfl (by decide +kernel) ⟨Nat.le_of_ble_eq_true rfl, Nat.le_of_ble_eq_true rfl⟩) (tPreS hK hE hS hA hP hD) rfl rfl hl.1 rfl (lv_room (Nat.le_of_ble_eq_true rfl)) dJ0_charAt_5068e_12 ⟨(Nat.le_of_ble_eq_true rfl), (Nat.le_of_ble_eq_true rfl)⟩) hS (fun q _ h => hFc q h) hFc (fun r_7 u_8 t9 H1 locs ht hvm hw_9 hB hz1 hk1 hS => ?_)
    obtain ⟨hP, -, hD⟩ := hB
    rw [ht] at hP
    replace hP : va_P D vwCl ((bAB k t m f) ++ bTO k s t) H1 := hP
    replace hD : va_D A ((bAB k t m f) ++ bTO k s t) := hD.weaken (fun _ q _ h => hFc q.1 h)
    replace hw_9 : r_7 = nI q := hw_9
    clear hz1 hvm hFc hk1 ht
    clear t9
    generalize H1 = H at hP hS ⊢
    refine lv_tope (v2 := .int (nI q)) (by rw [hw_9]) ?_
    have hP : va_P D vwCl (bTO k s t ++ bAB k t m f) H := vP_perm hP (pmX (pmS (bAB k t m f) (pmE (bTO k s t))))
    have hD : va_D A (bTO k s t ++ bAB k t m f) := vD_perm hD (pmX (pmS (bAB k t m f) (pmE (bTO k s t))))
    exact W.zret (v := nI q) hx hb hr (ch_n h7) (fun t9 ht hW => ⟨⟨_, (), rfl, (by rfl), ⟨by rw [ht]; exact hP, va_K.moved hW.alike hK, hD⟩⟩, hS.F ht⟩) hS.2.2 dJ0_charAt_5068e_15 hlocks


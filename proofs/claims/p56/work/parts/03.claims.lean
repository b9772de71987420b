/-! Blocks of the worlds; bits; the small helpers; what Claims reads. -/
abbrev bClaims (k : Nat → ClassId) (q : Nat → Nat) (n : Nat) (w : Nat → Int32) (ly : Nat → Int32) (t : Nat → Int32) (a : Nat → Int32) (fx : Nat → UInt32) : va_W := [(q 0, .inr (7, [.int (nI n), .ref (q 1), .ref (q 2), .ref (q 3), .ref (q 4), .ref (q 5)])), (q 1, .inl (k 0, 10, .inl w)), (q 2, .inl (k 0, 10, .inl ly)), (q 3, .inl (k 0, 10, .inl t)), (q 4, .inl (k 0, 10, .inl a)), (q 5, .inl (k 2, 10, .inr (.inr (.inl fx))))]
abbrev bRacks (k : Nat → ClassId) (q : Nat → Nat) (kd : Nat → Int32) (rk : Nat → Int32) : va_W := [(q 0, .inr (10, [.ref (q 1), .ref (q 2)])), (q 1, .inl (k 1, 4, .inl kd)), (q 2, .inl (k 1, 12, .inl rk))]
abbrev bLog (k : Nat → ClassId) (q : Nat → Nat) (ls : Nat → Int32) (lk : Nat → Int32) (lc : Nat) (lx : Nat) : va_W := [(q 0, .inr (9, [.ref (q 1), .ref (q 2), .int (nI lc), .int (nI lx)])), (q 1, .inl (k 0, 16, .inl ls)), (q 2, .inl (k 1, 16, .inl lk))]
abbrev bAcc (k : Nat → ClassId) (q : Nat → Nat) (lf : Nat → Int32) : va_W := [(q 0, .inr (4, [.ref (q 1)])), (q 1, .inl (k 0, 10, .inl lf))]
abbrev bCirc (k : Nat → ClassId) (q : Nat → Nat) (rd : Nat → Int32) : va_W := [(q 0, .inr (6, [.ref (q 1)])), (q 1, .inl (k 0, 10, .inl rd))]
abbrev bI83 (k : Nat → ClassId) (ad : Nat) (f : Nat → Int32) : va_W := [(ad, .inl (k 0, 83, .inl f))]
abbrev bI664 (k : Nat → ClassId) (ad : Nat) (f : Nat → Int32) : va_W := [(ad, .inl (k 0, 664, .inl f))]
abbrev bI10 (k : Nat → ClassId) (ad : Nat) (f : Nat → Int32) : va_W := [(ad, .inl (k 0, 10, .inl f))]
abbrev bI60 (k : Nat → ClassId) (ad : Nat) (f : Nat → Int32) : va_W := [(ad, .inl (k 0, 60, .inl f))]
abbrev bI24 (k : Nat → ClassId) (ad : Nat) (f : Nat → Int32) : va_W := [(ad, .inl (k 0, 24, .inl f))]
abbrev bI59 (k : Nat → ClassId) (ad : Nat) (f : Nat → Int32) : va_W := [(ad, .inl (k 0, 59, .inl f))]
abbrev bI11 (k : Nat → ClassId) (ad : Nat) (f : Nat → Int32) : va_W := [(ad, .inl (k 0, 11, .inl f))]
abbrev bF10 (k : Nat → ClassId) (ad : Nat) (f : Nat → UInt32) : va_W := [(ad, .inl (k 2, 10, .inr (.inr (.inl f))))]
abbrev bF80 (k : Nat → ClassId) (ad : Nat) (f : Nat → UInt32) : va_W := [(ad, .inl (k 2, 80, .inr (.inr (.inl f))))]
abbrev bL10 (k : Nat → ClassId) (ad : Nat) (f : Nat → Int64) : va_W := [(ad, .inl (k 3, 10, .inr (.inl f)))]
abbrev bMO (k : Nat → ClassId) (q : Nat → Nat) (th : Int32) (ea : Int32) (fa : Int32) (ch : Nat) (tn : Nat) (he : Nat) (en : Nat) (ln : Nat) (sv : Bool) (wr : Bool) (dg : Bool) : va_W := [(q 0, .inr (13, [.int th, .int (nI ch), .int ea, .int fa, .int (bI sv), .ref (q 1), .ref (q 2), .ref (q 3), .ref (q 4), .ref (q 5), .ref (q 6), .ref (q 7), .ref (q 8), .ref (q 9), .ref (q 10), .ref (q 11), .ref (q 12), .ref (q 13), .ref (q 14), .ref (q 15), .ref (q 16), .ref (q 17), .ref (q 18), .int (nI tn), .int (nI he), .int (nI en), .int (nI ln), .int (bI wr), .int (bI dg)]))]

/-- 1 shifted to the place c -/
def bt (c : Nat) : Int32 := (1 : Int32) <<< (nI c &&& 31)
/-- the bit at the place c -/
def tb (x : Int32) (c : Nat) : Bool := x.toBitVec.getLsbD c
def rg (lo x hi : Int32) : Bool := decide (lo ≤ x ∧ x ≤ hi)
def inC (n : Nat) (x : Int32) : Bool := decide (0 ≤ x ∧ ¬ nI n ≤ x)
/-- the union of the rows of t at the places of x -/
def orS (n : Nat) (t : Nat → Int32) (x : Int32) : Int32 := up (fun c acc => if tb x c then acc ||| t c else acc) 0 n
theorem orS_s (n : Nat) (t : Nat → Int32) (x : Int32) : orS (n + 1) t x = if tb x n then orS n t x ||| t n else orS n t x := rfl
def adS (n : Nat) (t : Nat → Int32) (x : Int32) : Int32 := up (fun c acc => if tb x c then acc + t c else acc) 0 n
theorem adS_s (n : Nat) (t : Nat → Int32) (x : Int32) : adS (n + 1) t x = if tb x n then adS n t x + t n else adS n t x := rfl
theorem bt_bv {c : Nat} (h : c < 32) : (bt c).toBitVec = (1#32) <<< c := by
  have : ∀ c : Nat, c < 32 → (bt c).toBitVec = (1#32) <<< c := by decide +kernel
  exact this c h
theorem tb_and (x y : Int32) (c : Nat) : tb (x &&& y) c = (tb x c && tb y c) := by simp [tb]
theorem tb_or (x y : Int32) (c : Nat) : tb (x ||| y) c = (tb x c || tb y c) := by simp [tb]
theorem tb_bt {c j : Nat} (h : c < 32) : tb (bt c) j = decide (c = j) := by
  unfold tb
  rw [bt_bv h, BitVec.getLsbD_shiftLeft]
  by_cases e : c = j
  · subst e
    simp [h]
  · by_cases h2 : j < c
    · simp [h2, e]
    · have h3 : ¬ j - c = 0 := by omega
      simp [h2, e, h3]
theorem tb_0 (c : Nat) : tb 0 c = false := by simp [tb]
theorem tb_out {x : Int32} {c : Nat} (h : 32 ≤ c) : tb x c = false := by
  unfold tb
  exact BitVec.getLsbD_of_ge _ _ h
theorem tb_ext {x y : Int32} (h : ∀ c, c < 32 → tb x c = tb y c) : x = y := by
  apply Int32.toBitVec_inj.mp
  apply BitVec.eq_of_getLsbD_eq
  intro i hi
  exact h i hi
theorem tb_bit (x : Int32) {c : Nat} (h : c < 32) : (x &&& bt c) = 0 ↔ tb x c = false := by
  constructor
  · intro e
    have := congrArg (fun z => tb z c) e
    simp only [tb_and, tb_bt h, tb_0, decide_true, Bool.and_true] at this
    exact this
  · intro e
    apply tb_ext
    intro j _
    rw [tb_and, tb_bt h, tb_0]
    by_cases q : c = j
    · subst q; simp [e]
    · simp [q]
theorem tb_bit1 (x : Int32) {c : Nat} (h : c < 32) (e : ¬ (x &&& bt c) = 0) : tb x c = true := by
  cases q : tb x c with
  | true => rfl
  | false => exact absurd ((tb_bit x h).mpr q) e
theorem lt4 (x : Int32) : ¬ (4 : Int32) ≤ x ↔ x ≤ 3 := by
  rw [Int32.le_iff_toInt_le, Int32.le_iff_toInt_le]
  have h4 : (4 : Int32).toInt = 4 := by decide
  have h3 : (3 : Int32).toInt = 3 := by decide
  rw [h4, h3]
  omega
theorem lt3 (x : Int32) : ¬ (3 : Int32) ≤ x ↔ x ≤ 2 := by
  rw [Int32.le_iff_toInt_le, Int32.le_iff_toInt_le]
  have h4 : (3 : Int32).toInt = 3 := by decide
  have h3 : (2 : Int32).toInt = 2 := by decide
  rw [h4, h3]
  omega
/-- the number of sets of n claims -/
def pw (n : Nat) : Nat := 2 ^ n
theorem pw_le {n : Nat} (h : n ≤ 10) : pw n ≤ 1024 := by
  have : ∀ n : Nat, n ≤ 10 → pw n ≤ 1024 := by decide +kernel
  exact this n h
theorem pw_pos (n : Nat) : 1 ≤ pw n := Nat.one_le_two_pow
theorem bt_all {n : Nat} (h : n ≤ 10) : bt n - 1 = nI (pw n - 1) := by
  have : ∀ n : Nat, n ≤ 10 → bt n - 1 = nI (pw n - 1) := by decide +kernel
  exact this n h
theorem shr_bit (x : Int32) {c : Nat} (h : c < 32) : (x >>> (nI c &&& 31)) &&& 1 = bI (tb x c) := by
  have hs : ((nI c &&& 31).toBitVec.smod 32).toNat = c := by
    have : ∀ c : Nat, c < 32 → ((nI c &&& 31).toBitVec.smod 32).toNat = c := by decide +kernel
    exact this c h
  apply tb_ext
  intro j hj
  rw [tb_and]
  have h1 : tb 1 j = decide (j = 0) := by
    have : ∀ j : Nat, j < 32 → tb 1 j = decide (j = 0) := by decide +kernel
    exact this j hj
  rw [h1]
  by_cases e : j = 0
  · subst e
    have hb : tb (bI (tb x c)) 0 = tb x c := by cases tb x c <;> rfl
    rw [hb]
    simp only [decide_true, Bool.and_true]
    unfold tb
    have hsh : (x >>> (nI c &&& 31)).toBitVec = x.toBitVec.sshiftRight c := by
      have := congrArg (fun z => x.toBitVec.sshiftRight z) hs
      exact this
    rw [hsh, BitVec.getLsbD_sshiftRight]
    simp [h]
  · have hb : tb (bI (tb x c)) j = false := by
      cases tb x c
      · exact tb_0 j
      · show tb 1 j = false
        rw [h1]; simp [e]
    rw [hb]; simp [e]
theorem shr_tb1 (x : Int32) {c : Nat} (h : c < 32) : (x >>> (nI c &&& 31)) &&& 1 = 1 ↔ tb x c = true := by
  rw [shr_bit x h]; cases tb x c <;> decide
theorem shr_tbf (x : Int32) {c : Nat} (h : c < 32) : ¬ ((x >>> (nI c &&& 31)) &&& 1 = 1) ↔ tb x c = false := by
  rw [shr_bit x h]; cases tb x c <;> decide
theorem shr_tb0 (x : Int32) {c : Nat} (h : c < 32) : (x >>> (nI c &&& 31)) &&& 1 = 0 ↔ tb x c = false := by
  rw [shr_bit x h]; cases tb x c <;> decide
theorem shr_tbn (x : Int32) {c : Nat} (h : c < 32) : ¬ ((x >>> (nI c &&& 31)) &&& 1 = 0) ↔ tb x c = true := by
  rw [shr_bit x h]; cases tb x c <;> decide

set_option maxHeartbeats 4000000 in
set_option maxRecDepth 100000 in
theorem m_X12_bit (l9 : Launch) (D : va_G) (k : Nat → ClassId) (c : Nat) : Met l9 yX12_bit wsX12_bit ({ frames := 0, cells := 0, slots := 0, locals := 0 }) (RPc D k [.int (nI c)] ([])) (EI (bt c)) 0 0 noA := by
  refine rMet (y := yX12_bit) (cc := cX12_bit) (maxL := 1) (ret := (some .int)) [.int (nI c)] (by decide) rfl (Nat.le_of_ble_eq_true rfl) ?_
  intro p9 e9 s9 m9 bl9 me9 c9 ls hF hr hlocks hP hK hN hl
  have hl : lv_has ls 1 [(0, .int (nI c))] := hl
  obtain ⟨hx, hb, hml, hown, hts⟩ := id hF
  refine lv_iconst (v := 1) hx hb dX12_bit_0 (by decide) ?_
  refine lv_iload_n hx hb dX12_bit_1 rfl (lv_at hl 0 rfl) ?_
  refine lv_ishl hx hb dX12_bit_2 ?_
  exact W.iret (v := 1 <<< ((nI c) &&& 31)) hx hb hr (fun t9 ht hW => ⟨_, rfl, (by rfl), ht⟩) (fun _ h => by cases h) dX12_bit_3 hlocks

set_option maxHeartbeats 4000000 in
set_option maxRecDepth 100000 in
theorem m_X12_contains (l9 : Launch) (D : va_G) (k : Nat → ClassId) (x : Int32) (c : Nat) (hc : c < 32) : Met l9 yX12_contains wsX12_contains ({ frames := 0, cells := 0, slots := 0, locals := 0 }) (RPc D k [.int x, .int (nI c)] ([])) (EI (bI (tb x c))) 0 0 noA := by
  refine rMet (y := yX12_contains) (cc := cX12_contains) (maxL := 2) (ret := (some .boolean)) [.int x, .int (nI c)] (by decide) rfl (Nat.le_of_ble_eq_true rfl) ?_
  intro p9 e9 s9 m9 bl9 me9 c9 ls hF hr hlocks hP hK hN hl
  have hl : lv_has ls 2 [(0, .int x), (1, .int (nI c))] := hl
  obtain ⟨hx, hb, hml, hown, hts⟩ := id hF
  refine lv_iload_n hx hb dX12_contains_0 rfl (lv_at hl 0 rfl) ?_
  refine lv_iload_n hx hb dX12_contains_1 rfl (lv_at hl 1 rfl) ?_
  refine lv_ishr hx hb dX12_contains_2 ?_
  refine lv_iconst (v := 1) hx hb dX12_contains_3 (by decide) ?_
  refine lv_iand hx hb dX12_contains_4 ?_
  refine lv_if_eq (tgt := 12) hx hb dX12_contains_5 (by decide) (fun c_1 => ?_) (fun c_1 => ?_)
  · skip
    have c_1 : tb x c = false := (shr_tb0 x (by omega)).mp c_1
    refine lv_iconst (v := 0) hx hb dX12_contains_12 (by decide) ?_
    exact W.zret (v := 0) hx hb hr (rfl) (fun t9 ht hW => ⟨_, rfl, (by rw [c_1]; rfl), ht⟩) (fun _ h => by cases h) dX12_contains_13 hlocks
  · skip
    have c_1 : tb x c = true := (shr_tbn x (by omega)).mp c_1
    refine lv_iconst (v := 1) hx hb dX12_contains_8 (by decide) ?_
    refine lv_goto (tgt := 13) hx hb dX12_contains_9 (by decide) ?_
    exact W.zret (v := 1) hx hb hr (rfl) (fun t9 ht hW => ⟨_, rfl, (by rw [c_1]; rfl), ht⟩) (fun _ h => by cases h) dX12_contains_13 hlocks

set_option maxHeartbeats 4000000 in
set_option maxRecDepth 100000 in
theorem m_X12_isLayer (l9 : Launch) (D : va_G) (k : Nat → ClassId) (x : Int32) : Met l9 yX12_isLayer wsX12_isLayer ({ frames := 0, cells := 0, slots := 0, locals := 0 }) (RPc D k [.int x] ([])) (EI (bI (rg 0 x 3))) 0 0 noA := by
  refine rMet (y := yX12_isLayer) (cc := cX12_isLayer) (maxL := 1) (ret := (some .boolean)) [.int x] (by decide) rfl (Nat.le_of_ble_eq_true rfl) ?_
  intro p9 e9 s9 m9 bl9 me9 c9 ls hF hr hlocks hP hK hN hl
  have hl : lv_has ls 1 [(0, .int x)] := hl
  obtain ⟨hx, hb, hml, hown, hts⟩ := id hF
  refine lv_iload_n hx hb dX12_isLayer_0 rfl (lv_at hl 0 rfl) ?_
  refine lv_if_lt (tgt := 13) hx hb dX12_isLayer_1 (by decide) (fun c_1 => ?_) (fun c_1 => ?_)
  · skip
    refine lv_iconst (v := 0) hx hb dX12_isLayer_13 (by decide) ?_
    exact W.zret (v := 0) hx hb hr (rfl) (fun t9 ht hW => ⟨_, rfl, (by first | (simp_all [rg, bI]; done) | (simp_all [rg, bI]; simp only [Int32.lt_iff_toInt_lt, Int32.le_iff_toInt_le, i32_0, i32_1, i32_2, i32_3, i32_4, i32_9, i32_10, i32_99, i32_100, i32_1000, i32_9999] at *; omega)), ht⟩) (fun _ h => by cases h) dX12_isLayer_14 hlocks
  · skip
    refine lv_iload_n hx hb dX12_isLayer_4 rfl (lv_at hl 0 rfl) ?_
    refine lv_iconst (v := 4) hx hb dX12_isLayer_5 (by decide) ?_
    refine lv_icmp_ge (tgt := 13) hx hb dX12_isLayer_6 (by decide) (fun c_2 => ?_) (fun c_2 => ?_)
    · skip
      refine lv_iconst (v := 0) hx hb dX12_isLayer_13 (by decide) ?_
      exact W.zret (v := 0) hx hb hr (rfl) (fun t9 ht hW => ⟨_, rfl, (by first | (simp_all [rg, bI]; done) | (simp_all [rg, bI]; simp only [Int32.lt_iff_toInt_lt, Int32.le_iff_toInt_le, i32_0, i32_1, i32_2, i32_3, i32_4, i32_9, i32_10, i32_99, i32_100, i32_1000, i32_9999] at *; omega)), ht⟩) (fun _ h => by cases h) dX12_isLayer_14 hlocks
    · skip
      refine lv_iconst (v := 1) hx hb dX12_isLayer_9 (by decide) ?_
      refine lv_goto (tgt := 14) hx hb dX12_isLayer_10 (by decide) ?_
      exact W.zret (v := 1) hx hb hr (rfl) (fun t9 ht hW => ⟨_, rfl, (by first | (simp_all [rg, bI]; done) | (simp_all [rg, bI]; simp only [Int32.lt_iff_toInt_lt, Int32.le_iff_toInt_le, i32_0, i32_1, i32_2, i32_3, i32_4, i32_9, i32_10, i32_99, i32_100, i32_1000, i32_9999] at *; omega)), ht⟩) (fun _ h => by cases h) dX12_isLayer_14 hlocks

set_option maxHeartbeats 4000000 in
set_option maxRecDepth 100000 in
theorem m_X12_isSlot (l9 : Launch) (D : va_G) (k : Nat → ClassId) (x : Int32) : Met l9 yX12_isSlot wsX12_isSlot ({ frames := 0, cells := 0, slots := 0, locals := 0 }) (RPc D k [.int x] ([])) (EI (bI (rg 0 x 2))) 0 0 noA := by
  refine rMet (y := yX12_isSlot) (cc := cX12_isSlot) (maxL := 1) (ret := (some .boolean)) [.int x] (by decide) rfl (Nat.le_of_ble_eq_true rfl) ?_
  intro p9 e9 s9 m9 bl9 me9 c9 ls hF hr hlocks hP hK hN hl
  have hl : lv_has ls 1 [(0, .int x)] := hl
  obtain ⟨hx, hb, hml, hown, hts⟩ := id hF
  refine lv_iload_n hx hb dX12_isSlot_0 rfl (lv_at hl 0 rfl) ?_
  refine lv_if_lt (tgt := 13) hx hb dX12_isSlot_1 (by decide) (fun c_1 => ?_) (fun c_1 => ?_)
  · skip
    refine lv_iconst (v := 0) hx hb dX12_isSlot_13 (by decide) ?_
    exact W.zret (v := 0) hx hb hr (rfl) (fun t9 ht hW => ⟨_, rfl, (by first | (simp_all [rg, bI]; done) | (simp_all [rg, bI]; simp only [Int32.lt_iff_toInt_lt, Int32.le_iff_toInt_le, i32_0, i32_1, i32_2, i32_3, i32_4, i32_9, i32_10, i32_99, i32_100, i32_1000, i32_9999] at *; omega)), ht⟩) (fun _ h => by cases h) dX12_isSlot_14 hlocks
  · skip
    refine lv_iload_n hx hb dX12_isSlot_4 rfl (lv_at hl 0 rfl) ?_
    refine lv_iconst (v := 3) hx hb dX12_isSlot_5 (by decide) ?_
    refine lv_icmp_ge (tgt := 13) hx hb dX12_isSlot_6 (by decide) (fun c_2 => ?_) (fun c_2 => ?_)
    · skip
      refine lv_iconst (v := 0) hx hb dX12_isSlot_13 (by decide) ?_
      exact W.zret (v := 0) hx hb hr (rfl) (fun t9 ht hW => ⟨_, rfl, (by first | (simp_all [rg, bI]; done) | (simp_all [rg, bI]; simp only [Int32.lt_iff_toInt_lt, Int32.le_iff_toInt_le, i32_0, i32_1, i32_2, i32_3, i32_4, i32_9, i32_10, i32_99, i32_100, i32_1000, i32_9999] at *; omega)), ht⟩) (fun _ h => by cases h) dX12_isSlot_14 hlocks
    · skip
      refine lv_iconst (v := 1) hx hb dX12_isSlot_9 (by decide) ?_
      refine lv_goto (tgt := 14) hx hb dX12_isSlot_10 (by decide) ?_
      exact W.zret (v := 1) hx hb hr (rfl) (fun t9 ht hW => ⟨_, rfl, (by first | (simp_all [rg, bI]; done) | (simp_all [rg, bI]; simp only [Int32.lt_iff_toInt_lt, Int32.le_iff_toInt_le, i32_0, i32_1, i32_2, i32_3, i32_4, i32_9, i32_10, i32_99, i32_100, i32_1000, i32_9999] at *; omega)), ht⟩) (fun _ h => by cases h) dX12_isSlot_14 hlocks

set_option maxHeartbeats 4000000 in
set_option maxRecDepth 100000 in
theorem m_X5_has (l9 : Launch) (D : va_G) (k : Nat → ClassId) (q : Nat → Nat) (n : Nat) (w ly t a : Nat → Int32) (fx : Nat → UInt32) (x : Int32) : Met l9 yX5_has wsX5_has ({ frames := 0, cells := 0, slots := 0, locals := 0 }) (RPc D k [.ref (q 0), .int x] (bClaims k q n w ly t a fx)) (EI (bI (inC n x))) 0 0 noA := by
  refine rMet (y := yX5_has) (cc := cX5_has) (maxL := 2) (ret := (some .boolean)) [.ref (q 0), .int x] (by decide) rfl (Nat.le_of_ble_eq_true rfl) ?_
  intro p9 e9 s9 m9 bl9 me9 c9 ls hF hr hlocks hP hK hN hl
  have hl : lv_has ls 2 [(0, .ref (q 0)), (1, .int x)] := hl
  obtain ⟨hx, hb, hml, hown, hts⟩ := id hF
  have k_fieldLink_9 : (Cond.fieldLink RX5 9 "OpinionReactor$Claims" "count" "I").before _ s9 = true := hts (.fieldLink RX5 9 "OpinionReactor$Claims" "count" "I") (by decide +kernel)
  have kc_RX5 : ∀ w ∈ u_ws RX5 TX5 6, w ∈ wsX5_has := by decide +kernel
  refine lv_iload_n hx hb dX5_has_0 rfl (lv_at hl 1 rfl) ?_
  refine lv_if_lt (tgt := 16) hx hb dX5_has_1 (by decide) (fun c_1 => ?_) (fun c_1 => ?_)
  · skip
    refine lv_iconst (v := 0) hx hb dX5_has_16 (by decide) ?_
    exact W.zret (v := 0) hx hb hr (rfl) (fun t9 ht hW => ⟨_, rfl, (by first | (simp_all [inC, bI]; done) | (simp_all [inC, bI]; simp only [Int32.lt_iff_toInt_lt, Int32.le_iff_toInt_le, i32_0, i32_1, i32_2, i32_3, i32_4, i32_9, i32_10, i32_99, i32_100, i32_1000, i32_9999] at *; omega)), ht⟩) (fun _ h => by cases h) dX5_has_17 hlocks
  · skip
    refine lv_iload_n hx hb dX5_has_4 rfl (lv_at hl 1 rfl) ?_
    refine lv_aload_n hx hb dX5_has_5 rfl (lv_at hl 0 rfl) ?_
    refine va_get (D := D) (ci := 7) (v := .int (nI n)) (C := RX5) (T := TX5) (N := 6) hx hb hts kc_RX5 hown hK hP 0 rfl rfl 0 (by decide) k_fieldLink_9 (fun _ h9 => h9) rfl dX5_has_6 ?_
    refine lv_icmp_ge (tgt := 16) hx hb dX5_has_9 (by decide) (fun c_2 => ?_) (fun c_2 => ?_)
    · skip
      refine lv_iconst (v := 0) hx hb dX5_has_16 (by decide) ?_
      exact W.zret (v := 0) hx hb hr (rfl) (fun t9 ht hW => ⟨_, rfl, (by first | (simp_all [inC, bI]; done) | (simp_all [inC, bI]; simp only [Int32.lt_iff_toInt_lt, Int32.le_iff_toInt_le, i32_0, i32_1, i32_2, i32_3, i32_4, i32_9, i32_10, i32_99, i32_100, i32_1000, i32_9999] at *; omega)), ht⟩) (fun _ h => by cases h) dX5_has_17 hlocks
    · skip
      refine lv_iconst (v := 1) hx hb dX5_has_12 (by decide) ?_
      refine lv_goto (tgt := 17) hx hb dX5_has_13 (by decide) ?_
      exact W.zret (v := 1) hx hb hr (rfl) (fun t9 ht hW => ⟨_, rfl, (by first | (simp_all [inC, bI]; done) | (simp_all [inC, bI]; simp only [Int32.lt_iff_toInt_lt, Int32.le_iff_toInt_le, i32_0, i32_1, i32_2, i32_3, i32_4, i32_9, i32_10, i32_99, i32_100, i32_1000, i32_9999] at *; omega)), ht⟩) (fun _ h => by cases h) dX5_has_17 hlocks

set_option maxHeartbeats 4000000 in
set_option maxRecDepth 100000 in
theorem m_X5_all (l9 : Launch) (D : va_G) (k : Nat → ClassId) (q : Nat → Nat) (n : Nat) (w ly t a : Nat → Int32) (fx : Nat → UInt32) (hn : n ≤ 10) : Met l9 yX5_all wsX5_all ({ frames := 1, cells := 0, slots := 0, locals := 20 }) (RPc D k [.ref (q 0)] (bClaims k q n w ly t a fx)) (EI (nI (pw n - 1))) 0 0 noA := by
  refine rMet (y := yX5_all) (cc := cX5_all) (maxL := 1) (ret := (some .int)) [.ref (q 0)] (by decide) rfl (Nat.le_of_ble_eq_true rfl) ?_
  intro p9 e9 s9 m9 bl9 me9 c9 ls hF hr hlocks hP hK hN hl
  have hl : lv_has ls 1 [(0, .ref (q 0))] := hl
  obtain ⟨hx, hb, hml, hown, hts⟩ := id hF
  have k_fieldLink_9 : (Cond.fieldLink RX5 9 "OpinionReactor$Claims" "count" "I").before _ s9 = true := hts (.fieldLink RX5 9 "OpinionReactor$Claims" "count" "I") (by decide +kernel)
  have kc_RX5 : ∀ w ∈ u_ws RX5 TX5 6, w ∈ wsX5_all := by decide +kernel
  refine lv_aload_n hx hb dX5_all_0 rfl (lv_at hl 0 rfl) ?_
  refine va_get (D := D) (ci := 7) (v := .int (nI n)) (C := RX5) (T := TX5) (N := 6) hx hb hts kc_RX5 hown hK hP 0 rfl rfl 0 (by decide) k_fieldLink_9 (fun _ h9 => h9) rfl dX5_all_1 ?_
  refine vp_callSi (va_Run.run (va_runSN (As := [.int (nI n)]) (rest := []) hF (m_X12_bit l9 D k n ) ⟨va_cnB 1 hts gX5_all_X12_bit_n38 rfl rfl rfl (hN (.methodLinkNest RX5 38 yX12_bit RX12) (by decide +kernel)) (hts (.initialized RX12) (by decide +kernel)) (by decide +kernel) ⟨Nat.le_of_ble_eq_true rfl, Nat.le_of_ble_eq_true rfl⟩, hts (.static yX12_bit) (by decide +kernel), trivial⟩ (rPreS hK hN hP [] rfl) rfl rfl hl.1 rfl (lv_room (Nat.le_of_ble_eq_true rfl)) dX5_all_4 ⟨Nat.zero_le _, Nat.zero_le _⟩)) (fun r_1 hr_1 => ?_)
  subst hr_1
  refine lv_iconst (v := 1) hx hb dX5_all_7 (by decide) ?_
  refine lv_isub hx hb dX5_all_8 ?_
  exact W.iret (v := (bt n) - 1) hx hb hr (fun t9 ht hW => ⟨_, rfl, (by exact bt_all hn), ht⟩) (fun _ h => by cases h) dX5_all_9 hlocks

set_option maxHeartbeats 4000000 in
set_option maxRecDepth 100000 in
theorem m_X5_targetsOf (l9 : Launch) (D : va_G) (k : Nat → ClassId) (q : Nat → Nat) (n : Nat) (w ly t a : Nat → Int32) (fx : Nat → UInt32) (x : Int32) (hn : n ≤ 10) : Met l9 yX5_targetsOf wsX5_targetsOf ({ frames := 1, cells := 0, slots := 0, locals := 21 }) (RPc D k [.ref (q 0), .int x] (bClaims k q n w ly t a fx)) (EI (orS n t x)) 0 0 noA := by
  refine rMet (y := yX5_targetsOf) (cc := cX5_targetsOf) (maxL := 4) (ret := (some .int)) [.ref (q 0), .int x] (by decide) rfl (Nat.le_of_ble_eq_true rfl) ?_
  intro p9 e9 s9 m9 bl9 me9 c9 ls hF hr hlocks hP hK hN hl
  have hl : lv_has ls 4 [(0, .ref (q 0)), (1, .int x)] := hl
  obtain ⟨hx, hb, hml, hown, hts⟩ := id hF
  have k_fieldLink_9 : (Cond.fieldLink RX5 9 "OpinionReactor$Claims" "count" "I").before _ s9 = true := hts (.fieldLink RX5 9 "OpinionReactor$Claims" "count" "I") (by decide +kernel)
  have kc_RX5 : ∀ w ∈ u_ws RX5 TX5 6, w ∈ wsX5_targetsOf := by decide +kernel
  have k_fieldLink_22 : (Cond.fieldLink RX5 22 "OpinionReactor$Claims" "targets" "[I").before _ s9 = true := hts (.fieldLink RX5 22 "OpinionReactor$Claims" "targets" "[I") (by decide +kernel)
  have loop_4 : ∀ (fuel : Nat) (i : Nat), (i ≤ n) → n - i < fuel → ∀ (ls : Array Slot), lv_has ls 4 [(0, .ref (q 0)), (1, .int x), (2, .int (orS i t x)), (3, .int (nI i))] → W p9 l9 e9 ({ frames := 1, cells := 0, slots := 0, locals := 21 }) s9 m9 ([.ref (q 0), .int x] : List Value).toArray bl9 me9 c9 s9.heap [] 0 0 (MQ bl9 (EI (orS n t x)) ([.ref (q 0), .int x] : List Value).toArray s9 0 0 noA) (F0 m9 4 ls []) := by
    intro fuel
    induction fuel with
    | zero => intro i hi hfuel_4; exact absurd hfuel_4 (Nat.not_lt_zero _)
    | succ fuel ih_4 =>
      intro i hi hfuel_4 ls hl
      refine lv_iload_n hx hb dX5_targetsOf_4 rfl (lv_at hl 3 rfl) ?_
      refine lv_aload_n hx hb dX5_targetsOf_5 rfl (lv_at hl 0 rfl) ?_
      refine va_get (D := D) (ci := 7) (v := .int (nI n)) (C := RX5) (T := TX5) (N := 6) hx hb hts kc_RX5 hown hK hP 0 rfl rfl 0 (by decide) k_fieldLink_9 (fun _ h9 => h9) rfl dX5_targetsOf_6 ?_
      refine lv_icmp_ge (tgt := 35) hx hb dX5_targetsOf_9 (by decide) (fun c_1 => ?_) (fun c_1 => ?_)
      · skip
        have c_1 : n ≤ i := (nI_leI (a := n) (b := i) (by omega) (by omega)).mp c_1
        refine lv_iload_n hx hb dX5_targetsOf_35 rfl (lv_at hl 2 rfl) ?_
        exact W.iret (v := orS i t x) hx hb hr (fun t9 ht hW => ⟨_, rfl, (by rw [show i = n by omega]), ht⟩) (fun _ h => by cases h) dX5_targetsOf_36 hlocks
      · skip
        have c_1 : ¬ n ≤ i := fun h => c_1 ((nI_leI (a := n) (b := i) (by omega) (by omega)).mpr h)
        refine lv_iload_n hx hb dX5_targetsOf_12 rfl (lv_at hl 1 rfl) ?_
        refine lv_iload_n hx hb dX5_targetsOf_13 rfl (lv_at hl 3 rfl) ?_
        refine vp_callSi (va_Run.run (va_runSN (As := [.int x, .int (nI i)]) (rest := []) hF (m_X12_contains l9 D k x i (by omega)) ⟨va_cnB 2 hts gX5_targetsOf_X12_contains_n46 rfl rfl rfl (hN (.methodLinkNest RX5 46 yX12_contains RX12) (by decide +kernel)) (hts (.initialized RX12) (by decide +kernel)) (by decide +kernel) ⟨Nat.le_of_ble_eq_true rfl, Nat.le_of_ble_eq_true rfl⟩, hts (.static yX12_contains) (by decide +kernel), trivial⟩ (rPreS hK hN hP [] rfl) rfl rfl hl.1 rfl (lv_room (Nat.le_of_ble_eq_true rfl)) dX5_targetsOf_14 ⟨Nat.zero_le _, Nat.zero_le _⟩)) (fun r_2 hr_2 => ?_)
        subst hr_2
        refine lv_if_eq (tgt := 29) hx hb dX5_targetsOf_17 (by decide) (fun c_3 => ?_) (fun c_3 => ?_)
        · skip
          have c_3 : (tb x i) = false := bI_0 c_3
          refine lv_iinc (v := nI (i + 1)) (lv' := [(3, .int (nI (i + 1))), (0, .ref (q 0)), (1, .int x), (2, .int (orS i t x))]) hx hb dX5_targetsOf_29 hl (k := 3) rfl (nI_inc i) (by decide) rfl (fun ls hl => ?_)
          refine lv_goto (tgt := 4) hx hb dX5_targetsOf_32 (by decide) ?_
          have e_4 : (orS i t x : Int32) = orS (i + 1) t x := by first | (with_reducible rfl) | (rw [orS_s]; simp [*])
          exact ih_4 (i + 1) (by omega) (by omega) ls (lv_one hl 1 rfl rfl (lv_one hl 2 rfl rfl (lv_one hl 3 rfl (congrArg Value.int e_4) (lv_one hl 0 rfl rfl (lv_nil hl)))))
        · skip
          have c_3 : (tb x i) = true := bI_1 c_3
          refine lv_iload_n hx hb dX5_targetsOf_20 rfl (lv_at hl 2 rfl) ?_
          refine lv_aload_n hx hb dX5_targetsOf_21 rfl (lv_at hl 0 rfl) ?_
          refine va_get (D := D) (ci := 7) (v := .ref (q 3)) (C := RX5) (T := TX5) (N := 6) hx hb hts kc_RX5 hown hK hP 0 rfl rfl 3 (by decide) k_fieldLink_22 (fun _ h9 => h9) rfl dX5_targetsOf_22 ?_
          refine lv_iload_n hx hb dX5_targetsOf_25 rfl (lv_at hl 3 rfl) ?_
          refine ia_ld hx hb hK hP 3 rfl i (by omega) (by decide) dX5_targetsOf_26 ?_
          refine lv_ior hx hb dX5_targetsOf_27 ?_
          refine lv_istore_n (lv' := [(2, .int ((orS i t x) ||| (t i))), (0, .ref (q 0)), (1, .int x), (3, .int (nI i))]) hx hb dX5_targetsOf_28 rfl hl (by decide) rfl (fun ls hl => ?_)
          refine lv_iinc (v := nI (i + 1)) (lv' := [(3, .int (nI (i + 1))), (2, .int ((orS i t x) ||| (t i))), (0, .ref (q 0)), (1, .int x)]) hx hb dX5_targetsOf_29 hl (k := 3) rfl (nI_inc i) (by decide) rfl (fun ls hl => ?_)
          refine lv_goto (tgt := 4) hx hb dX5_targetsOf_32 (by decide) ?_
          have e_5 : ((orS i t x) ||| (t i) : Int32) = orS (i + 1) t x := by first | (with_reducible rfl) | (rw [orS_s]; simp [*])
          exact ih_4 (i + 1) (by omega) (by omega) ls (lv_one hl 2 rfl rfl (lv_one hl 3 rfl rfl (lv_one hl 1 rfl (congrArg Value.int e_5) (lv_one hl 0 rfl rfl (lv_nil hl)))))
  refine lv_iconst (v := 0) hx hb dX5_targetsOf_0 (by decide) ?_
  refine lv_istore_n (lv' := [(2, .int 0), (0, .ref (q 0)), (1, .int x)]) hx hb dX5_targetsOf_1 rfl hl (by decide) rfl (fun ls hl => ?_)
  refine lv_iconst (v := 0) hx hb dX5_targetsOf_2 (by decide) ?_
  refine lv_istore_n (lv' := [(3, .int 0), (2, .int 0), (0, .ref (q 0)), (1, .int x)]) hx hb dX5_targetsOf_3 rfl hl (by decide) rfl (fun ls hl => ?_)
  have e_6 : (0 : Int32) = orS 0 t x := by first | (with_reducible rfl) | (rfl)
  exact loop_4 ((n - 0) + 1) 0 (by omega) (Nat.lt_succ_self _) ls (lv_one hl 2 rfl rfl (lv_one hl 3 rfl rfl (lv_one hl 1 rfl (congrArg Value.int e_6) (lv_one hl 0 rfl rfl (lv_nil hl)))))

set_option maxHeartbeats 4000000 in
set_option maxRecDepth 100000 in
theorem m_X5_attackersOf (l9 : Launch) (D : va_G) (k : Nat → ClassId) (q : Nat → Nat) (n : Nat) (w ly t a : Nat → Int32) (fx : Nat → UInt32) (x : Int32) (hn : n ≤ 10) : Met l9 yX5_attackersOf wsX5_attackersOf ({ frames := 1, cells := 0, slots := 0, locals := 21 }) (RPc D k [.ref (q 0), .int x] (bClaims k q n w ly t a fx)) (EI (orS n a x)) 0 0 noA := by
  refine rMet (y := yX5_attackersOf) (cc := cX5_attackersOf) (maxL := 4) (ret := (some .int)) [.ref (q 0), .int x] (by decide) rfl (Nat.le_of_ble_eq_true rfl) ?_
  intro p9 e9 s9 m9 bl9 me9 c9 ls hF hr hlocks hP hK hN hl
  have hl : lv_has ls 4 [(0, .ref (q 0)), (1, .int x)] := hl
  obtain ⟨hx, hb, hml, hown, hts⟩ := id hF
  have k_fieldLink_9 : (Cond.fieldLink RX5 9 "OpinionReactor$Claims" "count" "I").before _ s9 = true := hts (.fieldLink RX5 9 "OpinionReactor$Claims" "count" "I") (by decide +kernel)
  have kc_RX5 : ∀ w ∈ u_ws RX5 TX5 6, w ∈ wsX5_attackersOf := by decide +kernel
  have k_fieldLink_25 : (Cond.fieldLink RX5 25 "OpinionReactor$Claims" "attackers" "[I").before _ s9 = true := hts (.fieldLink RX5 25 "OpinionReactor$Claims" "attackers" "[I") (by decide +kernel)
  have loop_4 : ∀ (fuel : Nat) (i : Nat), (i ≤ n) → n - i < fuel → ∀ (ls : Array Slot), lv_has ls 4 [(0, .ref (q 0)), (1, .int x), (2, .int (orS i a x)), (3, .int (nI i))] → W p9 l9 e9 ({ frames := 1, cells := 0, slots := 0, locals := 21 }) s9 m9 ([.ref (q 0), .int x] : List Value).toArray bl9 me9 c9 s9.heap [] 0 0 (MQ bl9 (EI (orS n a x)) ([.ref (q 0), .int x] : List Value).toArray s9 0 0 noA) (F0 m9 4 ls []) := by
    intro fuel
    induction fuel with
    | zero => intro i hi hfuel_4; exact absurd hfuel_4 (Nat.not_lt_zero _)
    | succ fuel ih_4 =>
      intro i hi hfuel_4 ls hl
      refine lv_iload_n hx hb dX5_attackersOf_4 rfl (lv_at hl 3 rfl) ?_
      refine lv_aload_n hx hb dX5_attackersOf_5 rfl (lv_at hl 0 rfl) ?_
      refine va_get (D := D) (ci := 7) (v := .int (nI n)) (C := RX5) (T := TX5) (N := 6) hx hb hts kc_RX5 hown hK hP 0 rfl rfl 0 (by decide) k_fieldLink_9 (fun _ h9 => h9) rfl dX5_attackersOf_6 ?_
      refine lv_icmp_ge (tgt := 35) hx hb dX5_attackersOf_9 (by decide) (fun c_1 => ?_) (fun c_1 => ?_)
      · skip
        have c_1 : n ≤ i := (nI_leI (a := n) (b := i) (by omega) (by omega)).mp c_1
        refine lv_iload_n hx hb dX5_attackersOf_35 rfl (lv_at hl 2 rfl) ?_
        exact W.iret (v := orS i a x) hx hb hr (fun t9 ht hW => ⟨_, rfl, (by rw [show i = n by omega]), ht⟩) (fun _ h => by cases h) dX5_attackersOf_36 hlocks
      · skip
        have c_1 : ¬ n ≤ i := fun h => c_1 ((nI_leI (a := n) (b := i) (by omega) (by omega)).mpr h)
        refine lv_iload_n hx hb dX5_attackersOf_12 rfl (lv_at hl 1 rfl) ?_
        refine lv_iload_n hx hb dX5_attackersOf_13 rfl (lv_at hl 3 rfl) ?_
        refine vp_callSi (va_Run.run (va_runSN (As := [.int x, .int (nI i)]) (rest := []) hF (m_X12_contains l9 D k x i (by omega)) ⟨va_cnB 2 hts gX5_attackersOf_X12_contains_n46 rfl rfl rfl (hN (.methodLinkNest RX5 46 yX12_contains RX12) (by decide +kernel)) (hts (.initialized RX12) (by decide +kernel)) (by decide +kernel) ⟨Nat.le_of_ble_eq_true rfl, Nat.le_of_ble_eq_true rfl⟩, hts (.static yX12_contains) (by decide +kernel), trivial⟩ (rPreS hK hN hP [] rfl) rfl rfl hl.1 rfl (lv_room (Nat.le_of_ble_eq_true rfl)) dX5_attackersOf_14 ⟨Nat.zero_le _, Nat.zero_le _⟩)) (fun r_2 hr_2 => ?_)
        subst hr_2
        refine lv_if_eq (tgt := 29) hx hb dX5_attackersOf_17 (by decide) (fun c_3 => ?_) (fun c_3 => ?_)
        · skip
          have c_3 : (tb x i) = false := bI_0 c_3
          refine lv_iinc (v := nI (i + 1)) (lv' := [(3, .int (nI (i + 1))), (0, .ref (q 0)), (1, .int x), (2, .int (orS i a x))]) hx hb dX5_attackersOf_29 hl (k := 3) rfl (nI_inc i) (by decide) rfl (fun ls hl => ?_)
          refine lv_goto (tgt := 4) hx hb dX5_attackersOf_32 (by decide) ?_
          have e_4 : (orS i a x : Int32) = orS (i + 1) a x := by first | (with_reducible rfl) | (rw [orS_s]; simp [*])
          exact ih_4 (i + 1) (by omega) (by omega) ls (lv_one hl 1 rfl rfl (lv_one hl 2 rfl rfl (lv_one hl 3 rfl (congrArg Value.int e_4) (lv_one hl 0 rfl rfl (lv_nil hl)))))
        · skip
          have c_3 : (tb x i) = true := bI_1 c_3
          refine lv_iload_n hx hb dX5_attackersOf_20 rfl (lv_at hl 2 rfl) ?_
          refine lv_aload_n hx hb dX5_attackersOf_21 rfl (lv_at hl 0 rfl) ?_
          refine va_get (D := D) (ci := 7) (v := .ref (q 4)) (C := RX5) (T := TX5) (N := 6) hx hb hts kc_RX5 hown hK hP 0 rfl rfl 4 (by decide) k_fieldLink_25 (fun _ h9 => h9) rfl dX5_attackersOf_22 ?_
          refine lv_iload_n hx hb dX5_attackersOf_25 rfl (lv_at hl 3 rfl) ?_
          refine ia_ld hx hb hK hP 4 rfl i (by omega) (by decide) dX5_attackersOf_26 ?_
          refine lv_ior hx hb dX5_attackersOf_27 ?_
          refine lv_istore_n (lv' := [(2, .int ((orS i a x) ||| (a i))), (0, .ref (q 0)), (1, .int x), (3, .int (nI i))]) hx hb dX5_attackersOf_28 rfl hl (by decide) rfl (fun ls hl => ?_)
          refine lv_iinc (v := nI (i + 1)) (lv' := [(3, .int (nI (i + 1))), (2, .int ((orS i a x) ||| (a i))), (0, .ref (q 0)), (1, .int x)]) hx hb dX5_attackersOf_29 hl (k := 3) rfl (nI_inc i) (by decide) rfl (fun ls hl => ?_)
          refine lv_goto (tgt := 4) hx hb dX5_attackersOf_32 (by decide) ?_
          have e_5 : ((orS i a x) ||| (a i) : Int32) = orS (i + 1) a x := by first | (with_reducible rfl) | (rw [orS_s]; simp [*])
          exact ih_4 (i + 1) (by omega) (by omega) ls (lv_one hl 2 rfl rfl (lv_one hl 3 rfl rfl (lv_one hl 1 rfl (congrArg Value.int e_5) (lv_one hl 0 rfl rfl (lv_nil hl)))))
  refine lv_iconst (v := 0) hx hb dX5_attackersOf_0 (by decide) ?_
  refine lv_istore_n (lv' := [(2, .int 0), (0, .ref (q 0)), (1, .int x)]) hx hb dX5_attackersOf_1 rfl hl (by decide) rfl (fun ls hl => ?_)
  refine lv_iconst (v := 0) hx hb dX5_attackersOf_2 (by decide) ?_
  refine lv_istore_n (lv' := [(3, .int 0), (2, .int 0), (0, .ref (q 0)), (1, .int x)]) hx hb dX5_attackersOf_3 rfl hl (by decide) rfl (fun ls hl => ?_)
  have e_6 : (0 : Int32) = orS 0 a x := by first | (with_reducible rfl) | (rfl)
  exact loop_4 ((n - 0) + 1) 0 (by omega) (Nat.lt_succ_self _) ls (lv_one hl 2 rfl rfl (lv_one hl 3 rfl rfl (lv_one hl 1 rfl (congrArg Value.int e_6) (lv_one hl 0 rfl rfl (lv_nil hl)))))

set_option maxHeartbeats 4000000 in
set_option maxRecDepth 100000 in
theorem m_X5_weightOfSet (l9 : Launch) (D : va_G) (k : Nat → ClassId) (q : Nat → Nat) (n : Nat) (w ly t a : Nat → Int32) (fx : Nat → UInt32) (x : Int32) (hn : n ≤ 10) : Met l9 yX5_weightOfSet wsX5_weightOfSet ({ frames := 1, cells := 0, slots := 0, locals := 21 }) (RPc D k [.ref (q 0), .int x] (bClaims k q n w ly t a fx)) (EI (adS n w x)) 0 0 noA := by
  refine rMet (y := yX5_weightOfSet) (cc := cX5_weightOfSet) (maxL := 4) (ret := (some .int)) [.ref (q 0), .int x] (by decide) rfl (Nat.le_of_ble_eq_true rfl) ?_
  intro p9 e9 s9 m9 bl9 me9 c9 ls hF hr hlocks hP hK hN hl
  have hl : lv_has ls 4 [(0, .ref (q 0)), (1, .int x)] := hl
  obtain ⟨hx, hb, hml, hown, hts⟩ := id hF
  have k_fieldLink_9 : (Cond.fieldLink RX5 9 "OpinionReactor$Claims" "count" "I").before _ s9 = true := hts (.fieldLink RX5 9 "OpinionReactor$Claims" "count" "I") (by decide +kernel)
  have kc_RX5 : ∀ w ∈ u_ws RX5 TX5 6, w ∈ wsX5_weightOfSet := by decide +kernel
  have k_fieldLink_15 : (Cond.fieldLink RX5 15 "OpinionReactor$Claims" "weights" "[I").before _ s9 = true := hts (.fieldLink RX5 15 "OpinionReactor$Claims" "weights" "[I") (by decide +kernel)
  have loop_4 : ∀ (fuel : Nat) (i : Nat), (i ≤ n) → n - i < fuel → ∀ (ls : Array Slot), lv_has ls 4 [(0, .ref (q 0)), (1, .int x), (2, .int (adS i w x)), (3, .int (nI i))] → W p9 l9 e9 ({ frames := 1, cells := 0, slots := 0, locals := 21 }) s9 m9 ([.ref (q 0), .int x] : List Value).toArray bl9 me9 c9 s9.heap [] 0 0 (MQ bl9 (EI (adS n w x)) ([.ref (q 0), .int x] : List Value).toArray s9 0 0 noA) (F0 m9 4 ls []) := by
    intro fuel
    induction fuel with
    | zero => intro i hi hfuel_4; exact absurd hfuel_4 (Nat.not_lt_zero _)
    | succ fuel ih_4 =>
      intro i hi hfuel_4 ls hl
      refine lv_iload_n hx hb dX5_weightOfSet_4 rfl (lv_at hl 3 rfl) ?_
      refine lv_aload_n hx hb dX5_weightOfSet_5 rfl (lv_at hl 0 rfl) ?_
      refine va_get (D := D) (ci := 7) (v := .int (nI n)) (C := RX5) (T := TX5) (N := 6) hx hb hts kc_RX5 hown hK hP 0 rfl rfl 0 (by decide) k_fieldLink_9 (fun _ h9 => h9) rfl dX5_weightOfSet_6 ?_
      refine lv_icmp_ge (tgt := 35) hx hb dX5_weightOfSet_9 (by decide) (fun c_1 => ?_) (fun c_1 => ?_)
      · skip
        have c_1 : n ≤ i := (nI_leI (a := n) (b := i) (by omega) (by omega)).mp c_1
        refine lv_iload_n hx hb dX5_weightOfSet_35 rfl (lv_at hl 2 rfl) ?_
        exact W.iret (v := adS i w x) hx hb hr (fun t9 ht hW => ⟨_, rfl, (by rw [show i = n by omega]), ht⟩) (fun _ h => by cases h) dX5_weightOfSet_36 hlocks
      · skip
        have c_1 : ¬ n ≤ i := fun h => c_1 ((nI_leI (a := n) (b := i) (by omega) (by omega)).mpr h)
        refine lv_iload_n hx hb dX5_weightOfSet_12 rfl (lv_at hl 1 rfl) ?_
        refine lv_iload_n hx hb dX5_weightOfSet_13 rfl (lv_at hl 3 rfl) ?_
        refine vp_callSi (va_Run.run (va_runSN (As := [.int x, .int (nI i)]) (rest := []) hF (m_X12_contains l9 D k x i (by omega)) ⟨va_cnB 2 hts gX5_weightOfSet_X12_contains_n46 rfl rfl rfl (hN (.methodLinkNest RX5 46 yX12_contains RX12) (by decide +kernel)) (hts (.initialized RX12) (by decide +kernel)) (by decide +kernel) ⟨Nat.le_of_ble_eq_true rfl, Nat.le_of_ble_eq_true rfl⟩, hts (.static yX12_contains) (by decide +kernel), trivial⟩ (rPreS hK hN hP [] rfl) rfl rfl hl.1 rfl (lv_room (Nat.le_of_ble_eq_true rfl)) dX5_weightOfSet_14 ⟨Nat.zero_le _, Nat.zero_le _⟩)) (fun r_2 hr_2 => ?_)
        subst hr_2
        refine lv_if_eq (tgt := 29) hx hb dX5_weightOfSet_17 (by decide) (fun c_3 => ?_) (fun c_3 => ?_)
        · skip
          have c_3 : (tb x i) = false := bI_0 c_3
          refine lv_iinc (v := nI (i + 1)) (lv' := [(3, .int (nI (i + 1))), (0, .ref (q 0)), (1, .int x), (2, .int (adS i w x))]) hx hb dX5_weightOfSet_29 hl (k := 3) rfl (nI_inc i) (by decide) rfl (fun ls hl => ?_)
          refine lv_goto (tgt := 4) hx hb dX5_weightOfSet_32 (by decide) ?_
          have e_4 : (adS i w x : Int32) = adS (i + 1) w x := by first | (with_reducible rfl) | (rw [adS_s]; simp [*])
          exact ih_4 (i + 1) (by omega) (by omega) ls (lv_one hl 1 rfl rfl (lv_one hl 2 rfl rfl (lv_one hl 3 rfl (congrArg Value.int e_4) (lv_one hl 0 rfl rfl (lv_nil hl)))))
        · skip
          have c_3 : (tb x i) = true := bI_1 c_3
          refine lv_iload_n hx hb dX5_weightOfSet_20 rfl (lv_at hl 2 rfl) ?_
          refine lv_aload_n hx hb dX5_weightOfSet_21 rfl (lv_at hl 0 rfl) ?_
          refine va_get (D := D) (ci := 7) (v := .ref (q 1)) (C := RX5) (T := TX5) (N := 6) hx hb hts kc_RX5 hown hK hP 0 rfl rfl 1 (by decide) k_fieldLink_15 (fun _ h9 => h9) rfl dX5_weightOfSet_22 ?_
          refine lv_iload_n hx hb dX5_weightOfSet_25 rfl (lv_at hl 3 rfl) ?_
          refine ia_ld hx hb hK hP 1 rfl i (by omega) (by decide) dX5_weightOfSet_26 ?_
          refine lv_iadd hx hb dX5_weightOfSet_27 ?_
          refine lv_istore_n (lv' := [(2, .int ((adS i w x) + (w i))), (0, .ref (q 0)), (1, .int x), (3, .int (nI i))]) hx hb dX5_weightOfSet_28 rfl hl (by decide) rfl (fun ls hl => ?_)
          refine lv_iinc (v := nI (i + 1)) (lv' := [(3, .int (nI (i + 1))), (2, .int ((adS i w x) + (w i))), (0, .ref (q 0)), (1, .int x)]) hx hb dX5_weightOfSet_29 hl (k := 3) rfl (nI_inc i) (by decide) rfl (fun ls hl => ?_)
          refine lv_goto (tgt := 4) hx hb dX5_weightOfSet_32 (by decide) ?_
          have e_5 : ((adS i w x) + (w i) : Int32) = adS (i + 1) w x := by first | (with_reducible rfl) | (rw [adS_s]; simp [*])
          exact ih_4 (i + 1) (by omega) (by omega) ls (lv_one hl 2 rfl rfl (lv_one hl 3 rfl rfl (lv_one hl 1 rfl (congrArg Value.int e_5) (lv_one hl 0 rfl rfl (lv_nil hl)))))
  refine lv_iconst (v := 0) hx hb dX5_weightOfSet_0 (by decide) ?_
  refine lv_istore_n (lv' := [(2, .int 0), (0, .ref (q 0)), (1, .int x)]) hx hb dX5_weightOfSet_1 rfl hl (by decide) rfl (fun ls hl => ?_)
  refine lv_iconst (v := 0) hx hb dX5_weightOfSet_2 (by decide) ?_
  refine lv_istore_n (lv' := [(3, .int 0), (2, .int 0), (0, .ref (q 0)), (1, .int x)]) hx hb dX5_weightOfSet_3 rfl hl (by decide) rfl (fun ls hl => ?_)
  have e_6 : (0 : Int32) = adS 0 w x := by first | (with_reducible rfl) | (rfl)
  exact loop_4 ((n - 0) + 1) 0 (by omega) (Nat.lt_succ_self _) ls (lv_one hl 2 rfl rfl (lv_one hl 3 rfl rfl (lv_one hl 1 rfl (congrArg Value.int e_6) (lv_one hl 0 rfl rfl (lv_nil hl)))))

/-! The model: reads of the graph of claims. -/
/-- the model's rows of weights, layers, attacks -/
def vw (v : Nat → Int32) (c : Nat) : Int32 := v (5 + 3 * c + 0)
def vl (v : Nat → Int32) (c : Nat) : Int32 := v (5 + 3 * c + 1)
def vt (v : Nat → Int32) (c : Nat) : Int32 := v (5 + 3 * c + 2)
/-- p holds of all below n -/
def allb (p : Nat → Bool) (n : Nat) : Bool := up (fun c x => x && p c) true n
theorem allb_s (p : Nat → Bool) (n : Nat) : allb p (n + 1) = (allb p n && p n) := rfl
theorem allb_0 (p : Nat → Bool) : allb p 0 = true := rfl
theorem allb_iff {p : Nat → Bool} {n : Nat} : allb p n = true ↔ ∀ c, c < n → p c = true := by
  induction n with
  | zero => exact ⟨fun _ c hc => absurd hc (Nat.not_lt_zero c), fun _ => rfl⟩
  | succ n ih =>
    rw [allb_s, Bool.and_eq_true, ih]
    constructor
    · intro h c hc
      rcases Nat.lt_succ_iff_lt_or_eq.mp hc with q | q
      · exact h.1 c q
      · rw [q]; exact h.2
    · intro h
      exact ⟨fun c hc => h c (Nat.lt_succ_of_lt hc), h n (Nat.lt_succ_self n)⟩
theorem allb_no {p : Nat → Bool} {n c : Nat} (hc : c < n) (h : p c = false) : allb p n = false := by
  cases q : allb p n with
  | false => rfl
  | true => rw [allb_iff.mp q c hc] at h; cases h
theorem allb_t {p : Nat → Bool} {i : Nat} (h : allb p i = true) (h2 : p i = true) : allb p (i + 1) = true := by rw [allb_s, h, h2]; rfl
/-- j does not attack c, or is attacked by x -/
def pD (n : Nat) (t : Nat → Int32) (x : Int32) (c j : Nat) : Bool := !(tb (t j) c && !tb (orS n t x) j)
/-- the set x defends the claim c, by the rows t -/
def dfc (n : Nat) (t : Nat → Int32) (x : Int32) (c : Nat) : Bool := allb (pD n t x c) n
/-- the first m claims that x defends -/
def dfM (n m : Nat) (t : Nat → Int32) (x : Int32) : Int32 := up (fun c acc => acc ||| (if dfc n t x c then bt c else 0)) x m
theorem dfM_s (n m : Nat) (t : Nat → Int32) (x : Int32) : dfM n (m + 1) t x = dfM n m t x ||| (if dfc n t x m then bt m else 0) := rfl
/-- rounds of acceptance by the rows t alone -/
def itM (n : Nat) (t : Nat → Int32) (r : Nat) : Int32 := up (fun _ x => dfM n n t x) 0 r
theorem itM_s (n : Nat) (t : Nat → Int32) (r : Nat) : itM n t (r + 1) = dfM n n t (itM n t r) := rfl
/-- c is not of x, or x defends it -/
def pH (n : Nat) (t : Nat → Int32) (x : Int32) (c : Nat) : Bool := !(tb x c && !dfc n t x c)
/-- a position, by the rows t alone -/
def hldM (n : Nat) (t : Nat → Int32) (x : Int32) : Bool := decide (orS n t x &&& x = 0) && allb (pH n t x) n
theorem isC_in {n : Nat} (hn : n ≤ 10) (x : Int32) : rg 0 x (nI n - 1) = inC n x := by
  unfold rg inC
  have e : (x ≤ nI n - 1) ↔ ¬ nI n ≤ x := by
    rw [Int32.le_iff_toInt_le, Int32.le_iff_toInt_le]
    have h1 : (nI n).toInt = (n : Int) := nI_toInt (by omega)
    have h2 : (nI n - 1).toInt = (n : Int) - 1 := by
      have := pk_sub_toInt (a := n) (b := 1) (by omega) (by omega)
      exact this
    rw [h1, h2]
    omega
  simp only [e]

set_option maxHeartbeats 4000000 in
set_option maxRecDepth 100000 in
theorem m_X13_isIn (l9 : Launch) (D : va_G) (k : Nat → ClassId) (x lo hi : Int32) : Met l9 yX13_isIn wsX13_isIn ({ frames := 0, cells := 0, slots := 0, locals := 0 }) (RPc D k [.int x, .int lo, .int hi] ([])) (EI (bI (rg lo x hi))) 0 0 noA := by
  refine rMet (y := yX13_isIn) (cc := cX13_isIn) (maxL := 3) (ret := (some .boolean)) [.int x, .int lo, .int hi] (by decide) rfl (Nat.le_of_ble_eq_true rfl) ?_
  intro p9 e9 s9 m9 bl9 me9 c9 ls hF hr hlocks hP hK hN hl
  have hl : lv_has ls 3 [(0, .int x), (1, .int lo), (2, .int hi)] := hl
  obtain ⟨hx, hb, hml, hown, hts⟩ := id hF
  refine lv_iload_n hx hb dX13_isIn_0 rfl (lv_at hl 0 rfl) ?_
  refine lv_iload_n hx hb dX13_isIn_1 rfl (lv_at hl 1 rfl) ?_
  refine lv_icmp_lt (tgt := 14) hx hb dX13_isIn_2 (by decide) (fun c_1 => ?_) (fun c_1 => ?_)
  · skip
    refine lv_iconst (v := 0) hx hb dX13_isIn_14 (by decide) ?_
    exact W.zret (v := 0) hx hb hr (rfl) (fun t9 ht hW => ⟨_, rfl, (by first | (simp_all [rg, bI]; done) | (simp_all [rg, bI]; simp only [Int32.lt_iff_toInt_lt, Int32.le_iff_toInt_le, i32_0, i32_1, i32_2, i32_3, i32_4, i32_9, i32_10, i32_99, i32_100, i32_1000, i32_9999] at *; omega)), ht⟩) (fun _ h => by cases h) dX13_isIn_15 hlocks
  · skip
    refine lv_iload_n hx hb dX13_isIn_5 rfl (lv_at hl 0 rfl) ?_
    refine lv_iload_n hx hb dX13_isIn_6 rfl (lv_at hl 2 rfl) ?_
    refine lv_icmp_gt (tgt := 14) hx hb dX13_isIn_7 (by decide) (fun c_2 => ?_) (fun c_2 => ?_)
    · skip
      refine lv_iconst (v := 0) hx hb dX13_isIn_14 (by decide) ?_
      exact W.zret (v := 0) hx hb hr (rfl) (fun t9 ht hW => ⟨_, rfl, (by first | (simp_all [rg, bI]; done) | (simp_all [rg, bI]; simp only [Int32.lt_iff_toInt_lt, Int32.le_iff_toInt_le, i32_0, i32_1, i32_2, i32_3, i32_4, i32_9, i32_10, i32_99, i32_100, i32_1000, i32_9999] at *; omega)), ht⟩) (fun _ h => by cases h) dX13_isIn_15 hlocks
    · skip
      refine lv_iconst (v := 1) hx hb dX13_isIn_10 (by decide) ?_
      refine lv_goto (tgt := 15) hx hb dX13_isIn_11 (by decide) ?_
      exact W.zret (v := 1) hx hb hr (rfl) (fun t9 ht hW => ⟨_, rfl, (by first | (simp_all [rg, bI]; done) | (simp_all [rg, bI]; simp only [Int32.lt_iff_toInt_lt, Int32.le_iff_toInt_le, i32_0, i32_1, i32_2, i32_3, i32_4, i32_9, i32_10, i32_99, i32_100, i32_1000, i32_9999] at *; omega)), ht⟩) (fun _ h => by cases h) dX13_isIn_15 hlocks

set_option maxHeartbeats 4000000 in
set_option maxRecDepth 100000 in
theorem m_X13_of (l9 : Launch) (D : va_G) (k : Nat → ClassId) (i j : Nat) : Met l9 yX13_of wsX13_of ({ frames := 0, cells := 0, slots := 0, locals := 0 }) (RPc D k [.int (nI i), .int (nI j)] ([])) (EI (nI (5 + 3 * i + j))) 0 0 noA := by
  refine rMet (y := yX13_of) (cc := cX13_of) (maxL := 2) (ret := (some .int)) [.int (nI i), .int (nI j)] (by decide) rfl (Nat.le_of_ble_eq_true rfl) ?_
  intro p9 e9 s9 m9 bl9 me9 c9 ls hF hr hlocks hP hK hN hl
  have hl : lv_has ls 2 [(0, .int (nI i)), (1, .int (nI j))] := hl
  obtain ⟨hx, hb, hml, hown, hts⟩ := id hF
  refine lv_iconst (v := 5) hx hb dX13_of_0 (by decide) ?_
  refine lv_iconst (v := 3) hx hb dX13_of_1 (by decide) ?_
  refine lv_iload_n hx hb dX13_of_2 rfl (lv_at hl 0 rfl) ?_
  refine ni_mul hx hb 3 i dX13_of_3 ?_
  refine ni_add hx hb 5 (3 * i) dX13_of_4 ?_
  refine lv_iload_n hx hb dX13_of_5 rfl (lv_at hl 1 rfl) ?_
  refine ni_add hx hb (5 + (3 * i)) j dX13_of_6 ?_
  exact W.iret (v := nI ((5 + (3 * i)) + j)) hx hb hr (fun t9 ht hW => ⟨_, rfl, (by rfl), ht⟩) (fun _ h => by cases h) dX13_of_7 hlocks

set_option maxHeartbeats 4000000 in
set_option maxRecDepth 100000 in
theorem m_X13_rackAt (l9 : Launch) (D : va_G) (k : Nat → ClassId) (i j : Nat) : Met l9 yX13_rackAt wsX13_rackAt ({ frames := 0, cells := 0, slots := 0, locals := 0 }) (RPc D k [.int (nI i), .int (nI j)] ([])) (EI (nI (35 + 4 * i + j))) 0 0 noA := by
  refine rMet (y := yX13_rackAt) (cc := cX13_rackAt) (maxL := 2) (ret := (some .int)) [.int (nI i), .int (nI j)] (by decide) rfl (Nat.le_of_ble_eq_true rfl) ?_
  intro p9 e9 s9 m9 bl9 me9 c9 ls hF hr hlocks hP hK hN hl
  have hl : lv_has ls 2 [(0, .int (nI i)), (1, .int (nI j))] := hl
  obtain ⟨hx, hb, hml, hown, hts⟩ := id hF
  refine lv_bipush (v := 35) hx hb dX13_rackAt_0 (by decide) ?_
  refine lv_iconst (v := 4) hx hb dX13_rackAt_2 (by decide) ?_
  refine lv_iload_n hx hb dX13_rackAt_3 rfl (lv_at hl 0 rfl) ?_
  refine ni_mul hx hb 4 i dX13_rackAt_4 ?_
  refine ni_add hx hb 35 (4 * i) dX13_rackAt_5 ?_
  refine lv_iload_n hx hb dX13_rackAt_6 rfl (lv_at hl 1 rfl) ?_
  refine ni_add hx hb (35 + (4 * i)) j dX13_rackAt_7 ?_
  exact W.iret (v := nI ((35 + (4 * i)) + j)) hx hb hr (fun t9 ht hW => ⟨_, rfl, (by rfl), ht⟩) (fun _ h => by cases h) dX13_rackAt_8 hlocks

set_option maxHeartbeats 4000000 in
set_option maxRecDepth 100000 in
theorem m_X13_isClaim (l9 : Launch) (D : va_G) (k : Nat → ClassId) (q : Nat → Nat) (th ea fa : Int32) (ch tn he en ln : Nat) (sv wr dg : Bool) (v : Nat → Int32) (n : Nat) (x : Int32) (hn : n ≤ 10) (hv0 : v 0 = nI n) : Met l9 yX13_isClaim wsX13_isClaim ({ frames := 1, cells := 0, slots := 0, locals := 22 }) (RPc D k [.ref (q 0), .int x] (bMO k q th ea fa ch tn he en ln sv wr dg ++ bI83 k (q 1) v)) (EI (bI (inC n x))) 0 0 noA := by
  refine rMet (y := yX13_isClaim) (cc := cX13_isClaim) (maxL := 2) (ret := (some .boolean)) [.ref (q 0), .int x] (by decide) rfl (Nat.le_of_ble_eq_true rfl) ?_
  intro p9 e9 s9 m9 bl9 me9 c9 ls hF hr hlocks hP hK hN hl
  have hl : lv_has ls 2 [(0, .ref (q 0)), (1, .int x)] := hl
  obtain ⟨hx, hb, hml, hown, hts⟩ := id hF
  have k_fieldLink_16 : (Cond.fieldLink RX13 16 "OpinionReactorModel" "v" "[I").before _ s9 = true := hts (.fieldLink RX13 16 "OpinionReactorModel" "v" "[I") (by decide +kernel)
  have kc_RX13 : ∀ w ∈ u_ws RX13 TX13 29, w ∈ wsX13_isClaim := by decide +kernel
  refine lv_iload_n hx hb dX13_isClaim_0 rfl (lv_at hl 1 rfl) ?_
  refine lv_iconst (v := 0) hx hb dX13_isClaim_1 (by decide) ?_
  refine lv_aload_n hx hb dX13_isClaim_2 rfl (lv_at hl 0 rfl) ?_
  refine va_get (D := D) (ci := 11) (v := .ref (q 1)) (C := RX13) (T := TX13) (N := 29) hx hb hts kc_RX13 hown hK hP 0 rfl rfl 5 (by decide) k_fieldLink_16 (fun _ h9 => h9) rfl dX13_isClaim_3 ?_
  refine lv_iconst (v := 0) hx hb dX13_isClaim_6 (by decide) ?_
  refine ia_ld hx hb hK hP 1 rfl 0 (by omega) (by decide) dX13_isClaim_7 ?_
  rw [hv0]
  refine lv_iconst (v := 1) hx hb dX13_isClaim_8 (by decide) ?_
  refine lv_isub hx hb dX13_isClaim_9 ?_
  refine vp_callSi (W.runS (As := [.int x, .int 0, .int ((nI n) - 1)]) (rest := []) hF (m_X13_isIn l9 D k x 0 ((nI n) - 1) ) (va_cwS 3 hts gX13_isClaim_X13_isIn rfl rfl rfl (by decide +kernel) ⟨Nat.le_of_ble_eq_true rfl, Nat.le_of_ble_eq_true rfl⟩) (rPreS hK hN hP [] rfl) rfl rfl hl.1 rfl (lv_room (Nat.le_of_ble_eq_true rfl)) dX13_isClaim_10 ⟨Nat.zero_le _, Nat.zero_le _⟩) (fun r_1 hr_1 => ?_)
  subst hr_1
  exact W.zret (v := bI (rg 0 x ((nI n) - 1))) hx hb hr (bI_nar _) (fun t9 ht hW => ⟨_, rfl, (by exact congrArg bI (isC_in hn x)), ht⟩) (fun _ h => by cases h) dX13_isClaim_13 hlocks

set_option maxHeartbeats 4000000 in
set_option maxRecDepth 100000 in
theorem m_X13_hits (l9 : Launch) (D : va_G) (k : Nat → ClassId) (q : Nat → Nat) (th ea fa : Int32) (ch tn he en ln : Nat) (sv wr dg : Bool) (v : Nat → Int32) (n : Nat) (i j : Nat) (hn : n ≤ 10) (hv0 : v 0 = nI n) (hi : i < n) (hj : j < n) : Met l9 yX13_hits wsX13_hits ({ frames := 1, cells := 0, slots := 0, locals := 21 }) (RPc D k [.ref (q 0), .int (nI i), .int (nI j)] (bMO k q th ea fa ch tn he en ln sv wr dg ++ bI83 k (q 1) v)) (EI (bI (tb (vt v i) j))) 0 0 noA := by
  refine rMet (y := yX13_hits) (cc := cX13_hits) (maxL := 3) (ret := (some .boolean)) [.ref (q 0), .int (nI i), .int (nI j)] (by decide) rfl (Nat.le_of_ble_eq_true rfl) ?_
  intro p9 e9 s9 m9 bl9 me9 c9 ls hF hr hlocks hP hK hN hl
  have hl : lv_has ls 3 [(0, .ref (q 0)), (1, .int (nI i)), (2, .int (nI j))] := hl
  obtain ⟨hx, hb, hml, hown, hts⟩ := id hF
  have k_fieldLink_16 : (Cond.fieldLink RX13 16 "OpinionReactorModel" "v" "[I").before _ s9 = true := hts (.fieldLink RX13 16 "OpinionReactorModel" "v" "[I") (by decide +kernel)
  have kc_RX13 : ∀ w ∈ u_ws RX13 TX13 29, w ∈ wsX13_hits := by decide +kernel
  refine lv_aload_n hx hb dX13_hits_0 rfl (lv_at hl 0 rfl) ?_
  refine va_get (D := D) (ci := 11) (v := .ref (q 1)) (C := RX13) (T := TX13) (N := 29) hx hb hts kc_RX13 hown hK hP 0 rfl rfl 5 (by decide) k_fieldLink_16 (fun _ h9 => h9) rfl dX13_hits_1 ?_
  refine lv_iload_n hx hb dX13_hits_4 rfl (lv_at hl 1 rfl) ?_
  refine lv_iconst (v := 2) hx hb dX13_hits_5 (by decide) ?_
  refine vp_callSi (W.runS (As := [.int (nI i), .int 2]) (rest := [.ref (q 1)]) hF (m_X13_of l9 D k i 2 ) (va_cwS 2 hts gX13_hits_X13_of rfl rfl rfl (by decide +kernel) ⟨Nat.le_of_ble_eq_true rfl, Nat.le_of_ble_eq_true rfl⟩) (rPreS hK hN hP [] rfl) rfl rfl hl.1 rfl (lv_room (Nat.le_of_ble_eq_true rfl)) dX13_hits_6 ⟨Nat.zero_le _, Nat.zero_le _⟩) (fun r_1 hr_1 => ?_)
  subst hr_1
  refine ia_ld hx hb hK hP 1 rfl (5 + 3 * i + 2) (by omega) (by decide) dX13_hits_9 ?_
  refine lv_iload_n hx hb dX13_hits_10 rfl (lv_at hl 2 rfl) ?_
  refine lv_ishr hx hb dX13_hits_11 ?_
  refine lv_iconst (v := 1) hx hb dX13_hits_12 (by decide) ?_
  refine lv_iand hx hb dX13_hits_13 ?_
  refine lv_iconst (v := 1) hx hb dX13_hits_14 (by decide) ?_
  refine lv_icmp_ne (tgt := 22) hx hb dX13_hits_15 (by decide) (fun c_2 => ?_) (fun c_2 => ?_)
  · skip
    have c_2 : tb (v (5 + 3 * i + 2)) j = false := (shr_tbf (v (5 + 3 * i + 2)) (by omega)).mp c_2
    refine lv_iconst (v := 0) hx hb dX13_hits_22 (by decide) ?_
    exact W.zret (v := 0) hx hb hr (rfl) (fun t9 ht hW => ⟨_, rfl, (by rw [vt, c_2]; rfl), ht⟩) (fun _ h => by cases h) dX13_hits_23 hlocks
  · skip
    have c_2 : tb (v (5 + 3 * i + 2)) j = true := (shr_tb1 (v (5 + 3 * i + 2)) (by omega)).mp c_2
    refine lv_iconst (v := 1) hx hb dX13_hits_18 (by decide) ?_
    refine lv_goto (tgt := 23) hx hb dX13_hits_19 (by decide) ?_
    exact W.zret (v := 1) hx hb hr (rfl) (fun t9 ht hW => ⟨_, rfl, (by rw [vt, c_2]; rfl), ht⟩) (fun _ h => by cases h) dX13_hits_23 hlocks

set_option maxHeartbeats 4000000 in
set_option maxRecDepth 100000 in
theorem m_X13_hitBy (l9 : Launch) (D : va_G) (k : Nat → ClassId) (q : Nat → Nat) (th ea fa : Int32) (ch tn he en ln : Nat) (sv wr dg : Bool) (v : Nat → Int32) (n : Nat) (x : Int32) (hn : n ≤ 10) (hv0 : v 0 = nI n) : Met l9 yX13_hitBy wsX13_hitBy ({ frames := 1, cells := 0, slots := 0, locals := 21 }) (RPc D k [.ref (q 0), .int x] (bMO k q th ea fa ch tn he en ln sv wr dg ++ bI83 k (q 1) v)) (EI (orS n (vt v) x)) 0 0 noA := by
  refine rMet (y := yX13_hitBy) (cc := cX13_hitBy) (maxL := 4) (ret := (some .int)) [.ref (q 0), .int x] (by decide) rfl (Nat.le_of_ble_eq_true rfl) ?_
  intro p9 e9 s9 m9 bl9 me9 c9 ls hF hr hlocks hP hK hN hl
  have hl : lv_has ls 4 [(0, .ref (q 0)), (1, .int x)] := hl
  obtain ⟨hx, hb, hml, hown, hts⟩ := id hF
  have k_fieldLink_16 : (Cond.fieldLink RX13 16 "OpinionReactorModel" "v" "[I").before _ s9 = true := hts (.fieldLink RX13 16 "OpinionReactorModel" "v" "[I") (by decide +kernel)
  have kc_RX13 : ∀ w ∈ u_ws RX13 TX13 29, w ∈ wsX13_hitBy := by decide +kernel
  have loop_4 : ∀ (fuel : Nat) (i : Nat), (i ≤ n) → n - i < fuel → ∀ (ls : Array Slot), lv_has ls 4 [(0, .ref (q 0)), (1, .int x), (2, .int (orS i (vt v) x)), (3, .int (nI i))] → W p9 l9 e9 ({ frames := 1, cells := 0, slots := 0, locals := 21 }) s9 m9 ([.ref (q 0), .int x] : List Value).toArray bl9 me9 c9 s9.heap [] 0 0 (MQ bl9 (EI (orS n (vt v) x)) ([.ref (q 0), .int x] : List Value).toArray s9 0 0 noA) (F0 m9 4 ls []) := by
    intro fuel
    induction fuel with
    | zero => intro i hi hfuel_4; exact absurd hfuel_4 (Nat.not_lt_zero _)
    | succ fuel ih_4 =>
      intro i hi hfuel_4 ls hl
      refine lv_iload_n hx hb dX13_hitBy_4 rfl (lv_at hl 3 rfl) ?_
      refine lv_aload_n hx hb dX13_hitBy_5 rfl (lv_at hl 0 rfl) ?_
      refine va_get (D := D) (ci := 11) (v := .ref (q 1)) (C := RX13) (T := TX13) (N := 29) hx hb hts kc_RX13 hown hK hP 0 rfl rfl 5 (by decide) k_fieldLink_16 (fun _ h9 => h9) rfl dX13_hitBy_6 ?_
      refine lv_iconst (v := 0) hx hb dX13_hitBy_9 (by decide) ?_
      refine ia_ld hx hb hK hP 1 rfl 0 (by omega) (by decide) dX13_hitBy_10 ?_
      rw [hv0]
      refine lv_icmp_ge (tgt := 46) hx hb dX13_hitBy_11 (by decide) (fun c_1 => ?_) (fun c_1 => ?_)
      · skip
        have c_1 : n ≤ i := (nI_leI (a := n) (b := i) (by omega) (by omega)).mp c_1
        refine lv_iload_n hx hb dX13_hitBy_46 rfl (lv_at hl 2 rfl) ?_
        exact W.iret (v := orS i (vt v) x) hx hb hr (fun t9 ht hW => ⟨_, rfl, (by rw [show i = n by omega]), ht⟩) (fun _ h => by cases h) dX13_hitBy_47 hlocks
      · skip
        have c_1 : ¬ n ≤ i := fun h => c_1 ((nI_leI (a := n) (b := i) (by omega) (by omega)).mpr h)
        refine lv_iload_n hx hb dX13_hitBy_14 rfl (lv_at hl 2 rfl) ?_
        refine lv_iload_n hx hb dX13_hitBy_15 rfl (lv_at hl 1 rfl) ?_
        refine lv_iload_n hx hb dX13_hitBy_16 rfl (lv_at hl 3 rfl) ?_
        refine lv_ishr hx hb dX13_hitBy_17 ?_
        refine lv_iconst (v := 1) hx hb dX13_hitBy_18 (by decide) ?_
        refine lv_iand hx hb dX13_hitBy_19 ?_
        refine lv_iconst (v := 1) hx hb dX13_hitBy_20 (by decide) ?_
        refine lv_icmp_ne (tgt := 37) hx hb dX13_hitBy_21 (by decide) (fun c_2 => ?_) (fun c_2 => ?_)
        · skip
          have c_2 : tb x i = false := (shr_tbf x (by omega)).mp c_2
          refine lv_iconst (v := 0) hx hb dX13_hitBy_37 (by decide) ?_
          refine lv_ior hx hb dX13_hitBy_38 ?_
          refine lv_istore_n (lv' := [(2, .int ((orS i (vt v) x) ||| 0)), (0, .ref (q 0)), (1, .int x), (3, .int (nI i))]) hx hb dX13_hitBy_39 rfl hl (by decide) rfl (fun ls hl => ?_)
          refine lv_iinc (v := nI (i + 1)) (lv' := [(3, .int (nI (i + 1))), (2, .int ((orS i (vt v) x) ||| 0)), (0, .ref (q 0)), (1, .int x)]) hx hb dX13_hitBy_40 hl (k := 3) rfl (nI_inc i) (by decide) rfl (fun ls hl => ?_)
          refine lv_goto (tgt := 4) hx hb dX13_hitBy_43 (by decide) ?_
          have e_3 : ((orS i (vt v) x) ||| 0 : Int32) = orS (i + 1) (vt v) x := by first | (with_reducible rfl) | (rw [orS_s]; simp [*, vt])
          exact ih_4 (i + 1) (by omega) (by omega) ls (lv_one hl 2 rfl rfl (lv_one hl 3 rfl rfl (lv_one hl 1 rfl (congrArg Value.int e_3) (lv_one hl 0 rfl rfl (lv_nil hl)))))
        · skip
          have c_2 : tb x i = true := (shr_tb1 x (by omega)).mp c_2
          refine lv_aload_n hx hb dX13_hitBy_24 rfl (lv_at hl 0 rfl) ?_
          refine va_get (D := D) (ci := 11) (v := .ref (q 1)) (C := RX13) (T := TX13) (N := 29) hx hb hts kc_RX13 hown hK hP 0 rfl rfl 5 (by decide) k_fieldLink_16 (fun _ h9 => h9) rfl dX13_hitBy_25 ?_
          refine lv_iload_n hx hb dX13_hitBy_28 rfl (lv_at hl 3 rfl) ?_
          refine lv_iconst (v := 2) hx hb dX13_hitBy_29 (by decide) ?_
          refine vp_callSi (W.runS (As := [.int (nI i), .int 2]) (rest := [.ref (q 1), .int (orS i (vt v) x)]) hF (m_X13_of l9 D k i 2 ) (va_cwS 2 hts gX13_hitBy_X13_of rfl rfl rfl (by decide +kernel) ⟨Nat.le_of_ble_eq_true rfl, Nat.le_of_ble_eq_true rfl⟩) (rPreS hK hN hP [] rfl) rfl rfl hl.1 rfl (lv_room (Nat.le_of_ble_eq_true rfl)) dX13_hitBy_30 ⟨Nat.zero_le _, Nat.zero_le _⟩) (fun r_4 hr_4 => ?_)
          subst hr_4
          refine ia_ld hx hb hK hP 1 rfl (5 + 3 * i + 2) (by omega) (by decide) dX13_hitBy_33 ?_
          refine lv_goto (tgt := 38) hx hb dX13_hitBy_34 (by decide) ?_
          refine lv_ior hx hb dX13_hitBy_38 ?_
          refine lv_istore_n (lv' := [(2, .int ((orS i (vt v) x) ||| (v (5 + 3 * i + 2)))), (0, .ref (q 0)), (1, .int x), (3, .int (nI i))]) hx hb dX13_hitBy_39 rfl hl (by decide) rfl (fun ls hl => ?_)
          refine lv_iinc (v := nI (i + 1)) (lv' := [(3, .int (nI (i + 1))), (2, .int ((orS i (vt v) x) ||| (v (5 + 3 * i + 2)))), (0, .ref (q 0)), (1, .int x)]) hx hb dX13_hitBy_40 hl (k := 3) rfl (nI_inc i) (by decide) rfl (fun ls hl => ?_)
          refine lv_goto (tgt := 4) hx hb dX13_hitBy_43 (by decide) ?_
          have e_5 : ((orS i (vt v) x) ||| (v (5 + 3 * i + 2)) : Int32) = orS (i + 1) (vt v) x := by first | (with_reducible rfl) | (rw [orS_s]; simp [*, vt])
          exact ih_4 (i + 1) (by omega) (by omega) ls (lv_one hl 2 rfl rfl (lv_one hl 3 rfl rfl (lv_one hl 1 rfl (congrArg Value.int e_5) (lv_one hl 0 rfl rfl (lv_nil hl)))))
  refine lv_iconst (v := 0) hx hb dX13_hitBy_0 (by decide) ?_
  refine lv_istore_n (lv' := [(2, .int 0), (0, .ref (q 0)), (1, .int x)]) hx hb dX13_hitBy_1 rfl hl (by decide) rfl (fun ls hl => ?_)
  refine lv_iconst (v := 0) hx hb dX13_hitBy_2 (by decide) ?_
  refine lv_istore_n (lv' := [(3, .int 0), (2, .int 0), (0, .ref (q 0)), (1, .int x)]) hx hb dX13_hitBy_3 rfl hl (by decide) rfl (fun ls hl => ?_)
  have e_6 : (0 : Int32) = orS 0 (vt v) x := by first | (with_reducible rfl) | (rfl)
  exact loop_4 ((n - 0) + 1) 0 (by omega) (Nat.lt_succ_self _) ls (lv_one hl 2 rfl rfl (lv_one hl 3 rfl rfl (lv_one hl 1 rfl (congrArg Value.int e_6) (lv_one hl 0 rfl rfl (lv_nil hl)))))

set_option maxHeartbeats 4000000 in
set_option maxRecDepth 100000 in
theorem m_X13_weight (l9 : Launch) (D : va_G) (k : Nat → ClassId) (q : Nat → Nat) (th ea fa : Int32) (ch tn he en ln : Nat) (sv wr dg : Bool) (v : Nat → Int32) (n : Nat) (x : Int32) (hn : n ≤ 10) (hv0 : v 0 = nI n) : Met l9 yX13_weight wsX13_weight ({ frames := 1, cells := 0, slots := 0, locals := 21 }) (RPc D k [.ref (q 0), .int x] (bMO k q th ea fa ch tn he en ln sv wr dg ++ bI83 k (q 1) v)) (EI (adS n (vw v) x)) 0 0 noA := by
  refine rMet (y := yX13_weight) (cc := cX13_weight) (maxL := 4) (ret := (some .int)) [.ref (q 0), .int x] (by decide) rfl (Nat.le_of_ble_eq_true rfl) ?_
  intro p9 e9 s9 m9 bl9 me9 c9 ls hF hr hlocks hP hK hN hl
  have hl : lv_has ls 4 [(0, .ref (q 0)), (1, .int x)] := hl
  obtain ⟨hx, hb, hml, hown, hts⟩ := id hF
  have k_fieldLink_16 : (Cond.fieldLink RX13 16 "OpinionReactorModel" "v" "[I").before _ s9 = true := hts (.fieldLink RX13 16 "OpinionReactorModel" "v" "[I") (by decide +kernel)
  have kc_RX13 : ∀ w ∈ u_ws RX13 TX13 29, w ∈ wsX13_weight := by decide +kernel
  have loop_4 : ∀ (fuel : Nat) (i : Nat), (i ≤ n) → n - i < fuel → ∀ (ls : Array Slot), lv_has ls 4 [(0, .ref (q 0)), (1, .int x), (2, .int (adS i (vw v) x)), (3, .int (nI i))] → W p9 l9 e9 ({ frames := 1, cells := 0, slots := 0, locals := 21 }) s9 m9 ([.ref (q 0), .int x] : List Value).toArray bl9 me9 c9 s9.heap [] 0 0 (MQ bl9 (EI (adS n (vw v) x)) ([.ref (q 0), .int x] : List Value).toArray s9 0 0 noA) (F0 m9 4 ls []) := by
    intro fuel
    induction fuel with
    | zero => intro i hi hfuel_4; exact absurd hfuel_4 (Nat.not_lt_zero _)
    | succ fuel ih_4 =>
      intro i hi hfuel_4 ls hl
      refine lv_iload_n hx hb dX13_weight_4 rfl (lv_at hl 3 rfl) ?_
      refine lv_aload_n hx hb dX13_weight_5 rfl (lv_at hl 0 rfl) ?_
      refine va_get (D := D) (ci := 11) (v := .ref (q 1)) (C := RX13) (T := TX13) (N := 29) hx hb hts kc_RX13 hown hK hP 0 rfl rfl 5 (by decide) k_fieldLink_16 (fun _ h9 => h9) rfl dX13_weight_6 ?_
      refine lv_iconst (v := 0) hx hb dX13_weight_9 (by decide) ?_
      refine ia_ld hx hb hK hP 1 rfl 0 (by omega) (by decide) dX13_weight_10 ?_
      rw [hv0]
      refine lv_icmp_ge (tgt := 46) hx hb dX13_weight_11 (by decide) (fun c_1 => ?_) (fun c_1 => ?_)
      · skip
        have c_1 : n ≤ i := (nI_leI (a := n) (b := i) (by omega) (by omega)).mp c_1
        refine lv_iload_n hx hb dX13_weight_46 rfl (lv_at hl 2 rfl) ?_
        exact W.iret (v := adS i (vw v) x) hx hb hr (fun t9 ht hW => ⟨_, rfl, (by rw [show i = n by omega]), ht⟩) (fun _ h => by cases h) dX13_weight_47 hlocks
      · skip
        have c_1 : ¬ n ≤ i := fun h => c_1 ((nI_leI (a := n) (b := i) (by omega) (by omega)).mpr h)
        refine lv_iload_n hx hb dX13_weight_14 rfl (lv_at hl 2 rfl) ?_
        refine lv_iload_n hx hb dX13_weight_15 rfl (lv_at hl 1 rfl) ?_
        refine lv_iload_n hx hb dX13_weight_16 rfl (lv_at hl 3 rfl) ?_
        refine lv_ishr hx hb dX13_weight_17 ?_
        refine lv_iconst (v := 1) hx hb dX13_weight_18 (by decide) ?_
        refine lv_iand hx hb dX13_weight_19 ?_
        refine lv_iconst (v := 1) hx hb dX13_weight_20 (by decide) ?_
        refine lv_icmp_ne (tgt := 37) hx hb dX13_weight_21 (by decide) (fun c_2 => ?_) (fun c_2 => ?_)
        · skip
          have c_2 : tb x i = false := (shr_tbf x (by omega)).mp c_2
          refine lv_iconst (v := 0) hx hb dX13_weight_37 (by decide) ?_
          refine lv_iadd hx hb dX13_weight_38 ?_
          refine lv_istore_n (lv' := [(2, .int ((adS i (vw v) x) + 0)), (0, .ref (q 0)), (1, .int x), (3, .int (nI i))]) hx hb dX13_weight_39 rfl hl (by decide) rfl (fun ls hl => ?_)
          refine lv_iinc (v := nI (i + 1)) (lv' := [(3, .int (nI (i + 1))), (2, .int ((adS i (vw v) x) + 0)), (0, .ref (q 0)), (1, .int x)]) hx hb dX13_weight_40 hl (k := 3) rfl (nI_inc i) (by decide) rfl (fun ls hl => ?_)
          refine lv_goto (tgt := 4) hx hb dX13_weight_43 (by decide) ?_
          have e_3 : ((adS i (vw v) x) + 0 : Int32) = adS (i + 1) (vw v) x := by first | (with_reducible rfl) | (rw [adS_s]; simp [*, vw])
          exact ih_4 (i + 1) (by omega) (by omega) ls (lv_one hl 2 rfl rfl (lv_one hl 3 rfl rfl (lv_one hl 1 rfl (congrArg Value.int e_3) (lv_one hl 0 rfl rfl (lv_nil hl)))))
        · skip
          have c_2 : tb x i = true := (shr_tb1 x (by omega)).mp c_2
          refine lv_aload_n hx hb dX13_weight_24 rfl (lv_at hl 0 rfl) ?_
          refine va_get (D := D) (ci := 11) (v := .ref (q 1)) (C := RX13) (T := TX13) (N := 29) hx hb hts kc_RX13 hown hK hP 0 rfl rfl 5 (by decide) k_fieldLink_16 (fun _ h9 => h9) rfl dX13_weight_25 ?_
          refine lv_iload_n hx hb dX13_weight_28 rfl (lv_at hl 3 rfl) ?_
          refine lv_iconst (v := 0) hx hb dX13_weight_29 (by decide) ?_
          refine vp_callSi (W.runS (As := [.int (nI i), .int 0]) (rest := [.ref (q 1), .int (adS i (vw v) x)]) hF (m_X13_of l9 D k i 0 ) (va_cwS 2 hts gX13_weight_X13_of rfl rfl rfl (by decide +kernel) ⟨Nat.le_of_ble_eq_true rfl, Nat.le_of_ble_eq_true rfl⟩) (rPreS hK hN hP [] rfl) rfl rfl hl.1 rfl (lv_room (Nat.le_of_ble_eq_true rfl)) dX13_weight_30 ⟨Nat.zero_le _, Nat.zero_le _⟩) (fun r_4 hr_4 => ?_)
          subst hr_4
          refine ia_ld hx hb hK hP 1 rfl (5 + 3 * i + 0) (by omega) (by decide) dX13_weight_33 ?_
          refine lv_goto (tgt := 38) hx hb dX13_weight_34 (by decide) ?_
          refine lv_iadd hx hb dX13_weight_38 ?_
          refine lv_istore_n (lv' := [(2, .int ((adS i (vw v) x) + (v (5 + 3 * i + 0)))), (0, .ref (q 0)), (1, .int x), (3, .int (nI i))]) hx hb dX13_weight_39 rfl hl (by decide) rfl (fun ls hl => ?_)
          refine lv_iinc (v := nI (i + 1)) (lv' := [(3, .int (nI (i + 1))), (2, .int ((adS i (vw v) x) + (v (5 + 3 * i + 0)))), (0, .ref (q 0)), (1, .int x)]) hx hb dX13_weight_40 hl (k := 3) rfl (nI_inc i) (by decide) rfl (fun ls hl => ?_)
          refine lv_goto (tgt := 4) hx hb dX13_weight_43 (by decide) ?_
          have e_5 : ((adS i (vw v) x) + (v (5 + 3 * i + 0)) : Int32) = adS (i + 1) (vw v) x := by first | (with_reducible rfl) | (rw [adS_s]; simp [*, vw])
          exact ih_4 (i + 1) (by omega) (by omega) ls (lv_one hl 2 rfl rfl (lv_one hl 3 rfl rfl (lv_one hl 1 rfl (congrArg Value.int e_5) (lv_one hl 0 rfl rfl (lv_nil hl)))))
  refine lv_iconst (v := 0) hx hb dX13_weight_0 (by decide) ?_
  refine lv_istore_n (lv' := [(2, .int 0), (0, .ref (q 0)), (1, .int x)]) hx hb dX13_weight_1 rfl hl (by decide) rfl (fun ls hl => ?_)
  refine lv_iconst (v := 0) hx hb dX13_weight_2 (by decide) ?_
  refine lv_istore_n (lv' := [(3, .int 0), (2, .int 0), (0, .ref (q 0)), (1, .int x)]) hx hb dX13_weight_3 rfl hl (by decide) rfl (fun ls hl => ?_)
  have e_6 : (0 : Int32) = adS 0 (vw v) x := by first | (with_reducible rfl) | (rfl)
  exact loop_4 ((n - 0) + 1) 0 (by omega) (Nat.lt_succ_self _) ls (lv_one hl 2 rfl rfl (lv_one hl 3 rfl rfl (lv_one hl 1 rfl (congrArg Value.int e_6) (lv_one hl 0 rfl rfl (lv_nil hl)))))

set_option maxHeartbeats 4000000 in
set_option maxRecDepth 100000 in
theorem m_X13_defends (l9 : Launch) (D : va_G) (k : Nat → ClassId) (q : Nat → Nat) (th ea fa : Int32) (ch tn he en ln : Nat) (sv wr dg : Bool) (v : Nat → Int32) (n : Nat) (x : Int32) (j : Nat) (hn : n ≤ 10) (hv0 : v 0 = nI n) (hj : j < n) : Met l9 yX13_defends wsX13_defends ({ frames := 2, cells := 0, slots := 0, locals := 44 }) (RPc D k [.ref (q 0), .int x, .int (nI j)] (bMO k q th ea fa ch tn he en ln sv wr dg ++ bI83 k (q 1) v)) (EI (bI (dfc n (vt v) x j))) 0 0 noA := by
  refine rMet (y := yX13_defends) (cc := cX13_defends) (maxL := 5) (ret := (some .boolean)) [.ref (q 0), .int x, .int (nI j)] (by decide) rfl (Nat.le_of_ble_eq_true rfl) ?_
  intro p9 e9 s9 m9 bl9 me9 c9 ls hF hr hlocks hP hK hN hl
  have hl : lv_has ls 5 [(0, .ref (q 0)), (1, .int x), (2, .int (nI j))] := hl
  obtain ⟨hx, hb, hml, hown, hts⟩ := id hF
  have k_fieldLink_16 : (Cond.fieldLink RX13 16 "OpinionReactorModel" "v" "[I").before _ s9 = true := hts (.fieldLink RX13 16 "OpinionReactorModel" "v" "[I") (by decide +kernel)
  have kc_RX13 : ∀ w ∈ u_ws RX13 TX13 29, w ∈ wsX13_defends := by decide +kernel
  have loop_9 : ∀ (fuel : Nat) (i : Nat), (i ≤ n) → (allb (pD n (vt v) x j) i = true) → n - i < fuel → ∀ (ls : Array Slot), lv_has ls 5 [(0, .ref (q 0)), (1, .int x), (2, .int (nI j)), (3, .int (orS n (vt v) x)), (4, .int (nI i))] → W p9 l9 e9 ({ frames := 2, cells := 0, slots := 0, locals := 44 }) s9 m9 ([.ref (q 0), .int x, .int (nI j)] : List Value).toArray bl9 me9 c9 s9.heap [] 0 0 (MQ bl9 (EI (bI (dfc n (vt v) x j))) ([.ref (q 0), .int x, .int (nI j)] : List Value).toArray s9 0 0 noA) (F0 m9 9 ls []) := by
    intro fuel
    induction fuel with
    | zero => intro i hi ha hfuel_9; exact absurd hfuel_9 (Nat.not_lt_zero _)
    | succ fuel ih_9 =>
      intro i hi ha hfuel_9 ls hl
      refine lv_iload hx hb dX13_defends_9 (lv_at hl 4 rfl) ?_
      refine lv_aload_n hx hb dX13_defends_11 rfl (lv_at hl 0 rfl) ?_
      refine va_get (D := D) (ci := 11) (v := .ref (q 1)) (C := RX13) (T := TX13) (N := 29) hx hb hts kc_RX13 hown hK hP 0 rfl rfl 5 (by decide) k_fieldLink_16 (fun _ h9 => h9) rfl dX13_defends_12 ?_
      refine lv_iconst (v := 0) hx hb dX13_defends_15 (by decide) ?_
      refine ia_ld hx hb hK hP 1 rfl 0 (by omega) (by decide) dX13_defends_16 ?_
      rw [hv0]
      refine lv_icmp_ge (tgt := 47) hx hb dX13_defends_17 (by decide) (fun c_1 => ?_) (fun c_1 => ?_)
      · skip
        have c_1 : n ≤ i := (nI_leI (a := n) (b := i) (by omega) (by omega)).mp c_1
        refine lv_iconst (v := 1) hx hb dX13_defends_47 (by decide) ?_
        exact W.zret (v := 1) hx hb hr (rfl) (fun t9 ht hW => ⟨_, rfl, (by obtain rfl : i = n := (by omega); show (1 : Int32) = bI (allb _ _); rw [ha]; rfl), ht⟩) (fun _ h => by cases h) dX13_defends_48 hlocks
      · skip
        have c_1 : ¬ n ≤ i := fun h => c_1 ((nI_leI (a := n) (b := i) (by omega) (by omega)).mpr h)
        refine lv_aload_n hx hb dX13_defends_20 rfl (lv_at hl 0 rfl) ?_
        refine lv_iload hx hb dX13_defends_21 (lv_at hl 4 rfl) ?_
        refine lv_iload_n hx hb dX13_defends_23 rfl (lv_at hl 2 rfl) ?_
        refine vp_callSi (W.runV (As := [.int (nI i), .int (nI j)]) (rest := []) hF (m_X13_hits l9 D k q th ea fa ch tn he en ln sv wr dg v n i j hn hv0 (by omega) (by omega)) (cwV 2 hts gX13_defends_X13_hits rfl rfl rfl (by decide +kernel) ⟨Nat.le_of_ble_eq_true rfl, Nat.le_of_ble_eq_true rfl⟩) (rPreV hK hN hP [0, 1] rfl 0 11 rfl rfl) rfl rfl hl.1 rfl (lv_room (Nat.le_of_ble_eq_true rfl)) dX13_defends_24 ⟨Nat.zero_le _, Nat.zero_le _⟩) (fun r_2 hr_2 => ?_)
        subst hr_2
        refine lv_if_eq (tgt := 41) hx hb dX13_defends_27 (by decide) (fun c_3 => ?_) (fun c_3 => ?_)
        · skip
          have c_3 : (tb (vt v i) j) = false := bI_0 c_3
          refine lv_iinc (v := nI (i + 1)) (lv' := [(4, .int (nI (i + 1))), (0, .ref (q 0)), (1, .int x), (2, .int (nI j)), (3, .int (orS n (vt v) x))]) hx hb dX13_defends_41 hl (k := 4) rfl (nI_inc i) (by decide) rfl (fun ls hl => ?_)
          refine lv_goto (tgt := 9) hx hb dX13_defends_44 (by decide) ?_
          exact ih_9 (i + 1) (by omega) (allb_t ha (by simp [pD, *])) (by omega) ls (lv_one hl 1 rfl rfl (lv_one hl 2 rfl rfl (lv_one hl 3 rfl rfl (lv_one hl 4 rfl rfl (lv_one hl 0 rfl rfl (lv_nil hl))))))
        · skip
          have c_3 : (tb (vt v i) j) = true := bI_1 c_3
          refine lv_iload_n hx hb dX13_defends_30 rfl (lv_at hl 3 rfl) ?_
          refine lv_iload hx hb dX13_defends_31 (lv_at hl 4 rfl) ?_
          refine lv_ishr hx hb dX13_defends_33 ?_
          refine lv_iconst (v := 1) hx hb dX13_defends_34 (by decide) ?_
          refine lv_iand hx hb dX13_defends_35 ?_
          refine lv_if_ne (tgt := 41) hx hb dX13_defends_36 (by decide) (fun c_4 => ?_) (fun c_4 => ?_)
          · skip
            have c_4 : tb (orS n (vt v) x) i = true := (shr_tbn (orS n (vt v) x) (by omega)).mp c_4
            refine lv_iinc (v := nI (i + 1)) (lv' := [(4, .int (nI (i + 1))), (0, .ref (q 0)), (1, .int x), (2, .int (nI j)), (3, .int (orS n (vt v) x))]) hx hb dX13_defends_41 hl (k := 4) rfl (nI_inc i) (by decide) rfl (fun ls hl => ?_)
            refine lv_goto (tgt := 9) hx hb dX13_defends_44 (by decide) ?_
            exact ih_9 (i + 1) (by omega) (allb_t ha (by simp [pD, *])) (by omega) ls (lv_one hl 1 rfl rfl (lv_one hl 2 rfl rfl (lv_one hl 3 rfl rfl (lv_one hl 4 rfl rfl (lv_one hl 0 rfl rfl (lv_nil hl))))))
          · skip
            have c_4 : tb (orS n (vt v) x) i = false := (shr_tb0 (orS n (vt v) x) (by omega)).mp c_4
            refine lv_iconst (v := 0) hx hb dX13_defends_39 (by decide) ?_
            exact W.zret (v := 0) hx hb hr (rfl) (fun t9 ht hW => ⟨_, rfl, (by show (0 : Int32) = bI (allb _ _); rw [allb_no (c := i) (by omega) (by simp [pD, *])]; rfl), ht⟩) (fun _ h => by cases h) dX13_defends_40 hlocks
  refine lv_aload_n hx hb dX13_defends_0 rfl (lv_at hl 0 rfl) ?_
  refine lv_iload_n hx hb dX13_defends_1 rfl (lv_at hl 1 rfl) ?_
  refine vp_callSi (W.runV (As := [.int x]) (rest := []) hF (m_X13_hitBy l9 D k q th ea fa ch tn he en ln sv wr dg v n x hn hv0) (cwV 1 hts gX13_defends_X13_hitBy rfl rfl rfl (by decide +kernel) ⟨Nat.le_of_ble_eq_true rfl, Nat.le_of_ble_eq_true rfl⟩) (rPreV hK hN hP [0, 1] rfl 0 11 rfl rfl) rfl rfl hl.1 rfl (lv_room (Nat.le_of_ble_eq_true rfl)) dX13_defends_2 ⟨Nat.zero_le _, Nat.zero_le _⟩) (fun r_5 hr_5 => ?_)
  subst hr_5
  refine lv_istore_n (lv' := [(3, .int (orS n (vt v) x)), (0, .ref (q 0)), (1, .int x), (2, .int (nI j))]) hx hb dX13_defends_5 rfl hl (by decide) rfl (fun ls hl => ?_)
  refine lv_iconst (v := 0) hx hb dX13_defends_6 (by decide) ?_
  refine lv_istore (lv' := [(4, .int 0), (3, .int (orS n (vt v) x)), (0, .ref (q 0)), (1, .int x), (2, .int (nI j))]) hx hb dX13_defends_7 hl (by decide) rfl (fun ls hl => ?_)
  exact loop_9 ((n - 0) + 1) 0 (by omega) rfl (Nat.lt_succ_self _) ls (lv_one hl 2 rfl rfl (lv_one hl 3 rfl rfl (lv_one hl 4 rfl rfl (lv_one hl 1 rfl rfl (lv_one hl 0 rfl rfl (lv_nil hl))))))

set_option maxHeartbeats 4000000 in
set_option maxRecDepth 100000 in
theorem m_X13_holds (l9 : Launch) (D : va_G) (k : Nat → ClassId) (q : Nat → Nat) (th ea fa : Int32) (ch tn he en ln : Nat) (sv wr dg : Bool) (v : Nat → Int32) (n : Nat) (x : Int32) (hn : n ≤ 10) (hv0 : v 0 = nI n) : Met l9 yX13_holds wsX13_holds ({ frames := 3, cells := 0, slots := 0, locals := 68 }) (RPc D k [.ref (q 0), .int x] (bMO k q th ea fa ch tn he en ln sv wr dg ++ bI83 k (q 1) v)) (EI (bI (hldM n (vt v) x))) 0 0 noA := by
  refine rMet (y := yX13_holds) (cc := cX13_holds) (maxL := 3) (ret := (some .boolean)) [.ref (q 0), .int x] (by decide) rfl (Nat.le_of_ble_eq_true rfl) ?_
  intro p9 e9 s9 m9 bl9 me9 c9 ls hF hr hlocks hP hK hN hl
  have hl : lv_has ls 3 [(0, .ref (q 0)), (1, .int x)] := hl
  obtain ⟨hx, hb, hml, hown, hts⟩ := id hF
  have k_fieldLink_16 : (Cond.fieldLink RX13 16 "OpinionReactorModel" "v" "[I").before _ s9 = true := hts (.fieldLink RX13 16 "OpinionReactorModel" "v" "[I") (by decide +kernel)
  have kc_RX13 : ∀ w ∈ u_ws RX13 TX13 29, w ∈ wsX13_holds := by decide +kernel
  have loop_14 : ∀ (fuel : Nat) (i : Nat), (i ≤ n) → (orS n (vt v) x &&& x = 0) → (allb (pH n (vt v) x) i = true) → n - i < fuel → ∀ (ls : Array Slot), lv_has ls 3 [(0, .ref (q 0)), (1, .int x), (2, .int (nI i))] → W p9 l9 e9 ({ frames := 3, cells := 0, slots := 0, locals := 68 }) s9 m9 ([.ref (q 0), .int x] : List Value).toArray bl9 me9 c9 s9.heap [] 0 0 (MQ bl9 (EI (bI (hldM n (vt v) x))) ([.ref (q 0), .int x] : List Value).toArray s9 0 0 noA) (F0 m9 14 ls []) := by
    intro fuel
    induction fuel with
    | zero => intro i hi h0 ha hfuel_14; exact absurd hfuel_14 (Nat.not_lt_zero _)
    | succ fuel ih_14 =>
      intro i hi h0 ha hfuel_14 ls hl
      refine lv_iload_n hx hb dX13_holds_14 rfl (lv_at hl 2 rfl) ?_
      refine lv_aload_n hx hb dX13_holds_15 rfl (lv_at hl 0 rfl) ?_
      refine va_get (D := D) (ci := 11) (v := .ref (q 1)) (C := RX13) (T := TX13) (N := 29) hx hb hts kc_RX13 hown hK hP 0 rfl rfl 5 (by decide) k_fieldLink_16 (fun _ h9 => h9) rfl dX13_holds_16 ?_
      refine lv_iconst (v := 0) hx hb dX13_holds_19 (by decide) ?_
      refine ia_ld hx hb hK hP 1 rfl 0 (by omega) (by decide) dX13_holds_20 ?_
      rw [hv0]
      refine lv_icmp_ge (tgt := 50) hx hb dX13_holds_21 (by decide) (fun c_1 => ?_) (fun c_1 => ?_)
      · skip
        have c_1 : n ≤ i := (nI_leI (a := n) (b := i) (by omega) (by omega)).mp c_1
        refine lv_iconst (v := 1) hx hb dX13_holds_50 (by decide) ?_
        exact W.zret (v := 1) hx hb hr (rfl) (fun t9 ht hW => ⟨_, rfl, (by obtain rfl : i = n := (by omega); show (1 : Int32) = bI (hldM _ _ _); unfold hldM; rw [ha, decide_eq_true h0]; rfl), ht⟩) (fun _ h => by cases h) dX13_holds_51 hlocks
      · skip
        have c_1 : ¬ n ≤ i := fun h => c_1 ((nI_leI (a := n) (b := i) (by omega) (by omega)).mpr h)
        refine lv_iload_n hx hb dX13_holds_24 rfl (lv_at hl 1 rfl) ?_
        refine lv_iload_n hx hb dX13_holds_25 rfl (lv_at hl 2 rfl) ?_
        refine lv_ishr hx hb dX13_holds_26 ?_
        refine lv_iconst (v := 1) hx hb dX13_holds_27 (by decide) ?_
        refine lv_iand hx hb dX13_holds_28 ?_
        refine lv_iconst (v := 1) hx hb dX13_holds_29 (by decide) ?_
        refine lv_icmp_ne (tgt := 44) hx hb dX13_holds_30 (by decide) (fun c_2 => ?_) (fun c_2 => ?_)
        · skip
          have c_2 : tb x i = false := (shr_tbf x (by omega)).mp c_2
          refine lv_iinc (v := nI (i + 1)) (lv' := [(2, .int (nI (i + 1))), (0, .ref (q 0)), (1, .int x)]) hx hb dX13_holds_44 hl (k := 2) rfl (nI_inc i) (by decide) rfl (fun ls hl => ?_)
          refine lv_goto (tgt := 14) hx hb dX13_holds_47 (by decide) ?_
          exact ih_14 (i + 1) (by omega) h0 (allb_t ha (by simp [pH, *])) (by omega) ls (lv_one hl 1 rfl rfl (lv_one hl 2 rfl rfl (lv_one hl 0 rfl rfl (lv_nil hl))))
        · skip
          have c_2 : tb x i = true := (shr_tb1 x (by omega)).mp c_2
          refine lv_aload_n hx hb dX13_holds_33 rfl (lv_at hl 0 rfl) ?_
          refine lv_iload_n hx hb dX13_holds_34 rfl (lv_at hl 1 rfl) ?_
          refine lv_iload_n hx hb dX13_holds_35 rfl (lv_at hl 2 rfl) ?_
          refine vp_callSi (W.runV (As := [.int x, .int (nI i)]) (rest := []) hF (m_X13_defends l9 D k q th ea fa ch tn he en ln sv wr dg v n x i hn hv0 (by omega)) (cwV 2 hts gX13_holds_X13_defends rfl rfl rfl (by decide +kernel) ⟨Nat.le_of_ble_eq_true rfl, Nat.le_of_ble_eq_true rfl⟩) (rPreV hK hN hP [0, 1] rfl 0 11 rfl rfl) rfl rfl hl.1 rfl (lv_room (Nat.le_of_ble_eq_true rfl)) dX13_holds_36 ⟨Nat.zero_le _, Nat.zero_le _⟩) (fun r_3 hr_3 => ?_)
          subst hr_3
          refine lv_if_ne (tgt := 44) hx hb dX13_holds_39 (by decide) (fun c_4 => ?_) (fun c_4 => ?_)
          · skip
            have c_4 : (dfc n (vt v) x i) = true := bI_1 c_4
            refine lv_iinc (v := nI (i + 1)) (lv' := [(2, .int (nI (i + 1))), (0, .ref (q 0)), (1, .int x)]) hx hb dX13_holds_44 hl (k := 2) rfl (nI_inc i) (by decide) rfl (fun ls hl => ?_)
            refine lv_goto (tgt := 14) hx hb dX13_holds_47 (by decide) ?_
            exact ih_14 (i + 1) (by omega) h0 (allb_t ha (by simp [pH, *])) (by omega) ls (lv_one hl 1 rfl rfl (lv_one hl 2 rfl rfl (lv_one hl 0 rfl rfl (lv_nil hl))))
          · skip
            have c_4 : (dfc n (vt v) x i) = false := bI_0 c_4
            refine lv_iconst (v := 0) hx hb dX13_holds_42 (by decide) ?_
            exact W.zret (v := 0) hx hb hr (rfl) (fun t9 ht hW => ⟨_, rfl, (by show (0 : Int32) = bI (hldM _ _ _); unfold hldM; rw [allb_no (c := i) (by omega) (by simp [pH, *]), Bool.and_false]; rfl), ht⟩) (fun _ h => by cases h) dX13_holds_43 hlocks
  refine lv_aload_n hx hb dX13_holds_0 rfl (lv_at hl 0 rfl) ?_
  refine lv_iload_n hx hb dX13_holds_1 rfl (lv_at hl 1 rfl) ?_
  refine vp_callSi (W.runV (As := [.int x]) (rest := []) hF (m_X13_hitBy l9 D k q th ea fa ch tn he en ln sv wr dg v n x hn hv0) (cwV 1 hts gX13_holds_X13_hitBy rfl rfl rfl (by decide +kernel) ⟨Nat.le_of_ble_eq_true rfl, Nat.le_of_ble_eq_true rfl⟩) (rPreV hK hN hP [0, 1] rfl 0 11 rfl rfl) rfl rfl hl.1 rfl (lv_room (Nat.le_of_ble_eq_true rfl)) dX13_holds_2 ⟨Nat.zero_le _, Nat.zero_le _⟩) (fun r_5 hr_5 => ?_)
  subst hr_5
  refine lv_iload_n hx hb dX13_holds_5 rfl (lv_at hl 1 rfl) ?_
  refine lv_iand hx hb dX13_holds_6 ?_
  refine lv_if_eq (tgt := 12) hx hb dX13_holds_7 (by decide) (fun c_6 => ?_) (fun c_6 => ?_)
  · skip
    refine lv_iconst (v := 0) hx hb dX13_holds_12 (by decide) ?_
    refine lv_istore_n (lv' := [(2, .int 0), (0, .ref (q 0)), (1, .int x)]) hx hb dX13_holds_13 rfl hl (by decide) rfl (fun ls hl => ?_)
    exact loop_14 ((n - 0) + 1) 0 (by omega) (by assumption) rfl (Nat.lt_succ_self _) ls (lv_one hl 1 rfl rfl (lv_one hl 2 rfl rfl (lv_one hl 0 rfl rfl (lv_nil hl))))
  · skip
    refine lv_iconst (v := 0) hx hb dX13_holds_10 (by decide) ?_
    exact W.zret (v := 0) hx hb hr (rfl) (fun t9 ht hW => ⟨_, rfl, (by show (0 : Int32) = bI (hldM _ _ _); unfold hldM; rw [decide_eq_false c_6]; rfl), ht⟩) (fun _ h => by cases h) dX13_holds_11 hlocks

theorem placeholder06 : True := trivial
/-! Racks; what Claims writes. -/
theorem clN {j : Nat} (h : j < 2 ^ 31) : (nI j).toNatClampNeg = j := nI_clamp h
theorem rg_of {x : Int32} {m : Nat} (hm : m < 2 ^ 31) (h : rg 0 x (nI m) = true) : ∃ j, j ≤ m ∧ x = nI j := by
  have h2 := of_decide_eq_true h
  obtain ⟨j, hj, rfl⟩ := nI_of (x := x) (fun q => by
    have := h2.1
    rw [Int32.le_iff_toInt_le] at this
    rw [Int32.lt_iff_toInt_lt] at q
    omega)
  exact ⟨j, (nI_leI hj hm).mp h2.2, rfl⟩
theorem inC_of {x : Int32} {n : Nat} (hn : n ≤ 10) (h : inC n x = true) : ∃ j, j < n ∧ x = nI j := by
  have h2 := of_decide_eq_true h
  obtain ⟨j, hj, rfl⟩ := nI_of (x := x) (fun q => by
    have := h2.1
    rw [Int32.le_iff_toInt_le] at this
    rw [Int32.lt_iff_toInt_lt] at q
    omega)
  exact ⟨j, Nat.not_le.mp (fun q => h2.2 (nI_le q hj)), rfl⟩
/-- the strength of a remark; the depth of a layer -/
def stg (x : Int32) : Int32 := if x = 111 then 3 else if x = 113 then 2 else 0
def dpm (rk : Nat → Int32) (j m : Nat) : Int32 := up (fun i acc => acc + stg (rk (j * 3 + i))) 0 m
theorem dpm_s (rk : Nat → Int32) (j m : Nat) : dpm rk j (m + 1) = dpm rk j m + stg (rk (j * 3 + m)) := rfl
def dpS (rk : Nat → Int32) (j : Nat) : Int32 := dpm rk j 3
def chd (kd : Nat → Int32) (j : Nat) (z : Int32) : Bool := decide (kd j = 97) || decide (kd j = z)
def opRenew (kd rk : Nat → Int32) (x z : Int32) : Int32 × (Nat → Int32) :=
  if rg 0 x 3 = true then if z = 113 ∨ z = 111 ∨ z = 97 then if dpS rk x.toNatClampNeg ≤ 0 then (kd x.toNatClampNeg, upd kd x.toNatClampNeg z) else (-3, kd) else (-2, kd) else (-1, kd)
def opPut (kd rk : Nat → Int32) (x y z : Int32) : Int32 × (Nat → Int32) :=
  if rg 0 x 3 = true ∧ rg 0 y 2 = true then if z = 113 ∨ z = 111 then if rk (x.toNatClampNeg * 3 + y.toNatClampNeg) = 46 then if chd kd x.toNatClampNeg z = true then (dpS (upd rk (x.toNatClampNeg * 3 + y.toNatClampNeg) z) x.toNatClampNeg, upd rk (x.toNatClampNeg * 3 + y.toNatClampNeg) z) else (-4, rk) else (-3, rk) else (-2, rk) else (-1, rk)
def opTake (rk : Nat → Int32) (x y : Int32) : Int32 × (Nat → Int32) :=
  if rg 0 x 3 = true ∧ rg 0 y 2 = true then if rk (x.toNatClampNeg * 3 + y.toNatClampNeg) = 46 then (-5, rk) else (rk (x.toNatClampNeg * 3 + y.toNatClampNeg), upd rk (x.toNatClampNeg * 3 + y.toNatClampNeg) 46) else (-1, rk)
def flm (kd rk : Nat → Int32) (m : Nat) : Nat → Int32 := up (fun i f => if f i = 46 then upd f i (if chd kd (i / 3) 111 = true then 111 else 113) else f) rk m
theorem flm_s (kd rk : Nat → Int32) (m : Nat) : flm kd rk (m + 1) = if flm kd rk m m = 46 then upd (flm kd rk m) m (if chd kd (m / 3) 111 = true then 111 else 113) else flm kd rk m := rfl
def opEnter (n : Nat) (w : Nat → Int32) (x : Int32) : Int32 × Nat × (Nat → Int32) :=
  if 1 ≤ x ∧ x ≤ 99 then if n < 10 then (nI n, n + 1, upd w n x) else (-3, n, w) else (-2, n, w)
def opMove (n : Nat) (ly : Nat → Int32) (x y : Int32) : Int32 × (Nat → Int32) :=
  if inC n x = true ∧ rg 0 y 3 = true then (ly x.toNatClampNeg, upd ly x.toNatClampNeg y) else (-1, ly)
def opDirect (n : Nat) (t a : Nat → Int32) (x y : Int32) (b : Bool) : Int32 × (Nat → Int32) × (Nat → Int32) :=
  if inC n x = true ∧ inC n y = true then
    (bI (tb (t x.toNatClampNeg) y.toNatClampNeg),
     upd t x.toNatClampNeg (if b = true then t x.toNatClampNeg ||| bt y.toNatClampNeg else t x.toNatClampNeg &&& (bt y.toNatClampNeg ^^^ (-1))),
     upd a y.toNatClampNeg (if b = true then a y.toNatClampNeg ||| bt x.toNatClampNeg else a y.toNatClampNeg &&& (bt x.toNatClampNeg ^^^ (-1))))
  else (-1, t, a)

set_option maxHeartbeats 4000000 in
set_option maxRecDepth 100000 in
theorem m_X10_strength (l9 : Launch) (D : va_G) (k : Nat → ClassId) (x : Int32) : Met l9 yX10_strength wsX10_strength ({ frames := 0, cells := 0, slots := 0, locals := 0 }) (RPc D k [.int x] ([])) (EI (stg x)) 0 0 noA := by
  refine rMet (y := yX10_strength) (cc := cX10_strength) (maxL := 1) (ret := (some .int)) [.int x] (by decide) rfl (Nat.le_of_ble_eq_true rfl) ?_
  intro p9 e9 s9 m9 bl9 me9 c9 ls hF hr hlocks hP hK hN hl
  have hl : lv_has ls 1 [(0, .int x)] := hl
  obtain ⟨hx, hb, hml, hown, hts⟩ := id hF
  refine lv_iload_n hx hb dX10_strength_0 rfl (lv_at hl 0 rfl) ?_
  refine lv_bipush (v := 111) hx hb dX10_strength_1 (by decide) ?_
  refine lv_icmp_ne (tgt := 8) hx hb dX10_strength_3 (by decide) (fun c_1 => ?_) (fun c_1 => ?_)
  · skip
    refine lv_iload_n hx hb dX10_strength_8 rfl (lv_at hl 0 rfl) ?_
    refine lv_bipush (v := 113) hx hb dX10_strength_9 (by decide) ?_
    refine lv_icmp_ne (tgt := 18) hx hb dX10_strength_11 (by decide) (fun c_2 => ?_) (fun c_2 => ?_)
    · skip
      refine lv_iconst (v := 0) hx hb dX10_strength_18 (by decide) ?_
      exact W.iret (v := 0) hx hb hr (fun t9 ht hW => ⟨_, rfl, (by (try simp only [stg]); (repeat (first | rw [if_pos (by first | assumption | exact ⟨by assumption, by assumption⟩ | exact Or.inl (by assumption) | exact Or.inr (by assumption) | exact Or.inr (Or.inl (by assumption)) | exact Or.inr (Or.inr (by assumption)) | (simp only [Int32.lt_iff_toInt_lt, Int32.le_iff_toInt_le, i32_0, i32_1, i32_2, i32_3, i32_4, i32_9, i32_10, i32_99, i32_100, i32_1000, i32_9999] at *; omega))] | rw [if_neg (by first | assumption | (rintro (h9 | h9 | h9) <;> contradiction) | (rintro (h9 | h9) <;> contradiction) | (intro h9; exact Bool.noConfusion (Eq.trans (c := false) h9.symm (by assumption))) | (rintro ⟨h8, h9⟩; exact Bool.noConfusion (Eq.trans (c := false) h8.symm (by assumption))) | (rintro ⟨h8, h9⟩; exact Bool.noConfusion (Eq.trans (c := false) h9.symm (by assumption))) | (simp only [Int32.lt_iff_toInt_lt, Int32.le_iff_toInt_le, i32_0, i32_1, i32_2, i32_3, i32_4, i32_9, i32_10, i32_99, i32_100, i32_1000, i32_9999] at *; omega))])); (try rfl)), ht⟩) (fun _ h => by cases h) dX10_strength_19 hlocks
    · skip
      refine lv_iconst (v := 2) hx hb dX10_strength_14 (by decide) ?_
      refine lv_goto (tgt := 19) hx hb dX10_strength_15 (by decide) ?_
      exact W.iret (v := 2) hx hb hr (fun t9 ht hW => ⟨_, rfl, (by (try simp only [stg]); (repeat (first | rw [if_pos (by first | assumption | exact ⟨by assumption, by assumption⟩ | exact Or.inl (by assumption) | exact Or.inr (by assumption) | exact Or.inr (Or.inl (by assumption)) | exact Or.inr (Or.inr (by assumption)) | (simp only [Int32.lt_iff_toInt_lt, Int32.le_iff_toInt_le, i32_0, i32_1, i32_2, i32_3, i32_4, i32_9, i32_10, i32_99, i32_100, i32_1000, i32_9999] at *; omega))] | rw [if_neg (by first | assumption | (rintro (h9 | h9 | h9) <;> contradiction) | (rintro (h9 | h9) <;> contradiction) | (intro h9; exact Bool.noConfusion (Eq.trans (c := false) h9.symm (by assumption))) | (rintro ⟨h8, h9⟩; exact Bool.noConfusion (Eq.trans (c := false) h8.symm (by assumption))) | (rintro ⟨h8, h9⟩; exact Bool.noConfusion (Eq.trans (c := false) h9.symm (by assumption))) | (simp only [Int32.lt_iff_toInt_lt, Int32.le_iff_toInt_le, i32_0, i32_1, i32_2, i32_3, i32_4, i32_9, i32_10, i32_99, i32_100, i32_1000, i32_9999] at *; omega))])); (try rfl)), ht⟩) (fun _ h => by cases h) dX10_strength_19 hlocks
  · skip
    refine lv_iconst (v := 3) hx hb dX10_strength_6 (by decide) ?_
    exact W.iret (v := 3) hx hb hr (fun t9 ht hW => ⟨_, rfl, (by (try simp only [stg]); (repeat (first | rw [if_pos (by first | assumption | exact ⟨by assumption, by assumption⟩ | exact Or.inl (by assumption) | exact Or.inr (by assumption) | exact Or.inr (Or.inl (by assumption)) | exact Or.inr (Or.inr (by assumption)) | (simp only [Int32.lt_iff_toInt_lt, Int32.le_iff_toInt_le, i32_0, i32_1, i32_2, i32_3, i32_4, i32_9, i32_10, i32_99, i32_100, i32_1000, i32_9999] at *; omega))] | rw [if_neg (by first | assumption | (rintro (h9 | h9 | h9) <;> contradiction) | (rintro (h9 | h9) <;> contradiction) | (intro h9; exact Bool.noConfusion (Eq.trans (c := false) h9.symm (by assumption))) | (rintro ⟨h8, h9⟩; exact Bool.noConfusion (Eq.trans (c := false) h8.symm (by assumption))) | (rintro ⟨h8, h9⟩; exact Bool.noConfusion (Eq.trans (c := false) h9.symm (by assumption))) | (simp only [Int32.lt_iff_toInt_lt, Int32.le_iff_toInt_le, i32_0, i32_1, i32_2, i32_3, i32_4, i32_9, i32_10, i32_99, i32_100, i32_1000, i32_9999] at *; omega))])); (try rfl)), ht⟩) (fun _ h => by cases h) dX10_strength_7 hlocks

set_option maxHeartbeats 4000000 in
set_option maxRecDepth 100000 in
theorem m_X10_depth (l9 : Launch) (D : va_G) (k : Nat → ClassId) (q : Nat → Nat) (kd rk : Nat → Int32) (j : Nat) (hj : j < 4) : Met l9 yX10_depth wsX10_depth ({ frames := 1, cells := 0, slots := 0, locals := 20 }) (RPc D k [.ref (q 0), .int (nI j)] (bRacks k q kd rk)) (EI (dpS rk j)) 0 0 noA := by
  refine rMet (y := yX10_depth) (cc := cX10_depth) (maxL := 4) (ret := (some .int)) [.ref (q 0), .int (nI j)] (by decide) rfl (Nat.le_of_ble_eq_true rfl) ?_
  intro p9 e9 s9 m9 bl9 me9 c9 ls hF hr hlocks hP hK hN hl
  have hl : lv_has ls 4 [(0, .ref (q 0)), (1, .int (nI j))] := hl
  obtain ⟨hx, hb, hml, hown, hts⟩ := id hF
  have k_fieldLink_15 : (Cond.fieldLink RX10 15 "OpinionReactor$Racks" "remarks" "[C").before _ s9 = true := hts (.fieldLink RX10 15 "OpinionReactor$Racks" "remarks" "[C") (by decide +kernel)
  have kc_RX10 : ∀ w ∈ u_ws RX10 TX10 2, w ∈ wsX10_depth := by decide +kernel
  have loop_4 : ∀ (fuel : Nat) (i : Nat), (i ≤ 3) → 3 - i < fuel → ∀ (ls : Array Slot), lv_has ls 4 [(0, .ref (q 0)), (1, .int (nI j)), (2, .int (dpm rk j i)), (3, .int (nI i))] → W p9 l9 e9 ({ frames := 1, cells := 0, slots := 0, locals := 20 }) s9 m9 ([.ref (q 0), .int (nI j)] : List Value).toArray bl9 me9 c9 s9.heap [] 0 0 (MQ bl9 (EI (dpS rk j)) ([.ref (q 0), .int (nI j)] : List Value).toArray s9 0 0 noA) (F0 m9 4 ls []) := by
    intro fuel
    induction fuel with
    | zero => intro i hi hfuel_4; exact absurd hfuel_4 (Nat.not_lt_zero _)
    | succ fuel ih_4 =>
      intro i hi hfuel_4 ls hl
      refine lv_iload_n hx hb dX10_depth_4 rfl (lv_at hl 3 rfl) ?_
      refine lv_iconst (v := 3) hx hb dX10_depth_5 (by decide) ?_
      refine lv_icmp_ge (tgt := 31) hx hb dX10_depth_6 (by decide) (fun c_1 => ?_) (fun c_1 => ?_)
      · skip
        have c_1 : 3 ≤ i := (nI_leI (a := 3) (b := i) (by omega) (by omega)).mp c_1
        refine lv_iload_n hx hb dX10_depth_31 rfl (lv_at hl 2 rfl) ?_
        exact W.iret (v := dpm rk j i) hx hb hr (fun t9 ht hW => ⟨_, rfl, (by rw [show i = 3 by omega]; rfl), ht⟩) (fun _ h => by cases h) dX10_depth_32 hlocks
      · skip
        have c_1 : ¬ 3 ≤ i := fun h => c_1 ((nI_leI (a := 3) (b := i) (by omega) (by omega)).mpr h)
        refine lv_iload_n hx hb dX10_depth_9 rfl (lv_at hl 2 rfl) ?_
        refine lv_aload_n hx hb dX10_depth_10 rfl (lv_at hl 0 rfl) ?_
        refine va_get (D := D) (ci := 8) (v := .ref (q 2)) (C := RX10) (T := TX10) (N := 2) hx hb hts kc_RX10 hown hK hP 0 rfl rfl 1 (by decide) k_fieldLink_15 (fun _ h9 => h9) rfl dX10_depth_11 ?_
        refine lv_iload_n hx hb dX10_depth_14 rfl (lv_at hl 1 rfl) ?_
        refine lv_iconst (v := 3) hx hb dX10_depth_15 (by decide) ?_
        refine ni_mul hx hb j 3 dX10_depth_16 ?_
        refine lv_iload_n hx hb dX10_depth_17 rfl (lv_at hl 3 rfl) ?_
        refine ni_add hx hb (j * 3) i dX10_depth_18 ?_
        refine ca_ld hx hb hK hP 2 rfl ((j * 3) + i) (by omega) (by decide) dX10_depth_19 ?_
        refine vp_callSi (W.runS (As := [.int (rk ((j * 3) + i))]) (rest := [.int (dpm rk j i)]) hF (m_X10_strength l9 D k (rk ((j * 3) + i)) ) (va_cwS 1 hts gX10_depth_X10_strength rfl rfl rfl (by decide +kernel) ⟨Nat.le_of_ble_eq_true rfl, Nat.le_of_ble_eq_true rfl⟩) (rPreS hK hN hP [] rfl) rfl rfl hl.1 rfl (lv_room (Nat.le_of_ble_eq_true rfl)) dX10_depth_20 ⟨Nat.zero_le _, Nat.zero_le _⟩) (fun r_2 hr_2 => ?_)
        subst hr_2
        refine lv_iadd hx hb dX10_depth_23 ?_
        refine lv_istore_n (lv' := [(2, .int ((dpm rk j i) + (stg (rk ((j * 3) + i))))), (0, .ref (q 0)), (1, .int (nI j)), (3, .int (nI i))]) hx hb dX10_depth_24 rfl hl (by decide) rfl (fun ls hl => ?_)
        refine lv_iinc (v := nI (i + 1)) (lv' := [(3, .int (nI (i + 1))), (2, .int ((dpm rk j i) + (stg (rk ((j * 3) + i))))), (0, .ref (q 0)), (1, .int (nI j))]) hx hb dX10_depth_25 hl (k := 3) rfl (nI_inc i) (by decide) rfl (fun ls hl => ?_)
        refine lv_goto (tgt := 4) hx hb dX10_depth_28 (by decide) ?_
        have e_3 : ((dpm rk j i) + (stg (rk ((j * 3) + i))) : Int32) = dpm rk j (i + 1) := by first | (with_reducible rfl) | (rfl)
        exact ih_4 (i + 1) (by omega) (by omega) ls (lv_one hl 2 rfl rfl (lv_one hl 3 rfl rfl (lv_one hl 1 rfl (congrArg Value.int e_3) (lv_one hl 0 rfl rfl (lv_nil hl)))))
  refine lv_iconst (v := 0) hx hb dX10_depth_0 (by decide) ?_
  refine lv_istore_n (lv' := [(2, .int 0), (0, .ref (q 0)), (1, .int (nI j))]) hx hb dX10_depth_1 rfl hl (by decide) rfl (fun ls hl => ?_)
  refine lv_iconst (v := 0) hx hb dX10_depth_2 (by decide) ?_
  refine lv_istore_n (lv' := [(3, .int 0), (2, .int 0), (0, .ref (q 0)), (1, .int (nI j))]) hx hb dX10_depth_3 rfl hl (by decide) rfl (fun ls hl => ?_)
  have e_4 : (0 : Int32) = dpm rk j 0 := by first | (with_reducible rfl) | (rfl)
  exact loop_4 ((3 - 0) + 1) 0 (by omega) (Nat.lt_succ_self _) ls (lv_one hl 2 rfl rfl (lv_one hl 3 rfl rfl (lv_one hl 1 rfl (congrArg Value.int e_4) (lv_one hl 0 rfl rfl (lv_nil hl)))))

set_option maxHeartbeats 4000000 in
set_option maxRecDepth 100000 in
theorem m_X10_canHold (l9 : Launch) (D : va_G) (k : Nat → ClassId) (q : Nat → Nat) (kd rk : Nat → Int32) (j : Nat) (z : Int32) (hj : j < 4) : Met l9 yX10_canHold wsX10_canHold ({ frames := 0, cells := 0, slots := 0, locals := 0 }) (RPc D k [.ref (q 0), .int (nI j), .int z] (bRacks k q kd rk)) (EI (bI (chd kd j z))) 0 0 noA := by
  refine rMet (y := yX10_canHold) (cc := cX10_canHold) (maxL := 3) (ret := (some .boolean)) [.ref (q 0), .int (nI j), .int z] (by decide) rfl (Nat.le_of_ble_eq_true rfl) ?_
  intro p9 e9 s9 m9 bl9 me9 c9 ls hF hr hlocks hP hK hN hl
  have hl : lv_has ls 3 [(0, .ref (q 0)), (1, .int (nI j)), (2, .int z)] := hl
  obtain ⟨hx, hb, hml, hown, hts⟩ := id hF
  have k_fieldLink_9 : (Cond.fieldLink RX10 9 "OpinionReactor$Racks" "kinds" "[C").before _ s9 = true := hts (.fieldLink RX10 9 "OpinionReactor$Racks" "kinds" "[C") (by decide +kernel)
  have kc_RX10 : ∀ w ∈ u_ws RX10 TX10 2, w ∈ wsX10_canHold := by decide +kernel
  refine lv_aload_n hx hb dX10_canHold_0 rfl (lv_at hl 0 rfl) ?_
  refine va_get (D := D) (ci := 8) (v := .ref (q 1)) (C := RX10) (T := TX10) (N := 2) hx hb hts kc_RX10 hown hK hP 0 rfl rfl 0 (by decide) k_fieldLink_9 (fun _ h9 => h9) rfl dX10_canHold_1 ?_
  refine lv_iload_n hx hb dX10_canHold_4 rfl (lv_at hl 1 rfl) ?_
  refine ca_ld hx hb hK hP 1 rfl j (by omega) (by decide) dX10_canHold_5 ?_
  refine lv_bipush (v := 97) hx hb dX10_canHold_6 (by decide) ?_
  refine lv_icmp_eq (tgt := 21) hx hb dX10_canHold_8 (by decide) (fun c_1 => ?_) (fun c_1 => ?_)
  · skip
    refine lv_iconst (v := 1) hx hb dX10_canHold_21 (by decide) ?_
    refine lv_goto (tgt := 26) hx hb dX10_canHold_22 (by decide) ?_
    exact W.zret (v := 1) hx hb hr (rfl) (fun t9 ht hW => ⟨_, rfl, (by simp_all [chd, bI]), ht⟩) (fun _ h => by cases h) dX10_canHold_26 hlocks
  · skip
    refine lv_aload_n hx hb dX10_canHold_11 rfl (lv_at hl 0 rfl) ?_
    refine va_get (D := D) (ci := 8) (v := .ref (q 1)) (C := RX10) (T := TX10) (N := 2) hx hb hts kc_RX10 hown hK hP 0 rfl rfl 0 (by decide) k_fieldLink_9 (fun _ h9 => h9) rfl dX10_canHold_12 ?_
    refine lv_iload_n hx hb dX10_canHold_15 rfl (lv_at hl 1 rfl) ?_
    refine ca_ld hx hb hK hP 1 rfl j (by omega) (by decide) dX10_canHold_16 ?_
    refine lv_iload_n hx hb dX10_canHold_17 rfl (lv_at hl 2 rfl) ?_
    refine lv_icmp_ne (tgt := 25) hx hb dX10_canHold_18 (by decide) (fun c_2 => ?_) (fun c_2 => ?_)
    · skip
      refine lv_iconst (v := 0) hx hb dX10_canHold_25 (by decide) ?_
      exact W.zret (v := 0) hx hb hr (rfl) (fun t9 ht hW => ⟨_, rfl, (by simp_all [chd, bI]), ht⟩) (fun _ h => by cases h) dX10_canHold_26 hlocks
    · skip
      refine lv_iconst (v := 1) hx hb dX10_canHold_21 (by decide) ?_
      refine lv_goto (tgt := 26) hx hb dX10_canHold_22 (by decide) ?_
      exact W.zret (v := 1) hx hb hr (rfl) (fun t9 ht hW => ⟨_, rfl, (by simp_all [chd, bI]), ht⟩) (fun _ h => by cases h) dX10_canHold_26 hlocks

set_option maxHeartbeats 4000000 in
set_option maxRecDepth 100000 in
theorem m_X10_renew (l9 : Launch) (D : va_G) (k : Nat → ClassId) (sz : Nat) (q : Nat → Nat) (kd rk : Nat → Int32) (x z : Int32) (hz : vp_nar .char z = z) : Met l9 yX10_renew wsX10_renew ({ frames := 2, cells := 0, slots := 0, locals := 43 }) (WPc D k [.ref (q 0), .int x, .int z] (bRacks k q kd rk) sz) (WI D k (bRacks k q ((opRenew kd rk x z).2) rk) ((opRenew kd rk x z).1) (va_A (bRacks k q kd rk) sz)) 0 0 (va_A (bRacks k q kd rk) sz) := by
  refine wMet (y := yX10_renew) (cc := cX10_renew) (maxL := 4) (ret := (some .int)) (Qc := fun A => WI D k (bRacks k q ((opRenew kd rk x z).2) rk) ((opRenew kd rk x z).1) A) [.ref (q 0), .int x, .int z] (by decide) rfl (Nat.le_of_ble_eq_true rfl) ?_
  intro p9 e9 s9 m9 bl9 me9 c9 ls A H hF hr hlocks hP hK hN hD hA hS hl hin
  have hl : lv_has ls 4 [(0, .ref (q 0)), (1, .int x), (2, .int z)] := hl
  obtain ⟨hx, hb, hml, hown, hts⟩ := id hF
  have k_fieldLink_9 : (Cond.fieldLink RX10 9 "OpinionReactor$Racks" "kinds" "[C").before _ s9 = true := hts (.fieldLink RX10 9 "OpinionReactor$Racks" "kinds" "[C") (by decide +kernel)
  have kc_RX10 : ∀ w ∈ u_ws RX10 TX10 2, w ∈ wsX10_renew := by decide +kernel
  refine lv_iload_n hx hb dX10_renew_0 rfl (lv_at hl 1 rfl) ?_
  refine vp_callSi (va_Run.run (va_runSN (As := [.int x]) (rest := []) hF (m_X12_isLayer l9 D k x ) ⟨va_cnB 1 hts gX10_renew_X12_isLayer_n18 rfl rfl rfl (hN (.methodLinkNest RX10 18 yX12_isLayer RX12) (by decide +kernel)) (hts (.initialized RX12) (by decide +kernel)) (by decide +kernel) ⟨Nat.le_of_ble_eq_true rfl, Nat.le_of_ble_eq_true rfl⟩, hts (.static yX12_isLayer) (by decide +kernel), trivial⟩ (rPreS hK hN hP [] rfl) rfl rfl hl.1 rfl (lv_room (Nat.le_of_ble_eq_true rfl)) dX10_renew_1 ⟨Nat.zero_le _, Nat.zero_le _⟩)) (fun r_1 hr_1 => ?_)
  subst hr_1
  refine lv_if_ne (tgt := 9) hx hb dX10_renew_4 (by decide) (fun c_2 => ?_) (fun c_2 => ?_)
  · skip
    have c_2 : (rg 0 x 3) = true := bI_1 c_2
    obtain ⟨j, hj, rfl⟩ := rg_of (m := 3) (by decide) c_2
    have clj : (nI j).toNatClampNeg = j := clN (by omega)
    refine lv_iload_n hx hb dX10_renew_9 rfl (lv_at hl 2 rfl) ?_
    refine lv_bipush (v := 113) hx hb dX10_renew_10 (by decide) ?_
    refine lv_icmp_eq (tgt := 30) hx hb dX10_renew_12 (by decide) (fun c_3 => ?_) (fun c_3 => ?_)
    · skip
      refine lv_aload_n hx hb dX10_renew_30 rfl (lv_at hl 0 rfl) ?_
      refine lv_iload_n hx hb dX10_renew_31 rfl (lv_at hl 1 rfl) ?_
      refine vp_callSi (W.runV (As := [.int (nI j)]) (rest := []) hF (m_X10_depth l9 D k q kd rk j (by omega)) (cwV 1 hts gX10_renew_X10_depth rfl rfl rfl (by decide +kernel) ⟨Nat.le_of_ble_eq_true rfl, Nat.le_of_ble_eq_true rfl⟩) (rPreV hK hN hP [0, 1, 2] rfl 0 8 rfl rfl) rfl rfl hl.1 rfl (lv_room (Nat.le_of_ble_eq_true rfl)) dX10_renew_32 ⟨Nat.zero_le _, Nat.zero_le _⟩) (fun r_4 hr_4 => ?_)
      subst hr_4
      refine lv_if_le (tgt := 41) hx hb dX10_renew_35 (by decide) (fun c_5 => ?_) (fun c_5 => ?_)
      · skip
        refine lv_aload_n hx hb dX10_renew_41 rfl (lv_at hl 0 rfl) ?_
        refine va_get (D := D) (ci := 8) (v := .ref (q 1)) (C := RX10) (T := TX10) (N := 2) hx hb hts kc_RX10 hown hK hP 0 rfl rfl 0 (by decide) k_fieldLink_9 (fun _ h9 => h9) rfl dX10_renew_42 ?_
        refine lv_iload_n hx hb dX10_renew_45 rfl (lv_at hl 1 rfl) ?_
        refine ca_ld hx hb hK hP 1 rfl j (by omega) (by decide) dX10_renew_46 ?_
        refine lv_istore_n (lv' := [(3, .int (kd j)), (0, .ref (q 0)), (1, .int (nI j)), (2, .int z)]) hx hb dX10_renew_47 rfl hl (by decide) rfl (fun ls hl => ?_)
        refine lv_aload_n hx hb dX10_renew_48 rfl (lv_at hl 1 rfl) ?_
        refine va_get (D := D) (ci := 8) (v := .ref (q 1)) (C := RX10) (T := TX10) (N := 2) hx hb hts kc_RX10 hown hK hP 0 rfl rfl 0 (by decide) k_fieldLink_9 (fun _ h9 => h9) rfl dX10_renew_49 ?_
        refine lv_iload_n hx hb dX10_renew_52 rfl (lv_at hl 2 rfl) ?_
        refine lv_iload_n hx hb dX10_renew_53 rfl (lv_at hl 3 rfl) ?_
        refine ca_st hx hb hK hP hD hS 1 rfl j (by omega) (by decide) hz (bRacks k q (upd kd j z) rk) rfl dX10_renew_54 (fun H locs hP hD hS => ?_)
        refine lv_iload_n hx hb dX10_renew_55 rfl (lv_at hl 0 rfl) ?_
        have e_6 : (upd kd j z : Nat → Int32) = (opRenew kd rk (nI j) z).2 := by first | (with_reducible rfl) | ((try simp only [opRenew, clj]); (repeat (first | rw [if_pos (by first | assumption | exact ⟨by assumption, by assumption⟩ | exact Or.inl (by assumption) | exact Or.inr (by assumption) | exact Or.inr (Or.inl (by assumption)) | exact Or.inr (Or.inr (by assumption)) | (simp only [Int32.lt_iff_toInt_lt, Int32.le_iff_toInt_le, i32_0, i32_1, i32_2, i32_3, i32_4, i32_9, i32_10, i32_99, i32_100, i32_1000, i32_9999] at *; omega))] | rw [if_neg (by first | assumption | (rintro (h9 | h9 | h9) <;> contradiction) | (rintro (h9 | h9) <;> contradiction) | (intro h9; exact Bool.noConfusion (Eq.trans (c := false) h9.symm (by assumption))) | (rintro ⟨h8, h9⟩; exact Bool.noConfusion (Eq.trans (c := false) h8.symm (by assumption))) | (rintro ⟨h8, h9⟩; exact Bool.noConfusion (Eq.trans (c := false) h9.symm (by assumption))) | (simp only [Int32.lt_iff_toInt_lt, Int32.le_iff_toInt_le, i32_0, i32_1, i32_2, i32_3, i32_4, i32_9, i32_10, i32_99, i32_100, i32_1000, i32_9999] at *; omega))])); (try rfl))
        have hP := Eq.mp (congrArg (fun z9 => va_P D vwCl (bRacks k q z9 rk) H) e_6) hP
        have hD := Eq.mp (congrArg (fun z9 => va_D A (bRacks k q z9 rk)) e_6) hD
        exact W.iret (v := kd j) hx hb hr (fun t9 ht hW => ⟨⟨_, (), rfl, (by (try simp only [opRenew, clj]); (repeat (first | rw [if_pos (by first | assumption | exact ⟨by assumption, by assumption⟩ | exact Or.inl (by assumption) | exact Or.inr (by assumption) | exact Or.inr (Or.inl (by assumption)) | exact Or.inr (Or.inr (by assumption)) | (simp only [Int32.lt_iff_toInt_lt, Int32.le_iff_toInt_le, i32_0, i32_1, i32_2, i32_3, i32_4, i32_9, i32_10, i32_99, i32_100, i32_1000, i32_9999] at *; omega))] | rw [if_neg (by first | assumption | (rintro (h9 | h9 | h9) <;> contradiction) | (rintro (h9 | h9) <;> contradiction) | (intro h9; exact Bool.noConfusion (Eq.trans (c := false) h9.symm (by assumption))) | (rintro ⟨h8, h9⟩; exact Bool.noConfusion (Eq.trans (c := false) h8.symm (by assumption))) | (rintro ⟨h8, h9⟩; exact Bool.noConfusion (Eq.trans (c := false) h9.symm (by assumption))) | (simp only [Int32.lt_iff_toInt_lt, Int32.le_iff_toInt_le, i32_0, i32_1, i32_2, i32_3, i32_4, i32_9, i32_10, i32_99, i32_100, i32_1000, i32_9999] at *; omega))])); (try rfl)), ⟨by rw [ht]; exact hP, va_K.moved hW.alike hK, hD⟩⟩, hS.F ht⟩) hS.2.2 dX10_renew_56 hlocks
      · skip
        refine lv_bipush (v := (-3)) hx hb dX10_renew_38 (by decide) ?_
        have e_7 : (kd : Nat → Int32) = (opRenew kd rk (nI j) z).2 := by first | (with_reducible rfl) | ((try simp only [opRenew, clj]); (repeat (first | rw [if_pos (by first | assumption | exact ⟨by assumption, by assumption⟩ | exact Or.inl (by assumption) | exact Or.inr (by assumption) | exact Or.inr (Or.inl (by assumption)) | exact Or.inr (Or.inr (by assumption)) | (simp only [Int32.lt_iff_toInt_lt, Int32.le_iff_toInt_le, i32_0, i32_1, i32_2, i32_3, i32_4, i32_9, i32_10, i32_99, i32_100, i32_1000, i32_9999] at *; omega))] | rw [if_neg (by first | assumption | (rintro (h9 | h9 | h9) <;> contradiction) | (rintro (h9 | h9) <;> contradiction) | (intro h9; exact Bool.noConfusion (Eq.trans (c := false) h9.symm (by assumption))) | (rintro ⟨h8, h9⟩; exact Bool.noConfusion (Eq.trans (c := false) h8.symm (by assumption))) | (rintro ⟨h8, h9⟩; exact Bool.noConfusion (Eq.trans (c := false) h9.symm (by assumption))) | (simp only [Int32.lt_iff_toInt_lt, Int32.le_iff_toInt_le, i32_0, i32_1, i32_2, i32_3, i32_4, i32_9, i32_10, i32_99, i32_100, i32_1000, i32_9999] at *; omega))])); (try rfl))
        have hP := Eq.mp (congrArg (fun z9 => va_P D vwCl (bRacks k q z9 rk) H) e_7) hP
        have hD := Eq.mp (congrArg (fun z9 => va_D A (bRacks k q z9 rk)) e_7) hD
        exact W.iret (v := (-3)) hx hb hr (fun t9 ht hW => ⟨⟨_, (), rfl, (by (try simp only [opRenew, clj]); (repeat (first | rw [if_pos (by first | assumption | exact ⟨by assumption, by assumption⟩ | exact Or.inl (by assumption) | exact Or.inr (by assumption) | exact Or.inr (Or.inl (by assumption)) | exact Or.inr (Or.inr (by assumption)) | (simp only [Int32.lt_iff_toInt_lt, Int32.le_iff_toInt_le, i32_0, i32_1, i32_2, i32_3, i32_4, i32_9, i32_10, i32_99, i32_100, i32_1000, i32_9999] at *; omega))] | rw [if_neg (by first | assumption | (rintro (h9 | h9 | h9) <;> contradiction) | (rintro (h9 | h9) <;> contradiction) | (intro h9; exact Bool.noConfusion (Eq.trans (c := false) h9.symm (by assumption))) | (rintro ⟨h8, h9⟩; exact Bool.noConfusion (Eq.trans (c := false) h8.symm (by assumption))) | (rintro ⟨h8, h9⟩; exact Bool.noConfusion (Eq.trans (c := false) h9.symm (by assumption))) | (simp only [Int32.lt_iff_toInt_lt, Int32.le_iff_toInt_le, i32_0, i32_1, i32_2, i32_3, i32_4, i32_9, i32_10, i32_99, i32_100, i32_1000, i32_9999] at *; omega))])); (try rfl)), ⟨by rw [ht]; exact hP, va_K.moved hW.alike hK, hD⟩⟩, hS.F ht⟩) hS.2.2 dX10_renew_40 hlocks
    · skip
      refine lv_iload_n hx hb dX10_renew_15 rfl (lv_at hl 2 rfl) ?_
      refine lv_bipush (v := 111) hx hb dX10_renew_16 (by decide) ?_
      refine lv_icmp_eq (tgt := 30) hx hb dX10_renew_18 (by decide) (fun c_8 => ?_) (fun c_8 => ?_)
      · skip
        refine lv_aload_n hx hb dX10_renew_30 rfl (lv_at hl 0 rfl) ?_
        refine lv_iload_n hx hb dX10_renew_31 rfl (lv_at hl 1 rfl) ?_
        refine vp_callSi (W.runV (As := [.int (nI j)]) (rest := []) hF (m_X10_depth l9 D k q kd rk j (by omega)) (cwV 1 hts gX10_renew_X10_depth rfl rfl rfl (by decide +kernel) ⟨Nat.le_of_ble_eq_true rfl, Nat.le_of_ble_eq_true rfl⟩) (rPreV hK hN hP [0, 1, 2] rfl 0 8 rfl rfl) rfl rfl hl.1 rfl (lv_room (Nat.le_of_ble_eq_true rfl)) dX10_renew_32 ⟨Nat.zero_le _, Nat.zero_le _⟩) (fun r_9 hr_9 => ?_)
        subst hr_9
        refine lv_if_le (tgt := 41) hx hb dX10_renew_35 (by decide) (fun c_10 => ?_) (fun c_10 => ?_)
        · skip
          refine lv_aload_n hx hb dX10_renew_41 rfl (lv_at hl 0 rfl) ?_
          refine va_get (D := D) (ci := 8) (v := .ref (q 1)) (C := RX10) (T := TX10) (N := 2) hx hb hts kc_RX10 hown hK hP 0 rfl rfl 0 (by decide) k_fieldLink_9 (fun _ h9 => h9) rfl dX10_renew_42 ?_
          refine lv_iload_n hx hb dX10_renew_45 rfl (lv_at hl 1 rfl) ?_
          refine ca_ld hx hb hK hP 1 rfl j (by omega) (by decide) dX10_renew_46 ?_
          refine lv_istore_n (lv' := [(3, .int (kd j)), (0, .ref (q 0)), (1, .int (nI j)), (2, .int z)]) hx hb dX10_renew_47 rfl hl (by decide) rfl (fun ls hl => ?_)
          refine lv_aload_n hx hb dX10_renew_48 rfl (lv_at hl 1 rfl) ?_
          refine va_get (D := D) (ci := 8) (v := .ref (q 1)) (C := RX10) (T := TX10) (N := 2) hx hb hts kc_RX10 hown hK hP 0 rfl rfl 0 (by decide) k_fieldLink_9 (fun _ h9 => h9) rfl dX10_renew_49 ?_
          refine lv_iload_n hx hb dX10_renew_52 rfl (lv_at hl 2 rfl) ?_
          refine lv_iload_n hx hb dX10_renew_53 rfl (lv_at hl 3 rfl) ?_
          refine ca_st hx hb hK hP hD hS 1 rfl j (by omega) (by decide) hz (bRacks k q (upd kd j z) rk) rfl dX10_renew_54 (fun H locs hP hD hS => ?_)
          refine lv_iload_n hx hb dX10_renew_55 rfl (lv_at hl 0 rfl) ?_
          have e_11 : (upd kd j z : Nat → Int32) = (opRenew kd rk (nI j) z).2 := by first | (with_reducible rfl) | ((try simp only [opRenew, clj]); (repeat (first | rw [if_pos (by first | assumption | exact ⟨by assumption, by assumption⟩ | exact Or.inl (by assumption) | exact Or.inr (by assumption) | exact Or.inr (Or.inl (by assumption)) | exact Or.inr (Or.inr (by assumption)) | (simp only [Int32.lt_iff_toInt_lt, Int32.le_iff_toInt_le, i32_0, i32_1, i32_2, i32_3, i32_4, i32_9, i32_10, i32_99, i32_100, i32_1000, i32_9999] at *; omega))] | rw [if_neg (by first | assumption | (rintro (h9 | h9 | h9) <;> contradiction) | (rintro (h9 | h9) <;> contradiction) | (intro h9; exact Bool.noConfusion (Eq.trans (c := false) h9.symm (by assumption))) | (rintro ⟨h8, h9⟩; exact Bool.noConfusion (Eq.trans (c := false) h8.symm (by assumption))) | (rintro ⟨h8, h9⟩; exact Bool.noConfusion (Eq.trans (c := false) h9.symm (by assumption))) | (simp only [Int32.lt_iff_toInt_lt, Int32.le_iff_toInt_le, i32_0, i32_1, i32_2, i32_3, i32_4, i32_9, i32_10, i32_99, i32_100, i32_1000, i32_9999] at *; omega))])); (try rfl))
          have hP := Eq.mp (congrArg (fun z9 => va_P D vwCl (bRacks k q z9 rk) H) e_11) hP
          have hD := Eq.mp (congrArg (fun z9 => va_D A (bRacks k q z9 rk)) e_11) hD
          exact W.iret (v := kd j) hx hb hr (fun t9 ht hW => ⟨⟨_, (), rfl, (by (try simp only [opRenew, clj]); (repeat (first | rw [if_pos (by first | assumption | exact ⟨by assumption, by assumption⟩ | exact Or.inl (by assumption) | exact Or.inr (by assumption) | exact Or.inr (Or.inl (by assumption)) | exact Or.inr (Or.inr (by assumption)) | (simp only [Int32.lt_iff_toInt_lt, Int32.le_iff_toInt_le, i32_0, i32_1, i32_2, i32_3, i32_4, i32_9, i32_10, i32_99, i32_100, i32_1000, i32_9999] at *; omega))] | rw [if_neg (by first | assumption | (rintro (h9 | h9 | h9) <;> contradiction) | (rintro (h9 | h9) <;> contradiction) | (intro h9; exact Bool.noConfusion (Eq.trans (c := false) h9.symm (by assumption))) | (rintro ⟨h8, h9⟩; exact Bool.noConfusion (Eq.trans (c := false) h8.symm (by assumption))) | (rintro ⟨h8, h9⟩; exact Bool.noConfusion (Eq.trans (c := false) h9.symm (by assumption))) | (simp only [Int32.lt_iff_toInt_lt, Int32.le_iff_toInt_le, i32_0, i32_1, i32_2, i32_3, i32_4, i32_9, i32_10, i32_99, i32_100, i32_1000, i32_9999] at *; omega))])); (try rfl)), ⟨by rw [ht]; exact hP, va_K.moved hW.alike hK, hD⟩⟩, hS.F ht⟩) hS.2.2 dX10_renew_56 hlocks
        · skip
          refine lv_bipush (v := (-3)) hx hb dX10_renew_38 (by decide) ?_
          have e_12 : (kd : Nat → Int32) = (opRenew kd rk (nI j) z).2 := by first | (with_reducible rfl) | ((try simp only [opRenew, clj]); (repeat (first | rw [if_pos (by first | assumption | exact ⟨by assumption, by assumption⟩ | exact Or.inl (by assumption) | exact Or.inr (by assumption) | exact Or.inr (Or.inl (by assumption)) | exact Or.inr (Or.inr (by assumption)) | (simp only [Int32.lt_iff_toInt_lt, Int32.le_iff_toInt_le, i32_0, i32_1, i32_2, i32_3, i32_4, i32_9, i32_10, i32_99, i32_100, i32_1000, i32_9999] at *; omega))] | rw [if_neg (by first | assumption | (rintro (h9 | h9 | h9) <;> contradiction) | (rintro (h9 | h9) <;> contradiction) | (intro h9; exact Bool.noConfusion (Eq.trans (c := false) h9.symm (by assumption))) | (rintro ⟨h8, h9⟩; exact Bool.noConfusion (Eq.trans (c := false) h8.symm (by assumption))) | (rintro ⟨h8, h9⟩; exact Bool.noConfusion (Eq.trans (c := false) h9.symm (by assumption))) | (simp only [Int32.lt_iff_toInt_lt, Int32.le_iff_toInt_le, i32_0, i32_1, i32_2, i32_3, i32_4, i32_9, i32_10, i32_99, i32_100, i32_1000, i32_9999] at *; omega))])); (try rfl))
          have hP := Eq.mp (congrArg (fun z9 => va_P D vwCl (bRacks k q z9 rk) H) e_12) hP
          have hD := Eq.mp (congrArg (fun z9 => va_D A (bRacks k q z9 rk)) e_12) hD
          exact W.iret (v := (-3)) hx hb hr (fun t9 ht hW => ⟨⟨_, (), rfl, (by (try simp only [opRenew, clj]); (repeat (first | rw [if_pos (by first | assumption | exact ⟨by assumption, by assumption⟩ | exact Or.inl (by assumption) | exact Or.inr (by assumption) | exact Or.inr (Or.inl (by assumption)) | exact Or.inr (Or.inr (by assumption)) | (simp only [Int32.lt_iff_toInt_lt, Int32.le_iff_toInt_le, i32_0, i32_1, i32_2, i32_3, i32_4, i32_9, i32_10, i32_99, i32_100, i32_1000, i32_9999] at *; omega))] | rw [if_neg (by first | assumption | (rintro (h9 | h9 | h9) <;> contradiction) | (rintro (h9 | h9) <;> contradiction) | (intro h9; exact Bool.noConfusion (Eq.trans (c := false) h9.symm (by assumption))) | (rintro ⟨h8, h9⟩; exact Bool.noConfusion (Eq.trans (c := false) h8.symm (by assumption))) | (rintro ⟨h8, h9⟩; exact Bool.noConfusion (Eq.trans (c := false) h9.symm (by assumption))) | (simp only [Int32.lt_iff_toInt_lt, Int32.le_iff_toInt_le, i32_0, i32_1, i32_2, i32_3, i32_4, i32_9, i32_10, i32_99, i32_100, i32_1000, i32_9999] at *; omega))])); (try rfl)), ⟨by rw [ht]; exact hP, va_K.moved hW.alike hK, hD⟩⟩, hS.F ht⟩) hS.2.2 dX10_renew_40 hlocks
      · skip
        refine lv_iload_n hx hb dX10_renew_21 rfl (lv_at hl 2 rfl) ?_
        refine lv_bipush (v := 97) hx hb dX10_renew_22 (by decide) ?_
        refine lv_icmp_eq (tgt := 30) hx hb dX10_renew_24 (by decide) (fun c_13 => ?_) (fun c_13 => ?_)
        · skip
          refine lv_aload_n hx hb dX10_renew_30 rfl (lv_at hl 0 rfl) ?_
          refine lv_iload_n hx hb dX10_renew_31 rfl (lv_at hl 1 rfl) ?_
          refine vp_callSi (W.runV (As := [.int (nI j)]) (rest := []) hF (m_X10_depth l9 D k q kd rk j (by omega)) (cwV 1 hts gX10_renew_X10_depth rfl rfl rfl (by decide +kernel) ⟨Nat.le_of_ble_eq_true rfl, Nat.le_of_ble_eq_true rfl⟩) (rPreV hK hN hP [0, 1, 2] rfl 0 8 rfl rfl) rfl rfl hl.1 rfl (lv_room (Nat.le_of_ble_eq_true rfl)) dX10_renew_32 ⟨Nat.zero_le _, Nat.zero_le _⟩) (fun r_14 hr_14 => ?_)
          subst hr_14
          refine lv_if_le (tgt := 41) hx hb dX10_renew_35 (by decide) (fun c_15 => ?_) (fun c_15 => ?_)
          · skip
            refine lv_aload_n hx hb dX10_renew_41 rfl (lv_at hl 0 rfl) ?_
            refine va_get (D := D) (ci := 8) (v := .ref (q 1)) (C := RX10) (T := TX10) (N := 2) hx hb hts kc_RX10 hown hK hP 0 rfl rfl 0 (by decide) k_fieldLink_9 (fun _ h9 => h9) rfl dX10_renew_42 ?_
            refine lv_iload_n hx hb dX10_renew_45 rfl (lv_at hl 1 rfl) ?_
            refine ca_ld hx hb hK hP 1 rfl j (by omega) (by decide) dX10_renew_46 ?_
            refine lv_istore_n (lv' := [(3, .int (kd j)), (0, .ref (q 0)), (1, .int (nI j)), (2, .int z)]) hx hb dX10_renew_47 rfl hl (by decide) rfl (fun ls hl => ?_)
            refine lv_aload_n hx hb dX10_renew_48 rfl (lv_at hl 1 rfl) ?_
            refine va_get (D := D) (ci := 8) (v := .ref (q 1)) (C := RX10) (T := TX10) (N := 2) hx hb hts kc_RX10 hown hK hP 0 rfl rfl 0 (by decide) k_fieldLink_9 (fun _ h9 => h9) rfl dX10_renew_49 ?_
            refine lv_iload_n hx hb dX10_renew_52 rfl (lv_at hl 2 rfl) ?_
            refine lv_iload_n hx hb dX10_renew_53 rfl (lv_at hl 3 rfl) ?_
            refine ca_st hx hb hK hP hD hS 1 rfl j (by omega) (by decide) hz (bRacks k q (upd kd j z) rk) rfl dX10_renew_54 (fun H locs hP hD hS => ?_)
            refine lv_iload_n hx hb dX10_renew_55 rfl (lv_at hl 0 rfl) ?_
            have e_16 : (upd kd j z : Nat → Int32) = (opRenew kd rk (nI j) z).2 := by first | (with_reducible rfl) | ((try simp only [opRenew, clj]); (repeat (first | rw [if_pos (by first | assumption | exact ⟨by assumption, by assumption⟩ | exact Or.inl (by assumption) | exact Or.inr (by assumption) | exact Or.inr (Or.inl (by assumption)) | exact Or.inr (Or.inr (by assumption)) | (simp only [Int32.lt_iff_toInt_lt, Int32.le_iff_toInt_le, i32_0, i32_1, i32_2, i32_3, i32_4, i32_9, i32_10, i32_99, i32_100, i32_1000, i32_9999] at *; omega))] | rw [if_neg (by first | assumption | (rintro (h9 | h9 | h9) <;> contradiction) | (rintro (h9 | h9) <;> contradiction) | (intro h9; exact Bool.noConfusion (Eq.trans (c := false) h9.symm (by assumption))) | (rintro ⟨h8, h9⟩; exact Bool.noConfusion (Eq.trans (c := false) h8.symm (by assumption))) | (rintro ⟨h8, h9⟩; exact Bool.noConfusion (Eq.trans (c := false) h9.symm (by assumption))) | (simp only [Int32.lt_iff_toInt_lt, Int32.le_iff_toInt_le, i32_0, i32_1, i32_2, i32_3, i32_4, i32_9, i32_10, i32_99, i32_100, i32_1000, i32_9999] at *; omega))])); (try rfl))
            have hP := Eq.mp (congrArg (fun z9 => va_P D vwCl (bRacks k q z9 rk) H) e_16) hP
            have hD := Eq.mp (congrArg (fun z9 => va_D A (bRacks k q z9 rk)) e_16) hD
            exact W.iret (v := kd j) hx hb hr (fun t9 ht hW => ⟨⟨_, (), rfl, (by (try simp only [opRenew, clj]); (repeat (first | rw [if_pos (by first | assumption | exact ⟨by assumption, by assumption⟩ | exact Or.inl (by assumption) | exact Or.inr (by assumption) | exact Or.inr (Or.inl (by assumption)) | exact Or.inr (Or.inr (by assumption)) | (simp only [Int32.lt_iff_toInt_lt, Int32.le_iff_toInt_le, i32_0, i32_1, i32_2, i32_3, i32_4, i32_9, i32_10, i32_99, i32_100, i32_1000, i32_9999] at *; omega))] | rw [if_neg (by first | assumption | (rintro (h9 | h9 | h9) <;> contradiction) | (rintro (h9 | h9) <;> contradiction) | (intro h9; exact Bool.noConfusion (Eq.trans (c := false) h9.symm (by assumption))) | (rintro ⟨h8, h9⟩; exact Bool.noConfusion (Eq.trans (c := false) h8.symm (by assumption))) | (rintro ⟨h8, h9⟩; exact Bool.noConfusion (Eq.trans (c := false) h9.symm (by assumption))) | (simp only [Int32.lt_iff_toInt_lt, Int32.le_iff_toInt_le, i32_0, i32_1, i32_2, i32_3, i32_4, i32_9, i32_10, i32_99, i32_100, i32_1000, i32_9999] at *; omega))])); (try rfl)), ⟨by rw [ht]; exact hP, va_K.moved hW.alike hK, hD⟩⟩, hS.F ht⟩) hS.2.2 dX10_renew_56 hlocks
          · skip
            refine lv_bipush (v := (-3)) hx hb dX10_renew_38 (by decide) ?_
            have e_17 : (kd : Nat → Int32) = (opRenew kd rk (nI j) z).2 := by first | (with_reducible rfl) | ((try simp only [opRenew, clj]); (repeat (first | rw [if_pos (by first | assumption | exact ⟨by assumption, by assumption⟩ | exact Or.inl (by assumption) | exact Or.inr (by assumption) | exact Or.inr (Or.inl (by assumption)) | exact Or.inr (Or.inr (by assumption)) | (simp only [Int32.lt_iff_toInt_lt, Int32.le_iff_toInt_le, i32_0, i32_1, i32_2, i32_3, i32_4, i32_9, i32_10, i32_99, i32_100, i32_1000, i32_9999] at *; omega))] | rw [if_neg (by first | assumption | (rintro (h9 | h9 | h9) <;> contradiction) | (rintro (h9 | h9) <;> contradiction) | (intro h9; exact Bool.noConfusion (Eq.trans (c := false) h9.symm (by assumption))) | (rintro ⟨h8, h9⟩; exact Bool.noConfusion (Eq.trans (c := false) h8.symm (by assumption))) | (rintro ⟨h8, h9⟩; exact Bool.noConfusion (Eq.trans (c := false) h9.symm (by assumption))) | (simp only [Int32.lt_iff_toInt_lt, Int32.le_iff_toInt_le, i32_0, i32_1, i32_2, i32_3, i32_4, i32_9, i32_10, i32_99, i32_100, i32_1000, i32_9999] at *; omega))])); (try rfl))
            have hP := Eq.mp (congrArg (fun z9 => va_P D vwCl (bRacks k q z9 rk) H) e_17) hP
            have hD := Eq.mp (congrArg (fun z9 => va_D A (bRacks k q z9 rk)) e_17) hD
            exact W.iret (v := (-3)) hx hb hr (fun t9 ht hW => ⟨⟨_, (), rfl, (by (try simp only [opRenew, clj]); (repeat (first | rw [if_pos (by first | assumption | exact ⟨by assumption, by assumption⟩ | exact Or.inl (by assumption) | exact Or.inr (by assumption) | exact Or.inr (Or.inl (by assumption)) | exact Or.inr (Or.inr (by assumption)) | (simp only [Int32.lt_iff_toInt_lt, Int32.le_iff_toInt_le, i32_0, i32_1, i32_2, i32_3, i32_4, i32_9, i32_10, i32_99, i32_100, i32_1000, i32_9999] at *; omega))] | rw [if_neg (by first | assumption | (rintro (h9 | h9 | h9) <;> contradiction) | (rintro (h9 | h9) <;> contradiction) | (intro h9; exact Bool.noConfusion (Eq.trans (c := false) h9.symm (by assumption))) | (rintro ⟨h8, h9⟩; exact Bool.noConfusion (Eq.trans (c := false) h8.symm (by assumption))) | (rintro ⟨h8, h9⟩; exact Bool.noConfusion (Eq.trans (c := false) h9.symm (by assumption))) | (simp only [Int32.lt_iff_toInt_lt, Int32.le_iff_toInt_le, i32_0, i32_1, i32_2, i32_3, i32_4, i32_9, i32_10, i32_99, i32_100, i32_1000, i32_9999] at *; omega))])); (try rfl)), ⟨by rw [ht]; exact hP, va_K.moved hW.alike hK, hD⟩⟩, hS.F ht⟩) hS.2.2 dX10_renew_40 hlocks
        · skip
          refine lv_bipush (v := (-2)) hx hb dX10_renew_27 (by decide) ?_
          have e_18 : (kd : Nat → Int32) = (opRenew kd rk (nI j) z).2 := by first | (with_reducible rfl) | ((try simp only [opRenew, clj]); (repeat (first | rw [if_pos (by first | assumption | exact ⟨by assumption, by assumption⟩ | exact Or.inl (by assumption) | exact Or.inr (by assumption) | exact Or.inr (Or.inl (by assumption)) | exact Or.inr (Or.inr (by assumption)) | (simp only [Int32.lt_iff_toInt_lt, Int32.le_iff_toInt_le, i32_0, i32_1, i32_2, i32_3, i32_4, i32_9, i32_10, i32_99, i32_100, i32_1000, i32_9999] at *; omega))] | rw [if_neg (by first | assumption | (rintro (h9 | h9 | h9) <;> contradiction) | (rintro (h9 | h9) <;> contradiction) | (intro h9; exact Bool.noConfusion (Eq.trans (c := false) h9.symm (by assumption))) | (rintro ⟨h8, h9⟩; exact Bool.noConfusion (Eq.trans (c := false) h8.symm (by assumption))) | (rintro ⟨h8, h9⟩; exact Bool.noConfusion (Eq.trans (c := false) h9.symm (by assumption))) | (simp only [Int32.lt_iff_toInt_lt, Int32.le_iff_toInt_le, i32_0, i32_1, i32_2, i32_3, i32_4, i32_9, i32_10, i32_99, i32_100, i32_1000, i32_9999] at *; omega))])); (try rfl))
          have hP := Eq.mp (congrArg (fun z9 => va_P D vwCl (bRacks k q z9 rk) H) e_18) hP
          have hD := Eq.mp (congrArg (fun z9 => va_D A (bRacks k q z9 rk)) e_18) hD
          exact W.iret (v := (-2)) hx hb hr (fun t9 ht hW => ⟨⟨_, (), rfl, (by (try simp only [opRenew, clj]); (repeat (first | rw [if_pos (by first | assumption | exact ⟨by assumption, by assumption⟩ | exact Or.inl (by assumption) | exact Or.inr (by assumption) | exact Or.inr (Or.inl (by assumption)) | exact Or.inr (Or.inr (by assumption)) | (simp only [Int32.lt_iff_toInt_lt, Int32.le_iff_toInt_le, i32_0, i32_1, i32_2, i32_3, i32_4, i32_9, i32_10, i32_99, i32_100, i32_1000, i32_9999] at *; omega))] | rw [if_neg (by first | assumption | (rintro (h9 | h9 | h9) <;> contradiction) | (rintro (h9 | h9) <;> contradiction) | (intro h9; exact Bool.noConfusion (Eq.trans (c := false) h9.symm (by assumption))) | (rintro ⟨h8, h9⟩; exact Bool.noConfusion (Eq.trans (c := false) h8.symm (by assumption))) | (rintro ⟨h8, h9⟩; exact Bool.noConfusion (Eq.trans (c := false) h9.symm (by assumption))) | (simp only [Int32.lt_iff_toInt_lt, Int32.le_iff_toInt_le, i32_0, i32_1, i32_2, i32_3, i32_4, i32_9, i32_10, i32_99, i32_100, i32_1000, i32_9999] at *; omega))])); (try rfl)), ⟨by rw [ht]; exact hP, va_K.moved hW.alike hK, hD⟩⟩, hS.F ht⟩) hS.2.2 dX10_renew_29 hlocks
  · skip
    have c_2 : (rg 0 x 3) = false := bI_0 c_2
    refine lv_iconst (v := (-1)) hx hb dX10_renew_7 (by decide) ?_
    have e_19 : (kd : Nat → Int32) = (opRenew kd rk x z).2 := by first | (with_reducible rfl) | ((try simp only [opRenew]); (repeat (first | rw [if_pos (by first | assumption | exact ⟨by assumption, by assumption⟩ | exact Or.inl (by assumption) | exact Or.inr (by assumption) | exact Or.inr (Or.inl (by assumption)) | exact Or.inr (Or.inr (by assumption)) | (simp only [Int32.lt_iff_toInt_lt, Int32.le_iff_toInt_le, i32_0, i32_1, i32_2, i32_3, i32_4, i32_9, i32_10, i32_99, i32_100, i32_1000, i32_9999] at *; omega))] | rw [if_neg (by first | assumption | (rintro (h9 | h9 | h9) <;> contradiction) | (rintro (h9 | h9) <;> contradiction) | (intro h9; exact Bool.noConfusion (Eq.trans (c := false) h9.symm (by assumption))) | (rintro ⟨h8, h9⟩; exact Bool.noConfusion (Eq.trans (c := false) h8.symm (by assumption))) | (rintro ⟨h8, h9⟩; exact Bool.noConfusion (Eq.trans (c := false) h9.symm (by assumption))) | (simp only [Int32.lt_iff_toInt_lt, Int32.le_iff_toInt_le, i32_0, i32_1, i32_2, i32_3, i32_4, i32_9, i32_10, i32_99, i32_100, i32_1000, i32_9999] at *; omega))])); (try rfl))
    have hP := Eq.mp (congrArg (fun z9 => va_P D vwCl (bRacks k q z9 rk) H) e_19) hP
    have hD := Eq.mp (congrArg (fun z9 => va_D A (bRacks k q z9 rk)) e_19) hD
    exact W.iret (v := (-1)) hx hb hr (fun t9 ht hW => ⟨⟨_, (), rfl, (by (try simp only [opRenew]); (repeat (first | rw [if_pos (by first | assumption | exact ⟨by assumption, by assumption⟩ | exact Or.inl (by assumption) | exact Or.inr (by assumption) | exact Or.inr (Or.inl (by assumption)) | exact Or.inr (Or.inr (by assumption)) | (simp only [Int32.lt_iff_toInt_lt, Int32.le_iff_toInt_le, i32_0, i32_1, i32_2, i32_3, i32_4, i32_9, i32_10, i32_99, i32_100, i32_1000, i32_9999] at *; omega))] | rw [if_neg (by first | assumption | (rintro (h9 | h9 | h9) <;> contradiction) | (rintro (h9 | h9) <;> contradiction) | (intro h9; exact Bool.noConfusion (Eq.trans (c := false) h9.symm (by assumption))) | (rintro ⟨h8, h9⟩; exact Bool.noConfusion (Eq.trans (c := false) h8.symm (by assumption))) | (rintro ⟨h8, h9⟩; exact Bool.noConfusion (Eq.trans (c := false) h9.symm (by assumption))) | (simp only [Int32.lt_iff_toInt_lt, Int32.le_iff_toInt_le, i32_0, i32_1, i32_2, i32_3, i32_4, i32_9, i32_10, i32_99, i32_100, i32_1000, i32_9999] at *; omega))])); (try rfl)), ⟨by rw [ht]; exact hP, va_K.moved hW.alike hK, hD⟩⟩, hS.F ht⟩) hS.2.2 dX10_renew_8 hlocks

set_option maxHeartbeats 4000000 in
set_option maxRecDepth 100000 in
theorem m_X10_put (l9 : Launch) (D : va_G) (k : Nat → ClassId) (sz : Nat) (q : Nat → Nat) (kd rk : Nat → Int32) (x y z : Int32) (hz : vp_nar .char z = z) : Met l9 yX10_put wsX10_put ({ frames := 2, cells := 0, slots := 0, locals := 43 }) (WPc D k [.ref (q 0), .int x, .int y, .int z] (bRacks k q kd rk) sz) (WI D k (bRacks k q kd ((opPut kd rk x y z).2)) ((opPut kd rk x y z).1) (va_A (bRacks k q kd rk) sz)) 0 0 (va_A (bRacks k q kd rk) sz) := by
  refine wMet (y := yX10_put) (cc := cX10_put) (maxL := 4) (ret := (some .int)) (Qc := fun A => WI D k (bRacks k q kd ((opPut kd rk x y z).2)) ((opPut kd rk x y z).1) A) [.ref (q 0), .int x, .int y, .int z] (by decide) rfl (Nat.le_of_ble_eq_true rfl) ?_
  intro p9 e9 s9 m9 bl9 me9 c9 ls A H hF hr hlocks hP hK hN hD hA hS hl hin
  have hl : lv_has ls 4 [(0, .ref (q 0)), (1, .int x), (2, .int y), (3, .int z)] := hl
  obtain ⟨hx, hb, hml, hown, hts⟩ := id hF
  have k_fieldLink_15 : (Cond.fieldLink RX10 15 "OpinionReactor$Racks" "remarks" "[C").before _ s9 = true := hts (.fieldLink RX10 15 "OpinionReactor$Racks" "remarks" "[C") (by decide +kernel)
  have kc_RX10 : ∀ w ∈ u_ws RX10 TX10 2, w ∈ wsX10_put := by decide +kernel
  refine lv_iload_n hx hb dX10_put_0 rfl (lv_at hl 1 rfl) ?_
  refine vp_callSi (va_Run.run (va_runSN (As := [.int x]) (rest := []) hF (m_X12_isLayer l9 D k x ) ⟨va_cnB 1 hts gX10_put_X12_isLayer_n18 rfl rfl rfl (hN (.methodLinkNest RX10 18 yX12_isLayer RX12) (by decide +kernel)) (hts (.initialized RX12) (by decide +kernel)) (by decide +kernel) ⟨Nat.le_of_ble_eq_true rfl, Nat.le_of_ble_eq_true rfl⟩, hts (.static yX12_isLayer) (by decide +kernel), trivial⟩ (rPreS hK hN hP [] rfl) rfl rfl hl.1 rfl (lv_room (Nat.le_of_ble_eq_true rfl)) dX10_put_1 ⟨Nat.zero_le _, Nat.zero_le _⟩)) (fun r_1 hr_1 => ?_)
  subst hr_1
  refine lv_if_eq (tgt := 14) hx hb dX10_put_4 (by decide) (fun c_2 => ?_) (fun c_2 => ?_)
  · skip
    have c_2 : (rg 0 x 3) = false := bI_0 c_2
    refine lv_iconst (v := (-1)) hx hb dX10_put_14 (by decide) ?_
    have e_3 : (rk : Nat → Int32) = (opPut kd rk x y z).2 := by first | (with_reducible rfl) | ((try simp only [opPut]); (repeat (first | rw [if_pos (by first | assumption | exact ⟨by assumption, by assumption⟩ | exact Or.inl (by assumption) | exact Or.inr (by assumption) | exact Or.inr (Or.inl (by assumption)) | exact Or.inr (Or.inr (by assumption)) | (simp only [Int32.lt_iff_toInt_lt, Int32.le_iff_toInt_le, i32_0, i32_1, i32_2, i32_3, i32_4, i32_9, i32_10, i32_99, i32_100, i32_1000, i32_9999] at *; omega))] | rw [if_neg (by first | assumption | (rintro (h9 | h9 | h9) <;> contradiction) | (rintro (h9 | h9) <;> contradiction) | (intro h9; exact Bool.noConfusion (Eq.trans (c := false) h9.symm (by assumption))) | (rintro ⟨h8, h9⟩; exact Bool.noConfusion (Eq.trans (c := false) h8.symm (by assumption))) | (rintro ⟨h8, h9⟩; exact Bool.noConfusion (Eq.trans (c := false) h9.symm (by assumption))) | (simp only [Int32.lt_iff_toInt_lt, Int32.le_iff_toInt_le, i32_0, i32_1, i32_2, i32_3, i32_4, i32_9, i32_10, i32_99, i32_100, i32_1000, i32_9999] at *; omega))])); (try rfl))
    have hP := Eq.mp (congrArg (fun z9 => va_P D vwCl (bRacks k q kd z9) H) e_3) hP
    have hD := Eq.mp (congrArg (fun z9 => va_D A (bRacks k q kd z9)) e_3) hD
    exact W.iret (v := (-1)) hx hb hr (fun t9 ht hW => ⟨⟨_, (), rfl, (by (try simp only [opPut]); (repeat (first | rw [if_pos (by first | assumption | exact ⟨by assumption, by assumption⟩ | exact Or.inl (by assumption) | exact Or.inr (by assumption) | exact Or.inr (Or.inl (by assumption)) | exact Or.inr (Or.inr (by assumption)) | (simp only [Int32.lt_iff_toInt_lt, Int32.le_iff_toInt_le, i32_0, i32_1, i32_2, i32_3, i32_4, i32_9, i32_10, i32_99, i32_100, i32_1000, i32_9999] at *; omega))] | rw [if_neg (by first | assumption | (rintro (h9 | h9 | h9) <;> contradiction) | (rintro (h9 | h9) <;> contradiction) | (intro h9; exact Bool.noConfusion (Eq.trans (c := false) h9.symm (by assumption))) | (rintro ⟨h8, h9⟩; exact Bool.noConfusion (Eq.trans (c := false) h8.symm (by assumption))) | (rintro ⟨h8, h9⟩; exact Bool.noConfusion (Eq.trans (c := false) h9.symm (by assumption))) | (simp only [Int32.lt_iff_toInt_lt, Int32.le_iff_toInt_le, i32_0, i32_1, i32_2, i32_3, i32_4, i32_9, i32_10, i32_99, i32_100, i32_1000, i32_9999] at *; omega))])); (try rfl)), ⟨by rw [ht]; exact hP, va_K.moved hW.alike hK, hD⟩⟩, hS.F ht⟩) hS.2.2 dX10_put_15 hlocks
  · skip
    have c_2 : (rg 0 x 3) = true := bI_1 c_2
    obtain ⟨j, hj, rfl⟩ := rg_of (m := 3) (by decide) c_2
    have clj : (nI j).toNatClampNeg = j := clN (by omega)
    refine lv_iload_n hx hb dX10_put_7 rfl (lv_at hl 2 rfl) ?_
    refine vp_callSi (va_Run.run (va_runSN (As := [.int y]) (rest := []) hF (m_X12_isSlot l9 D k y ) ⟨va_cnB 1 hts gX10_put_X12_isSlot_n26 rfl rfl rfl (hN (.methodLinkNest RX10 26 yX12_isSlot RX12) (by decide +kernel)) (hts (.initialized RX12) (by decide +kernel)) (by decide +kernel) ⟨Nat.le_of_ble_eq_true rfl, Nat.le_of_ble_eq_true rfl⟩, hts (.static yX12_isSlot) (by decide +kernel), trivial⟩ (rPreS hK hN hP [] rfl) rfl rfl hl.1 rfl (lv_room (Nat.le_of_ble_eq_true rfl)) dX10_put_8 ⟨Nat.zero_le _, Nat.zero_le _⟩)) (fun r_4 hr_4 => ?_)
    subst hr_4
    refine lv_if_ne (tgt := 16) hx hb dX10_put_11 (by decide) (fun c_5 => ?_) (fun c_5 => ?_)
    · skip
      have c_5 : (rg 0 y 2) = true := bI_1 c_5
      obtain ⟨i, hi, rfl⟩ := rg_of (m := 2) (by decide) c_5
      have cli : (nI i).toNatClampNeg = i := clN (by omega)
      refine lv_iload_n hx hb dX10_put_16 rfl (lv_at hl 3 rfl) ?_
      refine lv_bipush (v := 113) hx hb dX10_put_17 (by decide) ?_
      refine lv_icmp_eq (tgt := 31) hx hb dX10_put_19 (by decide) (fun c_6 => ?_) (fun c_6 => ?_)
      · skip
        refine lv_aload_n hx hb dX10_put_31 rfl (lv_at hl 0 rfl) ?_
        refine va_get (D := D) (ci := 8) (v := .ref (q 2)) (C := RX10) (T := TX10) (N := 2) hx hb hts kc_RX10 hown hK hP 0 rfl rfl 1 (by decide) k_fieldLink_15 (fun _ h9 => h9) rfl dX10_put_32 ?_
        refine lv_iload_n hx hb dX10_put_35 rfl (lv_at hl 1 rfl) ?_
        refine lv_iconst (v := 3) hx hb dX10_put_36 (by decide) ?_
        refine ni_mul hx hb j 3 dX10_put_37 ?_
        refine lv_iload_n hx hb dX10_put_38 rfl (lv_at hl 2 rfl) ?_
        refine ni_add hx hb (j * 3) i dX10_put_39 ?_
        refine ca_ld hx hb hK hP 2 rfl ((j * 3) + i) (by omega) (by decide) dX10_put_40 ?_
        refine lv_bipush (v := 46) hx hb dX10_put_41 (by decide) ?_
        refine lv_icmp_eq (tgt := 49) hx hb dX10_put_43 (by decide) (fun c_7 => ?_) (fun c_7 => ?_)
        · skip
          refine lv_aload_n hx hb dX10_put_49 rfl (lv_at hl 0 rfl) ?_
          refine lv_iload_n hx hb dX10_put_50 rfl (lv_at hl 1 rfl) ?_
          refine lv_iload_n hx hb dX10_put_51 rfl (lv_at hl 3 rfl) ?_
          refine vp_callSi (W.runV (As := [.int (nI j), .int z]) (rest := []) hF (m_X10_canHold l9 D k q kd rk j z (by omega)) (cwV 2 hts gX10_put_X10_canHold rfl rfl rfl (by decide +kernel) ⟨Nat.le_of_ble_eq_true rfl, Nat.le_of_ble_eq_true rfl⟩) (rPreV hK hN hP [0, 1, 2] rfl 0 8 rfl rfl) rfl rfl hl.1 rfl (lv_room (Nat.le_of_ble_eq_true rfl)) dX10_put_52 ⟨Nat.zero_le _, Nat.zero_le _⟩) (fun r_8 hr_8 => ?_)
          subst hr_8
          refine lv_if_ne (tgt := 61) hx hb dX10_put_55 (by decide) (fun c_9 => ?_) (fun c_9 => ?_)
          · skip
            have c_9 : (chd kd j z) = true := bI_1 c_9
            refine lv_aload_n hx hb dX10_put_61 rfl (lv_at hl 0 rfl) ?_
            refine va_get (D := D) (ci := 8) (v := .ref (q 2)) (C := RX10) (T := TX10) (N := 2) hx hb hts kc_RX10 hown hK hP 0 rfl rfl 1 (by decide) k_fieldLink_15 (fun _ h9 => h9) rfl dX10_put_62 ?_
            refine lv_iload_n hx hb dX10_put_65 rfl (lv_at hl 1 rfl) ?_
            refine lv_iconst (v := 3) hx hb dX10_put_66 (by decide) ?_
            refine ni_mul hx hb j 3 dX10_put_67 ?_
            refine lv_iload_n hx hb dX10_put_68 rfl (lv_at hl 2 rfl) ?_
            refine ni_add hx hb (j * 3) i dX10_put_69 ?_
            refine lv_iload_n hx hb dX10_put_70 rfl (lv_at hl 3 rfl) ?_
            refine ca_st hx hb hK hP hD hS 2 rfl ((j * 3) + i) (by omega) (by decide) hz (bRacks k q kd (upd rk ((j * 3) + i) z)) rfl dX10_put_71 (fun H locs hP hD hS => ?_)
            refine lv_aload_n hx hb dX10_put_72 rfl (lv_at hl 0 rfl) ?_
            refine lv_iload_n hx hb dX10_put_73 rfl (lv_at hl 1 rfl) ?_
            refine vp_callSi (W.runV (As := [.int (nI j)]) (rest := []) hF (m_X10_depth l9 D k q kd (upd rk ((j * 3) + i) z) j (by omega)) (cwV 1 hts gX10_put_X10_depth rfl rfl rfl (by decide +kernel) ⟨Nat.le_of_ble_eq_true rfl, Nat.le_of_ble_eq_true rfl⟩) (rPreV hK hN hP [0, 1, 2] rfl 0 8 rfl rfl) rfl rfl hl.1 rfl (lv_room (Nat.le_of_ble_eq_true rfl)) dX10_put_74 ⟨Nat.zero_le _, Nat.zero_le _⟩) (fun r_10 hr_10 => ?_)
            subst hr_10
            have e_11 : (upd rk ((j * 3) + i) z : Nat → Int32) = (opPut kd rk (nI j) (nI i) z).2 := by first | (with_reducible rfl) | ((try simp only [opPut, clj, cli]); (repeat (first | rw [if_pos (by first | assumption | exact ⟨by assumption, by assumption⟩ | exact Or.inl (by assumption) | exact Or.inr (by assumption) | exact Or.inr (Or.inl (by assumption)) | exact Or.inr (Or.inr (by assumption)) | (simp only [Int32.lt_iff_toInt_lt, Int32.le_iff_toInt_le, i32_0, i32_1, i32_2, i32_3, i32_4, i32_9, i32_10, i32_99, i32_100, i32_1000, i32_9999] at *; omega))] | rw [if_neg (by first | assumption | (rintro (h9 | h9 | h9) <;> contradiction) | (rintro (h9 | h9) <;> contradiction) | (intro h9; exact Bool.noConfusion (Eq.trans (c := false) h9.symm (by assumption))) | (rintro ⟨h8, h9⟩; exact Bool.noConfusion (Eq.trans (c := false) h8.symm (by assumption))) | (rintro ⟨h8, h9⟩; exact Bool.noConfusion (Eq.trans (c := false) h9.symm (by assumption))) | (simp only [Int32.lt_iff_toInt_lt, Int32.le_iff_toInt_le, i32_0, i32_1, i32_2, i32_3, i32_4, i32_9, i32_10, i32_99, i32_100, i32_1000, i32_9999] at *; omega))])); (try rfl))
            have hP := Eq.mp (congrArg (fun z9 => va_P D vwCl (bRacks k q kd z9) H) e_11) hP
            have hD := Eq.mp (congrArg (fun z9 => va_D A (bRacks k q kd z9)) e_11) hD
            exact W.iret (v := dpS (upd rk ((j * 3) + i) z) j) hx hb hr (fun t9 ht hW => ⟨⟨_, (), rfl, (by (try simp only [opPut, clj, cli]); (repeat (first | rw [if_pos (by first | assumption | exact ⟨by assumption, by assumption⟩ | exact Or.inl (by assumption) | exact Or.inr (by assumption) | exact Or.inr (Or.inl (by assumption)) | exact Or.inr (Or.inr (by assumption)) | (simp only [Int32.lt_iff_toInt_lt, Int32.le_iff_toInt_le, i32_0, i32_1, i32_2, i32_3, i32_4, i32_9, i32_10, i32_99, i32_100, i32_1000, i32_9999] at *; omega))] | rw [if_neg (by first | assumption | (rintro (h9 | h9 | h9) <;> contradiction) | (rintro (h9 | h9) <;> contradiction) | (intro h9; exact Bool.noConfusion (Eq.trans (c := false) h9.symm (by assumption))) | (rintro ⟨h8, h9⟩; exact Bool.noConfusion (Eq.trans (c := false) h8.symm (by assumption))) | (rintro ⟨h8, h9⟩; exact Bool.noConfusion (Eq.trans (c := false) h9.symm (by assumption))) | (simp only [Int32.lt_iff_toInt_lt, Int32.le_iff_toInt_le, i32_0, i32_1, i32_2, i32_3, i32_4, i32_9, i32_10, i32_99, i32_100, i32_1000, i32_9999] at *; omega))])); (try rfl)), ⟨by rw [ht]; exact hP, va_K.moved hW.alike hK, hD⟩⟩, hS.F ht⟩) hS.2.2 dX10_put_77 hlocks
          · skip
            have c_9 : (chd kd j z) = false := bI_0 c_9
            refine lv_bipush (v := (-4)) hx hb dX10_put_58 (by decide) ?_
            have e_12 : (rk : Nat → Int32) = (opPut kd rk (nI j) (nI i) z).2 := by first | (with_reducible rfl) | ((try simp only [opPut, clj, cli]); (repeat (first | rw [if_pos (by first | assumption | exact ⟨by assumption, by assumption⟩ | exact Or.inl (by assumption) | exact Or.inr (by assumption) | exact Or.inr (Or.inl (by assumption)) | exact Or.inr (Or.inr (by assumption)) | (simp only [Int32.lt_iff_toInt_lt, Int32.le_iff_toInt_le, i32_0, i32_1, i32_2, i32_3, i32_4, i32_9, i32_10, i32_99, i32_100, i32_1000, i32_9999] at *; omega))] | rw [if_neg (by first | assumption | (rintro (h9 | h9 | h9) <;> contradiction) | (rintro (h9 | h9) <;> contradiction) | (intro h9; exact Bool.noConfusion (Eq.trans (c := false) h9.symm (by assumption))) | (rintro ⟨h8, h9⟩; exact Bool.noConfusion (Eq.trans (c := false) h8.symm (by assumption))) | (rintro ⟨h8, h9⟩; exact Bool.noConfusion (Eq.trans (c := false) h9.symm (by assumption))) | (simp only [Int32.lt_iff_toInt_lt, Int32.le_iff_toInt_le, i32_0, i32_1, i32_2, i32_3, i32_4, i32_9, i32_10, i32_99, i32_100, i32_1000, i32_9999] at *; omega))])); (try rfl))
            have hP := Eq.mp (congrArg (fun z9 => va_P D vwCl (bRacks k q kd z9) H) e_12) hP
            have hD := Eq.mp (congrArg (fun z9 => va_D A (bRacks k q kd z9)) e_12) hD
            exact W.iret (v := (-4)) hx hb hr (fun t9 ht hW => ⟨⟨_, (), rfl, (by (try simp only [opPut, clj, cli]); (repeat (first | rw [if_pos (by first | assumption | exact ⟨by assumption, by assumption⟩ | exact Or.inl (by assumption) | exact Or.inr (by assumption) | exact Or.inr (Or.inl (by assumption)) | exact Or.inr (Or.inr (by assumption)) | (simp only [Int32.lt_iff_toInt_lt, Int32.le_iff_toInt_le, i32_0, i32_1, i32_2, i32_3, i32_4, i32_9, i32_10, i32_99, i32_100, i32_1000, i32_9999] at *; omega))] | rw [if_neg (by first | assumption | (rintro (h9 | h9 | h9) <;> contradiction) | (rintro (h9 | h9) <;> contradiction) | (intro h9; exact Bool.noConfusion (Eq.trans (c := false) h9.symm (by assumption))) | (rintro ⟨h8, h9⟩; exact Bool.noConfusion (Eq.trans (c := false) h8.symm (by assumption))) | (rintro ⟨h8, h9⟩; exact Bool.noConfusion (Eq.trans (c := false) h9.symm (by assumption))) | (simp only [Int32.lt_iff_toInt_lt, Int32.le_iff_toInt_le, i32_0, i32_1, i32_2, i32_3, i32_4, i32_9, i32_10, i32_99, i32_100, i32_1000, i32_9999] at *; omega))])); (try rfl)), ⟨by rw [ht]; exact hP, va_K.moved hW.alike hK, hD⟩⟩, hS.F ht⟩) hS.2.2 dX10_put_60 hlocks
        · skip
          refine lv_bipush (v := (-3)) hx hb dX10_put_46 (by decide) ?_
          have e_13 : (rk : Nat → Int32) = (opPut kd rk (nI j) (nI i) z).2 := by first | (with_reducible rfl) | ((try simp only [opPut, clj, cli]); (repeat (first | rw [if_pos (by first | assumption | exact ⟨by assumption, by assumption⟩ | exact Or.inl (by assumption) | exact Or.inr (by assumption) | exact Or.inr (Or.inl (by assumption)) | exact Or.inr (Or.inr (by assumption)) | (simp only [Int32.lt_iff_toInt_lt, Int32.le_iff_toInt_le, i32_0, i32_1, i32_2, i32_3, i32_4, i32_9, i32_10, i32_99, i32_100, i32_1000, i32_9999] at *; omega))] | rw [if_neg (by first | assumption | (rintro (h9 | h9 | h9) <;> contradiction) | (rintro (h9 | h9) <;> contradiction) | (intro h9; exact Bool.noConfusion (Eq.trans (c := false) h9.symm (by assumption))) | (rintro ⟨h8, h9⟩; exact Bool.noConfusion (Eq.trans (c := false) h8.symm (by assumption))) | (rintro ⟨h8, h9⟩; exact Bool.noConfusion (Eq.trans (c := false) h9.symm (by assumption))) | (simp only [Int32.lt_iff_toInt_lt, Int32.le_iff_toInt_le, i32_0, i32_1, i32_2, i32_3, i32_4, i32_9, i32_10, i32_99, i32_100, i32_1000, i32_9999] at *; omega))])); (try rfl))
          have hP := Eq.mp (congrArg (fun z9 => va_P D vwCl (bRacks k q kd z9) H) e_13) hP
          have hD := Eq.mp (congrArg (fun z9 => va_D A (bRacks k q kd z9)) e_13) hD
          exact W.iret (v := (-3)) hx hb hr (fun t9 ht hW => ⟨⟨_, (), rfl, (by (try simp only [opPut, clj, cli]); (repeat (first | rw [if_pos (by first | assumption | exact ⟨by assumption, by assumption⟩ | exact Or.inl (by assumption) | exact Or.inr (by assumption) | exact Or.inr (Or.inl (by assumption)) | exact Or.inr (Or.inr (by assumption)) | (simp only [Int32.lt_iff_toInt_lt, Int32.le_iff_toInt_le, i32_0, i32_1, i32_2, i32_3, i32_4, i32_9, i32_10, i32_99, i32_100, i32_1000, i32_9999] at *; omega))] | rw [if_neg (by first | assumption | (rintro (h9 | h9 | h9) <;> contradiction) | (rintro (h9 | h9) <;> contradiction) | (intro h9; exact Bool.noConfusion (Eq.trans (c := false) h9.symm (by assumption))) | (rintro ⟨h8, h9⟩; exact Bool.noConfusion (Eq.trans (c := false) h8.symm (by assumption))) | (rintro ⟨h8, h9⟩; exact Bool.noConfusion (Eq.trans (c := false) h9.symm (by assumption))) | (simp only [Int32.lt_iff_toInt_lt, Int32.le_iff_toInt_le, i32_0, i32_1, i32_2, i32_3, i32_4, i32_9, i32_10, i32_99, i32_100, i32_1000, i32_9999] at *; omega))])); (try rfl)), ⟨by rw [ht]; exact hP, va_K.moved hW.alike hK, hD⟩⟩, hS.F ht⟩) hS.2.2 dX10_put_48 hlocks
      · skip
        refine lv_iload_n hx hb dX10_put_22 rfl (lv_at hl 3 rfl) ?_
        refine lv_bipush (v := 111) hx hb dX10_put_23 (by decide) ?_
        refine lv_icmp_eq (tgt := 31) hx hb dX10_put_25 (by decide) (fun c_14 => ?_) (fun c_14 => ?_)
        · skip
          refine lv_aload_n hx hb dX10_put_31 rfl (lv_at hl 0 rfl) ?_
          refine va_get (D := D) (ci := 8) (v := .ref (q 2)) (C := RX10) (T := TX10) (N := 2) hx hb hts kc_RX10 hown hK hP 0 rfl rfl 1 (by decide) k_fieldLink_15 (fun _ h9 => h9) rfl dX10_put_32 ?_
          refine lv_iload_n hx hb dX10_put_35 rfl (lv_at hl 1 rfl) ?_
          refine lv_iconst (v := 3) hx hb dX10_put_36 (by decide) ?_
          refine ni_mul hx hb j 3 dX10_put_37 ?_
          refine lv_iload_n hx hb dX10_put_38 rfl (lv_at hl 2 rfl) ?_
          refine ni_add hx hb (j * 3) i dX10_put_39 ?_
          refine ca_ld hx hb hK hP 2 rfl ((j * 3) + i) (by omega) (by decide) dX10_put_40 ?_
          refine lv_bipush (v := 46) hx hb dX10_put_41 (by decide) ?_
          refine lv_icmp_eq (tgt := 49) hx hb dX10_put_43 (by decide) (fun c_15 => ?_) (fun c_15 => ?_)
          · skip
            refine lv_aload_n hx hb dX10_put_49 rfl (lv_at hl 0 rfl) ?_
            refine lv_iload_n hx hb dX10_put_50 rfl (lv_at hl 1 rfl) ?_
            refine lv_iload_n hx hb dX10_put_51 rfl (lv_at hl 3 rfl) ?_
            refine vp_callSi (W.runV (As := [.int (nI j), .int z]) (rest := []) hF (m_X10_canHold l9 D k q kd rk j z (by omega)) (cwV 2 hts gX10_put_X10_canHold rfl rfl rfl (by decide +kernel) ⟨Nat.le_of_ble_eq_true rfl, Nat.le_of_ble_eq_true rfl⟩) (rPreV hK hN hP [0, 1, 2] rfl 0 8 rfl rfl) rfl rfl hl.1 rfl (lv_room (Nat.le_of_ble_eq_true rfl)) dX10_put_52 ⟨Nat.zero_le _, Nat.zero_le _⟩) (fun r_16 hr_16 => ?_)
            subst hr_16
            refine lv_if_ne (tgt := 61) hx hb dX10_put_55 (by decide) (fun c_17 => ?_) (fun c_17 => ?_)
            · skip
              have c_17 : (chd kd j z) = true := bI_1 c_17
              refine lv_aload_n hx hb dX10_put_61 rfl (lv_at hl 0 rfl) ?_
              refine va_get (D := D) (ci := 8) (v := .ref (q 2)) (C := RX10) (T := TX10) (N := 2) hx hb hts kc_RX10 hown hK hP 0 rfl rfl 1 (by decide) k_fieldLink_15 (fun _ h9 => h9) rfl dX10_put_62 ?_
              refine lv_iload_n hx hb dX10_put_65 rfl (lv_at hl 1 rfl) ?_
              refine lv_iconst (v := 3) hx hb dX10_put_66 (by decide) ?_
              refine ni_mul hx hb j 3 dX10_put_67 ?_
              refine lv_iload_n hx hb dX10_put_68 rfl (lv_at hl 2 rfl) ?_
              refine ni_add hx hb (j * 3) i dX10_put_69 ?_
              refine lv_iload_n hx hb dX10_put_70 rfl (lv_at hl 3 rfl) ?_
              refine ca_st hx hb hK hP hD hS 2 rfl ((j * 3) + i) (by omega) (by decide) hz (bRacks k q kd (upd rk ((j * 3) + i) z)) rfl dX10_put_71 (fun H locs hP hD hS => ?_)
              refine lv_aload_n hx hb dX10_put_72 rfl (lv_at hl 0 rfl) ?_
              refine lv_iload_n hx hb dX10_put_73 rfl (lv_at hl 1 rfl) ?_
              refine vp_callSi (W.runV (As := [.int (nI j)]) (rest := []) hF (m_X10_depth l9 D k q kd (upd rk ((j * 3) + i) z) j (by omega)) (cwV 1 hts gX10_put_X10_depth rfl rfl rfl (by decide +kernel) ⟨Nat.le_of_ble_eq_true rfl, Nat.le_of_ble_eq_true rfl⟩) (rPreV hK hN hP [0, 1, 2] rfl 0 8 rfl rfl) rfl rfl hl.1 rfl (lv_room (Nat.le_of_ble_eq_true rfl)) dX10_put_74 ⟨Nat.zero_le _, Nat.zero_le _⟩) (fun r_18 hr_18 => ?_)
              subst hr_18
              have e_19 : (upd rk ((j * 3) + i) z : Nat → Int32) = (opPut kd rk (nI j) (nI i) z).2 := by first | (with_reducible rfl) | ((try simp only [opPut, clj, cli]); (repeat (first | rw [if_pos (by first | assumption | exact ⟨by assumption, by assumption⟩ | exact Or.inl (by assumption) | exact Or.inr (by assumption) | exact Or.inr (Or.inl (by assumption)) | exact Or.inr (Or.inr (by assumption)) | (simp only [Int32.lt_iff_toInt_lt, Int32.le_iff_toInt_le, i32_0, i32_1, i32_2, i32_3, i32_4, i32_9, i32_10, i32_99, i32_100, i32_1000, i32_9999] at *; omega))] | rw [if_neg (by first | assumption | (rintro (h9 | h9 | h9) <;> contradiction) | (rintro (h9 | h9) <;> contradiction) | (intro h9; exact Bool.noConfusion (Eq.trans (c := false) h9.symm (by assumption))) | (rintro ⟨h8, h9⟩; exact Bool.noConfusion (Eq.trans (c := false) h8.symm (by assumption))) | (rintro ⟨h8, h9⟩; exact Bool.noConfusion (Eq.trans (c := false) h9.symm (by assumption))) | (simp only [Int32.lt_iff_toInt_lt, Int32.le_iff_toInt_le, i32_0, i32_1, i32_2, i32_3, i32_4, i32_9, i32_10, i32_99, i32_100, i32_1000, i32_9999] at *; omega))])); (try rfl))
              have hP := Eq.mp (congrArg (fun z9 => va_P D vwCl (bRacks k q kd z9) H) e_19) hP
              have hD := Eq.mp (congrArg (fun z9 => va_D A (bRacks k q kd z9)) e_19) hD
              exact W.iret (v := dpS (upd rk ((j * 3) + i) z) j) hx hb hr (fun t9 ht hW => ⟨⟨_, (), rfl, (by (try simp only [opPut, clj, cli]); (repeat (first | rw [if_pos (by first | assumption | exact ⟨by assumption, by assumption⟩ | exact Or.inl (by assumption) | exact Or.inr (by assumption) | exact Or.inr (Or.inl (by assumption)) | exact Or.inr (Or.inr (by assumption)) | (simp only [Int32.lt_iff_toInt_lt, Int32.le_iff_toInt_le, i32_0, i32_1, i32_2, i32_3, i32_4, i32_9, i32_10, i32_99, i32_100, i32_1000, i32_9999] at *; omega))] | rw [if_neg (by first | assumption | (rintro (h9 | h9 | h9) <;> contradiction) | (rintro (h9 | h9) <;> contradiction) | (intro h9; exact Bool.noConfusion (Eq.trans (c := false) h9.symm (by assumption))) | (rintro ⟨h8, h9⟩; exact Bool.noConfusion (Eq.trans (c := false) h8.symm (by assumption))) | (rintro ⟨h8, h9⟩; exact Bool.noConfusion (Eq.trans (c := false) h9.symm (by assumption))) | (simp only [Int32.lt_iff_toInt_lt, Int32.le_iff_toInt_le, i32_0, i32_1, i32_2, i32_3, i32_4, i32_9, i32_10, i32_99, i32_100, i32_1000, i32_9999] at *; omega))])); (try rfl)), ⟨by rw [ht]; exact hP, va_K.moved hW.alike hK, hD⟩⟩, hS.F ht⟩) hS.2.2 dX10_put_77 hlocks
            · skip
              have c_17 : (chd kd j z) = false := bI_0 c_17
              refine lv_bipush (v := (-4)) hx hb dX10_put_58 (by decide) ?_
              have e_20 : (rk : Nat → Int32) = (opPut kd rk (nI j) (nI i) z).2 := by first | (with_reducible rfl) | ((try simp only [opPut, clj, cli]); (repeat (first | rw [if_pos (by first | assumption | exact ⟨by assumption, by assumption⟩ | exact Or.inl (by assumption) | exact Or.inr (by assumption) | exact Or.inr (Or.inl (by assumption)) | exact Or.inr (Or.inr (by assumption)) | (simp only [Int32.lt_iff_toInt_lt, Int32.le_iff_toInt_le, i32_0, i32_1, i32_2, i32_3, i32_4, i32_9, i32_10, i32_99, i32_100, i32_1000, i32_9999] at *; omega))] | rw [if_neg (by first | assumption | (rintro (h9 | h9 | h9) <;> contradiction) | (rintro (h9 | h9) <;> contradiction) | (intro h9; exact Bool.noConfusion (Eq.trans (c := false) h9.symm (by assumption))) | (rintro ⟨h8, h9⟩; exact Bool.noConfusion (Eq.trans (c := false) h8.symm (by assumption))) | (rintro ⟨h8, h9⟩; exact Bool.noConfusion (Eq.trans (c := false) h9.symm (by assumption))) | (simp only [Int32.lt_iff_toInt_lt, Int32.le_iff_toInt_le, i32_0, i32_1, i32_2, i32_3, i32_4, i32_9, i32_10, i32_99, i32_100, i32_1000, i32_9999] at *; omega))])); (try rfl))
              have hP := Eq.mp (congrArg (fun z9 => va_P D vwCl (bRacks k q kd z9) H) e_20) hP
              have hD := Eq.mp (congrArg (fun z9 => va_D A (bRacks k q kd z9)) e_20) hD
              exact W.iret (v := (-4)) hx hb hr (fun t9 ht hW => ⟨⟨_, (), rfl, (by (try simp only [opPut, clj, cli]); (repeat (first | rw [if_pos (by first | assumption | exact ⟨by assumption, by assumption⟩ | exact Or.inl (by assumption) | exact Or.inr (by assumption) | exact Or.inr (Or.inl (by assumption)) | exact Or.inr (Or.inr (by assumption)) | (simp only [Int32.lt_iff_toInt_lt, Int32.le_iff_toInt_le, i32_0, i32_1, i32_2, i32_3, i32_4, i32_9, i32_10, i32_99, i32_100, i32_1000, i32_9999] at *; omega))] | rw [if_neg (by first | assumption | (rintro (h9 | h9 | h9) <;> contradiction) | (rintro (h9 | h9) <;> contradiction) | (intro h9; exact Bool.noConfusion (Eq.trans (c := false) h9.symm (by assumption))) | (rintro ⟨h8, h9⟩; exact Bool.noConfusion (Eq.trans (c := false) h8.symm (by assumption))) | (rintro ⟨h8, h9⟩; exact Bool.noConfusion (Eq.trans (c := false) h9.symm (by assumption))) | (simp only [Int32.lt_iff_toInt_lt, Int32.le_iff_toInt_le, i32_0, i32_1, i32_2, i32_3, i32_4, i32_9, i32_10, i32_99, i32_100, i32_1000, i32_9999] at *; omega))])); (try rfl)), ⟨by rw [ht]; exact hP, va_K.moved hW.alike hK, hD⟩⟩, hS.F ht⟩) hS.2.2 dX10_put_60 hlocks
          · skip
            refine lv_bipush (v := (-3)) hx hb dX10_put_46 (by decide) ?_
            have e_21 : (rk : Nat → Int32) = (opPut kd rk (nI j) (nI i) z).2 := by first | (with_reducible rfl) | ((try simp only [opPut, clj, cli]); (repeat (first | rw [if_pos (by first | assumption | exact ⟨by assumption, by assumption⟩ | exact Or.inl (by assumption) | exact Or.inr (by assumption) | exact Or.inr (Or.inl (by assumption)) | exact Or.inr (Or.inr (by assumption)) | (simp only [Int32.lt_iff_toInt_lt, Int32.le_iff_toInt_le, i32_0, i32_1, i32_2, i32_3, i32_4, i32_9, i32_10, i32_99, i32_100, i32_1000, i32_9999] at *; omega))] | rw [if_neg (by first | assumption | (rintro (h9 | h9 | h9) <;> contradiction) | (rintro (h9 | h9) <;> contradiction) | (intro h9; exact Bool.noConfusion (Eq.trans (c := false) h9.symm (by assumption))) | (rintro ⟨h8, h9⟩; exact Bool.noConfusion (Eq.trans (c := false) h8.symm (by assumption))) | (rintro ⟨h8, h9⟩; exact Bool.noConfusion (Eq.trans (c := false) h9.symm (by assumption))) | (simp only [Int32.lt_iff_toInt_lt, Int32.le_iff_toInt_le, i32_0, i32_1, i32_2, i32_3, i32_4, i32_9, i32_10, i32_99, i32_100, i32_1000, i32_9999] at *; omega))])); (try rfl))
            have hP := Eq.mp (congrArg (fun z9 => va_P D vwCl (bRacks k q kd z9) H) e_21) hP
            have hD := Eq.mp (congrArg (fun z9 => va_D A (bRacks k q kd z9)) e_21) hD
            exact W.iret (v := (-3)) hx hb hr (fun t9 ht hW => ⟨⟨_, (), rfl, (by (try simp only [opPut, clj, cli]); (repeat (first | rw [if_pos (by first | assumption | exact ⟨by assumption, by assumption⟩ | exact Or.inl (by assumption) | exact Or.inr (by assumption) | exact Or.inr (Or.inl (by assumption)) | exact Or.inr (Or.inr (by assumption)) | (simp only [Int32.lt_iff_toInt_lt, Int32.le_iff_toInt_le, i32_0, i32_1, i32_2, i32_3, i32_4, i32_9, i32_10, i32_99, i32_100, i32_1000, i32_9999] at *; omega))] | rw [if_neg (by first | assumption | (rintro (h9 | h9 | h9) <;> contradiction) | (rintro (h9 | h9) <;> contradiction) | (intro h9; exact Bool.noConfusion (Eq.trans (c := false) h9.symm (by assumption))) | (rintro ⟨h8, h9⟩; exact Bool.noConfusion (Eq.trans (c := false) h8.symm (by assumption))) | (rintro ⟨h8, h9⟩; exact Bool.noConfusion (Eq.trans (c := false) h9.symm (by assumption))) | (simp only [Int32.lt_iff_toInt_lt, Int32.le_iff_toInt_le, i32_0, i32_1, i32_2, i32_3, i32_4, i32_9, i32_10, i32_99, i32_100, i32_1000, i32_9999] at *; omega))])); (try rfl)), ⟨by rw [ht]; exact hP, va_K.moved hW.alike hK, hD⟩⟩, hS.F ht⟩) hS.2.2 dX10_put_48 hlocks
        · skip
          refine lv_bipush (v := (-2)) hx hb dX10_put_28 (by decide) ?_
          have e_22 : (rk : Nat → Int32) = (opPut kd rk (nI j) (nI i) z).2 := by first | (with_reducible rfl) | ((try simp only [opPut, clj, cli]); (repeat (first | rw [if_pos (by first | assumption | exact ⟨by assumption, by assumption⟩ | exact Or.inl (by assumption) | exact Or.inr (by assumption) | exact Or.inr (Or.inl (by assumption)) | exact Or.inr (Or.inr (by assumption)) | (simp only [Int32.lt_iff_toInt_lt, Int32.le_iff_toInt_le, i32_0, i32_1, i32_2, i32_3, i32_4, i32_9, i32_10, i32_99, i32_100, i32_1000, i32_9999] at *; omega))] | rw [if_neg (by first | assumption | (rintro (h9 | h9 | h9) <;> contradiction) | (rintro (h9 | h9) <;> contradiction) | (intro h9; exact Bool.noConfusion (Eq.trans (c := false) h9.symm (by assumption))) | (rintro ⟨h8, h9⟩; exact Bool.noConfusion (Eq.trans (c := false) h8.symm (by assumption))) | (rintro ⟨h8, h9⟩; exact Bool.noConfusion (Eq.trans (c := false) h9.symm (by assumption))) | (simp only [Int32.lt_iff_toInt_lt, Int32.le_iff_toInt_le, i32_0, i32_1, i32_2, i32_3, i32_4, i32_9, i32_10, i32_99, i32_100, i32_1000, i32_9999] at *; omega))])); (try rfl))
          have hP := Eq.mp (congrArg (fun z9 => va_P D vwCl (bRacks k q kd z9) H) e_22) hP
          have hD := Eq.mp (congrArg (fun z9 => va_D A (bRacks k q kd z9)) e_22) hD
          exact W.iret (v := (-2)) hx hb hr (fun t9 ht hW => ⟨⟨_, (), rfl, (by (try simp only [opPut, clj, cli]); (repeat (first | rw [if_pos (by first | assumption | exact ⟨by assumption, by assumption⟩ | exact Or.inl (by assumption) | exact Or.inr (by assumption) | exact Or.inr (Or.inl (by assumption)) | exact Or.inr (Or.inr (by assumption)) | (simp only [Int32.lt_iff_toInt_lt, Int32.le_iff_toInt_le, i32_0, i32_1, i32_2, i32_3, i32_4, i32_9, i32_10, i32_99, i32_100, i32_1000, i32_9999] at *; omega))] | rw [if_neg (by first | assumption | (rintro (h9 | h9 | h9) <;> contradiction) | (rintro (h9 | h9) <;> contradiction) | (intro h9; exact Bool.noConfusion (Eq.trans (c := false) h9.symm (by assumption))) | (rintro ⟨h8, h9⟩; exact Bool.noConfusion (Eq.trans (c := false) h8.symm (by assumption))) | (rintro ⟨h8, h9⟩; exact Bool.noConfusion (Eq.trans (c := false) h9.symm (by assumption))) | (simp only [Int32.lt_iff_toInt_lt, Int32.le_iff_toInt_le, i32_0, i32_1, i32_2, i32_3, i32_4, i32_9, i32_10, i32_99, i32_100, i32_1000, i32_9999] at *; omega))])); (try rfl)), ⟨by rw [ht]; exact hP, va_K.moved hW.alike hK, hD⟩⟩, hS.F ht⟩) hS.2.2 dX10_put_30 hlocks
    · skip
      have c_5 : (rg 0 y 2) = false := bI_0 c_5
      refine lv_iconst (v := (-1)) hx hb dX10_put_14 (by decide) ?_
      have e_23 : (rk : Nat → Int32) = (opPut kd rk (nI j) y z).2 := by first | (with_reducible rfl) | ((try simp only [opPut, clj]); (repeat (first | rw [if_pos (by first | assumption | exact ⟨by assumption, by assumption⟩ | exact Or.inl (by assumption) | exact Or.inr (by assumption) | exact Or.inr (Or.inl (by assumption)) | exact Or.inr (Or.inr (by assumption)) | (simp only [Int32.lt_iff_toInt_lt, Int32.le_iff_toInt_le, i32_0, i32_1, i32_2, i32_3, i32_4, i32_9, i32_10, i32_99, i32_100, i32_1000, i32_9999] at *; omega))] | rw [if_neg (by first | assumption | (rintro (h9 | h9 | h9) <;> contradiction) | (rintro (h9 | h9) <;> contradiction) | (intro h9; exact Bool.noConfusion (Eq.trans (c := false) h9.symm (by assumption))) | (rintro ⟨h8, h9⟩; exact Bool.noConfusion (Eq.trans (c := false) h8.symm (by assumption))) | (rintro ⟨h8, h9⟩; exact Bool.noConfusion (Eq.trans (c := false) h9.symm (by assumption))) | (simp only [Int32.lt_iff_toInt_lt, Int32.le_iff_toInt_le, i32_0, i32_1, i32_2, i32_3, i32_4, i32_9, i32_10, i32_99, i32_100, i32_1000, i32_9999] at *; omega))])); (try rfl))
      have hP := Eq.mp (congrArg (fun z9 => va_P D vwCl (bRacks k q kd z9) H) e_23) hP
      have hD := Eq.mp (congrArg (fun z9 => va_D A (bRacks k q kd z9)) e_23) hD
      exact W.iret (v := (-1)) hx hb hr (fun t9 ht hW => ⟨⟨_, (), rfl, (by (try simp only [opPut, clj]); (repeat (first | rw [if_pos (by first | assumption | exact ⟨by assumption, by assumption⟩ | exact Or.inl (by assumption) | exact Or.inr (by assumption) | exact Or.inr (Or.inl (by assumption)) | exact Or.inr (Or.inr (by assumption)) | (simp only [Int32.lt_iff_toInt_lt, Int32.le_iff_toInt_le, i32_0, i32_1, i32_2, i32_3, i32_4, i32_9, i32_10, i32_99, i32_100, i32_1000, i32_9999] at *; omega))] | rw [if_neg (by first | assumption | (rintro (h9 | h9 | h9) <;> contradiction) | (rintro (h9 | h9) <;> contradiction) | (intro h9; exact Bool.noConfusion (Eq.trans (c := false) h9.symm (by assumption))) | (rintro ⟨h8, h9⟩; exact Bool.noConfusion (Eq.trans (c := false) h8.symm (by assumption))) | (rintro ⟨h8, h9⟩; exact Bool.noConfusion (Eq.trans (c := false) h9.symm (by assumption))) | (simp only [Int32.lt_iff_toInt_lt, Int32.le_iff_toInt_le, i32_0, i32_1, i32_2, i32_3, i32_4, i32_9, i32_10, i32_99, i32_100, i32_1000, i32_9999] at *; omega))])); (try rfl)), ⟨by rw [ht]; exact hP, va_K.moved hW.alike hK, hD⟩⟩, hS.F ht⟩) hS.2.2 dX10_put_15 hlocks

set_option maxHeartbeats 4000000 in
set_option maxRecDepth 100000 in
theorem m_X10_take (l9 : Launch) (D : va_G) (k : Nat → ClassId) (sz : Nat) (q : Nat → Nat) (kd rk : Nat → Int32) (x y : Int32) : Met l9 yX10_take wsX10_take ({ frames := 1, cells := 0, slots := 0, locals := 20 }) (WPc D k [.ref (q 0), .int x, .int y] (bRacks k q kd rk) sz) (WI D k (bRacks k q kd ((opTake rk x y).2)) ((opTake rk x y).1) (va_A (bRacks k q kd rk) sz)) 0 0 (va_A (bRacks k q kd rk) sz) := by
  refine wMet (y := yX10_take) (cc := cX10_take) (maxL := 4) (ret := (some .int)) (Qc := fun A => WI D k (bRacks k q kd ((opTake rk x y).2)) ((opTake rk x y).1) A) [.ref (q 0), .int x, .int y] (by decide) rfl (Nat.le_of_ble_eq_true rfl) ?_
  intro p9 e9 s9 m9 bl9 me9 c9 ls A H hF hr hlocks hP hK hN hD hA hS hl hin
  have hl : lv_has ls 4 [(0, .ref (q 0)), (1, .int x), (2, .int y)] := hl
  obtain ⟨hx, hb, hml, hown, hts⟩ := id hF
  have k_fieldLink_15 : (Cond.fieldLink RX10 15 "OpinionReactor$Racks" "remarks" "[C").before _ s9 = true := hts (.fieldLink RX10 15 "OpinionReactor$Racks" "remarks" "[C") (by decide +kernel)
  have kc_RX10 : ∀ w ∈ u_ws RX10 TX10 2, w ∈ wsX10_take := by decide +kernel
  refine lv_iload_n hx hb dX10_take_0 rfl (lv_at hl 1 rfl) ?_
  refine vp_callSi (va_Run.run (va_runSN (As := [.int x]) (rest := []) hF (m_X12_isLayer l9 D k x ) ⟨va_cnB 1 hts gX10_take_X12_isLayer_n18 rfl rfl rfl (hN (.methodLinkNest RX10 18 yX12_isLayer RX12) (by decide +kernel)) (hts (.initialized RX12) (by decide +kernel)) (by decide +kernel) ⟨Nat.le_of_ble_eq_true rfl, Nat.le_of_ble_eq_true rfl⟩, hts (.static yX12_isLayer) (by decide +kernel), trivial⟩ (rPreS hK hN hP [] rfl) rfl rfl hl.1 rfl (lv_room (Nat.le_of_ble_eq_true rfl)) dX10_take_1 ⟨Nat.zero_le _, Nat.zero_le _⟩)) (fun r_1 hr_1 => ?_)
  subst hr_1
  refine lv_if_eq (tgt := 14) hx hb dX10_take_4 (by decide) (fun c_2 => ?_) (fun c_2 => ?_)
  · skip
    have c_2 : (rg 0 x 3) = false := bI_0 c_2
    refine lv_iconst (v := (-1)) hx hb dX10_take_14 (by decide) ?_
    have e_3 : (rk : Nat → Int32) = (opTake rk x y).2 := by first | (with_reducible rfl) | ((try simp only [opTake]); (repeat (first | rw [if_pos (by first | assumption | exact ⟨by assumption, by assumption⟩ | exact Or.inl (by assumption) | exact Or.inr (by assumption) | exact Or.inr (Or.inl (by assumption)) | exact Or.inr (Or.inr (by assumption)) | (simp only [Int32.lt_iff_toInt_lt, Int32.le_iff_toInt_le, i32_0, i32_1, i32_2, i32_3, i32_4, i32_9, i32_10, i32_99, i32_100, i32_1000, i32_9999] at *; omega))] | rw [if_neg (by first | assumption | (rintro (h9 | h9 | h9) <;> contradiction) | (rintro (h9 | h9) <;> contradiction) | (intro h9; exact Bool.noConfusion (Eq.trans (c := false) h9.symm (by assumption))) | (rintro ⟨h8, h9⟩; exact Bool.noConfusion (Eq.trans (c := false) h8.symm (by assumption))) | (rintro ⟨h8, h9⟩; exact Bool.noConfusion (Eq.trans (c := false) h9.symm (by assumption))) | (simp only [Int32.lt_iff_toInt_lt, Int32.le_iff_toInt_le, i32_0, i32_1, i32_2, i32_3, i32_4, i32_9, i32_10, i32_99, i32_100, i32_1000, i32_9999] at *; omega))])); (try rfl))
    have hP := Eq.mp (congrArg (fun z9 => va_P D vwCl (bRacks k q kd z9) H) e_3) hP
    have hD := Eq.mp (congrArg (fun z9 => va_D A (bRacks k q kd z9)) e_3) hD
    exact W.iret (v := (-1)) hx hb hr (fun t9 ht hW => ⟨⟨_, (), rfl, (by (try simp only [opTake]); (repeat (first | rw [if_pos (by first | assumption | exact ⟨by assumption, by assumption⟩ | exact Or.inl (by assumption) | exact Or.inr (by assumption) | exact Or.inr (Or.inl (by assumption)) | exact Or.inr (Or.inr (by assumption)) | (simp only [Int32.lt_iff_toInt_lt, Int32.le_iff_toInt_le, i32_0, i32_1, i32_2, i32_3, i32_4, i32_9, i32_10, i32_99, i32_100, i32_1000, i32_9999] at *; omega))] | rw [if_neg (by first | assumption | (rintro (h9 | h9 | h9) <;> contradiction) | (rintro (h9 | h9) <;> contradiction) | (intro h9; exact Bool.noConfusion (Eq.trans (c := false) h9.symm (by assumption))) | (rintro ⟨h8, h9⟩; exact Bool.noConfusion (Eq.trans (c := false) h8.symm (by assumption))) | (rintro ⟨h8, h9⟩; exact Bool.noConfusion (Eq.trans (c := false) h9.symm (by assumption))) | (simp only [Int32.lt_iff_toInt_lt, Int32.le_iff_toInt_le, i32_0, i32_1, i32_2, i32_3, i32_4, i32_9, i32_10, i32_99, i32_100, i32_1000, i32_9999] at *; omega))])); (try rfl)), ⟨by rw [ht]; exact hP, va_K.moved hW.alike hK, hD⟩⟩, hS.F ht⟩) hS.2.2 dX10_take_15 hlocks
  · skip
    have c_2 : (rg 0 x 3) = true := bI_1 c_2
    obtain ⟨j, hj, rfl⟩ := rg_of (m := 3) (by decide) c_2
    have clj : (nI j).toNatClampNeg = j := clN (by omega)
    refine lv_iload_n hx hb dX10_take_7 rfl (lv_at hl 2 rfl) ?_
    refine vp_callSi (va_Run.run (va_runSN (As := [.int y]) (rest := []) hF (m_X12_isSlot l9 D k y ) ⟨va_cnB 1 hts gX10_take_X12_isSlot_n26 rfl rfl rfl (hN (.methodLinkNest RX10 26 yX12_isSlot RX12) (by decide +kernel)) (hts (.initialized RX12) (by decide +kernel)) (by decide +kernel) ⟨Nat.le_of_ble_eq_true rfl, Nat.le_of_ble_eq_true rfl⟩, hts (.static yX12_isSlot) (by decide +kernel), trivial⟩ (rPreS hK hN hP [] rfl) rfl rfl hl.1 rfl (lv_room (Nat.le_of_ble_eq_true rfl)) dX10_take_8 ⟨Nat.zero_le _, Nat.zero_le _⟩)) (fun r_4 hr_4 => ?_)
    subst hr_4
    refine lv_if_ne (tgt := 16) hx hb dX10_take_11 (by decide) (fun c_5 => ?_) (fun c_5 => ?_)
    · skip
      have c_5 : (rg 0 y 2) = true := bI_1 c_5
      obtain ⟨i, hi, rfl⟩ := rg_of (m := 2) (by decide) c_5
      have cli : (nI i).toNatClampNeg = i := clN (by omega)
      refine lv_aload_n hx hb dX10_take_16 rfl (lv_at hl 0 rfl) ?_
      refine va_get (D := D) (ci := 8) (v := .ref (q 2)) (C := RX10) (T := TX10) (N := 2) hx hb hts kc_RX10 hown hK hP 0 rfl rfl 1 (by decide) k_fieldLink_15 (fun _ h9 => h9) rfl dX10_take_17 ?_
      refine lv_iload_n hx hb dX10_take_20 rfl (lv_at hl 1 rfl) ?_
      refine lv_iconst (v := 3) hx hb dX10_take_21 (by decide) ?_
      refine ni_mul hx hb j 3 dX10_take_22 ?_
      refine lv_iload_n hx hb dX10_take_23 rfl (lv_at hl 2 rfl) ?_
      refine ni_add hx hb (j * 3) i dX10_take_24 ?_
      refine ca_ld hx hb hK hP 2 rfl ((j * 3) + i) (by omega) (by decide) dX10_take_25 ?_
      refine lv_istore_n (lv' := [(3, .int (rk ((j * 3) + i))), (0, .ref (q 0)), (1, .int (nI j)), (2, .int (nI i))]) hx hb dX10_take_26 rfl hl (by decide) rfl (fun ls hl => ?_)
      refine lv_iload_n hx hb dX10_take_27 rfl (lv_at hl 0 rfl) ?_
      refine lv_bipush (v := 46) hx hb dX10_take_28 (by decide) ?_
      refine lv_icmp_ne (tgt := 36) hx hb dX10_take_30 (by decide) (fun c_6 => ?_) (fun c_6 => ?_)
      · skip
        refine lv_aload_n hx hb dX10_take_36 rfl (lv_at hl 1 rfl) ?_
        refine va_get (D := D) (ci := 8) (v := .ref (q 2)) (C := RX10) (T := TX10) (N := 2) hx hb hts kc_RX10 hown hK hP 0 rfl rfl 1 (by decide) k_fieldLink_15 (fun _ h9 => h9) rfl dX10_take_37 ?_
        refine lv_iload_n hx hb dX10_take_40 rfl (lv_at hl 2 rfl) ?_
        refine lv_iconst (v := 3) hx hb dX10_take_41 (by decide) ?_
        refine ni_mul hx hb j 3 dX10_take_42 ?_
        refine lv_iload_n hx hb dX10_take_43 rfl (lv_at hl 3 rfl) ?_
        refine ni_add hx hb (j * 3) i dX10_take_44 ?_
        refine lv_bipush (v := 46) hx hb dX10_take_45 (by decide) ?_
        refine ca_st hx hb hK hP hD hS 2 rfl ((j * 3) + i) (by omega) (by decide) (by decide) (bRacks k q kd (upd rk ((j * 3) + i) 46)) rfl dX10_take_47 (fun H locs hP hD hS => ?_)
        refine lv_iload_n hx hb dX10_take_48 rfl (lv_at hl 0 rfl) ?_
        have e_7 : (upd rk ((j * 3) + i) 46 : Nat → Int32) = (opTake rk (nI j) (nI i)).2 := by first | (with_reducible rfl) | ((try simp only [opTake, clj, cli]); (repeat (first | rw [if_pos (by first | assumption | exact ⟨by assumption, by assumption⟩ | exact Or.inl (by assumption) | exact Or.inr (by assumption) | exact Or.inr (Or.inl (by assumption)) | exact Or.inr (Or.inr (by assumption)) | (simp only [Int32.lt_iff_toInt_lt, Int32.le_iff_toInt_le, i32_0, i32_1, i32_2, i32_3, i32_4, i32_9, i32_10, i32_99, i32_100, i32_1000, i32_9999] at *; omega))] | rw [if_neg (by first | assumption | (rintro (h9 | h9 | h9) <;> contradiction) | (rintro (h9 | h9) <;> contradiction) | (intro h9; exact Bool.noConfusion (Eq.trans (c := false) h9.symm (by assumption))) | (rintro ⟨h8, h9⟩; exact Bool.noConfusion (Eq.trans (c := false) h8.symm (by assumption))) | (rintro ⟨h8, h9⟩; exact Bool.noConfusion (Eq.trans (c := false) h9.symm (by assumption))) | (simp only [Int32.lt_iff_toInt_lt, Int32.le_iff_toInt_le, i32_0, i32_1, i32_2, i32_3, i32_4, i32_9, i32_10, i32_99, i32_100, i32_1000, i32_9999] at *; omega))])); (try rfl))
        have hP := Eq.mp (congrArg (fun z9 => va_P D vwCl (bRacks k q kd z9) H) e_7) hP
        have hD := Eq.mp (congrArg (fun z9 => va_D A (bRacks k q kd z9)) e_7) hD
        exact W.iret (v := rk ((j * 3) + i)) hx hb hr (fun t9 ht hW => ⟨⟨_, (), rfl, (by (try simp only [opTake, clj, cli]); (repeat (first | rw [if_pos (by first | assumption | exact ⟨by assumption, by assumption⟩ | exact Or.inl (by assumption) | exact Or.inr (by assumption) | exact Or.inr (Or.inl (by assumption)) | exact Or.inr (Or.inr (by assumption)) | (simp only [Int32.lt_iff_toInt_lt, Int32.le_iff_toInt_le, i32_0, i32_1, i32_2, i32_3, i32_4, i32_9, i32_10, i32_99, i32_100, i32_1000, i32_9999] at *; omega))] | rw [if_neg (by first | assumption | (rintro (h9 | h9 | h9) <;> contradiction) | (rintro (h9 | h9) <;> contradiction) | (intro h9; exact Bool.noConfusion (Eq.trans (c := false) h9.symm (by assumption))) | (rintro ⟨h8, h9⟩; exact Bool.noConfusion (Eq.trans (c := false) h8.symm (by assumption))) | (rintro ⟨h8, h9⟩; exact Bool.noConfusion (Eq.trans (c := false) h9.symm (by assumption))) | (simp only [Int32.lt_iff_toInt_lt, Int32.le_iff_toInt_le, i32_0, i32_1, i32_2, i32_3, i32_4, i32_9, i32_10, i32_99, i32_100, i32_1000, i32_9999] at *; omega))])); (try rfl)), ⟨by rw [ht]; exact hP, va_K.moved hW.alike hK, hD⟩⟩, hS.F ht⟩) hS.2.2 dX10_take_49 hlocks
      · skip
        refine lv_bipush (v := (-5)) hx hb dX10_take_33 (by decide) ?_
        have e_8 : (rk : Nat → Int32) = (opTake rk (nI j) (nI i)).2 := by first | (with_reducible rfl) | ((try simp only [opTake, clj, cli]); (repeat (first | rw [if_pos (by first | assumption | exact ⟨by assumption, by assumption⟩ | exact Or.inl (by assumption) | exact Or.inr (by assumption) | exact Or.inr (Or.inl (by assumption)) | exact Or.inr (Or.inr (by assumption)) | (simp only [Int32.lt_iff_toInt_lt, Int32.le_iff_toInt_le, i32_0, i32_1, i32_2, i32_3, i32_4, i32_9, i32_10, i32_99, i32_100, i32_1000, i32_9999] at *; omega))] | rw [if_neg (by first | assumption | (rintro (h9 | h9 | h9) <;> contradiction) | (rintro (h9 | h9) <;> contradiction) | (intro h9; exact Bool.noConfusion (Eq.trans (c := false) h9.symm (by assumption))) | (rintro ⟨h8, h9⟩; exact Bool.noConfusion (Eq.trans (c := false) h8.symm (by assumption))) | (rintro ⟨h8, h9⟩; exact Bool.noConfusion (Eq.trans (c := false) h9.symm (by assumption))) | (simp only [Int32.lt_iff_toInt_lt, Int32.le_iff_toInt_le, i32_0, i32_1, i32_2, i32_3, i32_4, i32_9, i32_10, i32_99, i32_100, i32_1000, i32_9999] at *; omega))])); (try rfl))
        have hP := Eq.mp (congrArg (fun z9 => va_P D vwCl (bRacks k q kd z9) H) e_8) hP
        have hD := Eq.mp (congrArg (fun z9 => va_D A (bRacks k q kd z9)) e_8) hD
        exact W.iret (v := (-5)) hx hb hr (fun t9 ht hW => ⟨⟨_, (), rfl, (by (try simp only [opTake, clj, cli]); (repeat (first | rw [if_pos (by first | assumption | exact ⟨by assumption, by assumption⟩ | exact Or.inl (by assumption) | exact Or.inr (by assumption) | exact Or.inr (Or.inl (by assumption)) | exact Or.inr (Or.inr (by assumption)) | (simp only [Int32.lt_iff_toInt_lt, Int32.le_iff_toInt_le, i32_0, i32_1, i32_2, i32_3, i32_4, i32_9, i32_10, i32_99, i32_100, i32_1000, i32_9999] at *; omega))] | rw [if_neg (by first | assumption | (rintro (h9 | h9 | h9) <;> contradiction) | (rintro (h9 | h9) <;> contradiction) | (intro h9; exact Bool.noConfusion (Eq.trans (c := false) h9.symm (by assumption))) | (rintro ⟨h8, h9⟩; exact Bool.noConfusion (Eq.trans (c := false) h8.symm (by assumption))) | (rintro ⟨h8, h9⟩; exact Bool.noConfusion (Eq.trans (c := false) h9.symm (by assumption))) | (simp only [Int32.lt_iff_toInt_lt, Int32.le_iff_toInt_le, i32_0, i32_1, i32_2, i32_3, i32_4, i32_9, i32_10, i32_99, i32_100, i32_1000, i32_9999] at *; omega))])); (try rfl)), ⟨by rw [ht]; exact hP, va_K.moved hW.alike hK, hD⟩⟩, hS.F ht⟩) hS.2.2 dX10_take_35 hlocks
    · skip
      have c_5 : (rg 0 y 2) = false := bI_0 c_5
      refine lv_iconst (v := (-1)) hx hb dX10_take_14 (by decide) ?_
      have e_9 : (rk : Nat → Int32) = (opTake rk (nI j) y).2 := by first | (with_reducible rfl) | ((try simp only [opTake, clj]); (repeat (first | rw [if_pos (by first | assumption | exact ⟨by assumption, by assumption⟩ | exact Or.inl (by assumption) | exact Or.inr (by assumption) | exact Or.inr (Or.inl (by assumption)) | exact Or.inr (Or.inr (by assumption)) | (simp only [Int32.lt_iff_toInt_lt, Int32.le_iff_toInt_le, i32_0, i32_1, i32_2, i32_3, i32_4, i32_9, i32_10, i32_99, i32_100, i32_1000, i32_9999] at *; omega))] | rw [if_neg (by first | assumption | (rintro (h9 | h9 | h9) <;> contradiction) | (rintro (h9 | h9) <;> contradiction) | (intro h9; exact Bool.noConfusion (Eq.trans (c := false) h9.symm (by assumption))) | (rintro ⟨h8, h9⟩; exact Bool.noConfusion (Eq.trans (c := false) h8.symm (by assumption))) | (rintro ⟨h8, h9⟩; exact Bool.noConfusion (Eq.trans (c := false) h9.symm (by assumption))) | (simp only [Int32.lt_iff_toInt_lt, Int32.le_iff_toInt_le, i32_0, i32_1, i32_2, i32_3, i32_4, i32_9, i32_10, i32_99, i32_100, i32_1000, i32_9999] at *; omega))])); (try rfl))
      have hP := Eq.mp (congrArg (fun z9 => va_P D vwCl (bRacks k q kd z9) H) e_9) hP
      have hD := Eq.mp (congrArg (fun z9 => va_D A (bRacks k q kd z9)) e_9) hD
      exact W.iret (v := (-1)) hx hb hr (fun t9 ht hW => ⟨⟨_, (), rfl, (by (try simp only [opTake, clj]); (repeat (first | rw [if_pos (by first | assumption | exact ⟨by assumption, by assumption⟩ | exact Or.inl (by assumption) | exact Or.inr (by assumption) | exact Or.inr (Or.inl (by assumption)) | exact Or.inr (Or.inr (by assumption)) | (simp only [Int32.lt_iff_toInt_lt, Int32.le_iff_toInt_le, i32_0, i32_1, i32_2, i32_3, i32_4, i32_9, i32_10, i32_99, i32_100, i32_1000, i32_9999] at *; omega))] | rw [if_neg (by first | assumption | (rintro (h9 | h9 | h9) <;> contradiction) | (rintro (h9 | h9) <;> contradiction) | (intro h9; exact Bool.noConfusion (Eq.trans (c := false) h9.symm (by assumption))) | (rintro ⟨h8, h9⟩; exact Bool.noConfusion (Eq.trans (c := false) h8.symm (by assumption))) | (rintro ⟨h8, h9⟩; exact Bool.noConfusion (Eq.trans (c := false) h9.symm (by assumption))) | (simp only [Int32.lt_iff_toInt_lt, Int32.le_iff_toInt_le, i32_0, i32_1, i32_2, i32_3, i32_4, i32_9, i32_10, i32_99, i32_100, i32_1000, i32_9999] at *; omega))])); (try rfl)), ⟨by rw [ht]; exact hP, va_K.moved hW.alike hK, hD⟩⟩, hS.F ht⟩) hS.2.2 dX10_take_15 hlocks

set_option maxHeartbeats 4000000 in
set_option maxRecDepth 100000 in
theorem m_X10_fill (l9 : Launch) (D : va_G) (k : Nat → ClassId) (sz : Nat) (q : Nat → Nat) (kd rk : Nat → Int32) : Met l9 yX10_fill wsX10_fill ({ frames := 1, cells := 0, slots := 0, locals := 22 }) (WPc D k [.ref (q 0)] (bRacks k q kd rk) sz) (WV D k (bRacks k q kd (flm kd rk 12)) (va_A (bRacks k q kd rk) sz)) 0 0 (va_A (bRacks k q kd rk) sz) := by
  refine wMet (y := yX10_fill) (cc := cX10_fill) (maxL := 2) (ret := none) (Qc := fun A => WV D k (bRacks k q kd (flm kd rk 12)) A) [.ref (q 0)] (by decide) rfl (Nat.le_of_ble_eq_true rfl) ?_
  intro p9 e9 s9 m9 bl9 me9 c9 ls A H hF hr hlocks hP hK hN hD hA hS hl hin
  have hl : lv_has ls 2 [(0, .ref (q 0))] := hl
  obtain ⟨hx, hb, hml, hown, hts⟩ := id hF
  have k_fieldLink_15 : (Cond.fieldLink RX10 15 "OpinionReactor$Racks" "remarks" "[C").before _ s9 = true := hts (.fieldLink RX10 15 "OpinionReactor$Racks" "remarks" "[C") (by decide +kernel)
  have kc_RX10 : ∀ w ∈ u_ws RX10 TX10 2, w ∈ wsX10_fill := by decide +kernel
  have loop_2 : ∀ (fuel : Nat) (i : Nat), (i ≤ 12) → 12 - i < fuel → ∀ (ls : Array Slot), ∀ (H : Heap) (locs : List Loc), va_P D vwCl (bRacks k q kd (flm kd rk i)) H → va_D A (bRacks k q kd (flm kd rk i)) → va_S A s9.heap H locs → lv_has ls 2 [(0, .ref (q 0)), (1, .int (nI i))] → W p9 l9 e9 ({ frames := 1, cells := 0, slots := 0, locals := 22 }) s9 m9 ([.ref (q 0)] : List Value).toArray bl9 me9 c9 H locs 0 0 (MQ bl9 (WV D k (bRacks k q kd (flm kd rk 12)) A) ([.ref (q 0)] : List Value).toArray s9 0 0 A) (F0 m9 2 ls []) := by
    intro fuel
    induction fuel with
    | zero => intro i hi hfuel_2; exact absurd hfuel_2 (Nat.not_lt_zero _)
    | succ fuel ih_2 =>
      intro i hi hfuel_2 ls H locs hP hD hS hl
      refine lv_iload_n hx hb dX10_fill_2 rfl (lv_at hl 1 rfl) ?_
      refine lv_aload_n hx hb dX10_fill_3 rfl (lv_at hl 0 rfl) ?_
      refine va_get (D := D) (ci := 8) (v := .ref (q 2)) (C := RX10) (T := TX10) (N := 2) hx hb hts kc_RX10 hown hK hP 0 rfl rfl 1 (by decide) k_fieldLink_15 (fun _ h9 => h9) rfl dX10_fill_4 ?_
      refine va_alen (v := 12) hx hb hK hP 2 1 rfl rfl rfl dX10_fill_7 ?_
      refine lv_icmp_ge (tgt := 53) hx hb dX10_fill_8 (by decide) (fun c_1 => ?_) (fun c_1 => ?_)
      · skip
        have c_1 : 12 ≤ i := (nI_leI (a := 12) (b := i) (by omega) (by omega)).mp c_1
        have e_2 : (flm kd rk i : Nat → Int32) = flm kd rk 12 := by first | (with_reducible rfl) | (rw [show i = 12 by omega])
        have hP := Eq.mp (congrArg (fun z9 => va_P D vwCl (bRacks k q kd z9) H) e_2) hP
        have hD := Eq.mp (congrArg (fun z9 => va_D A (bRacks k q kd z9)) e_2) hD
        exact W.vret hx hb hr (fun t9 ht hW => ⟨⟨(), rfl, trivial, ⟨by rw [ht]; exact hP, va_K.moved hW.alike hK, hD⟩⟩, hS.F ht⟩) hS.2.2 dX10_fill_53 hlocks
      · skip
        have c_1 : ¬ 12 ≤ i := fun h => c_1 ((nI_leI (a := 12) (b := i) (by omega) (by omega)).mpr h)
        refine lv_aload_n hx hb dX10_fill_11 rfl (lv_at hl 0 rfl) ?_
        refine va_get (D := D) (ci := 8) (v := .ref (q 2)) (C := RX10) (T := TX10) (N := 2) hx hb hts kc_RX10 hown hK hP 0 rfl rfl 1 (by decide) k_fieldLink_15 (fun _ h9 => h9) rfl dX10_fill_12 ?_
        refine lv_iload_n hx hb dX10_fill_15 rfl (lv_at hl 1 rfl) ?_
        refine ca_ld hx hb hK hP 2 rfl i (by omega) (by decide) dX10_fill_16 ?_
        refine lv_bipush (v := 46) hx hb dX10_fill_17 (by decide) ?_
        refine lv_icmp_ne (tgt := 47) hx hb dX10_fill_19 (by decide) (fun c_3 => ?_) (fun c_3 => ?_)
        · skip
          refine lv_iinc (v := nI (i + 1)) (lv' := [(1, .int (nI (i + 1))), (0, .ref (q 0))]) hx hb dX10_fill_47 hl (k := 1) rfl (nI_inc i) (by decide) rfl (fun ls hl => ?_)
          refine lv_goto (tgt := 2) hx hb dX10_fill_50 (by decide) ?_
          have e_4 : (flm kd rk i : Nat → Int32) = flm kd rk (i + 1) := by first | (with_reducible rfl) | ((try simp only [flm_s]); (repeat (first | rw [if_pos (by first | assumption | exact ⟨by assumption, by assumption⟩ | exact Or.inl (by assumption) | exact Or.inr (by assumption) | exact Or.inr (Or.inl (by assumption)) | exact Or.inr (Or.inr (by assumption)) | (simp only [Int32.lt_iff_toInt_lt, Int32.le_iff_toInt_le, i32_0, i32_1, i32_2, i32_3, i32_4, i32_9, i32_10, i32_99, i32_100, i32_1000, i32_9999] at *; omega))] | rw [if_neg (by first | assumption | (rintro (h9 | h9 | h9) <;> contradiction) | (rintro (h9 | h9) <;> contradiction) | (intro h9; exact Bool.noConfusion (Eq.trans (c := false) h9.symm (by assumption))) | (rintro ⟨h8, h9⟩; exact Bool.noConfusion (Eq.trans (c := false) h8.symm (by assumption))) | (rintro ⟨h8, h9⟩; exact Bool.noConfusion (Eq.trans (c := false) h9.symm (by assumption))) | (simp only [Int32.lt_iff_toInt_lt, Int32.le_iff_toInt_le, i32_0, i32_1, i32_2, i32_3, i32_4, i32_9, i32_10, i32_99, i32_100, i32_1000, i32_9999] at *; omega))])); (try rfl))
          have hP := Eq.mp (congrArg (fun z9 => va_P D vwCl (bRacks k q kd z9) H) e_4) hP
          have hD := Eq.mp (congrArg (fun z9 => va_D A (bRacks k q kd z9)) e_4) hD
          exact ih_2 (i + 1) (by omega) (by omega) ls _ _ hP hD hS (lv_one hl 1 rfl rfl (lv_one hl 0 rfl rfl (lv_nil hl)))
        · skip
          refine lv_aload_n hx hb dX10_fill_22 rfl (lv_at hl 0 rfl) ?_
          refine va_get (D := D) (ci := 8) (v := .ref (q 2)) (C := RX10) (T := TX10) (N := 2) hx hb hts kc_RX10 hown hK hP 0 rfl rfl 1 (by decide) k_fieldLink_15 (fun _ h9 => h9) rfl dX10_fill_23 ?_
          refine lv_iload_n hx hb dX10_fill_26 rfl (lv_at hl 1 rfl) ?_
          refine lv_aload_n hx hb dX10_fill_27 rfl (lv_at hl 0 rfl) ?_
          refine lv_iload_n hx hb dX10_fill_28 rfl (lv_at hl 1 rfl) ?_
          refine lv_iconst (v := 3) hx hb dX10_fill_29 (by decide) ?_
          refine ni_div hx hb i 3 (by omega) (by decide) (by decide) dX10_fill_30 ?_
          refine lv_bipush (v := 111) hx hb dX10_fill_31 (by decide) ?_
          refine vp_callSi (W.runV (As := [.int (nI (i / 3)), .int 111]) (rest := [.int (nI i), .ref (q 2)]) hF (m_X10_canHold l9 D k q kd (flm kd rk i) (i / 3) 111 (by omega)) (cwV 2 hts gX10_fill_X10_canHold rfl rfl rfl (by decide +kernel) ⟨Nat.le_of_ble_eq_true rfl, Nat.le_of_ble_eq_true rfl⟩) (rPreV hK hN hP [0, 1, 2] rfl 0 8 rfl rfl) rfl rfl hl.1 rfl (lv_room (Nat.le_of_ble_eq_true rfl)) dX10_fill_33 ⟨Nat.zero_le _, Nat.zero_le _⟩) (fun r_5 hr_5 => ?_)
          subst hr_5
          refine lv_if_eq (tgt := 44) hx hb dX10_fill_36 (by decide) (fun c_6 => ?_) (fun c_6 => ?_)
          · skip
            have c_6 : (chd kd (i / 3) 111) = false := bI_0 c_6
            refine lv_bipush (v := 113) hx hb dX10_fill_44 (by decide) ?_
            refine ca_st hx hb hK hP hD hS 2 rfl i (by omega) (by decide) (by decide) (bRacks k q kd (upd (flm kd rk i) i 113)) rfl dX10_fill_46 (fun H locs hP hD hS => ?_)
            refine lv_iinc (v := nI (i + 1)) (lv' := [(1, .int (nI (i + 1))), (0, .ref (q 0))]) hx hb dX10_fill_47 hl (k := 1) rfl (nI_inc i) (by decide) rfl (fun ls hl => ?_)
            refine lv_goto (tgt := 2) hx hb dX10_fill_50 (by decide) ?_
            have e_7 : (upd (flm kd rk i) i 113 : Nat → Int32) = flm kd rk (i + 1) := by first | (with_reducible rfl) | ((try simp only [flm_s]); (repeat (first | rw [if_pos (by first | assumption | exact ⟨by assumption, by assumption⟩ | exact Or.inl (by assumption) | exact Or.inr (by assumption) | exact Or.inr (Or.inl (by assumption)) | exact Or.inr (Or.inr (by assumption)) | (simp only [Int32.lt_iff_toInt_lt, Int32.le_iff_toInt_le, i32_0, i32_1, i32_2, i32_3, i32_4, i32_9, i32_10, i32_99, i32_100, i32_1000, i32_9999] at *; omega))] | rw [if_neg (by first | assumption | (rintro (h9 | h9 | h9) <;> contradiction) | (rintro (h9 | h9) <;> contradiction) | (intro h9; exact Bool.noConfusion (Eq.trans (c := false) h9.symm (by assumption))) | (rintro ⟨h8, h9⟩; exact Bool.noConfusion (Eq.trans (c := false) h8.symm (by assumption))) | (rintro ⟨h8, h9⟩; exact Bool.noConfusion (Eq.trans (c := false) h9.symm (by assumption))) | (simp only [Int32.lt_iff_toInt_lt, Int32.le_iff_toInt_le, i32_0, i32_1, i32_2, i32_3, i32_4, i32_9, i32_10, i32_99, i32_100, i32_1000, i32_9999] at *; omega))])); (try rfl))
            have hP := Eq.mp (congrArg (fun z9 => va_P D vwCl (bRacks k q kd z9) H) e_7) hP
            have hD := Eq.mp (congrArg (fun z9 => va_D A (bRacks k q kd z9)) e_7) hD
            exact ih_2 (i + 1) (by omega) (by omega) ls _ _ hP hD hS (lv_one hl 1 rfl rfl (lv_one hl 0 rfl rfl (lv_nil hl)))
          · skip
            have c_6 : (chd kd (i / 3) 111) = true := bI_1 c_6
            refine lv_bipush (v := 111) hx hb dX10_fill_39 (by decide) ?_
            refine lv_goto (tgt := 46) hx hb dX10_fill_41 (by decide) ?_
            refine ca_st hx hb hK hP hD hS 2 rfl i (by omega) (by decide) (by decide) (bRacks k q kd (upd (flm kd rk i) i 111)) rfl dX10_fill_46 (fun H locs hP hD hS => ?_)
            refine lv_iinc (v := nI (i + 1)) (lv' := [(1, .int (nI (i + 1))), (0, .ref (q 0))]) hx hb dX10_fill_47 hl (k := 1) rfl (nI_inc i) (by decide) rfl (fun ls hl => ?_)
            refine lv_goto (tgt := 2) hx hb dX10_fill_50 (by decide) ?_
            have e_8 : (upd (flm kd rk i) i 111 : Nat → Int32) = flm kd rk (i + 1) := by first | (with_reducible rfl) | ((try simp only [flm_s]); (repeat (first | rw [if_pos (by first | assumption | exact ⟨by assumption, by assumption⟩ | exact Or.inl (by assumption) | exact Or.inr (by assumption) | exact Or.inr (Or.inl (by assumption)) | exact Or.inr (Or.inr (by assumption)) | (simp only [Int32.lt_iff_toInt_lt, Int32.le_iff_toInt_le, i32_0, i32_1, i32_2, i32_3, i32_4, i32_9, i32_10, i32_99, i32_100, i32_1000, i32_9999] at *; omega))] | rw [if_neg (by first | assumption | (rintro (h9 | h9 | h9) <;> contradiction) | (rintro (h9 | h9) <;> contradiction) | (intro h9; exact Bool.noConfusion (Eq.trans (c := false) h9.symm (by assumption))) | (rintro ⟨h8, h9⟩; exact Bool.noConfusion (Eq.trans (c := false) h8.symm (by assumption))) | (rintro ⟨h8, h9⟩; exact Bool.noConfusion (Eq.trans (c := false) h9.symm (by assumption))) | (simp only [Int32.lt_iff_toInt_lt, Int32.le_iff_toInt_le, i32_0, i32_1, i32_2, i32_3, i32_4, i32_9, i32_10, i32_99, i32_100, i32_1000, i32_9999] at *; omega))])); (try rfl))
            have hP := Eq.mp (congrArg (fun z9 => va_P D vwCl (bRacks k q kd z9) H) e_8) hP
            have hD := Eq.mp (congrArg (fun z9 => va_D A (bRacks k q kd z9)) e_8) hD
            exact ih_2 (i + 1) (by omega) (by omega) ls _ _ hP hD hS (lv_one hl 1 rfl rfl (lv_one hl 0 rfl rfl (lv_nil hl)))
  refine lv_iconst (v := 0) hx hb dX10_fill_0 (by decide) ?_
  refine lv_istore_n (lv' := [(1, .int 0), (0, .ref (q 0))]) hx hb dX10_fill_1 rfl hl (by decide) rfl (fun ls hl => ?_)
  have e_9 : (rk : Nat → Int32) = flm kd rk 0 := by first | (with_reducible rfl) | (rfl)
  have hP := Eq.mp (congrArg (fun z9 => va_P D vwCl (bRacks k q kd z9) H) e_9) hP
  have hD := Eq.mp (congrArg (fun z9 => va_D A (bRacks k q kd z9)) e_9) hD
  exact loop_2 ((12 - 0) + 1) 0 (by omega) (Nat.lt_succ_self _) ls _ _ hP hD hS (lv_one hl 1 rfl rfl (lv_one hl 0 rfl rfl (lv_nil hl)))

set_option maxHeartbeats 4000000 in
set_option maxRecDepth 100000 in
theorem m_X5_enter (l9 : Launch) (D : va_G) (k : Nat → ClassId) (sz : Nat) (q : Nat → Nat) (n : Nat) (w ly t a : Nat → Int32) (fx : Nat → UInt32) (x : Int32) (hn : n ≤ 10) : Met l9 yX5_enter wsX5_enter ({ frames := 0, cells := 0, slots := 0, locals := 0 }) (WPc D k [.ref (q 0), .int x] (bClaims k q n w ly t a fx) sz) (WI D k (bClaims k q ((opEnter n w x).2.1) ((opEnter n w x).2.2) ly t a fx) ((opEnter n w x).1) (va_A (bClaims k q n w ly t a fx) sz)) 0 0 (va_A (bClaims k q n w ly t a fx) sz) := by
  refine wMet (y := yX5_enter) (cc := cX5_enter) (maxL := 2) (ret := (some .int)) (Qc := fun A => WI D k (bClaims k q ((opEnter n w x).2.1) ((opEnter n w x).2.2) ly t a fx) ((opEnter n w x).1) A) [.ref (q 0), .int x] (by decide) rfl (Nat.le_of_ble_eq_true rfl) ?_
  intro p9 e9 s9 m9 bl9 me9 c9 ls A H hF hr hlocks hP hK hN hD hA hS hl hin
  have hl : lv_has ls 2 [(0, .ref (q 0)), (1, .int x)] := hl
  obtain ⟨hx, hb, hml, hown, hts⟩ := id hF
  have k_fieldLink_9 : (Cond.fieldLink RX5 9 "OpinionReactor$Claims" "count" "I").before _ s9 = true := hts (.fieldLink RX5 9 "OpinionReactor$Claims" "count" "I") (by decide +kernel)
  have kc_RX5 : ∀ w ∈ u_ws RX5 TX5 6, w ∈ wsX5_enter := by decide +kernel
  have k_fieldLink_15 : (Cond.fieldLink RX5 15 "OpinionReactor$Claims" "weights" "[I").before _ s9 = true := hts (.fieldLink RX5 15 "OpinionReactor$Claims" "weights" "[I") (by decide +kernel)
  refine lv_iload_n hx hb dX5_enter_0 rfl (lv_at hl 1 rfl) ?_
  refine lv_iconst (v := 1) hx hb dX5_enter_1 (by decide) ?_
  refine lv_icmp_lt (tgt := 11) hx hb dX5_enter_2 (by decide) (fun c_1 => ?_) (fun c_1 => ?_)
  · skip
    refine lv_bipush (v := (-2)) hx hb dX5_enter_11 (by decide) ?_
    have e_2 : (n : Nat) = (opEnter n w x).2.1 := by first | (with_reducible rfl) | ((try simp only [opEnter]); (repeat (first | rw [if_pos (by first | assumption | exact ⟨by assumption, by assumption⟩ | exact Or.inl (by assumption) | exact Or.inr (by assumption) | exact Or.inr (Or.inl (by assumption)) | exact Or.inr (Or.inr (by assumption)) | (simp only [Int32.lt_iff_toInt_lt, Int32.le_iff_toInt_le, i32_0, i32_1, i32_2, i32_3, i32_4, i32_9, i32_10, i32_99, i32_100, i32_1000, i32_9999] at *; omega))] | rw [if_neg (by first | assumption | (rintro (h9 | h9 | h9) <;> contradiction) | (rintro (h9 | h9) <;> contradiction) | (intro h9; exact Bool.noConfusion (Eq.trans (c := false) h9.symm (by assumption))) | (rintro ⟨h8, h9⟩; exact Bool.noConfusion (Eq.trans (c := false) h8.symm (by assumption))) | (rintro ⟨h8, h9⟩; exact Bool.noConfusion (Eq.trans (c := false) h9.symm (by assumption))) | (simp only [Int32.lt_iff_toInt_lt, Int32.le_iff_toInt_le, i32_0, i32_1, i32_2, i32_3, i32_4, i32_9, i32_10, i32_99, i32_100, i32_1000, i32_9999] at *; omega))])); (try rfl))
    have hP := Eq.mp (congrArg (fun z9 => va_P D vwCl (bClaims k q z9 w ly t a fx) H) e_2) hP
    have hD := Eq.mp (congrArg (fun z9 => va_D A (bClaims k q z9 w ly t a fx)) e_2) hD
    have e_3 : (w : Nat → Int32) = (opEnter n w x).2.2 := by first | (with_reducible rfl) | ((try simp only [opEnter]); (repeat (first | rw [if_pos (by first | assumption | exact ⟨by assumption, by assumption⟩ | exact Or.inl (by assumption) | exact Or.inr (by assumption) | exact Or.inr (Or.inl (by assumption)) | exact Or.inr (Or.inr (by assumption)) | (simp only [Int32.lt_iff_toInt_lt, Int32.le_iff_toInt_le, i32_0, i32_1, i32_2, i32_3, i32_4, i32_9, i32_10, i32_99, i32_100, i32_1000, i32_9999] at *; omega))] | rw [if_neg (by first | assumption | (rintro (h9 | h9 | h9) <;> contradiction) | (rintro (h9 | h9) <;> contradiction) | (intro h9; exact Bool.noConfusion (Eq.trans (c := false) h9.symm (by assumption))) | (rintro ⟨h8, h9⟩; exact Bool.noConfusion (Eq.trans (c := false) h8.symm (by assumption))) | (rintro ⟨h8, h9⟩; exact Bool.noConfusion (Eq.trans (c := false) h9.symm (by assumption))) | (simp only [Int32.lt_iff_toInt_lt, Int32.le_iff_toInt_le, i32_0, i32_1, i32_2, i32_3, i32_4, i32_9, i32_10, i32_99, i32_100, i32_1000, i32_9999] at *; omega))])); (try rfl))
    have hP := Eq.mp (congrArg (fun z9 => va_P D vwCl (bClaims k q ((opEnter n w x).2.1) z9 ly t a fx) H) e_3) hP
    have hD := Eq.mp (congrArg (fun z9 => va_D A (bClaims k q ((opEnter n w x).2.1) z9 ly t a fx)) e_3) hD
    exact W.iret (v := (-2)) hx hb hr (fun t9 ht hW => ⟨⟨_, (), rfl, (by (try simp only [opEnter]); (repeat (first | rw [if_pos (by first | assumption | exact ⟨by assumption, by assumption⟩ | exact Or.inl (by assumption) | exact Or.inr (by assumption) | exact Or.inr (Or.inl (by assumption)) | exact Or.inr (Or.inr (by assumption)) | (simp only [Int32.lt_iff_toInt_lt, Int32.le_iff_toInt_le, i32_0, i32_1, i32_2, i32_3, i32_4, i32_9, i32_10, i32_99, i32_100, i32_1000, i32_9999] at *; omega))] | rw [if_neg (by first | assumption | (rintro (h9 | h9 | h9) <;> contradiction) | (rintro (h9 | h9) <;> contradiction) | (intro h9; exact Bool.noConfusion (Eq.trans (c := false) h9.symm (by assumption))) | (rintro ⟨h8, h9⟩; exact Bool.noConfusion (Eq.trans (c := false) h8.symm (by assumption))) | (rintro ⟨h8, h9⟩; exact Bool.noConfusion (Eq.trans (c := false) h9.symm (by assumption))) | (simp only [Int32.lt_iff_toInt_lt, Int32.le_iff_toInt_le, i32_0, i32_1, i32_2, i32_3, i32_4, i32_9, i32_10, i32_99, i32_100, i32_1000, i32_9999] at *; omega))])); (try rfl)), ⟨by rw [ht]; exact hP, va_K.moved hW.alike hK, hD⟩⟩, hS.F ht⟩) hS.2.2 dX5_enter_13 hlocks
  · skip
    refine lv_iload_n hx hb dX5_enter_5 rfl (lv_at hl 1 rfl) ?_
    refine lv_bipush (v := 99) hx hb dX5_enter_6 (by decide) ?_
    refine lv_icmp_le (tgt := 14) hx hb dX5_enter_8 (by decide) (fun c_4 => ?_) (fun c_4 => ?_)
    · skip
      refine lv_aload_n hx hb dX5_enter_14 rfl (lv_at hl 0 rfl) ?_
      refine va_get (D := D) (ci := 5) (v := .int (nI n)) (C := RX5) (T := TX5) (N := 6) hx hb hts kc_RX5 hown hK hP 0 rfl rfl 0 (by decide) k_fieldLink_9 (fun _ h9 => h9) rfl dX5_enter_15 ?_
      refine lv_bipush (v := 10) hx hb dX5_enter_18 (by decide) ?_
      refine lv_icmp_lt (tgt := 26) hx hb dX5_enter_20 (by decide) (fun c_5 => ?_) (fun c_5 => ?_)
      · skip
        have c_5 : n < 10 := (nI_ltI (a := n) (b := 10) (by omega) (by omega)).mp c_5
        refine lv_aload_n hx hb dX5_enter_26 rfl (lv_at hl 0 rfl) ?_
        refine va_get (D := D) (ci := 5) (v := .ref (q 1)) (C := RX5) (T := TX5) (N := 6) hx hb hts kc_RX5 hown hK hP 0 rfl rfl 1 (by decide) k_fieldLink_15 (fun _ h9 => h9) rfl dX5_enter_27 ?_
        refine lv_aload_n hx hb dX5_enter_30 rfl (lv_at hl 0 rfl) ?_
        refine va_get (D := D) (ci := 5) (v := .int (nI n)) (C := RX5) (T := TX5) (N := 6) hx hb hts kc_RX5 hown hK hP 0 rfl rfl 0 (by decide) k_fieldLink_9 (fun _ h9 => h9) rfl dX5_enter_31 ?_
        refine lv_iload_n hx hb dX5_enter_34 rfl (lv_at hl 1 rfl) ?_
        refine ia_st hx hb hK hP hD hS 1 rfl n (by omega) (by decide) (bClaims k q n (upd w n x) ly t a fx) rfl dX5_enter_35 (fun H locs hP hD hS => ?_)
        refine lv_aload_n hx hb dX5_enter_36 rfl (lv_at hl 0 rfl) ?_
        refine lv_dup hx hb dX5_enter_37 rfl ?_
        refine va_get (D := D) (ci := 5) (v := .int (nI n)) (C := RX5) (T := TX5) (N := 6) hx hb hts kc_RX5 hown hK hP 0 rfl rfl 0 (by decide) k_fieldLink_9 (fun _ h9 => h9) rfl dX5_enter_38 ?_
        refine lv_iconst (v := 1) hx hb dX5_enter_41 (by decide) ?_
        refine ni_add hx hb n 1 dX5_enter_42 ?_
        refine va_put (D := D) (ci := 5) (v := .int (nI (n + 1))) (ty := .int) (C := RX5) (T := TX5) (N := 6) hx hb hts kc_RX5 tyX5 tyX5_ok nmX5 hown hK hP hD hS 0 rfl rfl 0 (by decide) k_fieldLink_9 (fun _ h9 => h9) rfl (by decide +kernel) rfl rfl (Nat.le_of_ble_eq_true rfl) dX5_enter_43 (fun H locs hP hD hS => ?_)
        have hP : va_P D vwCl (bClaims k q (n + 1) (upd w n x) ly t a fx) H := hP
        have hD : va_D A (bClaims k q (n + 1) (upd w n x) ly t a fx) := hD
        refine lv_aload_n hx hb dX5_enter_46 rfl (lv_at hl 0 rfl) ?_
        refine va_get (D := D) (ci := 5) (v := .int (nI (n + 1))) (C := RX5) (T := TX5) (N := 6) hx hb hts kc_RX5 hown hK hP 0 rfl rfl 0 (by decide) k_fieldLink_9 (fun _ h9 => h9) rfl dX5_enter_47 ?_
        refine lv_iconst (v := 1) hx hb dX5_enter_50 (by decide) ?_
        refine ni_sub hx hb (n + 1) 1 (by omega) dX5_enter_51 ?_
        have e_6 : (n + 1 : Nat) = (opEnter n w x).2.1 := by first | (with_reducible rfl) | ((try simp only [opEnter]); (repeat (first | rw [if_pos (by first | assumption | exact ⟨by assumption, by assumption⟩ | exact Or.inl (by assumption) | exact Or.inr (by assumption) | exact Or.inr (Or.inl (by assumption)) | exact Or.inr (Or.inr (by assumption)) | (simp only [Int32.lt_iff_toInt_lt, Int32.le_iff_toInt_le, i32_0, i32_1, i32_2, i32_3, i32_4, i32_9, i32_10, i32_99, i32_100, i32_1000, i32_9999] at *; omega))] | rw [if_neg (by first | assumption | (rintro (h9 | h9 | h9) <;> contradiction) | (rintro (h9 | h9) <;> contradiction) | (intro h9; exact Bool.noConfusion (Eq.trans (c := false) h9.symm (by assumption))) | (rintro ⟨h8, h9⟩; exact Bool.noConfusion (Eq.trans (c := false) h8.symm (by assumption))) | (rintro ⟨h8, h9⟩; exact Bool.noConfusion (Eq.trans (c := false) h9.symm (by assumption))) | (simp only [Int32.lt_iff_toInt_lt, Int32.le_iff_toInt_le, i32_0, i32_1, i32_2, i32_3, i32_4, i32_9, i32_10, i32_99, i32_100, i32_1000, i32_9999] at *; omega))])); (try rfl))
        have hP := Eq.mp (congrArg (fun z9 => va_P D vwCl (bClaims k q z9 (upd w n x) ly t a fx) H) e_6) hP
        have hD := Eq.mp (congrArg (fun z9 => va_D A (bClaims k q z9 (upd w n x) ly t a fx)) e_6) hD
        have e_7 : (upd w n x : Nat → Int32) = (opEnter n w x).2.2 := by first | (with_reducible rfl) | ((try simp only [opEnter]); (repeat (first | rw [if_pos (by first | assumption | exact ⟨by assumption, by assumption⟩ | exact Or.inl (by assumption) | exact Or.inr (by assumption) | exact Or.inr (Or.inl (by assumption)) | exact Or.inr (Or.inr (by assumption)) | (simp only [Int32.lt_iff_toInt_lt, Int32.le_iff_toInt_le, i32_0, i32_1, i32_2, i32_3, i32_4, i32_9, i32_10, i32_99, i32_100, i32_1000, i32_9999] at *; omega))] | rw [if_neg (by first | assumption | (rintro (h9 | h9 | h9) <;> contradiction) | (rintro (h9 | h9) <;> contradiction) | (intro h9; exact Bool.noConfusion (Eq.trans (c := false) h9.symm (by assumption))) | (rintro ⟨h8, h9⟩; exact Bool.noConfusion (Eq.trans (c := false) h8.symm (by assumption))) | (rintro ⟨h8, h9⟩; exact Bool.noConfusion (Eq.trans (c := false) h9.symm (by assumption))) | (simp only [Int32.lt_iff_toInt_lt, Int32.le_iff_toInt_le, i32_0, i32_1, i32_2, i32_3, i32_4, i32_9, i32_10, i32_99, i32_100, i32_1000, i32_9999] at *; omega))])); (try rfl))
        have hP := Eq.mp (congrArg (fun z9 => va_P D vwCl (bClaims k q ((opEnter n w x).2.1) z9 ly t a fx) H) e_7) hP
        have hD := Eq.mp (congrArg (fun z9 => va_D A (bClaims k q ((opEnter n w x).2.1) z9 ly t a fx)) e_7) hD
        exact W.iret (v := nI ((n + 1) - 1)) hx hb hr (fun t9 ht hW => ⟨⟨_, (), rfl, (by (try simp only [opEnter]); (repeat (first | rw [if_pos (by first | assumption | exact ⟨by assumption, by assumption⟩ | exact Or.inl (by assumption) | exact Or.inr (by assumption) | exact Or.inr (Or.inl (by assumption)) | exact Or.inr (Or.inr (by assumption)) | (simp only [Int32.lt_iff_toInt_lt, Int32.le_iff_toInt_le, i32_0, i32_1, i32_2, i32_3, i32_4, i32_9, i32_10, i32_99, i32_100, i32_1000, i32_9999] at *; omega))] | rw [if_neg (by first | assumption | (rintro (h9 | h9 | h9) <;> contradiction) | (rintro (h9 | h9) <;> contradiction) | (intro h9; exact Bool.noConfusion (Eq.trans (c := false) h9.symm (by assumption))) | (rintro ⟨h8, h9⟩; exact Bool.noConfusion (Eq.trans (c := false) h8.symm (by assumption))) | (rintro ⟨h8, h9⟩; exact Bool.noConfusion (Eq.trans (c := false) h9.symm (by assumption))) | (simp only [Int32.lt_iff_toInt_lt, Int32.le_iff_toInt_le, i32_0, i32_1, i32_2, i32_3, i32_4, i32_9, i32_10, i32_99, i32_100, i32_1000, i32_9999] at *; omega))])); (try rfl)), ⟨by rw [ht]; exact hP, va_K.moved hW.alike hK, hD⟩⟩, hS.F ht⟩) hS.2.2 dX5_enter_52 hlocks
      · skip
        have c_5 : ¬ n < 10 := fun h => c_5 ((nI_ltI (a := n) (b := 10) (by omega) (by omega)).mpr h)
        refine lv_bipush (v := (-3)) hx hb dX5_enter_23 (by decide) ?_
        have e_8 : (n : Nat) = (opEnter n w x).2.1 := by first | (with_reducible rfl) | ((try simp only [opEnter]); (repeat (first | rw [if_pos (by first | assumption | exact ⟨by assumption, by assumption⟩ | exact Or.inl (by assumption) | exact Or.inr (by assumption) | exact Or.inr (Or.inl (by assumption)) | exact Or.inr (Or.inr (by assumption)) | (simp only [Int32.lt_iff_toInt_lt, Int32.le_iff_toInt_le, i32_0, i32_1, i32_2, i32_3, i32_4, i32_9, i32_10, i32_99, i32_100, i32_1000, i32_9999] at *; omega))] | rw [if_neg (by first | assumption | (rintro (h9 | h9 | h9) <;> contradiction) | (rintro (h9 | h9) <;> contradiction) | (intro h9; exact Bool.noConfusion (Eq.trans (c := false) h9.symm (by assumption))) | (rintro ⟨h8, h9⟩; exact Bool.noConfusion (Eq.trans (c := false) h8.symm (by assumption))) | (rintro ⟨h8, h9⟩; exact Bool.noConfusion (Eq.trans (c := false) h9.symm (by assumption))) | (simp only [Int32.lt_iff_toInt_lt, Int32.le_iff_toInt_le, i32_0, i32_1, i32_2, i32_3, i32_4, i32_9, i32_10, i32_99, i32_100, i32_1000, i32_9999] at *; omega))])); (try rfl))
        have hP := Eq.mp (congrArg (fun z9 => va_P D vwCl (bClaims k q z9 w ly t a fx) H) e_8) hP
        have hD := Eq.mp (congrArg (fun z9 => va_D A (bClaims k q z9 w ly t a fx)) e_8) hD
        have e_9 : (w : Nat → Int32) = (opEnter n w x).2.2 := by first | (with_reducible rfl) | ((try simp only [opEnter]); (repeat (first | rw [if_pos (by first | assumption | exact ⟨by assumption, by assumption⟩ | exact Or.inl (by assumption) | exact Or.inr (by assumption) | exact Or.inr (Or.inl (by assumption)) | exact Or.inr (Or.inr (by assumption)) | (simp only [Int32.lt_iff_toInt_lt, Int32.le_iff_toInt_le, i32_0, i32_1, i32_2, i32_3, i32_4, i32_9, i32_10, i32_99, i32_100, i32_1000, i32_9999] at *; omega))] | rw [if_neg (by first | assumption | (rintro (h9 | h9 | h9) <;> contradiction) | (rintro (h9 | h9) <;> contradiction) | (intro h9; exact Bool.noConfusion (Eq.trans (c := false) h9.symm (by assumption))) | (rintro ⟨h8, h9⟩; exact Bool.noConfusion (Eq.trans (c := false) h8.symm (by assumption))) | (rintro ⟨h8, h9⟩; exact Bool.noConfusion (Eq.trans (c := false) h9.symm (by assumption))) | (simp only [Int32.lt_iff_toInt_lt, Int32.le_iff_toInt_le, i32_0, i32_1, i32_2, i32_3, i32_4, i32_9, i32_10, i32_99, i32_100, i32_1000, i32_9999] at *; omega))])); (try rfl))
        have hP := Eq.mp (congrArg (fun z9 => va_P D vwCl (bClaims k q ((opEnter n w x).2.1) z9 ly t a fx) H) e_9) hP
        have hD := Eq.mp (congrArg (fun z9 => va_D A (bClaims k q ((opEnter n w x).2.1) z9 ly t a fx)) e_9) hD
        exact W.iret (v := (-3)) hx hb hr (fun t9 ht hW => ⟨⟨_, (), rfl, (by (try simp only [opEnter]); (repeat (first | rw [if_pos (by first | assumption | exact ⟨by assumption, by assumption⟩ | exact Or.inl (by assumption) | exact Or.inr (by assumption) | exact Or.inr (Or.inl (by assumption)) | exact Or.inr (Or.inr (by assumption)) | (simp only [Int32.lt_iff_toInt_lt, Int32.le_iff_toInt_le, i32_0, i32_1, i32_2, i32_3, i32_4, i32_9, i32_10, i32_99, i32_100, i32_1000, i32_9999] at *; omega))] | rw [if_neg (by first | assumption | (rintro (h9 | h9 | h9) <;> contradiction) | (rintro (h9 | h9) <;> contradiction) | (intro h9; exact Bool.noConfusion (Eq.trans (c := false) h9.symm (by assumption))) | (rintro ⟨h8, h9⟩; exact Bool.noConfusion (Eq.trans (c := false) h8.symm (by assumption))) | (rintro ⟨h8, h9⟩; exact Bool.noConfusion (Eq.trans (c := false) h9.symm (by assumption))) | (simp only [Int32.lt_iff_toInt_lt, Int32.le_iff_toInt_le, i32_0, i32_1, i32_2, i32_3, i32_4, i32_9, i32_10, i32_99, i32_100, i32_1000, i32_9999] at *; omega))])); (try rfl)), ⟨by rw [ht]; exact hP, va_K.moved hW.alike hK, hD⟩⟩, hS.F ht⟩) hS.2.2 dX5_enter_25 hlocks
    · skip
      refine lv_bipush (v := (-2)) hx hb dX5_enter_11 (by decide) ?_
      have e_10 : (n : Nat) = (opEnter n w x).2.1 := by first | (with_reducible rfl) | ((try simp only [opEnter]); (repeat (first | rw [if_pos (by first | assumption | exact ⟨by assumption, by assumption⟩ | exact Or.inl (by assumption) | exact Or.inr (by assumption) | exact Or.inr (Or.inl (by assumption)) | exact Or.inr (Or.inr (by assumption)) | (simp only [Int32.lt_iff_toInt_lt, Int32.le_iff_toInt_le, i32_0, i32_1, i32_2, i32_3, i32_4, i32_9, i32_10, i32_99, i32_100, i32_1000, i32_9999] at *; omega))] | rw [if_neg (by first | assumption | (rintro (h9 | h9 | h9) <;> contradiction) | (rintro (h9 | h9) <;> contradiction) | (intro h9; exact Bool.noConfusion (Eq.trans (c := false) h9.symm (by assumption))) | (rintro ⟨h8, h9⟩; exact Bool.noConfusion (Eq.trans (c := false) h8.symm (by assumption))) | (rintro ⟨h8, h9⟩; exact Bool.noConfusion (Eq.trans (c := false) h9.symm (by assumption))) | (simp only [Int32.lt_iff_toInt_lt, Int32.le_iff_toInt_le, i32_0, i32_1, i32_2, i32_3, i32_4, i32_9, i32_10, i32_99, i32_100, i32_1000, i32_9999] at *; omega))])); (try rfl))
      have hP := Eq.mp (congrArg (fun z9 => va_P D vwCl (bClaims k q z9 w ly t a fx) H) e_10) hP
      have hD := Eq.mp (congrArg (fun z9 => va_D A (bClaims k q z9 w ly t a fx)) e_10) hD
      have e_11 : (w : Nat → Int32) = (opEnter n w x).2.2 := by first | (with_reducible rfl) | ((try simp only [opEnter]); (repeat (first | rw [if_pos (by first | assumption | exact ⟨by assumption, by assumption⟩ | exact Or.inl (by assumption) | exact Or.inr (by assumption) | exact Or.inr (Or.inl (by assumption)) | exact Or.inr (Or.inr (by assumption)) | (simp only [Int32.lt_iff_toInt_lt, Int32.le_iff_toInt_le, i32_0, i32_1, i32_2, i32_3, i32_4, i32_9, i32_10, i32_99, i32_100, i32_1000, i32_9999] at *; omega))] | rw [if_neg (by first | assumption | (rintro (h9 | h9 | h9) <;> contradiction) | (rintro (h9 | h9) <;> contradiction) | (intro h9; exact Bool.noConfusion (Eq.trans (c := false) h9.symm (by assumption))) | (rintro ⟨h8, h9⟩; exact Bool.noConfusion (Eq.trans (c := false) h8.symm (by assumption))) | (rintro ⟨h8, h9⟩; exact Bool.noConfusion (Eq.trans (c := false) h9.symm (by assumption))) | (simp only [Int32.lt_iff_toInt_lt, Int32.le_iff_toInt_le, i32_0, i32_1, i32_2, i32_3, i32_4, i32_9, i32_10, i32_99, i32_100, i32_1000, i32_9999] at *; omega))])); (try rfl))
      have hP := Eq.mp (congrArg (fun z9 => va_P D vwCl (bClaims k q ((opEnter n w x).2.1) z9 ly t a fx) H) e_11) hP
      have hD := Eq.mp (congrArg (fun z9 => va_D A (bClaims k q ((opEnter n w x).2.1) z9 ly t a fx)) e_11) hD
      exact W.iret (v := (-2)) hx hb hr (fun t9 ht hW => ⟨⟨_, (), rfl, (by (try simp only [opEnter]); (repeat (first | rw [if_pos (by first | assumption | exact ⟨by assumption, by assumption⟩ | exact Or.inl (by assumption) | exact Or.inr (by assumption) | exact Or.inr (Or.inl (by assumption)) | exact Or.inr (Or.inr (by assumption)) | (simp only [Int32.lt_iff_toInt_lt, Int32.le_iff_toInt_le, i32_0, i32_1, i32_2, i32_3, i32_4, i32_9, i32_10, i32_99, i32_100, i32_1000, i32_9999] at *; omega))] | rw [if_neg (by first | assumption | (rintro (h9 | h9 | h9) <;> contradiction) | (rintro (h9 | h9) <;> contradiction) | (intro h9; exact Bool.noConfusion (Eq.trans (c := false) h9.symm (by assumption))) | (rintro ⟨h8, h9⟩; exact Bool.noConfusion (Eq.trans (c := false) h8.symm (by assumption))) | (rintro ⟨h8, h9⟩; exact Bool.noConfusion (Eq.trans (c := false) h9.symm (by assumption))) | (simp only [Int32.lt_iff_toInt_lt, Int32.le_iff_toInt_le, i32_0, i32_1, i32_2, i32_3, i32_4, i32_9, i32_10, i32_99, i32_100, i32_1000, i32_9999] at *; omega))])); (try rfl)), ⟨by rw [ht]; exact hP, va_K.moved hW.alike hK, hD⟩⟩, hS.F ht⟩) hS.2.2 dX5_enter_13 hlocks

set_option maxHeartbeats 4000000 in
set_option maxRecDepth 100000 in
theorem m_X5_move (l9 : Launch) (D : va_G) (k : Nat → ClassId) (sz : Nat) (q : Nat → Nat) (n : Nat) (w ly t a : Nat → Int32) (fx : Nat → UInt32) (x y : Int32) (hn : n ≤ 10) : Met l9 yX5_move wsX5_move ({ frames := 1, cells := 0, slots := 0, locals := 21 }) (WPc D k [.ref (q 0), .int x, .int y] (bClaims k q n w ly t a fx) sz) (WI D k (bClaims k q n w ((opMove n ly x y).2) t a fx) ((opMove n ly x y).1) (va_A (bClaims k q n w ly t a fx) sz)) 0 0 (va_A (bClaims k q n w ly t a fx) sz) := by
  refine wMet (y := yX5_move) (cc := cX5_move) (maxL := 4) (ret := (some .int)) (Qc := fun A => WI D k (bClaims k q n w ((opMove n ly x y).2) t a fx) ((opMove n ly x y).1) A) [.ref (q 0), .int x, .int y] (by decide) rfl (Nat.le_of_ble_eq_true rfl) ?_
  intro p9 e9 s9 m9 bl9 me9 c9 ls A H hF hr hlocks hP hK hN hD hA hS hl hin
  have hl : lv_has ls 4 [(0, .ref (q 0)), (1, .int x), (2, .int y)] := hl
  obtain ⟨hx, hb, hml, hown, hts⟩ := id hF
  have k_fieldLink_19 : (Cond.fieldLink RX5 19 "OpinionReactor$Claims" "layers" "[I").before _ s9 = true := hts (.fieldLink RX5 19 "OpinionReactor$Claims" "layers" "[I") (by decide +kernel)
  have kc_RX5 : ∀ w ∈ u_ws RX5 TX5 6, w ∈ wsX5_move := by decide +kernel
  refine lv_aload_n hx hb dX5_move_0 rfl (lv_at hl 0 rfl) ?_
  refine lv_iload_n hx hb dX5_move_1 rfl (lv_at hl 1 rfl) ?_
  refine vp_callSi (W.runV (As := [.int x]) (rest := []) hF (m_X5_has l9 D k q n w ly t a fx x ) (cwV 1 hts gX5_move_X5_has rfl rfl rfl (by decide +kernel) ⟨Nat.le_of_ble_eq_true rfl, Nat.le_of_ble_eq_true rfl⟩) (rPreV hK hN hP [0, 1, 2, 3, 4, 5] rfl 0 5 rfl rfl) rfl rfl hl.1 rfl (lv_room (Nat.le_of_ble_eq_true rfl)) dX5_move_2 ⟨Nat.zero_le _, Nat.zero_le _⟩) (fun r_1 hr_1 => ?_)
  subst hr_1
  refine lv_if_eq (tgt := 15) hx hb dX5_move_5 (by decide) (fun c_2 => ?_) (fun c_2 => ?_)
  · skip
    have c_2 : (inC n x) = false := bI_0 c_2
    refine lv_iconst (v := (-1)) hx hb dX5_move_15 (by decide) ?_
    have e_3 : (ly : Nat → Int32) = (opMove n ly x y).2 := by first | (with_reducible rfl) | ((try simp only [opMove]); (repeat (first | rw [if_pos (by first | assumption | exact ⟨by assumption, by assumption⟩ | exact Or.inl (by assumption) | exact Or.inr (by assumption) | exact Or.inr (Or.inl (by assumption)) | exact Or.inr (Or.inr (by assumption)) | (simp only [Int32.lt_iff_toInt_lt, Int32.le_iff_toInt_le, i32_0, i32_1, i32_2, i32_3, i32_4, i32_9, i32_10, i32_99, i32_100, i32_1000, i32_9999] at *; omega))] | rw [if_neg (by first | assumption | (rintro (h9 | h9 | h9) <;> contradiction) | (rintro (h9 | h9) <;> contradiction) | (intro h9; exact Bool.noConfusion (Eq.trans (c := false) h9.symm (by assumption))) | (rintro ⟨h8, h9⟩; exact Bool.noConfusion (Eq.trans (c := false) h8.symm (by assumption))) | (rintro ⟨h8, h9⟩; exact Bool.noConfusion (Eq.trans (c := false) h9.symm (by assumption))) | (simp only [Int32.lt_iff_toInt_lt, Int32.le_iff_toInt_le, i32_0, i32_1, i32_2, i32_3, i32_4, i32_9, i32_10, i32_99, i32_100, i32_1000, i32_9999] at *; omega))])); (try rfl))
    have hP := Eq.mp (congrArg (fun z9 => va_P D vwCl (bClaims k q n w z9 t a fx) H) e_3) hP
    have hD := Eq.mp (congrArg (fun z9 => va_D A (bClaims k q n w z9 t a fx)) e_3) hD
    exact W.iret (v := (-1)) hx hb hr (fun t9 ht hW => ⟨⟨_, (), rfl, (by (try simp only [opMove]); (repeat (first | rw [if_pos (by first | assumption | exact ⟨by assumption, by assumption⟩ | exact Or.inl (by assumption) | exact Or.inr (by assumption) | exact Or.inr (Or.inl (by assumption)) | exact Or.inr (Or.inr (by assumption)) | (simp only [Int32.lt_iff_toInt_lt, Int32.le_iff_toInt_le, i32_0, i32_1, i32_2, i32_3, i32_4, i32_9, i32_10, i32_99, i32_100, i32_1000, i32_9999] at *; omega))] | rw [if_neg (by first | assumption | (rintro (h9 | h9 | h9) <;> contradiction) | (rintro (h9 | h9) <;> contradiction) | (intro h9; exact Bool.noConfusion (Eq.trans (c := false) h9.symm (by assumption))) | (rintro ⟨h8, h9⟩; exact Bool.noConfusion (Eq.trans (c := false) h8.symm (by assumption))) | (rintro ⟨h8, h9⟩; exact Bool.noConfusion (Eq.trans (c := false) h9.symm (by assumption))) | (simp only [Int32.lt_iff_toInt_lt, Int32.le_iff_toInt_le, i32_0, i32_1, i32_2, i32_3, i32_4, i32_9, i32_10, i32_99, i32_100, i32_1000, i32_9999] at *; omega))])); (try rfl)), ⟨by rw [ht]; exact hP, va_K.moved hW.alike hK, hD⟩⟩, hS.F ht⟩) hS.2.2 dX5_move_16 hlocks
  · skip
    have c_2 : (inC n x) = true := bI_1 c_2
    obtain ⟨j, hj, rfl⟩ := inC_of hn c_2
    have clj : (nI j).toNatClampNeg = j := clN (by omega)
    refine lv_iload_n hx hb dX5_move_8 rfl (lv_at hl 2 rfl) ?_
    refine vp_callSi (va_Run.run (va_runSN (As := [.int y]) (rest := []) hF (m_X12_isLayer l9 D k y ) ⟨va_cnB 1 hts gX5_move_X12_isLayer_n50 rfl rfl rfl (hN (.methodLinkNest RX5 50 yX12_isLayer RX12) (by decide +kernel)) (hts (.initialized RX12) (by decide +kernel)) (by decide +kernel) ⟨Nat.le_of_ble_eq_true rfl, Nat.le_of_ble_eq_true rfl⟩, hts (.static yX12_isLayer) (by decide +kernel), trivial⟩ (rPreS hK hN hP [] rfl) rfl rfl hl.1 rfl (lv_room (Nat.le_of_ble_eq_true rfl)) dX5_move_9 ⟨Nat.zero_le _, Nat.zero_le _⟩)) (fun r_4 hr_4 => ?_)
    subst hr_4
    refine lv_if_ne (tgt := 17) hx hb dX5_move_12 (by decide) (fun c_5 => ?_) (fun c_5 => ?_)
    · skip
      have c_5 : (rg 0 y 3) = true := bI_1 c_5
      obtain ⟨i, hi, rfl⟩ := rg_of (m := 3) (by decide) c_5
      have cli : (nI i).toNatClampNeg = i := clN (by omega)
      refine lv_aload_n hx hb dX5_move_17 rfl (lv_at hl 0 rfl) ?_
      refine va_get (D := D) (ci := 5) (v := .ref (q 2)) (C := RX5) (T := TX5) (N := 6) hx hb hts kc_RX5 hown hK hP 0 rfl rfl 2 (by decide) k_fieldLink_19 (fun _ h9 => h9) rfl dX5_move_18 ?_
      refine lv_iload_n hx hb dX5_move_21 rfl (lv_at hl 1 rfl) ?_
      refine ia_ld hx hb hK hP 2 rfl j (by omega) (by decide) dX5_move_22 ?_
      refine lv_istore_n (lv' := [(3, .int (ly j)), (0, .ref (q 0)), (1, .int (nI j)), (2, .int (nI i))]) hx hb dX5_move_23 rfl hl (by decide) rfl (fun ls hl => ?_)
      refine lv_aload_n hx hb dX5_move_24 rfl (lv_at hl 1 rfl) ?_
      refine va_get (D := D) (ci := 5) (v := .ref (q 2)) (C := RX5) (T := TX5) (N := 6) hx hb hts kc_RX5 hown hK hP 0 rfl rfl 2 (by decide) k_fieldLink_19 (fun _ h9 => h9) rfl dX5_move_25 ?_
      refine lv_iload_n hx hb dX5_move_28 rfl (lv_at hl 2 rfl) ?_
      refine lv_iload_n hx hb dX5_move_29 rfl (lv_at hl 3 rfl) ?_
      refine ia_st hx hb hK hP hD hS 2 rfl j (by omega) (by decide) (bClaims k q n w (upd ly j (nI i)) t a fx) rfl dX5_move_30 (fun H locs hP hD hS => ?_)
      refine lv_iload_n hx hb dX5_move_31 rfl (lv_at hl 0 rfl) ?_
      have e_6 : (upd ly j (nI i) : Nat → Int32) = (opMove n ly (nI j) (nI i)).2 := by first | (with_reducible rfl) | ((try simp only [opMove, clj, cli]); (repeat (first | rw [if_pos (by first | assumption | exact ⟨by assumption, by assumption⟩ | exact Or.inl (by assumption) | exact Or.inr (by assumption) | exact Or.inr (Or.inl (by assumption)) | exact Or.inr (Or.inr (by assumption)) | (simp only [Int32.lt_iff_toInt_lt, Int32.le_iff_toInt_le, i32_0, i32_1, i32_2, i32_3, i32_4, i32_9, i32_10, i32_99, i32_100, i32_1000, i32_9999] at *; omega))] | rw [if_neg (by first | assumption | (rintro (h9 | h9 | h9) <;> contradiction) | (rintro (h9 | h9) <;> contradiction) | (intro h9; exact Bool.noConfusion (Eq.trans (c := false) h9.symm (by assumption))) | (rintro ⟨h8, h9⟩; exact Bool.noConfusion (Eq.trans (c := false) h8.symm (by assumption))) | (rintro ⟨h8, h9⟩; exact Bool.noConfusion (Eq.trans (c := false) h9.symm (by assumption))) | (simp only [Int32.lt_iff_toInt_lt, Int32.le_iff_toInt_le, i32_0, i32_1, i32_2, i32_3, i32_4, i32_9, i32_10, i32_99, i32_100, i32_1000, i32_9999] at *; omega))])); (try rfl))
      have hP := Eq.mp (congrArg (fun z9 => va_P D vwCl (bClaims k q n w z9 t a fx) H) e_6) hP
      have hD := Eq.mp (congrArg (fun z9 => va_D A (bClaims k q n w z9 t a fx)) e_6) hD
      exact W.iret (v := ly j) hx hb hr (fun t9 ht hW => ⟨⟨_, (), rfl, (by (try simp only [opMove, clj, cli]); (repeat (first | rw [if_pos (by first | assumption | exact ⟨by assumption, by assumption⟩ | exact Or.inl (by assumption) | exact Or.inr (by assumption) | exact Or.inr (Or.inl (by assumption)) | exact Or.inr (Or.inr (by assumption)) | (simp only [Int32.lt_iff_toInt_lt, Int32.le_iff_toInt_le, i32_0, i32_1, i32_2, i32_3, i32_4, i32_9, i32_10, i32_99, i32_100, i32_1000, i32_9999] at *; omega))] | rw [if_neg (by first | assumption | (rintro (h9 | h9 | h9) <;> contradiction) | (rintro (h9 | h9) <;> contradiction) | (intro h9; exact Bool.noConfusion (Eq.trans (c := false) h9.symm (by assumption))) | (rintro ⟨h8, h9⟩; exact Bool.noConfusion (Eq.trans (c := false) h8.symm (by assumption))) | (rintro ⟨h8, h9⟩; exact Bool.noConfusion (Eq.trans (c := false) h9.symm (by assumption))) | (simp only [Int32.lt_iff_toInt_lt, Int32.le_iff_toInt_le, i32_0, i32_1, i32_2, i32_3, i32_4, i32_9, i32_10, i32_99, i32_100, i32_1000, i32_9999] at *; omega))])); (try rfl)), ⟨by rw [ht]; exact hP, va_K.moved hW.alike hK, hD⟩⟩, hS.F ht⟩) hS.2.2 dX5_move_32 hlocks
    · skip
      have c_5 : (rg 0 y 3) = false := bI_0 c_5
      refine lv_iconst (v := (-1)) hx hb dX5_move_15 (by decide) ?_
      have e_7 : (ly : Nat → Int32) = (opMove n ly (nI j) y).2 := by first | (with_reducible rfl) | ((try simp only [opMove, clj]); (repeat (first | rw [if_pos (by first | assumption | exact ⟨by assumption, by assumption⟩ | exact Or.inl (by assumption) | exact Or.inr (by assumption) | exact Or.inr (Or.inl (by assumption)) | exact Or.inr (Or.inr (by assumption)) | (simp only [Int32.lt_iff_toInt_lt, Int32.le_iff_toInt_le, i32_0, i32_1, i32_2, i32_3, i32_4, i32_9, i32_10, i32_99, i32_100, i32_1000, i32_9999] at *; omega))] | rw [if_neg (by first | assumption | (rintro (h9 | h9 | h9) <;> contradiction) | (rintro (h9 | h9) <;> contradiction) | (intro h9; exact Bool.noConfusion (Eq.trans (c := false) h9.symm (by assumption))) | (rintro ⟨h8, h9⟩; exact Bool.noConfusion (Eq.trans (c := false) h8.symm (by assumption))) | (rintro ⟨h8, h9⟩; exact Bool.noConfusion (Eq.trans (c := false) h9.symm (by assumption))) | (simp only [Int32.lt_iff_toInt_lt, Int32.le_iff_toInt_le, i32_0, i32_1, i32_2, i32_3, i32_4, i32_9, i32_10, i32_99, i32_100, i32_1000, i32_9999] at *; omega))])); (try rfl))
      have hP := Eq.mp (congrArg (fun z9 => va_P D vwCl (bClaims k q n w z9 t a fx) H) e_7) hP
      have hD := Eq.mp (congrArg (fun z9 => va_D A (bClaims k q n w z9 t a fx)) e_7) hD
      exact W.iret (v := (-1)) hx hb hr (fun t9 ht hW => ⟨⟨_, (), rfl, (by (try simp only [opMove, clj]); (repeat (first | rw [if_pos (by first | assumption | exact ⟨by assumption, by assumption⟩ | exact Or.inl (by assumption) | exact Or.inr (by assumption) | exact Or.inr (Or.inl (by assumption)) | exact Or.inr (Or.inr (by assumption)) | (simp only [Int32.lt_iff_toInt_lt, Int32.le_iff_toInt_le, i32_0, i32_1, i32_2, i32_3, i32_4, i32_9, i32_10, i32_99, i32_100, i32_1000, i32_9999] at *; omega))] | rw [if_neg (by first | assumption | (rintro (h9 | h9 | h9) <;> contradiction) | (rintro (h9 | h9) <;> contradiction) | (intro h9; exact Bool.noConfusion (Eq.trans (c := false) h9.symm (by assumption))) | (rintro ⟨h8, h9⟩; exact Bool.noConfusion (Eq.trans (c := false) h8.symm (by assumption))) | (rintro ⟨h8, h9⟩; exact Bool.noConfusion (Eq.trans (c := false) h9.symm (by assumption))) | (simp only [Int32.lt_iff_toInt_lt, Int32.le_iff_toInt_le, i32_0, i32_1, i32_2, i32_3, i32_4, i32_9, i32_10, i32_99, i32_100, i32_1000, i32_9999] at *; omega))])); (try rfl)), ⟨by rw [ht]; exact hP, va_K.moved hW.alike hK, hD⟩⟩, hS.F ht⟩) hS.2.2 dX5_move_16 hlocks

set_option maxHeartbeats 4000000 in
set_option maxRecDepth 100000 in
theorem m_X5_direct (l9 : Launch) (D : va_G) (k : Nat → ClassId) (sz : Nat) (q : Nat → Nat) (n : Nat) (w ly t a : Nat → Int32) (fx : Nat → UInt32) (x y : Int32) (b : Bool) (hn : n ≤ 10) : Met l9 yX5_direct wsX5_direct ({ frames := 2, cells := 0, slots := 0, locals := 41 }) (WPc D k [.ref (q 0), .int x, .int y, .int (bI b)] (bClaims k q n w ly t a fx) sz) (WI D k (bClaims k q n w ly ((opDirect n t a x y b).2.1) ((opDirect n t a x y b).2.2) fx) ((opDirect n t a x y b).1) (va_A (bClaims k q n w ly t a fx) sz)) 0 0 (va_A (bClaims k q n w ly t a fx) sz) := by
  refine wMet (y := yX5_direct) (cc := cX5_direct) (maxL := 5) (ret := (some .int)) (Qc := fun A => WI D k (bClaims k q n w ly ((opDirect n t a x y b).2.1) ((opDirect n t a x y b).2.2) fx) ((opDirect n t a x y b).1) A) [.ref (q 0), .int x, .int y, .int (bI b)] (by decide) rfl (Nat.le_of_ble_eq_true rfl) ?_
  intro p9 e9 s9 m9 bl9 me9 c9 ls A H hF hr hlocks hP hK hN hD hA hS hl hin
  have hl : lv_has ls 5 [(0, .ref (q 0)), (1, .int x), (2, .int y), (3, .int (bI b))] := hl
  obtain ⟨hx, hb, hml, hown, hts⟩ := id hF
  have k_fieldLink_22 : (Cond.fieldLink RX5 22 "OpinionReactor$Claims" "targets" "[I").before _ s9 = true := hts (.fieldLink RX5 22 "OpinionReactor$Claims" "targets" "[I") (by decide +kernel)
  have kc_RX5 : ∀ w ∈ u_ws RX5 TX5 6, w ∈ wsX5_direct := by decide +kernel
  have k_fieldLink_25 : (Cond.fieldLink RX5 25 "OpinionReactor$Claims" "attackers" "[I").before _ s9 = true := hts (.fieldLink RX5 25 "OpinionReactor$Claims" "attackers" "[I") (by decide +kernel)
  refine lv_aload_n hx hb dX5_direct_0 rfl (lv_at hl 0 rfl) ?_
  refine lv_iload_n hx hb dX5_direct_1 rfl (lv_at hl 1 rfl) ?_
  refine vp_callSi (W.runV (As := [.int x]) (rest := []) hF (m_X5_has l9 D k q n w ly t a fx x ) (cwV 1 hts gX5_direct_X5_has rfl rfl rfl (by decide +kernel) ⟨Nat.le_of_ble_eq_true rfl, Nat.le_of_ble_eq_true rfl⟩) (rPreV hK hN hP [0, 1, 2, 3, 4, 5] rfl 0 5 rfl rfl) rfl rfl hl.1 rfl (lv_room (Nat.le_of_ble_eq_true rfl)) dX5_direct_2 ⟨Nat.zero_le _, Nat.zero_le _⟩) (fun r_1 hr_1 => ?_)
  subst hr_1
  refine lv_if_eq (tgt := 16) hx hb dX5_direct_5 (by decide) (fun c_2 => ?_) (fun c_2 => ?_)
  · skip
    have c_2 : (inC n x) = false := bI_0 c_2
    refine lv_iconst (v := (-1)) hx hb dX5_direct_16 (by decide) ?_
    have e_3 : (t : Nat → Int32) = (opDirect n t a x y b).2.1 := by first | (with_reducible rfl) | ((try simp only [opDirect]); (repeat (first | rw [if_pos (by first | assumption | exact ⟨by assumption, by assumption⟩ | exact Or.inl (by assumption) | exact Or.inr (by assumption) | exact Or.inr (Or.inl (by assumption)) | exact Or.inr (Or.inr (by assumption)) | (simp only [Int32.lt_iff_toInt_lt, Int32.le_iff_toInt_le, i32_0, i32_1, i32_2, i32_3, i32_4, i32_9, i32_10, i32_99, i32_100, i32_1000, i32_9999] at *; omega))] | rw [if_neg (by first | assumption | (rintro (h9 | h9 | h9) <;> contradiction) | (rintro (h9 | h9) <;> contradiction) | (intro h9; exact Bool.noConfusion (Eq.trans (c := false) h9.symm (by assumption))) | (rintro ⟨h8, h9⟩; exact Bool.noConfusion (Eq.trans (c := false) h8.symm (by assumption))) | (rintro ⟨h8, h9⟩; exact Bool.noConfusion (Eq.trans (c := false) h9.symm (by assumption))) | (simp only [Int32.lt_iff_toInt_lt, Int32.le_iff_toInt_le, i32_0, i32_1, i32_2, i32_3, i32_4, i32_9, i32_10, i32_99, i32_100, i32_1000, i32_9999] at *; omega))])); (try rfl))
    have hP := Eq.mp (congrArg (fun z9 => va_P D vwCl (bClaims k q n w ly z9 a fx) H) e_3) hP
    have hD := Eq.mp (congrArg (fun z9 => va_D A (bClaims k q n w ly z9 a fx)) e_3) hD
    have e_4 : (a : Nat → Int32) = (opDirect n t a x y b).2.2 := by first | (with_reducible rfl) | ((try simp only [opDirect]); (repeat (first | rw [if_pos (by first | assumption | exact ⟨by assumption, by assumption⟩ | exact Or.inl (by assumption) | exact Or.inr (by assumption) | exact Or.inr (Or.inl (by assumption)) | exact Or.inr (Or.inr (by assumption)) | (simp only [Int32.lt_iff_toInt_lt, Int32.le_iff_toInt_le, i32_0, i32_1, i32_2, i32_3, i32_4, i32_9, i32_10, i32_99, i32_100, i32_1000, i32_9999] at *; omega))] | rw [if_neg (by first | assumption | (rintro (h9 | h9 | h9) <;> contradiction) | (rintro (h9 | h9) <;> contradiction) | (intro h9; exact Bool.noConfusion (Eq.trans (c := false) h9.symm (by assumption))) | (rintro ⟨h8, h9⟩; exact Bool.noConfusion (Eq.trans (c := false) h8.symm (by assumption))) | (rintro ⟨h8, h9⟩; exact Bool.noConfusion (Eq.trans (c := false) h9.symm (by assumption))) | (simp only [Int32.lt_iff_toInt_lt, Int32.le_iff_toInt_le, i32_0, i32_1, i32_2, i32_3, i32_4, i32_9, i32_10, i32_99, i32_100, i32_1000, i32_9999] at *; omega))])); (try rfl))
    have hP := Eq.mp (congrArg (fun z9 => va_P D vwCl (bClaims k q n w ly ((opDirect n t a x y b).2.1) z9 fx) H) e_4) hP
    have hD := Eq.mp (congrArg (fun z9 => va_D A (bClaims k q n w ly ((opDirect n t a x y b).2.1) z9 fx)) e_4) hD
    exact W.iret (v := (-1)) hx hb hr (fun t9 ht hW => ⟨⟨_, (), rfl, (by (try simp only [opDirect]); (repeat (first | rw [if_pos (by first | assumption | exact ⟨by assumption, by assumption⟩ | exact Or.inl (by assumption) | exact Or.inr (by assumption) | exact Or.inr (Or.inl (by assumption)) | exact Or.inr (Or.inr (by assumption)) | (simp only [Int32.lt_iff_toInt_lt, Int32.le_iff_toInt_le, i32_0, i32_1, i32_2, i32_3, i32_4, i32_9, i32_10, i32_99, i32_100, i32_1000, i32_9999] at *; omega))] | rw [if_neg (by first | assumption | (rintro (h9 | h9 | h9) <;> contradiction) | (rintro (h9 | h9) <;> contradiction) | (intro h9; exact Bool.noConfusion (Eq.trans (c := false) h9.symm (by assumption))) | (rintro ⟨h8, h9⟩; exact Bool.noConfusion (Eq.trans (c := false) h8.symm (by assumption))) | (rintro ⟨h8, h9⟩; exact Bool.noConfusion (Eq.trans (c := false) h9.symm (by assumption))) | (simp only [Int32.lt_iff_toInt_lt, Int32.le_iff_toInt_le, i32_0, i32_1, i32_2, i32_3, i32_4, i32_9, i32_10, i32_99, i32_100, i32_1000, i32_9999] at *; omega))])); (try rfl)), ⟨by rw [ht]; exact hP, va_K.moved hW.alike hK, hD⟩⟩, hS.F ht⟩) hS.2.2 dX5_direct_17 hlocks
  · skip
    have c_2 : (inC n x) = true := bI_1 c_2
    obtain ⟨j, hj, rfl⟩ := inC_of hn c_2
    have clj : (nI j).toNatClampNeg = j := clN (by omega)
    refine lv_aload_n hx hb dX5_direct_8 rfl (lv_at hl 0 rfl) ?_
    refine lv_iload_n hx hb dX5_direct_9 rfl (lv_at hl 2 rfl) ?_
    refine vp_callSi (W.runV (As := [.int y]) (rest := []) hF (m_X5_has l9 D k q n w ly t a fx y ) (cwV 1 hts gX5_direct_X5_has rfl rfl rfl (by decide +kernel) ⟨Nat.le_of_ble_eq_true rfl, Nat.le_of_ble_eq_true rfl⟩) (rPreV hK hN hP [0, 1, 2, 3, 4, 5] rfl 0 5 rfl rfl) rfl rfl hl.1 rfl (lv_room (Nat.le_of_ble_eq_true rfl)) dX5_direct_10 ⟨Nat.zero_le _, Nat.zero_le _⟩) (fun r_5 hr_5 => ?_)
    subst hr_5
    refine lv_if_ne (tgt := 18) hx hb dX5_direct_13 (by decide) (fun c_6 => ?_) (fun c_6 => ?_)
    · skip
      have c_6 : (inC n y) = true := bI_1 c_6
      obtain ⟨i, hi, rfl⟩ := inC_of hn c_6
      have cli : (nI i).toNatClampNeg = i := clN (by omega)
      refine lv_aload_n hx hb dX5_direct_18 rfl (lv_at hl 0 rfl) ?_
      refine va_get (D := D) (ci := 5) (v := .ref (q 3)) (C := RX5) (T := TX5) (N := 6) hx hb hts kc_RX5 hown hK hP 0 rfl rfl 3 (by decide) k_fieldLink_22 (fun _ h9 => h9) rfl dX5_direct_19 ?_
      refine lv_iload_n hx hb dX5_direct_22 rfl (lv_at hl 1 rfl) ?_
      refine ia_ld hx hb hK hP 3 rfl j (by omega) (by decide) dX5_direct_23 ?_
      refine lv_iload_n hx hb dX5_direct_24 rfl (lv_at hl 2 rfl) ?_
      refine vp_callSi (va_Run.run (va_runSN (As := [.int (t j), .int (nI i)]) (rest := []) hF (m_X12_contains l9 D k (t j) i (by omega)) ⟨va_cnB 2 hts gX5_direct_X12_contains_n46 rfl rfl rfl (hN (.methodLinkNest RX5 46 yX12_contains RX12) (by decide +kernel)) (hts (.initialized RX12) (by decide +kernel)) (by decide +kernel) ⟨Nat.le_of_ble_eq_true rfl, Nat.le_of_ble_eq_true rfl⟩, hts (.static yX12_contains) (by decide +kernel), trivial⟩ (rPreS hK hN hP [] rfl) rfl rfl hl.1 rfl (lv_room (Nat.le_of_ble_eq_true rfl)) dX5_direct_25 ⟨Nat.zero_le _, Nat.zero_le _⟩)) (fun r_7 hr_7 => ?_)
      subst hr_7
      refine lv_istore (lv' := [(4, .int (bI (tb (t j) i))), (0, .ref (q 0)), (1, .int (nI j)), (2, .int (nI i)), (3, .int (bI b))]) hx hb dX5_direct_28 hl (by decide) rfl (fun ls hl => ?_)
      refine lv_iload_n hx hb dX5_direct_30 rfl (lv_at hl 4 rfl) ?_
      refine lv_if_eq (tgt := 63) hx hb dX5_direct_31 (by decide) (fun c_8 => ?_) (fun c_8 => ?_)
      · skip
        have c_8 : b = false := bI_0 c_8
        refine lv_aload_n hx hb dX5_direct_63 rfl (lv_at hl 1 rfl) ?_
        refine va_get (D := D) (ci := 5) (v := .ref (q 3)) (C := RX5) (T := TX5) (N := 6) hx hb hts kc_RX5 hown hK hP 0 rfl rfl 3 (by decide) k_fieldLink_22 (fun _ h9 => h9) rfl dX5_direct_64 ?_
        refine lv_iload_n hx hb dX5_direct_67 rfl (lv_at hl 2 rfl) ?_
        refine lv_dup2_11 hx hb dX5_direct_68 rfl rfl ?_
        refine ia_ld hx hb hK hP 3 rfl j (by omega) (by decide) dX5_direct_69 ?_
        refine lv_iload_n hx hb dX5_direct_70 rfl (lv_at hl 3 rfl) ?_
        refine vp_callSi (va_Run.run (va_runSN (As := [.int (nI i)]) (rest := [.int (t j), .int (nI j), .ref (q 3)]) hF (m_X12_bit l9 D k i ) ⟨va_cnB 1 hts gX5_direct_X12_bit_n38 rfl rfl rfl (hN (.methodLinkNest RX5 38 yX12_bit RX12) (by decide +kernel)) (hts (.initialized RX12) (by decide +kernel)) (by decide +kernel) ⟨Nat.le_of_ble_eq_true rfl, Nat.le_of_ble_eq_true rfl⟩, hts (.static yX12_bit) (by decide +kernel), trivial⟩ (rPreS hK hN hP [] rfl) rfl rfl hl.1 rfl (lv_room (Nat.le_of_ble_eq_true rfl)) dX5_direct_71 ⟨Nat.zero_le _, Nat.zero_le _⟩)) (fun r_9 hr_9 => ?_)
        subst hr_9
        refine lv_iconst (v := (-1)) hx hb dX5_direct_74 (by decide) ?_
        refine lv_ixor hx hb dX5_direct_75 ?_
        refine lv_iand hx hb dX5_direct_76 ?_
        refine ia_st hx hb hK hP hD hS 3 rfl j (by omega) (by decide) (bClaims k q n w ly (upd t j ((t j) &&& ((bt i) ^^^ (-1)))) a fx) rfl dX5_direct_77 (fun H locs hP hD hS => ?_)
        refine lv_aload_n hx hb dX5_direct_78 rfl (lv_at hl 1 rfl) ?_
        refine va_get (D := D) (ci := 5) (v := .ref (q 4)) (C := RX5) (T := TX5) (N := 6) hx hb hts kc_RX5 hown hK hP 0 rfl rfl 4 (by decide) k_fieldLink_25 (fun _ h9 => h9) rfl dX5_direct_79 ?_
        refine lv_iload_n hx hb dX5_direct_82 rfl (lv_at hl 3 rfl) ?_
        refine lv_dup2_11 hx hb dX5_direct_83 rfl rfl ?_
        refine ia_ld hx hb hK hP 4 rfl i (by omega) (by decide) dX5_direct_84 ?_
        refine lv_iload_n hx hb dX5_direct_85 rfl (lv_at hl 2 rfl) ?_
        refine vp_callSi (va_Run.run (va_runSN (As := [.int (nI j)]) (rest := [.int (a i), .int (nI i), .ref (q 4)]) hF (m_X12_bit l9 D k j ) ⟨va_cnB 1 hts gX5_direct_X12_bit_n38 rfl rfl rfl (hN (.methodLinkNest RX5 38 yX12_bit RX12) (by decide +kernel)) (hts (.initialized RX12) (by decide +kernel)) (by decide +kernel) ⟨Nat.le_of_ble_eq_true rfl, Nat.le_of_ble_eq_true rfl⟩, hts (.static yX12_bit) (by decide +kernel), trivial⟩ (rPreS hK hN hP [] rfl) rfl rfl hl.1 rfl (lv_room (Nat.le_of_ble_eq_true rfl)) dX5_direct_86 ⟨Nat.zero_le _, Nat.zero_le _⟩)) (fun r_10 hr_10 => ?_)
        subst hr_10
        refine lv_iconst (v := (-1)) hx hb dX5_direct_89 (by decide) ?_
        refine lv_ixor hx hb dX5_direct_90 ?_
        refine lv_iand hx hb dX5_direct_91 ?_
        refine ia_st hx hb hK hP hD hS 4 rfl i (by omega) (by decide) (bClaims k q n w ly (upd t j ((t j) &&& ((bt i) ^^^ (-1)))) (upd a i ((a i) &&& ((bt j) ^^^ (-1)))) fx) rfl dX5_direct_92 (fun H locs hP hD hS => ?_)
        refine lv_iload hx hb dX5_direct_93 (lv_at hl 0 rfl) ?_
        refine lv_if_eq (tgt := 102) hx hb dX5_direct_95 (by decide) (fun c_11 => ?_) (fun c_11 => ?_)
        · skip
          have c_11 : (tb (t j) i) = false := bI_0 c_11
          refine lv_iconst (v := 0) hx hb dX5_direct_102 (by decide) ?_
          have e_12 : (upd t j ((t j) &&& ((bt i) ^^^ (-1))) : Nat → Int32) = (opDirect n t a (nI j) (nI i) b).2.1 := by first | (with_reducible rfl) | ((try simp only [opDirect, clj, cli]); (repeat (first | rw [if_pos (by first | assumption | exact ⟨by assumption, by assumption⟩ | exact Or.inl (by assumption) | exact Or.inr (by assumption) | exact Or.inr (Or.inl (by assumption)) | exact Or.inr (Or.inr (by assumption)) | (simp only [Int32.lt_iff_toInt_lt, Int32.le_iff_toInt_le, i32_0, i32_1, i32_2, i32_3, i32_4, i32_9, i32_10, i32_99, i32_100, i32_1000, i32_9999] at *; omega))] | rw [if_neg (by first | assumption | (rintro (h9 | h9 | h9) <;> contradiction) | (rintro (h9 | h9) <;> contradiction) | (intro h9; exact Bool.noConfusion (Eq.trans (c := false) h9.symm (by assumption))) | (rintro ⟨h8, h9⟩; exact Bool.noConfusion (Eq.trans (c := false) h8.symm (by assumption))) | (rintro ⟨h8, h9⟩; exact Bool.noConfusion (Eq.trans (c := false) h9.symm (by assumption))) | (simp only [Int32.lt_iff_toInt_lt, Int32.le_iff_toInt_le, i32_0, i32_1, i32_2, i32_3, i32_4, i32_9, i32_10, i32_99, i32_100, i32_1000, i32_9999] at *; omega))])); (try rfl); (try (dsimp only; rw [c_11]; rfl)))
          have hP := Eq.mp (congrArg (fun z9 => va_P D vwCl (bClaims k q n w ly z9 (upd a i ((a i) &&& ((bt j) ^^^ (-1)))) fx) H) e_12) hP
          have hD := Eq.mp (congrArg (fun z9 => va_D A (bClaims k q n w ly z9 (upd a i ((a i) &&& ((bt j) ^^^ (-1)))) fx)) e_12) hD
          have e_13 : (upd a i ((a i) &&& ((bt j) ^^^ (-1))) : Nat → Int32) = (opDirect n t a (nI j) (nI i) b).2.2 := by first | (with_reducible rfl) | ((try simp only [opDirect, clj, cli]); (repeat (first | rw [if_pos (by first | assumption | exact ⟨by assumption, by assumption⟩ | exact Or.inl (by assumption) | exact Or.inr (by assumption) | exact Or.inr (Or.inl (by assumption)) | exact Or.inr (Or.inr (by assumption)) | (simp only [Int32.lt_iff_toInt_lt, Int32.le_iff_toInt_le, i32_0, i32_1, i32_2, i32_3, i32_4, i32_9, i32_10, i32_99, i32_100, i32_1000, i32_9999] at *; omega))] | rw [if_neg (by first | assumption | (rintro (h9 | h9 | h9) <;> contradiction) | (rintro (h9 | h9) <;> contradiction) | (intro h9; exact Bool.noConfusion (Eq.trans (c := false) h9.symm (by assumption))) | (rintro ⟨h8, h9⟩; exact Bool.noConfusion (Eq.trans (c := false) h8.symm (by assumption))) | (rintro ⟨h8, h9⟩; exact Bool.noConfusion (Eq.trans (c := false) h9.symm (by assumption))) | (simp only [Int32.lt_iff_toInt_lt, Int32.le_iff_toInt_le, i32_0, i32_1, i32_2, i32_3, i32_4, i32_9, i32_10, i32_99, i32_100, i32_1000, i32_9999] at *; omega))])); (try rfl); (try (dsimp only; rw [c_11]; rfl)))
          have hP := Eq.mp (congrArg (fun z9 => va_P D vwCl (bClaims k q n w ly ((opDirect n t a (nI j) (nI i) b).2.1) z9 fx) H) e_13) hP
          have hD := Eq.mp (congrArg (fun z9 => va_D A (bClaims k q n w ly ((opDirect n t a (nI j) (nI i) b).2.1) z9 fx)) e_13) hD
          exact W.iret (v := 0) hx hb hr (fun t9 ht hW => ⟨⟨_, (), rfl, (by (try simp only [opDirect, clj, cli]); (repeat (first | rw [if_pos (by first | assumption | exact ⟨by assumption, by assumption⟩ | exact Or.inl (by assumption) | exact Or.inr (by assumption) | exact Or.inr (Or.inl (by assumption)) | exact Or.inr (Or.inr (by assumption)) | (simp only [Int32.lt_iff_toInt_lt, Int32.le_iff_toInt_le, i32_0, i32_1, i32_2, i32_3, i32_4, i32_9, i32_10, i32_99, i32_100, i32_1000, i32_9999] at *; omega))] | rw [if_neg (by first | assumption | (rintro (h9 | h9 | h9) <;> contradiction) | (rintro (h9 | h9) <;> contradiction) | (intro h9; exact Bool.noConfusion (Eq.trans (c := false) h9.symm (by assumption))) | (rintro ⟨h8, h9⟩; exact Bool.noConfusion (Eq.trans (c := false) h8.symm (by assumption))) | (rintro ⟨h8, h9⟩; exact Bool.noConfusion (Eq.trans (c := false) h9.symm (by assumption))) | (simp only [Int32.lt_iff_toInt_lt, Int32.le_iff_toInt_le, i32_0, i32_1, i32_2, i32_3, i32_4, i32_9, i32_10, i32_99, i32_100, i32_1000, i32_9999] at *; omega))])); (try rfl); (try (dsimp only; rw [c_11]; rfl))), ⟨by rw [ht]; exact hP, va_K.moved hW.alike hK, hD⟩⟩, hS.F ht⟩) hS.2.2 dX5_direct_103 hlocks
        · skip
          have c_11 : (tb (t j) i) = true := bI_1 c_11
          refine lv_iconst (v := 1) hx hb dX5_direct_98 (by decide) ?_
          refine lv_goto (tgt := 103) hx hb dX5_direct_99 (by decide) ?_
          have e_14 : (upd t j ((t j) &&& ((bt i) ^^^ (-1))) : Nat → Int32) = (opDirect n t a (nI j) (nI i) b).2.1 := by first | (with_reducible rfl) | ((try simp only [opDirect, clj, cli]); (repeat (first | rw [if_pos (by first | assumption | exact ⟨by assumption, by assumption⟩ | exact Or.inl (by assumption) | exact Or.inr (by assumption) | exact Or.inr (Or.inl (by assumption)) | exact Or.inr (Or.inr (by assumption)) | (simp only [Int32.lt_iff_toInt_lt, Int32.le_iff_toInt_le, i32_0, i32_1, i32_2, i32_3, i32_4, i32_9, i32_10, i32_99, i32_100, i32_1000, i32_9999] at *; omega))] | rw [if_neg (by first | assumption | (rintro (h9 | h9 | h9) <;> contradiction) | (rintro (h9 | h9) <;> contradiction) | (intro h9; exact Bool.noConfusion (Eq.trans (c := false) h9.symm (by assumption))) | (rintro ⟨h8, h9⟩; exact Bool.noConfusion (Eq.trans (c := false) h8.symm (by assumption))) | (rintro ⟨h8, h9⟩; exact Bool.noConfusion (Eq.trans (c := false) h9.symm (by assumption))) | (simp only [Int32.lt_iff_toInt_lt, Int32.le_iff_toInt_le, i32_0, i32_1, i32_2, i32_3, i32_4, i32_9, i32_10, i32_99, i32_100, i32_1000, i32_9999] at *; omega))])); (try rfl); (try (dsimp only; rw [c_11]; rfl)))
          have hP := Eq.mp (congrArg (fun z9 => va_P D vwCl (bClaims k q n w ly z9 (upd a i ((a i) &&& ((bt j) ^^^ (-1)))) fx) H) e_14) hP
          have hD := Eq.mp (congrArg (fun z9 => va_D A (bClaims k q n w ly z9 (upd a i ((a i) &&& ((bt j) ^^^ (-1)))) fx)) e_14) hD
          have e_15 : (upd a i ((a i) &&& ((bt j) ^^^ (-1))) : Nat → Int32) = (opDirect n t a (nI j) (nI i) b).2.2 := by first | (with_reducible rfl) | ((try simp only [opDirect, clj, cli]); (repeat (first | rw [if_pos (by first | assumption | exact ⟨by assumption, by assumption⟩ | exact Or.inl (by assumption) | exact Or.inr (by assumption) | exact Or.inr (Or.inl (by assumption)) | exact Or.inr (Or.inr (by assumption)) | (simp only [Int32.lt_iff_toInt_lt, Int32.le_iff_toInt_le, i32_0, i32_1, i32_2, i32_3, i32_4, i32_9, i32_10, i32_99, i32_100, i32_1000, i32_9999] at *; omega))] | rw [if_neg (by first | assumption | (rintro (h9 | h9 | h9) <;> contradiction) | (rintro (h9 | h9) <;> contradiction) | (intro h9; exact Bool.noConfusion (Eq.trans (c := false) h9.symm (by assumption))) | (rintro ⟨h8, h9⟩; exact Bool.noConfusion (Eq.trans (c := false) h8.symm (by assumption))) | (rintro ⟨h8, h9⟩; exact Bool.noConfusion (Eq.trans (c := false) h9.symm (by assumption))) | (simp only [Int32.lt_iff_toInt_lt, Int32.le_iff_toInt_le, i32_0, i32_1, i32_2, i32_3, i32_4, i32_9, i32_10, i32_99, i32_100, i32_1000, i32_9999] at *; omega))])); (try rfl); (try (dsimp only; rw [c_11]; rfl)))
          have hP := Eq.mp (congrArg (fun z9 => va_P D vwCl (bClaims k q n w ly ((opDirect n t a (nI j) (nI i) b).2.1) z9 fx) H) e_15) hP
          have hD := Eq.mp (congrArg (fun z9 => va_D A (bClaims k q n w ly ((opDirect n t a (nI j) (nI i) b).2.1) z9 fx)) e_15) hD
          exact W.iret (v := 1) hx hb hr (fun t9 ht hW => ⟨⟨_, (), rfl, (by (try simp only [opDirect, clj, cli]); (repeat (first | rw [if_pos (by first | assumption | exact ⟨by assumption, by assumption⟩ | exact Or.inl (by assumption) | exact Or.inr (by assumption) | exact Or.inr (Or.inl (by assumption)) | exact Or.inr (Or.inr (by assumption)) | (simp only [Int32.lt_iff_toInt_lt, Int32.le_iff_toInt_le, i32_0, i32_1, i32_2, i32_3, i32_4, i32_9, i32_10, i32_99, i32_100, i32_1000, i32_9999] at *; omega))] | rw [if_neg (by first | assumption | (rintro (h9 | h9 | h9) <;> contradiction) | (rintro (h9 | h9) <;> contradiction) | (intro h9; exact Bool.noConfusion (Eq.trans (c := false) h9.symm (by assumption))) | (rintro ⟨h8, h9⟩; exact Bool.noConfusion (Eq.trans (c := false) h8.symm (by assumption))) | (rintro ⟨h8, h9⟩; exact Bool.noConfusion (Eq.trans (c := false) h9.symm (by assumption))) | (simp only [Int32.lt_iff_toInt_lt, Int32.le_iff_toInt_le, i32_0, i32_1, i32_2, i32_3, i32_4, i32_9, i32_10, i32_99, i32_100, i32_1000, i32_9999] at *; omega))])); (try rfl); (try (dsimp only; rw [c_11]; rfl))), ⟨by rw [ht]; exact hP, va_K.moved hW.alike hK, hD⟩⟩, hS.F ht⟩) hS.2.2 dX5_direct_103 hlocks
      · skip
        have c_8 : b = true := bI_1 c_8
        refine lv_aload_n hx hb dX5_direct_34 rfl (lv_at hl 1 rfl) ?_
        refine va_get (D := D) (ci := 5) (v := .ref (q 3)) (C := RX5) (T := TX5) (N := 6) hx hb hts kc_RX5 hown hK hP 0 rfl rfl 3 (by decide) k_fieldLink_22 (fun _ h9 => h9) rfl dX5_direct_35 ?_
        refine lv_iload_n hx hb dX5_direct_38 rfl (lv_at hl 2 rfl) ?_
        refine lv_dup2_11 hx hb dX5_direct_39 rfl rfl ?_
        refine ia_ld hx hb hK hP 3 rfl j (by omega) (by decide) dX5_direct_40 ?_
        refine lv_iload_n hx hb dX5_direct_41 rfl (lv_at hl 3 rfl) ?_
        refine vp_callSi (va_Run.run (va_runSN (As := [.int (nI i)]) (rest := [.int (t j), .int (nI j), .ref (q 3)]) hF (m_X12_bit l9 D k i ) ⟨va_cnB 1 hts gX5_direct_X12_bit_n38 rfl rfl rfl (hN (.methodLinkNest RX5 38 yX12_bit RX12) (by decide +kernel)) (hts (.initialized RX12) (by decide +kernel)) (by decide +kernel) ⟨Nat.le_of_ble_eq_true rfl, Nat.le_of_ble_eq_true rfl⟩, hts (.static yX12_bit) (by decide +kernel), trivial⟩ (rPreS hK hN hP [] rfl) rfl rfl hl.1 rfl (lv_room (Nat.le_of_ble_eq_true rfl)) dX5_direct_42 ⟨Nat.zero_le _, Nat.zero_le _⟩)) (fun r_16 hr_16 => ?_)
        subst hr_16
        refine lv_ior hx hb dX5_direct_45 ?_
        refine ia_st hx hb hK hP hD hS 3 rfl j (by omega) (by decide) (bClaims k q n w ly (upd t j ((t j) ||| (bt i))) a fx) rfl dX5_direct_46 (fun H locs hP hD hS => ?_)
        refine lv_aload_n hx hb dX5_direct_47 rfl (lv_at hl 1 rfl) ?_
        refine va_get (D := D) (ci := 5) (v := .ref (q 4)) (C := RX5) (T := TX5) (N := 6) hx hb hts kc_RX5 hown hK hP 0 rfl rfl 4 (by decide) k_fieldLink_25 (fun _ h9 => h9) rfl dX5_direct_48 ?_
        refine lv_iload_n hx hb dX5_direct_51 rfl (lv_at hl 3 rfl) ?_
        refine lv_dup2_11 hx hb dX5_direct_52 rfl rfl ?_
        refine ia_ld hx hb hK hP 4 rfl i (by omega) (by decide) dX5_direct_53 ?_
        refine lv_iload_n hx hb dX5_direct_54 rfl (lv_at hl 2 rfl) ?_
        refine vp_callSi (va_Run.run (va_runSN (As := [.int (nI j)]) (rest := [.int (a i), .int (nI i), .ref (q 4)]) hF (m_X12_bit l9 D k j ) ⟨va_cnB 1 hts gX5_direct_X12_bit_n38 rfl rfl rfl (hN (.methodLinkNest RX5 38 yX12_bit RX12) (by decide +kernel)) (hts (.initialized RX12) (by decide +kernel)) (by decide +kernel) ⟨Nat.le_of_ble_eq_true rfl, Nat.le_of_ble_eq_true rfl⟩, hts (.static yX12_bit) (by decide +kernel), trivial⟩ (rPreS hK hN hP [] rfl) rfl rfl hl.1 rfl (lv_room (Nat.le_of_ble_eq_true rfl)) dX5_direct_55 ⟨Nat.zero_le _, Nat.zero_le _⟩)) (fun r_17 hr_17 => ?_)
        subst hr_17
        refine lv_ior hx hb dX5_direct_58 ?_
        refine ia_st hx hb hK hP hD hS 4 rfl i (by omega) (by decide) (bClaims k q n w ly (upd t j ((t j) ||| (bt i))) (upd a i ((a i) ||| (bt j))) fx) rfl dX5_direct_59 (fun H locs hP hD hS => ?_)
        refine lv_goto (tgt := 93) hx hb dX5_direct_60 (by decide) ?_
        refine lv_iload hx hb dX5_direct_93 (lv_at hl 0 rfl) ?_
        refine lv_if_eq (tgt := 102) hx hb dX5_direct_95 (by decide) (fun c_18 => ?_) (fun c_18 => ?_)
        · skip
          have c_18 : (tb (t j) i) = false := bI_0 c_18
          refine lv_iconst (v := 0) hx hb dX5_direct_102 (by decide) ?_
          have e_19 : (upd t j ((t j) ||| (bt i)) : Nat → Int32) = (opDirect n t a (nI j) (nI i) b).2.1 := by first | (with_reducible rfl) | ((try simp only [opDirect, clj, cli]); (repeat (first | rw [if_pos (by first | assumption | exact ⟨by assumption, by assumption⟩ | exact Or.inl (by assumption) | exact Or.inr (by assumption) | exact Or.inr (Or.inl (by assumption)) | exact Or.inr (Or.inr (by assumption)) | (simp only [Int32.lt_iff_toInt_lt, Int32.le_iff_toInt_le, i32_0, i32_1, i32_2, i32_3, i32_4, i32_9, i32_10, i32_99, i32_100, i32_1000, i32_9999] at *; omega))] | rw [if_neg (by first | assumption | (rintro (h9 | h9 | h9) <;> contradiction) | (rintro (h9 | h9) <;> contradiction) | (intro h9; exact Bool.noConfusion (Eq.trans (c := false) h9.symm (by assumption))) | (rintro ⟨h8, h9⟩; exact Bool.noConfusion (Eq.trans (c := false) h8.symm (by assumption))) | (rintro ⟨h8, h9⟩; exact Bool.noConfusion (Eq.trans (c := false) h9.symm (by assumption))) | (simp only [Int32.lt_iff_toInt_lt, Int32.le_iff_toInt_le, i32_0, i32_1, i32_2, i32_3, i32_4, i32_9, i32_10, i32_99, i32_100, i32_1000, i32_9999] at *; omega))])); (try rfl); (try (dsimp only; rw [c_18]; rfl)))
          have hP := Eq.mp (congrArg (fun z9 => va_P D vwCl (bClaims k q n w ly z9 (upd a i ((a i) ||| (bt j))) fx) H) e_19) hP
          have hD := Eq.mp (congrArg (fun z9 => va_D A (bClaims k q n w ly z9 (upd a i ((a i) ||| (bt j))) fx)) e_19) hD
          have e_20 : (upd a i ((a i) ||| (bt j)) : Nat → Int32) = (opDirect n t a (nI j) (nI i) b).2.2 := by first | (with_reducible rfl) | ((try simp only [opDirect, clj, cli]); (repeat (first | rw [if_pos (by first | assumption | exact ⟨by assumption, by assumption⟩ | exact Or.inl (by assumption) | exact Or.inr (by assumption) | exact Or.inr (Or.inl (by assumption)) | exact Or.inr (Or.inr (by assumption)) | (simp only [Int32.lt_iff_toInt_lt, Int32.le_iff_toInt_le, i32_0, i32_1, i32_2, i32_3, i32_4, i32_9, i32_10, i32_99, i32_100, i32_1000, i32_9999] at *; omega))] | rw [if_neg (by first | assumption | (rintro (h9 | h9 | h9) <;> contradiction) | (rintro (h9 | h9) <;> contradiction) | (intro h9; exact Bool.noConfusion (Eq.trans (c := false) h9.symm (by assumption))) | (rintro ⟨h8, h9⟩; exact Bool.noConfusion (Eq.trans (c := false) h8.symm (by assumption))) | (rintro ⟨h8, h9⟩; exact Bool.noConfusion (Eq.trans (c := false) h9.symm (by assumption))) | (simp only [Int32.lt_iff_toInt_lt, Int32.le_iff_toInt_le, i32_0, i32_1, i32_2, i32_3, i32_4, i32_9, i32_10, i32_99, i32_100, i32_1000, i32_9999] at *; omega))])); (try rfl); (try (dsimp only; rw [c_18]; rfl)))
          have hP := Eq.mp (congrArg (fun z9 => va_P D vwCl (bClaims k q n w ly ((opDirect n t a (nI j) (nI i) b).2.1) z9 fx) H) e_20) hP
          have hD := Eq.mp (congrArg (fun z9 => va_D A (bClaims k q n w ly ((opDirect n t a (nI j) (nI i) b).2.1) z9 fx)) e_20) hD
          exact W.iret (v := 0) hx hb hr (fun t9 ht hW => ⟨⟨_, (), rfl, (by (try simp only [opDirect, clj, cli]); (repeat (first | rw [if_pos (by first | assumption | exact ⟨by assumption, by assumption⟩ | exact Or.inl (by assumption) | exact Or.inr (by assumption) | exact Or.inr (Or.inl (by assumption)) | exact Or.inr (Or.inr (by assumption)) | (simp only [Int32.lt_iff_toInt_lt, Int32.le_iff_toInt_le, i32_0, i32_1, i32_2, i32_3, i32_4, i32_9, i32_10, i32_99, i32_100, i32_1000, i32_9999] at *; omega))] | rw [if_neg (by first | assumption | (rintro (h9 | h9 | h9) <;> contradiction) | (rintro (h9 | h9) <;> contradiction) | (intro h9; exact Bool.noConfusion (Eq.trans (c := false) h9.symm (by assumption))) | (rintro ⟨h8, h9⟩; exact Bool.noConfusion (Eq.trans (c := false) h8.symm (by assumption))) | (rintro ⟨h8, h9⟩; exact Bool.noConfusion (Eq.trans (c := false) h9.symm (by assumption))) | (simp only [Int32.lt_iff_toInt_lt, Int32.le_iff_toInt_le, i32_0, i32_1, i32_2, i32_3, i32_4, i32_9, i32_10, i32_99, i32_100, i32_1000, i32_9999] at *; omega))])); (try rfl); (try (dsimp only; rw [c_18]; rfl))), ⟨by rw [ht]; exact hP, va_K.moved hW.alike hK, hD⟩⟩, hS.F ht⟩) hS.2.2 dX5_direct_103 hlocks
        · skip
          have c_18 : (tb (t j) i) = true := bI_1 c_18
          refine lv_iconst (v := 1) hx hb dX5_direct_98 (by decide) ?_
          refine lv_goto (tgt := 103) hx hb dX5_direct_99 (by decide) ?_
          have e_21 : (upd t j ((t j) ||| (bt i)) : Nat → Int32) = (opDirect n t a (nI j) (nI i) b).2.1 := by first | (with_reducible rfl) | ((try simp only [opDirect, clj, cli]); (repeat (first | rw [if_pos (by first | assumption | exact ⟨by assumption, by assumption⟩ | exact Or.inl (by assumption) | exact Or.inr (by assumption) | exact Or.inr (Or.inl (by assumption)) | exact Or.inr (Or.inr (by assumption)) | (simp only [Int32.lt_iff_toInt_lt, Int32.le_iff_toInt_le, i32_0, i32_1, i32_2, i32_3, i32_4, i32_9, i32_10, i32_99, i32_100, i32_1000, i32_9999] at *; omega))] | rw [if_neg (by first | assumption | (rintro (h9 | h9 | h9) <;> contradiction) | (rintro (h9 | h9) <;> contradiction) | (intro h9; exact Bool.noConfusion (Eq.trans (c := false) h9.symm (by assumption))) | (rintro ⟨h8, h9⟩; exact Bool.noConfusion (Eq.trans (c := false) h8.symm (by assumption))) | (rintro ⟨h8, h9⟩; exact Bool.noConfusion (Eq.trans (c := false) h9.symm (by assumption))) | (simp only [Int32.lt_iff_toInt_lt, Int32.le_iff_toInt_le, i32_0, i32_1, i32_2, i32_3, i32_4, i32_9, i32_10, i32_99, i32_100, i32_1000, i32_9999] at *; omega))])); (try rfl); (try (dsimp only; rw [c_18]; rfl)))
          have hP := Eq.mp (congrArg (fun z9 => va_P D vwCl (bClaims k q n w ly z9 (upd a i ((a i) ||| (bt j))) fx) H) e_21) hP
          have hD := Eq.mp (congrArg (fun z9 => va_D A (bClaims k q n w ly z9 (upd a i ((a i) ||| (bt j))) fx)) e_21) hD
          have e_22 : (upd a i ((a i) ||| (bt j)) : Nat → Int32) = (opDirect n t a (nI j) (nI i) b).2.2 := by first | (with_reducible rfl) | ((try simp only [opDirect, clj, cli]); (repeat (first | rw [if_pos (by first | assumption | exact ⟨by assumption, by assumption⟩ | exact Or.inl (by assumption) | exact Or.inr (by assumption) | exact Or.inr (Or.inl (by assumption)) | exact Or.inr (Or.inr (by assumption)) | (simp only [Int32.lt_iff_toInt_lt, Int32.le_iff_toInt_le, i32_0, i32_1, i32_2, i32_3, i32_4, i32_9, i32_10, i32_99, i32_100, i32_1000, i32_9999] at *; omega))] | rw [if_neg (by first | assumption | (rintro (h9 | h9 | h9) <;> contradiction) | (rintro (h9 | h9) <;> contradiction) | (intro h9; exact Bool.noConfusion (Eq.trans (c := false) h9.symm (by assumption))) | (rintro ⟨h8, h9⟩; exact Bool.noConfusion (Eq.trans (c := false) h8.symm (by assumption))) | (rintro ⟨h8, h9⟩; exact Bool.noConfusion (Eq.trans (c := false) h9.symm (by assumption))) | (simp only [Int32.lt_iff_toInt_lt, Int32.le_iff_toInt_le, i32_0, i32_1, i32_2, i32_3, i32_4, i32_9, i32_10, i32_99, i32_100, i32_1000, i32_9999] at *; omega))])); (try rfl); (try (dsimp only; rw [c_18]; rfl)))
          have hP := Eq.mp (congrArg (fun z9 => va_P D vwCl (bClaims k q n w ly ((opDirect n t a (nI j) (nI i) b).2.1) z9 fx) H) e_22) hP
          have hD := Eq.mp (congrArg (fun z9 => va_D A (bClaims k q n w ly ((opDirect n t a (nI j) (nI i) b).2.1) z9 fx)) e_22) hD
          exact W.iret (v := 1) hx hb hr (fun t9 ht hW => ⟨⟨_, (), rfl, (by (try simp only [opDirect, clj, cli]); (repeat (first | rw [if_pos (by first | assumption | exact ⟨by assumption, by assumption⟩ | exact Or.inl (by assumption) | exact Or.inr (by assumption) | exact Or.inr (Or.inl (by assumption)) | exact Or.inr (Or.inr (by assumption)) | (simp only [Int32.lt_iff_toInt_lt, Int32.le_iff_toInt_le, i32_0, i32_1, i32_2, i32_3, i32_4, i32_9, i32_10, i32_99, i32_100, i32_1000, i32_9999] at *; omega))] | rw [if_neg (by first | assumption | (rintro (h9 | h9 | h9) <;> contradiction) | (rintro (h9 | h9) <;> contradiction) | (intro h9; exact Bool.noConfusion (Eq.trans (c := false) h9.symm (by assumption))) | (rintro ⟨h8, h9⟩; exact Bool.noConfusion (Eq.trans (c := false) h8.symm (by assumption))) | (rintro ⟨h8, h9⟩; exact Bool.noConfusion (Eq.trans (c := false) h9.symm (by assumption))) | (simp only [Int32.lt_iff_toInt_lt, Int32.le_iff_toInt_le, i32_0, i32_1, i32_2, i32_3, i32_4, i32_9, i32_10, i32_99, i32_100, i32_1000, i32_9999] at *; omega))])); (try rfl); (try (dsimp only; rw [c_18]; rfl))), ⟨by rw [ht]; exact hP, va_K.moved hW.alike hK, hD⟩⟩, hS.F ht⟩) hS.2.2 dX5_direct_103 hlocks
    · skip
      have c_6 : (inC n y) = false := bI_0 c_6
      refine lv_iconst (v := (-1)) hx hb dX5_direct_16 (by decide) ?_
      have e_23 : (t : Nat → Int32) = (opDirect n t a (nI j) y b).2.1 := by first | (with_reducible rfl) | ((try simp only [opDirect, clj]); (repeat (first | rw [if_pos (by first | assumption | exact ⟨by assumption, by assumption⟩ | exact Or.inl (by assumption) | exact Or.inr (by assumption) | exact Or.inr (Or.inl (by assumption)) | exact Or.inr (Or.inr (by assumption)) | (simp only [Int32.lt_iff_toInt_lt, Int32.le_iff_toInt_le, i32_0, i32_1, i32_2, i32_3, i32_4, i32_9, i32_10, i32_99, i32_100, i32_1000, i32_9999] at *; omega))] | rw [if_neg (by first | assumption | (rintro (h9 | h9 | h9) <;> contradiction) | (rintro (h9 | h9) <;> contradiction) | (intro h9; exact Bool.noConfusion (Eq.trans (c := false) h9.symm (by assumption))) | (rintro ⟨h8, h9⟩; exact Bool.noConfusion (Eq.trans (c := false) h8.symm (by assumption))) | (rintro ⟨h8, h9⟩; exact Bool.noConfusion (Eq.trans (c := false) h9.symm (by assumption))) | (simp only [Int32.lt_iff_toInt_lt, Int32.le_iff_toInt_le, i32_0, i32_1, i32_2, i32_3, i32_4, i32_9, i32_10, i32_99, i32_100, i32_1000, i32_9999] at *; omega))])); (try rfl))
      have hP := Eq.mp (congrArg (fun z9 => va_P D vwCl (bClaims k q n w ly z9 a fx) H) e_23) hP
      have hD := Eq.mp (congrArg (fun z9 => va_D A (bClaims k q n w ly z9 a fx)) e_23) hD
      have e_24 : (a : Nat → Int32) = (opDirect n t a (nI j) y b).2.2 := by first | (with_reducible rfl) | ((try simp only [opDirect, clj]); (repeat (first | rw [if_pos (by first | assumption | exact ⟨by assumption, by assumption⟩ | exact Or.inl (by assumption) | exact Or.inr (by assumption) | exact Or.inr (Or.inl (by assumption)) | exact Or.inr (Or.inr (by assumption)) | (simp only [Int32.lt_iff_toInt_lt, Int32.le_iff_toInt_le, i32_0, i32_1, i32_2, i32_3, i32_4, i32_9, i32_10, i32_99, i32_100, i32_1000, i32_9999] at *; omega))] | rw [if_neg (by first | assumption | (rintro (h9 | h9 | h9) <;> contradiction) | (rintro (h9 | h9) <;> contradiction) | (intro h9; exact Bool.noConfusion (Eq.trans (c := false) h9.symm (by assumption))) | (rintro ⟨h8, h9⟩; exact Bool.noConfusion (Eq.trans (c := false) h8.symm (by assumption))) | (rintro ⟨h8, h9⟩; exact Bool.noConfusion (Eq.trans (c := false) h9.symm (by assumption))) | (simp only [Int32.lt_iff_toInt_lt, Int32.le_iff_toInt_le, i32_0, i32_1, i32_2, i32_3, i32_4, i32_9, i32_10, i32_99, i32_100, i32_1000, i32_9999] at *; omega))])); (try rfl))
      have hP := Eq.mp (congrArg (fun z9 => va_P D vwCl (bClaims k q n w ly ((opDirect n t a (nI j) y b).2.1) z9 fx) H) e_24) hP
      have hD := Eq.mp (congrArg (fun z9 => va_D A (bClaims k q n w ly ((opDirect n t a (nI j) y b).2.1) z9 fx)) e_24) hD
      exact W.iret (v := (-1)) hx hb hr (fun t9 ht hW => ⟨⟨_, (), rfl, (by (try simp only [opDirect, clj]); (repeat (first | rw [if_pos (by first | assumption | exact ⟨by assumption, by assumption⟩ | exact Or.inl (by assumption) | exact Or.inr (by assumption) | exact Or.inr (Or.inl (by assumption)) | exact Or.inr (Or.inr (by assumption)) | (simp only [Int32.lt_iff_toInt_lt, Int32.le_iff_toInt_le, i32_0, i32_1, i32_2, i32_3, i32_4, i32_9, i32_10, i32_99, i32_100, i32_1000, i32_9999] at *; omega))] | rw [if_neg (by first | assumption | (rintro (h9 | h9 | h9) <;> contradiction) | (rintro (h9 | h9) <;> contradiction) | (intro h9; exact Bool.noConfusion (Eq.trans (c := false) h9.symm (by assumption))) | (rintro ⟨h8, h9⟩; exact Bool.noConfusion (Eq.trans (c := false) h8.symm (by assumption))) | (rintro ⟨h8, h9⟩; exact Bool.noConfusion (Eq.trans (c := false) h9.symm (by assumption))) | (simp only [Int32.lt_iff_toInt_lt, Int32.le_iff_toInt_le, i32_0, i32_1, i32_2, i32_3, i32_4, i32_9, i32_10, i32_99, i32_100, i32_1000, i32_9999] at *; omega))])); (try rfl)), ⟨by rw [ht]; exact hP, va_K.moved hW.alike hK, hD⟩⟩, hS.F ht⟩) hS.2.2 dX5_direct_17 hlocks

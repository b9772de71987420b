/-! Positions; accepting by rounds; circles by searches. -/
/-- a set is a position -/
def hld (n : Nat) (t a : Nat → Int32) (x : Int32) : Bool := decide (orS n t x &&& x = 0) && decide (orS n a x &&& (orS n t x ^^^ (-1)) = 0)
/-- how many of the first m sets are positions -/
def cntP (n : Nat) (t a : Nat → Int32) (m : Nat) : Nat := up (fun i acc => if hld n t a (nI i) then acc + 1 else acc) 0 m
theorem cntP_s (n : Nat) (t a : Nat → Int32) (m : Nat) : cntP n t a (m + 1) = if hld n t a (nI m) then cntP n t a m + 1 else cntP n t a m := rfl
theorem cntP_le (n : Nat) (t a : Nat → Int32) (m : Nat) : cntP n t a m ≤ m := by
  induction m with
  | zero => exact Nat.le_refl _
  | succ m ih => rw [cntP_s]; split <;> omega
/-- the set x is better than y -/
def btr (n : Nat) (w : Nat → Int32) (x y : Int32) : Bool := if adS n w x = adS n w y then decide (¬ x &&& ((x ^^^ y) &&& -(x ^^^ y)) = 0) else decide (adS n w y < adS n w x)
def hvS (n : Nat) (w t a : Nat → Int32) (m : Nat) : Int32 := up (fun i acc => if hld n t a (nI (i + 1)) && btr n w (nI (i + 1)) acc then nI (i + 1) else acc) 0 m
theorem hvS_s (n : Nat) (w t a : Nat → Int32) (m : Nat) : hvS n w t a (m + 1) = if hld n t a (nI (m + 1)) && btr n w (nI (m + 1)) (hvS n w t a m) then nI (m + 1) else hvS n w t a m := rfl
/-- the first m claims of which each attacker is among the claims h -/
def dfm (m : Nat) (a : Nat → Int32) (h : Int32) : Int32 := up (fun c acc => if a c &&& (h ^^^ (-1)) = 0 then acc ||| bt c else acc) 0 m
theorem dfm_s (m : Nat) (a : Nat → Int32) (h : Int32) : dfm (m + 1) a h = if a m &&& (h ^^^ (-1)) = 0 then dfm m a h ||| bt m else dfm m a h := rfl
/-- the claims that a set defends -/
def dfS (n : Nat) (t a : Nat → Int32) (x : Int32) : Int32 := dfm n a (orS n t x)
/-- the claims accepted in r rounds -/
def itA (n : Nat) (t a : Nat → Int32) (r : Nat) : Int32 := up (fun _ x => x ||| dfS n t a x) 0 r
theorem itA_s (n : Nat) (t a : Nat → Int32) (r : Nat) : itA n t a (r + 1) = itA n t a r ||| dfS n t a (itA n t a r) := rfl
theorem itA_fix {n : Nat} {t a : Nat → Int32} {r : Nat} (h : itA n t a (r + 1) = itA n t a r) : ∀ d, itA n t a (r + d) = itA n t a r
  | 0 => rfl
  | d + 1 => by
    have e := itA_fix h d
    rw [show r + (d + 1) = (r + d) + 1 from rfl, itA_s, e]
    rw [itA_s] at h
    exact h
def accS (n : Nat) (t a : Nat → Int32) : Int32 := itA n t a (n + 1)
theorem accS_fix {n : Nat} {t a : Nat → Int32} {r : Nat} (hr : r ≤ n + 1) (h : itA n t a r ||| dfS n t a (itA n t a r) = itA n t a r) : itA n t a r = accS n t a := by
  have := itA_fix (r := r) (by rw [itA_s]; exact h) (n + 1 - r)
  rw [show r + (n + 1 - r) = n + 1 by omega] at this
  exact this.symm
/-- a search along t from the claim c: what is found, and what was found last -/
def srS (n : Nat) (t : Nat → Int32) (c m : Nat) : Int32 × Int32 := up (fun _ x => (x.1 ||| (orS n t x.2 &&& (x.1 ^^^ (-1))), orS n t x.2 &&& (x.1 ^^^ (-1)))) (bt c, bt c) m
theorem srS_1 (n : Nat) (t : Nat → Int32) (c m : Nat) : (srS n t c (m + 1)).1 = (srS n t c m).1 ||| (orS n t (srS n t c m).2 &&& ((srS n t c m).1 ^^^ (-1))) := rfl
theorem srS_2 (n : Nat) (t : Nat → Int32) (c m : Nat) : (srS n t c (m + 1)).2 = orS n t (srS n t c m).2 &&& ((srS n t c m).1 ^^^ (-1)) := rfl
/-- the circle of a claim -/
def arS (n : Nat) (t a : Nat → Int32) (c : Nat) : Int32 := (srS n t c n).1 &&& (srS n a c n).1
/-- circles among the first m claims, and the claims in them -/
def cirS (n : Nat) (t a : Nat → Int32) (m : Nat) : Nat × Int32 := up (fun c x => if tb x.2 c then x else (x.1 + 1, x.2 ||| arS n t a c)) (0, 0) m
theorem cirS_s (n : Nat) (t a : Nat → Int32) (m : Nat) : cirS n t a (m + 1) = if tb (cirS n t a m).2 m then cirS n t a m else ((cirS n t a m).1 + 1, (cirS n t a m).2 ||| arS n t a m) := rfl
theorem cirS_le (n : Nat) (t a : Nat → Int32) (m : Nat) : (cirS n t a m).1 ≤ m := by
  induction m with
  | zero => exact Nat.le_refl _
  | succ m ih =>
    rw [cirS_s]
    split
    · omega
    · show (cirS n t a m).1 + 1 ≤ m + 1
      omega

set_option maxHeartbeats 4000000 in
set_option maxRecDepth 100000 in
theorem m_X9_holds (l9 : Launch) (D : va_G) (k : Nat → ClassId) (q : Nat → Nat) (n : Nat) (w ly t a : Nat → Int32) (fx : Nat → UInt32) (x : Int32) (hn : n ≤ 10) : Met l9 yX9_holds wsX9_holds ({ frames := 2, cells := 0, slots := 0, locals := 44 }) (RPc D k [.ref (q 0), .int x] (bClaims k q n w ly t a fx)) (EI (bI (hld n t a x))) 0 0 noA := by
  refine rMet (y := yX9_holds) (cc := cX9_holds) (maxL := 3) (ret := (some .boolean)) [.ref (q 0), .int x] (by decide) rfl (Nat.le_of_ble_eq_true rfl) ?_
  intro p9 e9 s9 m9 bl9 me9 c9 ls hF hr hlocks hP hK hN hl
  have hl : lv_has ls 3 [(0, .ref (q 0)), (1, .int x)] := hl
  obtain ⟨hx, hb, hml, hown, hts⟩ := id hF
  refine lv_aload_n hx hb dX9_holds_0 rfl (lv_at hl 0 rfl) ?_
  refine lv_iload_n hx hb dX9_holds_1 rfl (lv_at hl 1 rfl) ?_
  refine vp_callSi (W.runV (As := [.int x]) (rest := []) hF (m_X5_targetsOf l9 D k q n w ly t a fx x hn) (cwV 1 hts gX9_holds_X5_targetsOf rfl rfl rfl (by decide +kernel) ⟨Nat.le_of_ble_eq_true rfl, Nat.le_of_ble_eq_true rfl⟩) (rPreV hK hN hP [0, 1, 2, 3, 4, 5] rfl 0 7 rfl rfl) rfl rfl hl.1 rfl (lv_room (Nat.le_of_ble_eq_true rfl)) dX9_holds_2 ⟨Nat.zero_le _, Nat.zero_le _⟩) (fun r_1 hr_1 => ?_)
  subst hr_1
  refine lv_istore_n (lv' := [(2, .int (orS n t x)), (0, .ref (q 0)), (1, .int x)]) hx hb dX9_holds_5 rfl hl (by decide) rfl (fun ls hl => ?_)
  refine lv_iload_n hx hb dX9_holds_6 rfl (lv_at hl 0 rfl) ?_
  refine lv_iload_n hx hb dX9_holds_7 rfl (lv_at hl 2 rfl) ?_
  refine lv_iand hx hb dX9_holds_8 ?_
  refine lv_if_ne (tgt := 28) hx hb dX9_holds_9 (by decide) (fun c_2 => ?_) (fun c_2 => ?_)
  · skip
    refine lv_iconst (v := 0) hx hb dX9_holds_28 (by decide) ?_
    exact W.zret (v := 0) hx hb hr (rfl) (fun t9 ht hW => ⟨_, rfl, (by simp_all [hld, bI]), ht⟩) (fun _ h => by cases h) dX9_holds_29 hlocks
  · skip
    refine lv_aload_n hx hb dX9_holds_12 rfl (lv_at hl 1 rfl) ?_
    refine lv_iload_n hx hb dX9_holds_13 rfl (lv_at hl 2 rfl) ?_
    refine vp_callSi (W.runV (As := [.int x]) (rest := []) hF (m_X5_attackersOf l9 D k q n w ly t a fx x hn) (cwV 1 hts gX9_holds_X5_attackersOf rfl rfl rfl (by decide +kernel) ⟨Nat.le_of_ble_eq_true rfl, Nat.le_of_ble_eq_true rfl⟩) (rPreV hK hN hP [0, 1, 2, 3, 4, 5] rfl 0 7 rfl rfl) rfl rfl hl.1 rfl (lv_room (Nat.le_of_ble_eq_true rfl)) dX9_holds_14 ⟨Nat.zero_le _, Nat.zero_le _⟩) (fun r_3 hr_3 => ?_)
    subst hr_3
    refine lv_iload_n hx hb dX9_holds_17 rfl (lv_at hl 0 rfl) ?_
    refine lv_iconst (v := (-1)) hx hb dX9_holds_18 (by decide) ?_
    refine lv_ixor hx hb dX9_holds_19 ?_
    refine lv_iand hx hb dX9_holds_20 ?_
    refine lv_if_ne (tgt := 28) hx hb dX9_holds_21 (by decide) (fun c_4 => ?_) (fun c_4 => ?_)
    · skip
      refine lv_iconst (v := 0) hx hb dX9_holds_28 (by decide) ?_
      exact W.zret (v := 0) hx hb hr (rfl) (fun t9 ht hW => ⟨_, rfl, (by simp_all [hld, bI]), ht⟩) (fun _ h => by cases h) dX9_holds_29 hlocks
    · skip
      refine lv_iconst (v := 1) hx hb dX9_holds_24 (by decide) ?_
      refine lv_goto (tgt := 29) hx hb dX9_holds_25 (by decide) ?_
      exact W.zret (v := 1) hx hb hr (rfl) (fun t9 ht hW => ⟨_, rfl, (by simp_all [hld, bI]), ht⟩) (fun _ h => by cases h) dX9_holds_29 hlocks

set_option maxHeartbeats 4000000 in
set_option maxRecDepth 100000 in
theorem m_X9_byTrying (l9 : Launch) (D : va_G) (k : Nat → ClassId) (q : Nat → Nat) (n : Nat) (w ly t a : Nat → Int32) (fx : Nat → UInt32) (hn : n ≤ 10) : Met l9 yX9_byTrying wsX9_byTrying ({ frames := 3, cells := 0, slots := 0, locals := 66 }) (RPc D k [.ref (q 0)] (bClaims k q n w ly t a fx)) (EI (nI (cntP n t a (pw n)))) 0 0 noA := by
  have hpw := pw_le hn
  have hpw1 := pw_pos n
  refine rMet (y := yX9_byTrying) (cc := cX9_byTrying) (maxL := 3) (ret := (some .int)) [.ref (q 0)] (by decide) rfl (Nat.le_of_ble_eq_true rfl) ?_
  intro p9 e9 s9 m9 bl9 me9 c9 ls hF hr hlocks hP hK hN hl
  have hl : lv_has ls 3 [(0, .ref (q 0))] := hl
  obtain ⟨hx, hb, hml, hown, hts⟩ := id hF
  have loop_4 : ∀ (fuel : Nat) (i : Nat), (i ≤ pw n) → pw n - i < fuel → ∀ (ls : Array Slot), lv_has ls 3 [(0, .ref (q 0)), (1, .int (nI (cntP n t a i))), (2, .int (nI i))] → W p9 l9 e9 ({ frames := 3, cells := 0, slots := 0, locals := 66 }) s9 m9 ([.ref (q 0)] : List Value).toArray bl9 me9 c9 s9.heap [] 0 0 (MQ bl9 (EI (nI (cntP n t a (pw n)))) ([.ref (q 0)] : List Value).toArray s9 0 0 noA) (F0 m9 4 ls []) := by
    intro fuel
    induction fuel with
    | zero => intro i hi hfuel_4; exact absurd hfuel_4 (Nat.not_lt_zero _)
    | succ fuel ih_4 =>
      intro i hi hfuel_4 ls hl
      refine lv_iload_n hx hb dX9_byTrying_4 rfl (lv_at hl 2 rfl) ?_
      refine lv_aload_n hx hb dX9_byTrying_5 rfl (lv_at hl 0 rfl) ?_
      refine vp_callSi (W.runV (As := []) (rest := [.int (nI i)]) hF (m_X5_all l9 D k q n w ly t a fx hn) (cwV 0 hts gX9_byTrying_X5_all rfl rfl rfl (by decide +kernel) ⟨Nat.le_of_ble_eq_true rfl, Nat.le_of_ble_eq_true rfl⟩) (rPreV hK hN hP [0, 1, 2, 3, 4, 5] rfl 0 7 rfl rfl) rfl rfl hl.1 rfl (lv_room (Nat.le_of_ble_eq_true rfl)) dX9_byTrying_6 ⟨Nat.zero_le _, Nat.zero_le _⟩) (fun r_1 hr_1 => ?_)
      subst hr_1
      refine lv_icmp_gt (tgt := 29) hx hb dX9_byTrying_9 (by decide) (fun c_2 => ?_) (fun c_2 => ?_)
      · skip
        have c_2 : (pw n - 1) < i := (nI_ltI (a := pw n - 1) (b := i) (by omega) (by omega)).mp c_2
        refine lv_iload_n hx hb dX9_byTrying_29 rfl (lv_at hl 1 rfl) ?_
        exact W.iret (v := nI (cntP n t a i)) hx hb hr (fun t9 ht hW => ⟨_, rfl, (by rw [show i = pw n by omega]), ht⟩) (fun _ h => by cases h) dX9_byTrying_30 hlocks
      · skip
        have c_2 : ¬ (pw n - 1) < i := fun h => c_2 ((nI_ltI (a := pw n - 1) (b := i) (by omega) (by omega)).mpr h)
        refine lv_aload_n hx hb dX9_byTrying_12 rfl (lv_at hl 0 rfl) ?_
        refine lv_iload_n hx hb dX9_byTrying_13 rfl (lv_at hl 2 rfl) ?_
        refine vp_callSi (W.runS (As := [.ref (q 0), .int (nI i)]) (rest := []) hF (m_X9_holds l9 D k q n w ly t a fx (nI i) hn) (va_cwS 2 hts gX9_byTrying_X9_holds rfl rfl rfl (by decide +kernel) ⟨Nat.le_of_ble_eq_true rfl, Nat.le_of_ble_eq_true rfl⟩) (rPreS hK hN hP [0, 1, 2, 3, 4, 5] rfl) rfl rfl hl.1 rfl (lv_room (Nat.le_of_ble_eq_true rfl)) dX9_byTrying_14 ⟨Nat.zero_le _, Nat.zero_le _⟩) (fun r_3 hr_3 => ?_)
        subst hr_3
        refine lv_if_eq (tgt := 23) hx hb dX9_byTrying_17 (by decide) (fun c_4 => ?_) (fun c_4 => ?_)
        · skip
          have c_4 : (hld n t a (nI i)) = false := bI_0 c_4
          refine lv_iinc (v := nI (i + 1)) (lv' := [(2, .int (nI (i + 1))), (0, .ref (q 0)), (1, .int (nI (cntP n t a i)))]) hx hb dX9_byTrying_23 hl (k := 2) rfl (nI_inc i) (by decide) rfl (fun ls hl => ?_)
          refine lv_goto (tgt := 4) hx hb dX9_byTrying_26 (by decide) ?_
          have e_5 : (nI (cntP n t a i) : Int32) = nI (cntP n t a (i + 1)) := by first | (with_reducible rfl) | (rw [cntP_s]; simp [*])
          exact ih_4 (i + 1) (by omega) (by omega) ls (lv_one hl 1 rfl rfl (lv_one hl 2 rfl (congrArg Value.int e_5) (lv_one hl 0 rfl rfl (lv_nil hl))))
        · skip
          have c_4 : (hld n t a (nI i)) = true := bI_1 c_4
          refine lv_iinc (v := nI ((cntP n t a i) + 1)) (lv' := [(1, .int (nI ((cntP n t a i) + 1))), (0, .ref (q 0)), (2, .int (nI i))]) hx hb dX9_byTrying_20 hl (k := 1) rfl (nI_inc (cntP n t a i)) (by decide) rfl (fun ls hl => ?_)
          refine lv_iinc (v := nI (i + 1)) (lv' := [(2, .int (nI (i + 1))), (1, .int (nI ((cntP n t a i) + 1))), (0, .ref (q 0))]) hx hb dX9_byTrying_23 hl (k := 2) rfl (nI_inc i) (by decide) rfl (fun ls hl => ?_)
          refine lv_goto (tgt := 4) hx hb dX9_byTrying_26 (by decide) ?_
          have e_6 : (nI ((cntP n t a i) + 1) : Int32) = nI (cntP n t a (i + 1)) := by first | (with_reducible rfl) | (rw [cntP_s]; simp [*])
          exact ih_4 (i + 1) (by omega) (by omega) ls (lv_one hl 2 rfl rfl (lv_one hl 1 rfl (congrArg Value.int e_6) (lv_one hl 0 rfl rfl (lv_nil hl))))
  refine lv_iconst (v := 0) hx hb dX9_byTrying_0 (by decide) ?_
  refine lv_istore_n (lv' := [(1, .int 0), (0, .ref (q 0))]) hx hb dX9_byTrying_1 rfl hl (by decide) rfl (fun ls hl => ?_)
  refine lv_iconst (v := 0) hx hb dX9_byTrying_2 (by decide) ?_
  refine lv_istore_n (lv' := [(2, .int 0), (1, .int 0), (0, .ref (q 0))]) hx hb dX9_byTrying_3 rfl hl (by decide) rfl (fun ls hl => ?_)
  have e_7 : (0 : Int32) = nI (cntP n t a 0) := by first | (with_reducible rfl) | (rfl)
  exact loop_4 ((pw n - 0) + 1) 0 (by omega) (Nat.lt_succ_self _) ls (lv_one hl 2 rfl rfl (lv_one hl 1 rfl (congrArg Value.int e_7) (lv_one hl 0 rfl rfl (lv_nil hl))))

set_option maxHeartbeats 4000000 in
set_option maxRecDepth 100000 in
theorem m_X9_isBetter (l9 : Launch) (D : va_G) (k : Nat → ClassId) (q : Nat → Nat) (n : Nat) (w ly t a : Nat → Int32) (fx : Nat → UInt32) (x y : Int32) (hn : n ≤ 10) : Met l9 yX9_isBetter wsX9_isBetter ({ frames := 2, cells := 0, slots := 0, locals := 44 }) (RPc D k [.ref (q 0), .int x, .int y] (bClaims k q n w ly t a fx)) (EI (bI (btr n w x y))) 0 0 noA := by
  refine rMet (y := yX9_isBetter) (cc := cX9_isBetter) (maxL := 7) (ret := (some .boolean)) [.ref (q 0), .int x, .int y] (by decide) rfl (Nat.le_of_ble_eq_true rfl) ?_
  intro p9 e9 s9 m9 bl9 me9 c9 ls hF hr hlocks hP hK hN hl
  have hl : lv_has ls 7 [(0, .ref (q 0)), (1, .int x), (2, .int y)] := hl
  obtain ⟨hx, hb, hml, hown, hts⟩ := id hF
  refine lv_aload_n hx hb dX9_isBetter_0 rfl (lv_at hl 0 rfl) ?_
  refine lv_iload_n hx hb dX9_isBetter_1 rfl (lv_at hl 1 rfl) ?_
  refine vp_callSi (W.runV (As := [.int x]) (rest := []) hF (m_X5_weightOfSet l9 D k q n w ly t a fx x hn) (cwV 1 hts gX9_isBetter_X5_weightOfSet rfl rfl rfl (by decide +kernel) ⟨Nat.le_of_ble_eq_true rfl, Nat.le_of_ble_eq_true rfl⟩) (rPreV hK hN hP [0, 1, 2, 3, 4, 5] rfl 0 7 rfl rfl) rfl rfl hl.1 rfl (lv_room (Nat.le_of_ble_eq_true rfl)) dX9_isBetter_2 ⟨Nat.zero_le _, Nat.zero_le _⟩) (fun r_1 hr_1 => ?_)
  subst hr_1
  refine lv_istore_n (lv' := [(3, .int (adS n w x)), (0, .ref (q 0)), (1, .int x), (2, .int y)]) hx hb dX9_isBetter_5 rfl hl (by decide) rfl (fun ls hl => ?_)
  refine lv_aload_n hx hb dX9_isBetter_6 rfl (lv_at hl 1 rfl) ?_
  refine lv_iload_n hx hb dX9_isBetter_7 rfl (lv_at hl 3 rfl) ?_
  refine vp_callSi (W.runV (As := [.int y]) (rest := []) hF (m_X5_weightOfSet l9 D k q n w ly t a fx y hn) (cwV 1 hts gX9_isBetter_X5_weightOfSet rfl rfl rfl (by decide +kernel) ⟨Nat.le_of_ble_eq_true rfl, Nat.le_of_ble_eq_true rfl⟩) (rPreV hK hN hP [0, 1, 2, 3, 4, 5] rfl 0 7 rfl rfl) rfl rfl hl.1 rfl (lv_room (Nat.le_of_ble_eq_true rfl)) dX9_isBetter_8 ⟨Nat.zero_le _, Nat.zero_le _⟩) (fun r_2 hr_2 => ?_)
  subst hr_2
  refine lv_istore (lv' := [(4, .int (adS n w y)), (3, .int (adS n w x)), (0, .ref (q 0)), (1, .int x), (2, .int y)]) hx hb dX9_isBetter_11 hl (by decide) rfl (fun ls hl => ?_)
  refine lv_iload_n hx hb dX9_isBetter_13 rfl (lv_at hl 1 rfl) ?_
  refine lv_iload hx hb dX9_isBetter_14 (lv_at hl 0 rfl) ?_
  refine lv_icmp_eq (tgt := 31) hx hb dX9_isBetter_16 (by decide) (fun c_3 => ?_) (fun c_3 => ?_)
  · skip
    refine lv_iload_n hx hb dX9_isBetter_31 rfl (lv_at hl 3 rfl) ?_
    refine lv_iload_n hx hb dX9_isBetter_32 rfl (lv_at hl 4 rfl) ?_
    refine lv_ixor hx hb dX9_isBetter_33 ?_
    refine lv_istore (lv' := [(5, .int (x ^^^ y)), (4, .int (adS n w y)), (3, .int (adS n w x)), (0, .ref (q 0)), (1, .int x), (2, .int y)]) hx hb dX9_isBetter_34 hl (by decide) rfl (fun ls hl => ?_)
    refine lv_iload hx hb dX9_isBetter_36 (lv_at hl 0 rfl) ?_
    refine lv_iload hx hb dX9_isBetter_38 (lv_at hl 0 rfl) ?_
    refine lv_ineg hx hb dX9_isBetter_40 ?_
    refine lv_iand hx hb dX9_isBetter_41 ?_
    refine lv_istore (lv' := [(6, .int ((x ^^^ y) &&& (-(x ^^^ y)))), (5, .int (x ^^^ y)), (4, .int (adS n w y)), (3, .int (adS n w x)), (0, .ref (q 0)), (1, .int x), (2, .int y)]) hx hb dX9_isBetter_42 hl (by decide) rfl (fun ls hl => ?_)
    refine lv_iload_n hx hb dX9_isBetter_44 rfl (lv_at hl 5 rfl) ?_
    refine lv_iload hx hb dX9_isBetter_45 (lv_at hl 0 rfl) ?_
    refine lv_iand hx hb dX9_isBetter_47 ?_
    refine lv_if_eq (tgt := 55) hx hb dX9_isBetter_48 (by decide) (fun c_4 => ?_) (fun c_4 => ?_)
    · skip
      refine lv_iconst (v := 0) hx hb dX9_isBetter_55 (by decide) ?_
      exact W.zret (v := 0) hx hb hr (rfl) (fun t9 ht hW => ⟨_, rfl, (by first | (simp_all [btr, bI, Int32.not_le]; done) | (simp_all [btr, bI, Int32.not_le]; simp only [Int32.lt_iff_toInt_lt, Int32.le_iff_toInt_le, i32_0, i32_1, i32_2, i32_3, i32_4, i32_9, i32_10, i32_99, i32_100, i32_1000, i32_9999] at *; omega)), ht⟩) (fun _ h => by cases h) dX9_isBetter_56 hlocks
    · skip
      refine lv_iconst (v := 1) hx hb dX9_isBetter_51 (by decide) ?_
      refine lv_goto (tgt := 56) hx hb dX9_isBetter_52 (by decide) ?_
      exact W.zret (v := 1) hx hb hr (rfl) (fun t9 ht hW => ⟨_, rfl, (by first | (simp_all [btr, bI, Int32.not_le]; done) | (simp_all [btr, bI, Int32.not_le]; simp only [Int32.lt_iff_toInt_lt, Int32.le_iff_toInt_le, i32_0, i32_1, i32_2, i32_3, i32_4, i32_9, i32_10, i32_99, i32_100, i32_1000, i32_9999] at *; omega)), ht⟩) (fun _ h => by cases h) dX9_isBetter_56 hlocks
  · skip
    refine lv_iload_n hx hb dX9_isBetter_19 rfl (lv_at hl 1 rfl) ?_
    refine lv_iload hx hb dX9_isBetter_20 (lv_at hl 0 rfl) ?_
    refine lv_icmp_le (tgt := 29) hx hb dX9_isBetter_22 (by decide) (fun c_5 => ?_) (fun c_5 => ?_)
    · skip
      refine lv_iconst (v := 0) hx hb dX9_isBetter_29 (by decide) ?_
      exact W.zret (v := 0) hx hb hr (rfl) (fun t9 ht hW => ⟨_, rfl, (by first | (simp_all [btr, bI, Int32.not_le]; done) | (simp_all [btr, bI, Int32.not_le]; simp only [Int32.lt_iff_toInt_lt, Int32.le_iff_toInt_le, i32_0, i32_1, i32_2, i32_3, i32_4, i32_9, i32_10, i32_99, i32_100, i32_1000, i32_9999] at *; omega)), ht⟩) (fun _ h => by cases h) dX9_isBetter_30 hlocks
    · skip
      refine lv_iconst (v := 1) hx hb dX9_isBetter_25 (by decide) ?_
      refine lv_goto (tgt := 30) hx hb dX9_isBetter_26 (by decide) ?_
      exact W.zret (v := 1) hx hb hr (rfl) (fun t9 ht hW => ⟨_, rfl, (by first | (simp_all [btr, bI, Int32.not_le]; done) | (simp_all [btr, bI, Int32.not_le]; simp only [Int32.lt_iff_toInt_lt, Int32.le_iff_toInt_le, i32_0, i32_1, i32_2, i32_3, i32_4, i32_9, i32_10, i32_99, i32_100, i32_1000, i32_9999] at *; omega)), ht⟩) (fun _ h => by cases h) dX9_isBetter_30 hlocks

set_option maxHeartbeats 4000000 in
set_option maxRecDepth 100000 in
theorem m_X9_heaviest (l9 : Launch) (D : va_G) (k : Nat → ClassId) (q : Nat → Nat) (n : Nat) (w ly t a : Nat → Int32) (fx : Nat → UInt32) (hn : n ≤ 10) : Met l9 yX9_heaviest wsX9_heaviest ({ frames := 3, cells := 0, slots := 0, locals := 70 }) (RPc D k [.ref (q 0)] (bClaims k q n w ly t a fx)) (EI (hvS n w t a (pw n - 1))) 0 0 noA := by
  have hpw := pw_le hn
  have hpw1 := pw_pos n
  refine rMet (y := yX9_heaviest) (cc := cX9_heaviest) (maxL := 3) (ret := (some .int)) [.ref (q 0)] (by decide) rfl (Nat.le_of_ble_eq_true rfl) ?_
  intro p9 e9 s9 m9 bl9 me9 c9 ls hF hr hlocks hP hK hN hl
  have hl : lv_has ls 3 [(0, .ref (q 0))] := hl
  obtain ⟨hx, hb, hml, hown, hts⟩ := id hF
  have loop_4 : ∀ (fuel : Nat) (i : Nat), (i + 1 ≤ pw n) → pw n - i < fuel → ∀ (ls : Array Slot), lv_has ls 3 [(0, .ref (q 0)), (1, .int (hvS n w t a i)), (2, .int (nI (i + 1)))] → W p9 l9 e9 ({ frames := 3, cells := 0, slots := 0, locals := 70 }) s9 m9 ([.ref (q 0)] : List Value).toArray bl9 me9 c9 s9.heap [] 0 0 (MQ bl9 (EI (hvS n w t a (pw n - 1))) ([.ref (q 0)] : List Value).toArray s9 0 0 noA) (F0 m9 4 ls []) := by
    intro fuel
    induction fuel with
    | zero => intro i hi hfuel_4; exact absurd hfuel_4 (Nat.not_lt_zero _)
    | succ fuel ih_4 =>
      intro i hi hfuel_4 ls hl
      refine lv_iload_n hx hb dX9_heaviest_4 rfl (lv_at hl 2 rfl) ?_
      refine lv_aload_n hx hb dX9_heaviest_5 rfl (lv_at hl 0 rfl) ?_
      refine vp_callSi (W.runV (As := []) (rest := [.int (nI (i + 1))]) hF (m_X5_all l9 D k q n w ly t a fx hn) (cwV 0 hts gX9_heaviest_X5_all rfl rfl rfl (by decide +kernel) ⟨Nat.le_of_ble_eq_true rfl, Nat.le_of_ble_eq_true rfl⟩) (rPreV hK hN hP [0, 1, 2, 3, 4, 5] rfl 0 7 rfl rfl) rfl rfl hl.1 rfl (lv_room (Nat.le_of_ble_eq_true rfl)) dX9_heaviest_6 ⟨Nat.zero_le _, Nat.zero_le _⟩) (fun r_1 hr_1 => ?_)
      subst hr_1
      refine lv_icmp_gt (tgt := 37) hx hb dX9_heaviest_9 (by decide) (fun c_2 => ?_) (fun c_2 => ?_)
      · skip
        have c_2 : (pw n - 1) < (i + 1) := (nI_ltI (a := pw n - 1) (b := i + 1) (by omega) (by omega)).mp c_2
        refine lv_iload_n hx hb dX9_heaviest_37 rfl (lv_at hl 1 rfl) ?_
        exact W.iret (v := hvS n w t a i) hx hb hr (fun t9 ht hW => ⟨_, rfl, (by rw [show i = pw n - 1 by omega]), ht⟩) (fun _ h => by cases h) dX9_heaviest_38 hlocks
      · skip
        have c_2 : ¬ (pw n - 1) < (i + 1) := fun h => c_2 ((nI_ltI (a := pw n - 1) (b := i + 1) (by omega) (by omega)).mpr h)
        refine lv_aload_n hx hb dX9_heaviest_12 rfl (lv_at hl 0 rfl) ?_
        refine lv_iload_n hx hb dX9_heaviest_13 rfl (lv_at hl 2 rfl) ?_
        refine vp_callSi (W.runS (As := [.ref (q 0), .int (nI (i + 1))]) (rest := []) hF (m_X9_holds l9 D k q n w ly t a fx (nI (i + 1)) hn) (va_cwS 2 hts gX9_heaviest_X9_holds rfl rfl rfl (by decide +kernel) ⟨Nat.le_of_ble_eq_true rfl, Nat.le_of_ble_eq_true rfl⟩) (rPreS hK hN hP [0, 1, 2, 3, 4, 5] rfl) rfl rfl hl.1 rfl (lv_room (Nat.le_of_ble_eq_true rfl)) dX9_heaviest_14 ⟨Nat.zero_le _, Nat.zero_le _⟩) (fun r_3 hr_3 => ?_)
        subst hr_3
        refine lv_if_eq (tgt := 31) hx hb dX9_heaviest_17 (by decide) (fun c_4 => ?_) (fun c_4 => ?_)
        · skip
          have c_4 : (hld n t a (nI (i + 1))) = false := bI_0 c_4
          refine lv_iinc (v := nI ((i + 1) + 1)) (lv' := [(2, .int (nI ((i + 1) + 1))), (0, .ref (q 0)), (1, .int (hvS n w t a i))]) hx hb dX9_heaviest_31 hl (k := 2) rfl (nI_inc (i + 1)) (by decide) rfl (fun ls hl => ?_)
          refine lv_goto (tgt := 4) hx hb dX9_heaviest_34 (by decide) ?_
          have e_5 : (hvS n w t a i : Int32) = hvS n w t a (i + 1) := by first | (with_reducible rfl) | (rw [hvS_s]; simp [*])
          exact ih_4 (i + 1) (by omega) (by omega) ls (lv_one hl 1 rfl rfl (lv_one hl 2 rfl (congrArg Value.int e_5) (lv_one hl 0 rfl rfl (lv_nil hl))))
        · skip
          have c_4 : (hld n t a (nI (i + 1))) = true := bI_1 c_4
          refine lv_aload_n hx hb dX9_heaviest_20 rfl (lv_at hl 0 rfl) ?_
          refine lv_iload_n hx hb dX9_heaviest_21 rfl (lv_at hl 2 rfl) ?_
          refine lv_iload_n hx hb dX9_heaviest_22 rfl (lv_at hl 1 rfl) ?_
          refine vp_callSi (W.runS (As := [.ref (q 0), .int (nI (i + 1)), .int (hvS n w t a i)]) (rest := []) hF (m_X9_isBetter l9 D k q n w ly t a fx (nI (i + 1)) (hvS n w t a i) hn) (va_cwS 3 hts gX9_heaviest_X9_isBetter rfl rfl rfl (by decide +kernel) ⟨Nat.le_of_ble_eq_true rfl, Nat.le_of_ble_eq_true rfl⟩) (rPreS hK hN hP [0, 1, 2, 3, 4, 5] rfl) rfl rfl hl.1 rfl (lv_room (Nat.le_of_ble_eq_true rfl)) dX9_heaviest_23 ⟨Nat.zero_le _, Nat.zero_le _⟩) (fun r_6 hr_6 => ?_)
          subst hr_6
          refine lv_if_eq (tgt := 31) hx hb dX9_heaviest_26 (by decide) (fun c_7 => ?_) (fun c_7 => ?_)
          · skip
            have c_7 : (btr n w (nI (i + 1)) (hvS n w t a i)) = false := bI_0 c_7
            refine lv_iinc (v := nI ((i + 1) + 1)) (lv' := [(2, .int (nI ((i + 1) + 1))), (0, .ref (q 0)), (1, .int (hvS n w t a i))]) hx hb dX9_heaviest_31 hl (k := 2) rfl (nI_inc (i + 1)) (by decide) rfl (fun ls hl => ?_)
            refine lv_goto (tgt := 4) hx hb dX9_heaviest_34 (by decide) ?_
            have e_8 : (hvS n w t a i : Int32) = hvS n w t a (i + 1) := by first | (with_reducible rfl) | (rw [hvS_s]; simp [*])
            exact ih_4 (i + 1) (by omega) (by omega) ls (lv_one hl 1 rfl rfl (lv_one hl 2 rfl (congrArg Value.int e_8) (lv_one hl 0 rfl rfl (lv_nil hl))))
          · skip
            have c_7 : (btr n w (nI (i + 1)) (hvS n w t a i)) = true := bI_1 c_7
            refine lv_iload_n hx hb dX9_heaviest_29 rfl (lv_at hl 2 rfl) ?_
            refine lv_istore_n (lv' := [(1, .int (nI (i + 1))), (0, .ref (q 0)), (2, .int (nI (i + 1)))]) hx hb dX9_heaviest_30 rfl hl (by decide) rfl (fun ls hl => ?_)
            refine lv_iinc (v := nI ((i + 1) + 1)) (lv' := [(2, .int (nI ((i + 1) + 1))), (1, .int (nI (i + 1))), (0, .ref (q 0))]) hx hb dX9_heaviest_31 hl (k := 2) rfl (nI_inc (i + 1)) (by decide) rfl (fun ls hl => ?_)
            refine lv_goto (tgt := 4) hx hb dX9_heaviest_34 (by decide) ?_
            have e_9 : (nI (i + 1) : Int32) = hvS n w t a (i + 1) := by first | (with_reducible rfl) | (rw [hvS_s]; simp [*])
            exact ih_4 (i + 1) (by omega) (by omega) ls (lv_one hl 2 rfl rfl (lv_one hl 1 rfl (congrArg Value.int e_9) (lv_one hl 0 rfl rfl (lv_nil hl))))
  refine lv_iconst (v := 0) hx hb dX9_heaviest_0 (by decide) ?_
  refine lv_istore_n (lv' := [(1, .int 0), (0, .ref (q 0))]) hx hb dX9_heaviest_1 rfl hl (by decide) rfl (fun ls hl => ?_)
  refine lv_iconst (v := 1) hx hb dX9_heaviest_2 (by decide) ?_
  refine lv_istore_n (lv' := [(2, .int 1), (1, .int 0), (0, .ref (q 0))]) hx hb dX9_heaviest_3 rfl hl (by decide) rfl (fun ls hl => ?_)
  have e_10 : (0 : Int32) = hvS n w t a 0 := by first | (with_reducible rfl) | (rfl)
  have e_11 : (1 : Int32) = nI (0 + 1) := by first | (with_reducible rfl) | (rfl)
  exact loop_4 ((pw n - 0) + 1) 0 (by omega) (Nat.lt_succ_self _) ls (lv_one hl 2 rfl rfl (lv_one hl 1 rfl (congrArg Value.int e_10) (lv_one hl 0 rfl (congrArg Value.int e_11) (lv_nil hl))))

set_option maxHeartbeats 4000000 in
set_option maxRecDepth 100000 in
theorem m_X1_defended (l9 : Launch) (D : va_G) (k : Nat → ClassId) (q : Nat → Nat) (n : Nat) (w ly t a : Nat → Int32) (fx : Nat → UInt32) (x : Int32) (hn : n ≤ 10) : Met l9 yX1_defended wsX1_defended ({ frames := 2, cells := 0, slots := 0, locals := 44 }) (RPc D k [.ref (q 0), .int x] (bClaims k q n w ly t a fx)) (EI (dfS n t a x)) 0 0 noA := by
  refine rMet (y := yX1_defended) (cc := cX1_defended) (maxL := 5) (ret := (some .int)) [.ref (q 0), .int x] (by decide) rfl (Nat.le_of_ble_eq_true rfl) ?_
  intro p9 e9 s9 m9 bl9 me9 c9 ls hF hr hlocks hP hK hN hl
  have hl : lv_has ls 5 [(0, .ref (q 0)), (1, .int x)] := hl
  obtain ⟨hx, hb, hml, hown, hts⟩ := id hF
  have k_fieldLink_15 : (Cond.fieldLink RX1 15 "OpinionReactor$Claims" "count" "I").before _ s9 = true := hts (.fieldLink RX1 15 "OpinionReactor$Claims" "count" "I") (by decide +kernel)
  have kc_RX5 : ∀ w ∈ u_ws RX5 TX5 6, w ∈ wsX1_defended := by decide +kernel
  have k_fieldLink_29 : (Cond.fieldLink RX1 29 "OpinionReactor$Claims" "attackers" "[I").before _ s9 = true := hts (.fieldLink RX1 29 "OpinionReactor$Claims" "attackers" "[I") (by decide +kernel)
  have loop_11 : ∀ (fuel : Nat) (i : Nat), (i ≤ n) → n - i < fuel → ∀ (ls : Array Slot), lv_has ls 5 [(0, .ref (q 0)), (1, .int x), (2, .int (orS n t x)), (3, .int (dfm i a (orS n t x))), (4, .int (nI i))] → W p9 l9 e9 ({ frames := 2, cells := 0, slots := 0, locals := 44 }) s9 m9 ([.ref (q 0), .int x] : List Value).toArray bl9 me9 c9 s9.heap [] 0 0 (MQ bl9 (EI (dfS n t a x)) ([.ref (q 0), .int x] : List Value).toArray s9 0 0 noA) (F0 m9 11 ls []) := by
    intro fuel
    induction fuel with
    | zero => intro i hi hfuel_11; exact absurd hfuel_11 (Nat.not_lt_zero _)
    | succ fuel ih_11 =>
      intro i hi hfuel_11 ls hl
      refine lv_iload hx hb dX1_defended_11 (lv_at hl 4 rfl) ?_
      refine lv_aload_n hx hb dX1_defended_13 rfl (lv_at hl 0 rfl) ?_
      refine va_get (D := D) (ci := 7) (v := .int (nI n)) (C := RX5) (T := TX5) (N := 6) hx hb hts kc_RX5 hown hK hP 0 rfl rfl 0 (by decide) k_fieldLink_15 (fun _ h9 => h9) rfl dX1_defended_14 ?_
      refine lv_icmp_ge (tgt := 48) hx hb dX1_defended_17 (by decide) (fun c_1 => ?_) (fun c_1 => ?_)
      · skip
        have c_1 : n ≤ i := (nI_leI (a := n) (b := i) (by omega) (by omega)).mp c_1
        refine lv_iload_n hx hb dX1_defended_48 rfl (lv_at hl 3 rfl) ?_
        exact W.iret (v := dfm i a (orS n t x)) hx hb hr (fun t9 ht hW => ⟨_, rfl, (by unfold dfS; rw [show i = n by omega]), ht⟩) (fun _ h => by cases h) dX1_defended_49 hlocks
      · skip
        have c_1 : ¬ n ≤ i := fun h => c_1 ((nI_leI (a := n) (b := i) (by omega) (by omega)).mpr h)
        refine lv_aload_n hx hb dX1_defended_20 rfl (lv_at hl 0 rfl) ?_
        refine va_get (D := D) (ci := 7) (v := .ref (q 4)) (C := RX5) (T := TX5) (N := 6) hx hb hts kc_RX5 hown hK hP 0 rfl rfl 4 (by decide) k_fieldLink_29 (fun _ h9 => h9) rfl dX1_defended_21 ?_
        refine lv_iload hx hb dX1_defended_24 (lv_at hl 4 rfl) ?_
        refine ia_ld hx hb hK hP 4 rfl i (by omega) (by decide) dX1_defended_26 ?_
        refine lv_iload_n hx hb dX1_defended_27 rfl (lv_at hl 2 rfl) ?_
        refine lv_iconst (v := (-1)) hx hb dX1_defended_28 (by decide) ?_
        refine lv_ixor hx hb dX1_defended_29 ?_
        refine lv_iand hx hb dX1_defended_30 ?_
        refine lv_if_ne (tgt := 42) hx hb dX1_defended_31 (by decide) (fun c_2 => ?_) (fun c_2 => ?_)
        · skip
          refine lv_iinc (v := nI (i + 1)) (lv' := [(4, .int (nI (i + 1))), (0, .ref (q 0)), (1, .int x), (2, .int (orS n t x)), (3, .int (dfm i a (orS n t x)))]) hx hb dX1_defended_42 hl (k := 4) rfl (nI_inc i) (by decide) rfl (fun ls hl => ?_)
          refine lv_goto (tgt := 11) hx hb dX1_defended_45 (by decide) ?_
          have e_3 : (dfm i a (orS n t x) : Int32) = dfm (i + 1) a (orS n t x) := by first | (with_reducible rfl) | (rw [dfm_s]; (first | rw [if_pos (by assumption)] | rw [if_neg (by assumption)] | (simp [*]; done)); (try rfl))
          exact ih_11 (i + 1) (by omega) (by omega) ls (lv_one hl 1 rfl rfl (lv_one hl 2 rfl rfl (lv_one hl 3 rfl rfl (lv_one hl 4 rfl (congrArg Value.int e_3) (lv_one hl 0 rfl rfl (lv_nil hl))))))
        · skip
          refine lv_iload_n hx hb dX1_defended_34 rfl (lv_at hl 3 rfl) ?_
          refine lv_iload hx hb dX1_defended_35 (lv_at hl 4 rfl) ?_
          refine vp_callSi (va_Run.run (va_runSN (As := [.int (nI i)]) (rest := [.int (dfm i a (orS n t x))]) hF (m_X12_bit l9 D k i ) ⟨va_cnB 1 hts gX1_defended_X12_bit_n32 rfl rfl rfl (hN (.methodLinkNest RX1 32 yX12_bit RX12) (by decide +kernel)) (hts (.initialized RX12) (by decide +kernel)) (by decide +kernel) ⟨Nat.le_of_ble_eq_true rfl, Nat.le_of_ble_eq_true rfl⟩, hts (.static yX12_bit) (by decide +kernel), trivial⟩ (rPreS hK hN hP [] rfl) rfl rfl hl.1 rfl (lv_room (Nat.le_of_ble_eq_true rfl)) dX1_defended_37 ⟨Nat.zero_le _, Nat.zero_le _⟩)) (fun r_4 hr_4 => ?_)
          subst hr_4
          refine lv_ior hx hb dX1_defended_40 ?_
          refine lv_istore_n (lv' := [(3, .int ((dfm i a (orS n t x)) ||| (bt i))), (0, .ref (q 0)), (1, .int x), (2, .int (orS n t x)), (4, .int (nI i))]) hx hb dX1_defended_41 rfl hl (by decide) rfl (fun ls hl => ?_)
          refine lv_iinc (v := nI (i + 1)) (lv' := [(4, .int (nI (i + 1))), (3, .int ((dfm i a (orS n t x)) ||| (bt i))), (0, .ref (q 0)), (1, .int x), (2, .int (orS n t x))]) hx hb dX1_defended_42 hl (k := 4) rfl (nI_inc i) (by decide) rfl (fun ls hl => ?_)
          refine lv_goto (tgt := 11) hx hb dX1_defended_45 (by decide) ?_
          have e_5 : ((dfm i a (orS n t x)) ||| (bt i) : Int32) = dfm (i + 1) a (orS n t x) := by first | (with_reducible rfl) | (rw [dfm_s]; (first | rw [if_pos (by assumption)] | rw [if_neg (by assumption)] | (simp [*]; done)); (try rfl))
          exact ih_11 (i + 1) (by omega) (by omega) ls (lv_one hl 2 rfl rfl (lv_one hl 3 rfl rfl (lv_one hl 4 rfl rfl (lv_one hl 1 rfl (congrArg Value.int e_5) (lv_one hl 0 rfl rfl (lv_nil hl))))))
  refine lv_aload_n hx hb dX1_defended_0 rfl (lv_at hl 0 rfl) ?_
  refine lv_iload_n hx hb dX1_defended_1 rfl (lv_at hl 1 rfl) ?_
  refine vp_callSi (W.runV (As := [.int x]) (rest := []) hF (m_X5_targetsOf l9 D k q n w ly t a fx x hn) (cwV 1 hts gX1_defended_X5_targetsOf rfl rfl rfl (by decide +kernel) ⟨Nat.le_of_ble_eq_true rfl, Nat.le_of_ble_eq_true rfl⟩) (rPreV hK hN hP [0, 1, 2, 3, 4, 5] rfl 0 7 rfl rfl) rfl rfl hl.1 rfl (lv_room (Nat.le_of_ble_eq_true rfl)) dX1_defended_2 ⟨Nat.zero_le _, Nat.zero_le _⟩) (fun r_6 hr_6 => ?_)
  subst hr_6
  refine lv_istore_n (lv' := [(2, .int (orS n t x)), (0, .ref (q 0)), (1, .int x)]) hx hb dX1_defended_5 rfl hl (by decide) rfl (fun ls hl => ?_)
  refine lv_iconst (v := 0) hx hb dX1_defended_6 (by decide) ?_
  refine lv_istore_n (lv' := [(3, .int 0), (2, .int (orS n t x)), (0, .ref (q 0)), (1, .int x)]) hx hb dX1_defended_7 rfl hl (by decide) rfl (fun ls hl => ?_)
  refine lv_iconst (v := 0) hx hb dX1_defended_8 (by decide) ?_
  refine lv_istore (lv' := [(4, .int 0), (3, .int 0), (2, .int (orS n t x)), (0, .ref (q 0)), (1, .int x)]) hx hb dX1_defended_9 hl (by decide) rfl (fun ls hl => ?_)
  have e_7 : (0 : Int32) = dfm 0 a (orS n t x) := by first | (with_reducible rfl) | (rfl)
  exact loop_11 ((n - 0) + 1) 0 (by omega) (Nat.lt_succ_self _) ls (lv_one hl 3 rfl rfl (lv_one hl 4 rfl rfl (lv_one hl 2 rfl rfl (lv_one hl 1 rfl (congrArg Value.int e_7) (lv_one hl 0 rfl rfl (lv_nil hl))))))

set_option maxHeartbeats 4000000 in
set_option maxRecDepth 100000 in
theorem m_X1_byRounds (l9 : Launch) (D : va_G) (k : Nat → ClassId) (q : Nat → Nat) (n : Nat) (w ly t a : Nat → Int32) (fx : Nat → UInt32) (hn : n ≤ 10) : Met l9 yX1_byRounds wsX1_byRounds ({ frames := 3, cells := 0, slots := 0, locals := 68 }) (RPc D k [.ref (q 0)] (bClaims k q n w ly t a fx)) (EI (accS n t a)) 0 0 noA := by
  refine rMet (y := yX1_byRounds) (cc := cX1_byRounds) (maxL := 4) (ret := (some .int)) [.ref (q 0)] (by decide) rfl (Nat.le_of_ble_eq_true rfl) ?_
  intro p9 e9 s9 m9 bl9 me9 c9 ls hF hr hlocks hP hK hN hl
  have hl : lv_has ls 4 [(0, .ref (q 0))] := hl
  obtain ⟨hx, hb, hml, hown, hts⟩ := id hF
  have k_fieldLink_15 : (Cond.fieldLink RX1 15 "OpinionReactor$Claims" "count" "I").before _ s9 = true := hts (.fieldLink RX1 15 "OpinionReactor$Claims" "count" "I") (by decide +kernel)
  have kc_RX5 : ∀ w ∈ u_ws RX5 TX5 6, w ∈ wsX1_byRounds := by decide +kernel
  have loop_4 : ∀ (fuel : Nat) (i : Nat), (i ≤ n + 1) → n + 1 - i < fuel → ∀ (ls : Array Slot), lv_has ls 4 [(0, .ref (q 0)), (1, .int (itA n t a i)), (2, .int (nI i))] → W p9 l9 e9 ({ frames := 3, cells := 0, slots := 0, locals := 68 }) s9 m9 ([.ref (q 0)] : List Value).toArray bl9 me9 c9 s9.heap [] 0 0 (MQ bl9 (EI (accS n t a)) ([.ref (q 0)] : List Value).toArray s9 0 0 noA) (F0 m9 4 ls []) := by
    intro fuel
    induction fuel with
    | zero => intro i hi hfuel_4; exact absurd hfuel_4 (Nat.not_lt_zero _)
    | succ fuel ih_4 =>
      intro i hi hfuel_4 ls hl
      refine lv_iload_n hx hb dX1_byRounds_4 rfl (lv_at hl 2 rfl) ?_
      refine lv_aload_n hx hb dX1_byRounds_5 rfl (lv_at hl 0 rfl) ?_
      refine va_get (D := D) (ci := 7) (v := .int (nI n)) (C := RX5) (T := TX5) (N := 6) hx hb hts kc_RX5 hown hK hP 0 rfl rfl 0 (by decide) k_fieldLink_15 (fun _ h9 => h9) rfl dX1_byRounds_6 ?_
      refine lv_icmp_gt (tgt := 36) hx hb dX1_byRounds_9 (by decide) (fun c_1 => ?_) (fun c_1 => ?_)
      · skip
        have c_1 : n < i := (nI_ltI (a := n) (b := i) (by omega) (by omega)).mp c_1
        refine lv_iload_n hx hb dX1_byRounds_36 rfl (lv_at hl 1 rfl) ?_
        exact W.iret (v := itA n t a i) hx hb hr (fun t9 ht hW => ⟨_, rfl, (by rw [show i = n + 1 by omega]; rfl), ht⟩) (fun _ h => by cases h) dX1_byRounds_37 hlocks
      · skip
        have c_1 : ¬ n < i := fun h => c_1 ((nI_ltI (a := n) (b := i) (by omega) (by omega)).mpr h)
        refine lv_iload_n hx hb dX1_byRounds_12 rfl (lv_at hl 1 rfl) ?_
        refine lv_aload_n hx hb dX1_byRounds_13 rfl (lv_at hl 0 rfl) ?_
        refine lv_iload_n hx hb dX1_byRounds_14 rfl (lv_at hl 1 rfl) ?_
        refine vp_callSi (W.runS (As := [.ref (q 0), .int (itA n t a i)]) (rest := [.int (itA n t a i)]) hF (m_X1_defended l9 D k q n w ly t a fx (itA n t a i) hn) (va_cwS 2 hts gX1_byRounds_X1_defended rfl rfl rfl (by decide +kernel) ⟨Nat.le_of_ble_eq_true rfl, Nat.le_of_ble_eq_true rfl⟩) (rPreS hK hN hP [0, 1, 2, 3, 4, 5] rfl) rfl rfl hl.1 rfl (lv_room (Nat.le_of_ble_eq_true rfl)) dX1_byRounds_15 ⟨Nat.zero_le _, Nat.zero_le _⟩) (fun r_2 hr_2 => ?_)
        subst hr_2
        refine lv_ior hx hb dX1_byRounds_18 ?_
        refine lv_istore_n (lv' := [(3, .int ((itA n t a i) ||| (dfS n t a (itA n t a i)))), (0, .ref (q 0)), (1, .int (itA n t a i)), (2, .int (nI i))]) hx hb dX1_byRounds_19 rfl hl (by decide) rfl (fun ls hl => ?_)
        refine lv_iload_n hx hb dX1_byRounds_20 rfl (lv_at hl 0 rfl) ?_
        refine lv_iload_n hx hb dX1_byRounds_21 rfl (lv_at hl 2 rfl) ?_
        refine lv_icmp_ne (tgt := 28) hx hb dX1_byRounds_22 (by decide) (fun c_3 => ?_) (fun c_3 => ?_)
        · skip
          refine lv_iload_n hx hb dX1_byRounds_28 rfl (lv_at hl 0 rfl) ?_
          refine lv_istore_n (lv' := [(1, .int ((itA n t a i) ||| (dfS n t a (itA n t a i)))), (3, .int ((itA n t a i) ||| (dfS n t a (itA n t a i)))), (0, .ref (q 0)), (2, .int (nI i))]) hx hb dX1_byRounds_29 rfl hl (by decide) rfl (fun ls hl => ?_)
          refine lv_iinc (v := nI (i + 1)) (lv' := [(2, .int (nI (i + 1))), (1, .int ((itA n t a i) ||| (dfS n t a (itA n t a i)))), (3, .int ((itA n t a i) ||| (dfS n t a (itA n t a i)))), (0, .ref (q 0))]) hx hb dX1_byRounds_30 hl (k := 3) rfl (nI_inc i) (by decide) rfl (fun ls hl => ?_)
          refine lv_goto (tgt := 4) hx hb dX1_byRounds_33 (by decide) ?_
          have e_4 : ((itA n t a i) ||| (dfS n t a (itA n t a i)) : Int32) = itA n t a (i + 1) := by first | (with_reducible rfl) | (rfl)
          exact ih_4 (i + 1) (by omega) (by omega) ls (lv_one hl 3 rfl rfl (lv_one hl 1 rfl (congrArg Value.int e_4) (lv_one hl 0 rfl rfl (lv_nil hl))))
        · skip
          refine lv_goto (tgt := 36) hx hb dX1_byRounds_25 (by decide) ?_
          refine lv_iload_n hx hb dX1_byRounds_36 rfl (lv_at hl 2 rfl) ?_
          exact W.iret (v := itA n t a i) hx hb hr (fun t9 ht hW => ⟨_, rfl, (by exact accS_fix hi (by assumption)), ht⟩) (fun _ h => by cases h) dX1_byRounds_37 hlocks
  refine lv_iconst (v := 0) hx hb dX1_byRounds_0 (by decide) ?_
  refine lv_istore_n (lv' := [(1, .int 0), (0, .ref (q 0))]) hx hb dX1_byRounds_1 rfl hl (by decide) rfl (fun ls hl => ?_)
  refine lv_iconst (v := 0) hx hb dX1_byRounds_2 (by decide) ?_
  refine lv_istore_n (lv' := [(2, .int 0), (1, .int 0), (0, .ref (q 0))]) hx hb dX1_byRounds_3 rfl hl (by decide) rfl (fun ls hl => ?_)
  have e_5 : (0 : Int32) = itA n t a 0 := by first | (with_reducible rfl) | (rfl)
  exact loop_4 ((n + 1 - 0) + 1) 0 (by omega) (Nat.lt_succ_self _) ls (lv_one hl 2 rfl rfl (lv_one hl 1 rfl (congrArg Value.int e_5) (lv_one hl 0 rfl rfl (lv_nil hl))))

set_option maxHeartbeats 4000000 in
set_option maxRecDepth 100000 in
theorem m_X4_search (l9 : Launch) (D : va_G) (k : Nat → ClassId) (q : Nat → Nat) (n : Nat) (w ly t a : Nat → Int32) (fx : Nat → UInt32) (j : Nat) (fw : Bool) (hn : n ≤ 10) (hj : j < 32) : Met l9 yX4_search wsX4_search ({ frames := 2, cells := 0, slots := 0, locals := 44 }) (RPc D k [.ref (q 0), .int (nI j), .int (bI fw)] (bClaims k q n w ly t a fx)) (EI ((srS n (if fw then t else a) j n).1)) 0 0 noA := by
  refine rMet (y := yX4_search) (cc := cX4_search) (maxL := 7) (ret := (some .int)) [.ref (q 0), .int (nI j), .int (bI fw)] (by decide) rfl (Nat.le_of_ble_eq_true rfl) ?_
  intro p9 e9 s9 m9 bl9 me9 c9 ls hF hr hlocks hP hK hN hl
  have hl : lv_has ls 7 [(0, .ref (q 0)), (1, .int (nI j)), (2, .int (bI fw))] := hl
  obtain ⟨hx, hb, hml, hown, hts⟩ := id hF
  have k_fieldLink_15 : (Cond.fieldLink RX4 15 "OpinionReactor$Claims" "count" "I").before _ s9 = true := hts (.fieldLink RX4 15 "OpinionReactor$Claims" "count" "I") (by decide +kernel)
  have kc_RX5 : ∀ w ∈ u_ws RX5 TX5 6, w ∈ wsX4_search := by decide +kernel
  have loop_11 : ∀ (fuel : Nat) (i : Nat), (i ≤ n) → n - i < fuel → ∀ (ls : Array Slot), lv_has ls 7 [(0, .ref (q 0)), (1, .int (nI j)), (2, .int (bI fw)), (3, .int ((srS n (if fw then t else a) j i).1)), (4, .int ((srS n (if fw then t else a) j i).2)), (5, .int (nI i))] → W p9 l9 e9 ({ frames := 2, cells := 0, slots := 0, locals := 44 }) s9 m9 ([.ref (q 0), .int (nI j), .int (bI fw)] : List Value).toArray bl9 me9 c9 s9.heap [] 0 0 (MQ bl9 (EI ((srS n (if fw then t else a) j n).1)) ([.ref (q 0), .int (nI j), .int (bI fw)] : List Value).toArray s9 0 0 noA) (F0 m9 11 ls []) := by
    intro fuel
    induction fuel with
    | zero => intro i hi hfuel_11; exact absurd hfuel_11 (Nat.not_lt_zero _)
    | succ fuel ih_11 =>
      intro i hi hfuel_11 ls hl
      refine lv_iload hx hb dX4_search_11 (lv_at hl 5 rfl) ?_
      refine lv_aload_n hx hb dX4_search_13 rfl (lv_at hl 0 rfl) ?_
      refine va_get (D := D) (ci := 7) (v := .int (nI n)) (C := RX5) (T := TX5) (N := 6) hx hb hts kc_RX5 hown hK hP 0 rfl rfl 0 (by decide) k_fieldLink_15 (fun _ h9 => h9) rfl dX4_search_14 ?_
      refine lv_icmp_ge (tgt := 60) hx hb dX4_search_17 (by decide) (fun c_1 => ?_) (fun c_1 => ?_)
      · skip
        have c_1 : n ≤ i := (nI_leI (a := n) (b := i) (by omega) (by omega)).mp c_1
        refine lv_iload_n hx hb dX4_search_60 rfl (lv_at hl 3 rfl) ?_
        exact W.iret (v := (srS n (if fw then t else a) j i).1) hx hb hr (fun t9 ht hW => ⟨_, rfl, (by rw [show i = n by omega]), ht⟩) (fun _ h => by cases h) dX4_search_61 hlocks
      · skip
        have c_1 : ¬ n ≤ i := fun h => c_1 ((nI_leI (a := n) (b := i) (by omega) (by omega)).mpr h)
        refine lv_iload_n hx hb dX4_search_20 rfl (lv_at hl 2 rfl) ?_
        refine lv_if_eq (tgt := 33) hx hb dX4_search_21 (by decide) (fun c_2 => ?_) (fun c_2 => ?_)
        · skip
          have c_2 : fw = false := bI_0 c_2
          refine lv_aload_n hx hb dX4_search_33 rfl (lv_at hl 0 rfl) ?_
          refine lv_iload hx hb dX4_search_34 (lv_at hl 4 rfl) ?_
          refine vp_callSi (W.runV (As := [.int ((srS n (if fw then t else a) j i).2)]) (rest := []) hF (m_X5_attackersOf l9 D k q n w ly t a fx ((srS n (if fw then t else a) j i).2) hn) (cwV 1 hts gX4_search_X5_attackersOf rfl rfl rfl (by decide +kernel) ⟨Nat.le_of_ble_eq_true rfl, Nat.le_of_ble_eq_true rfl⟩) (rPreV hK hN hP [0, 1, 2, 3, 4, 5] rfl 0 7 rfl rfl) rfl rfl hl.1 rfl (lv_room (Nat.le_of_ble_eq_true rfl)) dX4_search_36 ⟨Nat.zero_le _, Nat.zero_le _⟩) (fun r_3 hr_3 => ?_)
          subst hr_3
          refine lv_istore (lv' := [(6, .int (orS n a ((srS n (if fw then t else a) j i).2))), (0, .ref (q 0)), (1, .int (nI j)), (2, .int (bI fw)), (3, .int ((srS n (if fw then t else a) j i).1)), (4, .int ((srS n (if fw then t else a) j i).2)), (5, .int (nI i))]) hx hb dX4_search_39 hl (by decide) rfl (fun ls hl => ?_)
          refine lv_iload hx hb dX4_search_41 (lv_at hl 0 rfl) ?_
          refine lv_iload_n hx hb dX4_search_43 rfl (lv_at hl 4 rfl) ?_
          refine lv_iconst (v := (-1)) hx hb dX4_search_44 (by decide) ?_
          refine lv_ixor hx hb dX4_search_45 ?_
          refine lv_iand hx hb dX4_search_46 ?_
          refine lv_istore (lv' := [(4, .int ((orS n a ((srS n (if fw then t else a) j i).2)) &&& (((srS n (if fw then t else a) j i).1) ^^^ (-1)))), (6, .int (orS n a ((srS n (if fw then t else a) j i).2))), (0, .ref (q 0)), (1, .int (nI j)), (2, .int (bI fw)), (3, .int ((srS n (if fw then t else a) j i).1)), (5, .int (nI i))]) hx hb dX4_search_47 hl (by decide) rfl (fun ls hl => ?_)
          refine lv_iload_n hx hb dX4_search_49 rfl (lv_at hl 5 rfl) ?_
          refine lv_iload hx hb dX4_search_50 (lv_at hl 0 rfl) ?_
          refine lv_ior hx hb dX4_search_52 ?_
          refine lv_istore_n (lv' := [(3, .int (((srS n (if fw then t else a) j i).1) ||| ((orS n a ((srS n (if fw then t else a) j i).2)) &&& (((srS n (if fw then t else a) j i).1) ^^^ (-1))))), (4, .int ((orS n a ((srS n (if fw then t else a) j i).2)) &&& (((srS n (if fw then t else a) j i).1) ^^^ (-1)))), (6, .int (orS n a ((srS n (if fw then t else a) j i).2))), (0, .ref (q 0)), (1, .int (nI j)), (2, .int (bI fw)), (5, .int (nI i))]) hx hb dX4_search_53 rfl hl (by decide) rfl (fun ls hl => ?_)
          refine lv_iinc (v := nI (i + 1)) (lv' := [(5, .int (nI (i + 1))), (3, .int (((srS n (if fw then t else a) j i).1) ||| ((orS n a ((srS n (if fw then t else a) j i).2)) &&& (((srS n (if fw then t else a) j i).1) ^^^ (-1))))), (4, .int ((orS n a ((srS n (if fw then t else a) j i).2)) &&& (((srS n (if fw then t else a) j i).1) ^^^ (-1)))), (6, .int (orS n a ((srS n (if fw then t else a) j i).2))), (0, .ref (q 0)), (1, .int (nI j)), (2, .int (bI fw))]) hx hb dX4_search_54 hl (k := 6) rfl (nI_inc i) (by decide) rfl (fun ls hl => ?_)
          refine lv_goto (tgt := 11) hx hb dX4_search_57 (by decide) ?_
          have e_4 : (((srS n (if fw then t else a) j i).1) ||| ((orS n a ((srS n (if fw then t else a) j i).2)) &&& (((srS n (if fw then t else a) j i).1) ^^^ (-1))) : Int32) = (srS n (if fw then t else a) j (i + 1)).1 := by first | (with_reducible rfl) | (rw [srS_1]; simp [*])
          have e_5 : ((orS n a ((srS n (if fw then t else a) j i).2)) &&& (((srS n (if fw then t else a) j i).1) ^^^ (-1)) : Int32) = (srS n (if fw then t else a) j (i + 1)).2 := by first | (with_reducible rfl) | (rw [srS_2]; simp [*])
          exact ih_11 (i + 1) (by omega) (by omega) ls (lv_one hl 4 rfl rfl (lv_one hl 5 rfl rfl (lv_one hl 6 rfl rfl (lv_one hl 1 rfl (congrArg Value.int e_4) (lv_one hl 2 rfl (congrArg Value.int e_5) (lv_one hl 0 rfl rfl (lv_nil hl)))))))
        · skip
          have c_2 : fw = true := bI_1 c_2
          refine lv_aload_n hx hb dX4_search_24 rfl (lv_at hl 0 rfl) ?_
          refine lv_iload hx hb dX4_search_25 (lv_at hl 4 rfl) ?_
          refine vp_callSi (W.runV (As := [.int ((srS n (if fw then t else a) j i).2)]) (rest := []) hF (m_X5_targetsOf l9 D k q n w ly t a fx ((srS n (if fw then t else a) j i).2) hn) (cwV 1 hts gX4_search_X5_targetsOf rfl rfl rfl (by decide +kernel) ⟨Nat.le_of_ble_eq_true rfl, Nat.le_of_ble_eq_true rfl⟩) (rPreV hK hN hP [0, 1, 2, 3, 4, 5] rfl 0 7 rfl rfl) rfl rfl hl.1 rfl (lv_room (Nat.le_of_ble_eq_true rfl)) dX4_search_27 ⟨Nat.zero_le _, Nat.zero_le _⟩) (fun r_6 hr_6 => ?_)
          subst hr_6
          refine lv_goto (tgt := 39) hx hb dX4_search_30 (by decide) ?_
          refine lv_istore (lv' := [(6, .int (orS n t ((srS n (if fw then t else a) j i).2))), (0, .ref (q 0)), (1, .int (nI j)), (2, .int (bI fw)), (3, .int ((srS n (if fw then t else a) j i).1)), (4, .int ((srS n (if fw then t else a) j i).2)), (5, .int (nI i))]) hx hb dX4_search_39 hl (by decide) rfl (fun ls hl => ?_)
          refine lv_iload hx hb dX4_search_41 (lv_at hl 0 rfl) ?_
          refine lv_iload_n hx hb dX4_search_43 rfl (lv_at hl 4 rfl) ?_
          refine lv_iconst (v := (-1)) hx hb dX4_search_44 (by decide) ?_
          refine lv_ixor hx hb dX4_search_45 ?_
          refine lv_iand hx hb dX4_search_46 ?_
          refine lv_istore (lv' := [(4, .int ((orS n t ((srS n (if fw then t else a) j i).2)) &&& (((srS n (if fw then t else a) j i).1) ^^^ (-1)))), (6, .int (orS n t ((srS n (if fw then t else a) j i).2))), (0, .ref (q 0)), (1, .int (nI j)), (2, .int (bI fw)), (3, .int ((srS n (if fw then t else a) j i).1)), (5, .int (nI i))]) hx hb dX4_search_47 hl (by decide) rfl (fun ls hl => ?_)
          refine lv_iload_n hx hb dX4_search_49 rfl (lv_at hl 5 rfl) ?_
          refine lv_iload hx hb dX4_search_50 (lv_at hl 0 rfl) ?_
          refine lv_ior hx hb dX4_search_52 ?_
          refine lv_istore_n (lv' := [(3, .int (((srS n (if fw then t else a) j i).1) ||| ((orS n t ((srS n (if fw then t else a) j i).2)) &&& (((srS n (if fw then t else a) j i).1) ^^^ (-1))))), (4, .int ((orS n t ((srS n (if fw then t else a) j i).2)) &&& (((srS n (if fw then t else a) j i).1) ^^^ (-1)))), (6, .int (orS n t ((srS n (if fw then t else a) j i).2))), (0, .ref (q 0)), (1, .int (nI j)), (2, .int (bI fw)), (5, .int (nI i))]) hx hb dX4_search_53 rfl hl (by decide) rfl (fun ls hl => ?_)
          refine lv_iinc (v := nI (i + 1)) (lv' := [(5, .int (nI (i + 1))), (3, .int (((srS n (if fw then t else a) j i).1) ||| ((orS n t ((srS n (if fw then t else a) j i).2)) &&& (((srS n (if fw then t else a) j i).1) ^^^ (-1))))), (4, .int ((orS n t ((srS n (if fw then t else a) j i).2)) &&& (((srS n (if fw then t else a) j i).1) ^^^ (-1)))), (6, .int (orS n t ((srS n (if fw then t else a) j i).2))), (0, .ref (q 0)), (1, .int (nI j)), (2, .int (bI fw))]) hx hb dX4_search_54 hl (k := 6) rfl (nI_inc i) (by decide) rfl (fun ls hl => ?_)
          refine lv_goto (tgt := 11) hx hb dX4_search_57 (by decide) ?_
          have e_7 : (((srS n (if fw then t else a) j i).1) ||| ((orS n t ((srS n (if fw then t else a) j i).2)) &&& (((srS n (if fw then t else a) j i).1) ^^^ (-1))) : Int32) = (srS n (if fw then t else a) j (i + 1)).1 := by first | (with_reducible rfl) | (rw [srS_1]; simp [*])
          have e_8 : ((orS n t ((srS n (if fw then t else a) j i).2)) &&& (((srS n (if fw then t else a) j i).1) ^^^ (-1)) : Int32) = (srS n (if fw then t else a) j (i + 1)).2 := by first | (with_reducible rfl) | (rw [srS_2]; simp [*])
          exact ih_11 (i + 1) (by omega) (by omega) ls (lv_one hl 4 rfl rfl (lv_one hl 5 rfl rfl (lv_one hl 6 rfl rfl (lv_one hl 1 rfl (congrArg Value.int e_7) (lv_one hl 2 rfl (congrArg Value.int e_8) (lv_one hl 0 rfl rfl (lv_nil hl)))))))
  refine lv_iload_n hx hb dX4_search_0 rfl (lv_at hl 1 rfl) ?_
  refine vp_callSi (va_Run.run (va_runSN (As := [.int (nI j)]) (rest := []) hF (m_X12_bit l9 D k j ) ⟨va_cnB 1 hts gX4_search_X12_bit_n33 rfl rfl rfl (hN (.methodLinkNest RX4 33 yX12_bit RX12) (by decide +kernel)) (hts (.initialized RX12) (by decide +kernel)) (by decide +kernel) ⟨Nat.le_of_ble_eq_true rfl, Nat.le_of_ble_eq_true rfl⟩, hts (.static yX12_bit) (by decide +kernel), trivial⟩ (rPreS hK hN hP [] rfl) rfl rfl hl.1 rfl (lv_room (Nat.le_of_ble_eq_true rfl)) dX4_search_1 ⟨Nat.zero_le _, Nat.zero_le _⟩)) (fun r_9 hr_9 => ?_)
  subst hr_9
  refine lv_istore_n (lv' := [(3, .int (bt j)), (0, .ref (q 0)), (1, .int (nI j)), (2, .int (bI fw))]) hx hb dX4_search_4 rfl hl (by decide) rfl (fun ls hl => ?_)
  refine lv_iload_n hx hb dX4_search_5 rfl (lv_at hl 0 rfl) ?_
  refine lv_istore (lv' := [(4, .int (bt j)), (3, .int (bt j)), (0, .ref (q 0)), (1, .int (nI j)), (2, .int (bI fw))]) hx hb dX4_search_6 hl (by decide) rfl (fun ls hl => ?_)
  refine lv_iconst (v := 0) hx hb dX4_search_8 (by decide) ?_
  refine lv_istore (lv' := [(5, .int 0), (4, .int (bt j)), (3, .int (bt j)), (0, .ref (q 0)), (1, .int (nI j)), (2, .int (bI fw))]) hx hb dX4_search_9 hl (by decide) rfl (fun ls hl => ?_)
  have e_10 : (bt j : Int32) = (srS n (if fw then t else a) j 0).1 := by first | (with_reducible rfl) | (rfl)
  have e_11 : (bt j : Int32) = (srS n (if fw then t else a) j 0).2 := by first | (with_reducible rfl) | (rfl)
  exact loop_11 ((n - 0) + 1) 0 (by omega) (Nat.lt_succ_self _) ls (lv_one hl 3 rfl rfl (lv_one hl 4 rfl rfl (lv_one hl 5 rfl rfl (lv_one hl 2 rfl (congrArg Value.int e_10) (lv_one hl 1 rfl (congrArg Value.int e_11) (lv_one hl 0 rfl rfl (lv_nil hl)))))))

set_option maxHeartbeats 4000000 in
set_option maxRecDepth 100000 in
theorem m_X4_around (l9 : Launch) (D : va_G) (k : Nat → ClassId) (q : Nat → Nat) (n : Nat) (w ly t a : Nat → Int32) (fx : Nat → UInt32) (j : Nat) (hn : n ≤ 10) (hj : j < 32) : Met l9 yX4_around wsX4_around ({ frames := 3, cells := 0, slots := 0, locals := 70 }) (RPc D k [.ref (q 0), .int (nI j)] (bClaims k q n w ly t a fx)) (EI (arS n t a j)) 0 0 noA := by
  refine rMet (y := yX4_around) (cc := cX4_around) (maxL := 2) (ret := (some .int)) [.ref (q 0), .int (nI j)] (by decide) rfl (Nat.le_of_ble_eq_true rfl) ?_
  intro p9 e9 s9 m9 bl9 me9 c9 ls hF hr hlocks hP hK hN hl
  have hl : lv_has ls 2 [(0, .ref (q 0)), (1, .int (nI j))] := hl
  obtain ⟨hx, hb, hml, hown, hts⟩ := id hF
  refine lv_aload_n hx hb dX4_around_0 rfl (lv_at hl 0 rfl) ?_
  refine lv_iload_n hx hb dX4_around_1 rfl (lv_at hl 1 rfl) ?_
  refine lv_iconst (v := 1) hx hb dX4_around_2 (by decide) ?_
  refine vp_callSi (W.runS (As := [.ref (q 0), .int (nI j), .int 1]) (rest := []) hF (m_X4_search l9 D k q n w ly t a fx j true hn (by omega)) (va_cwS 3 hts gX4_around_X4_search rfl rfl rfl (by decide +kernel) ⟨Nat.le_of_ble_eq_true rfl, Nat.le_of_ble_eq_true rfl⟩) (rPreS hK hN hP [0, 1, 2, 3, 4, 5] rfl) rfl rfl hl.1 rfl (lv_room (Nat.le_of_ble_eq_true rfl)) dX4_around_3 ⟨Nat.zero_le _, Nat.zero_le _⟩) (fun r_1 hr_1 => ?_)
  subst hr_1
  refine lv_aload_n hx hb dX4_around_6 rfl (lv_at hl 0 rfl) ?_
  refine lv_iload_n hx hb dX4_around_7 rfl (lv_at hl 1 rfl) ?_
  refine lv_iconst (v := 0) hx hb dX4_around_8 (by decide) ?_
  refine vp_callSi (W.runS (As := [.ref (q 0), .int (nI j), .int 0]) (rest := [.int ((srS n (if true then t else a) j n).1)]) hF (m_X4_search l9 D k q n w ly t a fx j false hn (by omega)) (va_cwS 3 hts gX4_around_X4_search rfl rfl rfl (by decide +kernel) ⟨Nat.le_of_ble_eq_true rfl, Nat.le_of_ble_eq_true rfl⟩) (rPreS hK hN hP [0, 1, 2, 3, 4, 5] rfl) rfl rfl hl.1 rfl (lv_room (Nat.le_of_ble_eq_true rfl)) dX4_around_9 ⟨Nat.zero_le _, Nat.zero_le _⟩) (fun r_2 hr_2 => ?_)
  subst hr_2
  refine lv_iand hx hb dX4_around_12 ?_
  exact W.iret (v := ((srS n (if true then t else a) j n).1) &&& ((srS n (if false then t else a) j n).1)) hx hb hr (fun t9 ht hW => ⟨_, rfl, (by rfl), ht⟩) (fun _ h => by cases h) dX4_around_13 hlocks

set_option maxHeartbeats 4000000 in
set_option maxRecDepth 100000 in
theorem m_X4_bySearches (l9 : Launch) (D : va_G) (k : Nat → ClassId) (q : Nat → Nat) (n : Nat) (w ly t a : Nat → Int32) (fx : Nat → UInt32) (hn : n ≤ 10) : Met l9 yX4_bySearches wsX4_bySearches ({ frames := 4, cells := 0, slots := 0, locals := 91 }) (RPc D k [.ref (q 0)] (bClaims k q n w ly t a fx)) (EI (nI ((cirS n t a n).1))) 0 0 noA := by
  refine rMet (y := yX4_bySearches) (cc := cX4_bySearches) (maxL := 4) (ret := (some .int)) [.ref (q 0)] (by decide) rfl (Nat.le_of_ble_eq_true rfl) ?_
  intro p9 e9 s9 m9 bl9 me9 c9 ls hF hr hlocks hP hK hN hl
  have hl : lv_has ls 4 [(0, .ref (q 0))] := hl
  obtain ⟨hx, hb, hml, hown, hts⟩ := id hF
  have k_fieldLink_15 : (Cond.fieldLink RX4 15 "OpinionReactor$Claims" "count" "I").before _ s9 = true := hts (.fieldLink RX4 15 "OpinionReactor$Claims" "count" "I") (by decide +kernel)
  have kc_RX5 : ∀ w ∈ u_ws RX5 TX5 6, w ∈ wsX4_bySearches := by decide +kernel
  have loop_6 : ∀ (fuel : Nat) (i : Nat), (i ≤ n) → n - i < fuel → ∀ (ls : Array Slot), lv_has ls 4 [(0, .ref (q 0)), (1, .int (nI ((cirS n t a i).1))), (2, .int ((cirS n t a i).2)), (3, .int (nI i))] → W p9 l9 e9 ({ frames := 4, cells := 0, slots := 0, locals := 91 }) s9 m9 ([.ref (q 0)] : List Value).toArray bl9 me9 c9 s9.heap [] 0 0 (MQ bl9 (EI (nI ((cirS n t a n).1))) ([.ref (q 0)] : List Value).toArray s9 0 0 noA) (F0 m9 6 ls []) := by
    intro fuel
    induction fuel with
    | zero => intro i hi hfuel_6; exact absurd hfuel_6 (Nat.not_lt_zero _)
    | succ fuel ih_6 =>
      intro i hi hfuel_6 ls hl
      refine lv_iload_n hx hb dX4_bySearches_6 rfl (lv_at hl 3 rfl) ?_
      refine lv_aload_n hx hb dX4_bySearches_7 rfl (lv_at hl 0 rfl) ?_
      refine va_get (D := D) (ci := 7) (v := .int (nI n)) (C := RX5) (T := TX5) (N := 6) hx hb hts kc_RX5 hown hK hP 0 rfl rfl 0 (by decide) k_fieldLink_15 (fun _ h9 => h9) rfl dX4_bySearches_8 ?_
      refine lv_icmp_ge (tgt := 39) hx hb dX4_bySearches_11 (by decide) (fun c_1 => ?_) (fun c_1 => ?_)
      · skip
        have c_1 : n ≤ i := (nI_leI (a := n) (b := i) (by omega) (by omega)).mp c_1
        refine lv_iload_n hx hb dX4_bySearches_39 rfl (lv_at hl 1 rfl) ?_
        exact W.iret (v := nI ((cirS n t a i).1)) hx hb hr (fun t9 ht hW => ⟨_, rfl, (by rw [show i = n by omega]), ht⟩) (fun _ h => by cases h) dX4_bySearches_40 hlocks
      · skip
        have c_1 : ¬ n ≤ i := fun h => c_1 ((nI_leI (a := n) (b := i) (by omega) (by omega)).mpr h)
        refine lv_iload_n hx hb dX4_bySearches_14 rfl (lv_at hl 2 rfl) ?_
        refine lv_iload_n hx hb dX4_bySearches_15 rfl (lv_at hl 3 rfl) ?_
        refine vp_callSi (va_Run.run (va_runSN (As := [.int ((cirS n t a i).2), .int (nI i)]) (rest := []) hF (m_X12_contains l9 D k ((cirS n t a i).2) i (by omega)) ⟨va_cnB 2 hts gX4_bySearches_X12_contains_n21 rfl rfl rfl (hN (.methodLinkNest RX4 21 yX12_contains RX12) (by decide +kernel)) (hts (.initialized RX12) (by decide +kernel)) (by decide +kernel) ⟨Nat.le_of_ble_eq_true rfl, Nat.le_of_ble_eq_true rfl⟩, hts (.static yX12_contains) (by decide +kernel), trivial⟩ (rPreS hK hN hP [] rfl) rfl rfl hl.1 rfl (lv_room (Nat.le_of_ble_eq_true rfl)) dX4_bySearches_16 ⟨Nat.zero_le _, Nat.zero_le _⟩)) (fun r_2 hr_2 => ?_)
        subst hr_2
        refine lv_if_ne (tgt := 33) hx hb dX4_bySearches_19 (by decide) (fun c_3 => ?_) (fun c_3 => ?_)
        · skip
          have c_3 : (tb ((cirS n t a i).2) i) = true := bI_1 c_3
          refine lv_iinc (v := nI (i + 1)) (lv' := [(3, .int (nI (i + 1))), (0, .ref (q 0)), (1, .int (nI ((cirS n t a i).1))), (2, .int ((cirS n t a i).2))]) hx hb dX4_bySearches_33 hl (k := 3) rfl (nI_inc i) (by decide) rfl (fun ls hl => ?_)
          refine lv_goto (tgt := 6) hx hb dX4_bySearches_36 (by decide) ?_
          have e_4 : (nI ((cirS n t a i).1) : Int32) = nI ((cirS n t a (i + 1)).1) := by first | (with_reducible rfl) | (rw [cirS_s]; simp [*])
          have e_5 : ((cirS n t a i).2 : Int32) = (cirS n t a (i + 1)).2 := by first | (with_reducible rfl) | (rw [cirS_s]; simp [*])
          exact ih_6 (i + 1) (by omega) (by omega) ls (lv_one hl 1 rfl rfl (lv_one hl 2 rfl (congrArg Value.int e_4) (lv_one hl 3 rfl (congrArg Value.int e_5) (lv_one hl 0 rfl rfl (lv_nil hl)))))
        · skip
          have c_3 : (tb ((cirS n t a i).2) i) = false := bI_0 c_3
          refine lv_iinc (v := nI (((cirS n t a i).1) + 1)) (lv' := [(1, .int (nI (((cirS n t a i).1) + 1))), (0, .ref (q 0)), (2, .int ((cirS n t a i).2)), (3, .int (nI i))]) hx hb dX4_bySearches_22 hl (k := 1) rfl (nI_inc ((cirS n t a i).1)) (by decide) rfl (fun ls hl => ?_)
          refine lv_iload_n hx hb dX4_bySearches_25 rfl (lv_at hl 2 rfl) ?_
          refine lv_aload_n hx hb dX4_bySearches_26 rfl (lv_at hl 1 rfl) ?_
          refine lv_iload_n hx hb dX4_bySearches_27 rfl (lv_at hl 3 rfl) ?_
          refine vp_callSi (W.runS (As := [.ref (q 0), .int (nI i)]) (rest := [.int ((cirS n t a i).2)]) hF (m_X4_around l9 D k q n w ly t a fx i hn (by omega)) (va_cwS 2 hts gX4_bySearches_X4_around rfl rfl rfl (by decide +kernel) ⟨Nat.le_of_ble_eq_true rfl, Nat.le_of_ble_eq_true rfl⟩) (rPreS hK hN hP [0, 1, 2, 3, 4, 5] rfl) rfl rfl hl.1 rfl (lv_room (Nat.le_of_ble_eq_true rfl)) dX4_bySearches_28 ⟨Nat.zero_le _, Nat.zero_le _⟩) (fun r_6 hr_6 => ?_)
          subst hr_6
          refine lv_ior hx hb dX4_bySearches_31 ?_
          refine lv_istore_n (lv' := [(2, .int (((cirS n t a i).2) ||| (arS n t a i))), (1, .int (nI (((cirS n t a i).1) + 1))), (0, .ref (q 0)), (3, .int (nI i))]) hx hb dX4_bySearches_32 rfl hl (by decide) rfl (fun ls hl => ?_)
          refine lv_iinc (v := nI (i + 1)) (lv' := [(3, .int (nI (i + 1))), (2, .int (((cirS n t a i).2) ||| (arS n t a i))), (1, .int (nI (((cirS n t a i).1) + 1))), (0, .ref (q 0))]) hx hb dX4_bySearches_33 hl (k := 3) rfl (nI_inc i) (by decide) rfl (fun ls hl => ?_)
          refine lv_goto (tgt := 6) hx hb dX4_bySearches_36 (by decide) ?_
          have e_7 : (nI (((cirS n t a i).1) + 1) : Int32) = nI ((cirS n t a (i + 1)).1) := by first | (with_reducible rfl) | (rw [cirS_s]; simp [*])
          have e_8 : (((cirS n t a i).2) ||| (arS n t a i) : Int32) = (cirS n t a (i + 1)).2 := by first | (with_reducible rfl) | (rw [cirS_s]; simp [*])
          exact ih_6 (i + 1) (by omega) (by omega) ls (lv_one hl 3 rfl rfl (lv_one hl 2 rfl (congrArg Value.int e_7) (lv_one hl 1 rfl (congrArg Value.int e_8) (lv_one hl 0 rfl rfl (lv_nil hl)))))
  refine lv_iconst (v := 0) hx hb dX4_bySearches_0 (by decide) ?_
  refine lv_istore_n (lv' := [(1, .int 0), (0, .ref (q 0))]) hx hb dX4_bySearches_1 rfl hl (by decide) rfl (fun ls hl => ?_)
  refine lv_iconst (v := 0) hx hb dX4_bySearches_2 (by decide) ?_
  refine lv_istore_n (lv' := [(2, .int 0), (1, .int 0), (0, .ref (q 0))]) hx hb dX4_bySearches_3 rfl hl (by decide) rfl (fun ls hl => ?_)
  refine lv_iconst (v := 0) hx hb dX4_bySearches_4 (by decide) ?_
  refine lv_istore_n (lv' := [(3, .int 0), (2, .int 0), (1, .int 0), (0, .ref (q 0))]) hx hb dX4_bySearches_5 rfl hl (by decide) rfl (fun ls hl => ?_)
  have e_9 : (0 : Int32) = nI ((cirS n t a 0).1) := by first | (with_reducible rfl) | (rfl)
  have e_10 : (0 : Int32) = (cirS n t a 0).2 := by first | (with_reducible rfl) | (rfl)
  exact loop_6 ((n - 0) + 1) 0 (by omega) (Nat.lt_succ_self _) ls (lv_one hl 3 rfl rfl (lv_one hl 2 rfl (congrArg Value.int e_9) (lv_one hl 1 rfl (congrArg Value.int e_10) (lv_one hl 0 rfl rfl (lv_nil hl)))))

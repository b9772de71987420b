/-! The law's loop. -/
theorem and63 (x : Int32) : ∃ q : Nat, q < 64 ∧ x &&& 63 = nI q := by
  refine ⟨x.toBitVec.toNat % 64, Nat.mod_lt _ (by decide), ?_⟩
  apply Int32.toBitVec_inj.mp
  apply BitVec.eq_of_toNat_eq
  have hm : x.toBitVec.toNat % 64 < 2 ^ 32 := by omega
  have e1 : (x &&& 63).toBitVec.toNat = x.toBitVec.toNat % 64 := by
    show (x.toBitVec &&& 63#32).toNat = _
    rw [BitVec.toNat_and]
    show x.toBitVec.toNat &&& 63 = _
    exact Nat.and_two_pow_sub_one_eq_mod x.toBitVec.toNat 6
  have e2 : (nI (x.toBitVec.toNat % 64)).toBitVec.toNat = x.toBitVec.toNat % 64 := by
    show (BitVec.ofNat 32 (x.toBitVec.toNat % 64)).toNat = _
    rw [BitVec.toNat_ofNat]
    exact Nat.mod_eq_of_lt hm
  rw [e1, e2]
theorem nI_inc4 (j : Nat) : nI (4 * j) + Int32.ofInt 4 = nI (4 * (j + 1)) := by
  rw [show 4 * (j + 1) = 4 * j + 4 by omega, ← nI_add]
  rfl
theorem len4 {L j : Nat} (hL : L ≤ 2048) (hj : 4 * j ≤ L + 3) : (nI L - 4 < nI (4 * j)) ↔ ¬ 4 * j + 4 ≤ L := by
  by_cases h : 4 ≤ L
  · obtain ⟨m, rfl⟩ : ∃ m, L = m + 4 := ⟨L - 4, by omega⟩
    have e4 : nI 4 = (4 : Int32) := by decide
    have e : nI (m + 4) - 4 = nI m := by
      rw [← nI_add, e4]
      exact Int32.add_sub_cancel _ _
    have h1 : (nI (4 * j)).toInt = (4 * j : Nat) := nI_toInt (by omega)
    have h2 : (nI m).toInt = (m : Nat) := nI_toInt (by omega)
    rw [e, Int32.lt_iff_toInt_lt, h1, h2]
    omega
  · rcases (show L = 0 ∨ L = 1 ∨ L = 2 ∨ L = 3 by omega) with rfl | rfl | rfl | rfl <;> rcases (show j = 0 ∨ j = 1 by omega) with rfl | rfl <;> first | decide | (exfalso; omega)
section LAWS
variable {p : Program} {l : Launch} {e : Env} {s : State} {m : MethodId} {below : List Frame} {meth : Method} {c : Code} {H : Heap} {locs : List Loc} {cells slots : Nat} {Q : State → Prop}
variable {ls : Array Slot} {D : va_G} {k : Nat → ClassId} {A : Nat → Prop} {ks kv kf : Nat → Nat} {ka kw b L : Nat} {xs : Nat → Int32}
variable {iz svb wr dg : Bool} {T : CT} {er fl th ea fa : Int32} {o pa tx sg fo va li co out outd pn pk ll tl cm vc sp ch tn he en ln : Nat} {ts le lf rd v be sd pm rc tx9 li9 il : Nat → Int32} {wy mo ou : Nat → Int64} {qk qq gi mq : Nat → Nat} {V : Nat → Nat → Int32} {un ub uv ut : Nat → Nat → Nat} {U : Nat → Nat → Nat → Nat} {fs : Nat → Option Nat} {PS : Nat → SC} {f fb fd fp nx as9 : Nat → UInt32} {od : Nat → UInt64} {S Sb Sv St : SC}

set_option maxHeartbeats 4000000 in
/-- a step of the loop: from its head behind the test to the end of the case -/
theorem law_step (hl9 : l.stackTraces = false) (C9 : LC ks kv kf ka kw D k p s m c A b L xs) (hc : cells + 1 ≤ 603072) (hsl : slots + 6 ≤ 7182442) (j : Nat) (hj : 4 * j + 4 ≤ L) (hL : L ≤ 2048) (hLF : LF S Sv PS pn pk iz er fl ll tl cm vc sp ts le ea fa ch tn ln svb v sd pm f fd fp tx9 li9)
    (hP : va_P D vwCl (LBg k o pa tx sg fo va li co qk qq gi mq out outd (un 0 0) (ub 0 0) (fun j => U j 0 0) un S ub Sb uv Sv ut St U PS pn pk iz er fl ll tl cm vc sp ts V fs le lf rd T th ea fa ch tn he en ln svb wr dg v be sd pm rc f fb fd fp nx as9 wy mo tx9 li9 il ou od).flatten H) (hD : va_D A (LBg k o pa tx sg fo va li co qk qq gi mq out outd (un 0 0) (ub 0 0) (fun j => U j 0 0) un S ub Sb uv Sv ut St U PS pn pk iz er fl ll tl cm vc sp ts V fs le lf rd T th ea fa ch tn he en ln svb wr dg v be sd pm rc f fb fd fp nx as9 wy mo tx9 li9 il ou od).flatten) (hS : va_S A s.heap H locs) (hl : lv_has ls 10 [(0, .ref b), (1, .ref o), (2, .ref (mq 0)), (3, .ref out), (4, .ref outd), (5, .int (nI (4 * j)))]) (kk : LK p l e s m below meth c Q D k A b xs j (cells + 1) (slots + 6) o pa tx sg fo va li co qk qq gi mq out outd) : W p l e room_1 s m #[Value.ref b] below meth c H locs cells slots Q (F0 m 37 ls []) := by
  obtain ⟨⟨hx, hb, hml, hown, hts⟩, hrest⟩ := id C9
  refine lv_aload_n hx hb dL_law_37 rfl (lv_at hl 0 rfl) ?_
  refine lv_iload hx hb dL_law_38 (lv_at hl 5 rfl) ?_
  refine l_sld C9 hS (4 * j) (by omega) hL dL_law_40 ?_
  refine lv_bipush (v := 63) hx hb dL_law_41 (by decide) ?_
  refine lv_iand hx hb dL_law_43 ?_
  obtain ⟨q, hq, e9⟩ := and63 (xs (4 * j))
  refine lv_tope (v2 := .int (nI q)) (congrArg Value.int e9) ?_
  clear e9
  by_cases hbig : 52 < q
  · have hT : (nI q).toInt = q := nI_toInt (by omega)
    refine lv_tableOut (x := nI q) (tgt := 2694) hx hb dL_law_44 (Or.inr (by rw [hT]; omega)) (by decide) ?_
    refine W.widen (k := cells + 1) (n := slots + 6) (by omega) (by omega) ?_
    exact kk un S ub Sb uv Sv ut St U PS pn pk iz er fl ll tl cm vc sp ts V fs le lf rd T th ea fa ch tn he en ln svb wr dg v be sd pm rc f fb fd fp nx as9 wy mo tx9 li9 il ou od hLF ls H locs hl hP hD hS
  · rcases (show q = 0 ∨ q = 1 ∨ q = 2 ∨ q = 3 ∨ q = 4 ∨ q = 5 ∨ q = 6 ∨ q = 7 ∨ q = 8 ∨ q = 9 ∨ q = 10 ∨ q = 11 ∨ q = 12 ∨ q = 13 ∨ q = 14 ∨ q = 15 ∨ q = 16 ∨ q = 17 ∨ q = 18 ∨ q = 19 ∨ q = 20 ∨ q = 21 ∨ q = 22 ∨ q = 23 ∨ q = 24 ∨ q = 25 ∨ q = 26 ∨ q = 27 ∨ q = 28 ∨ q = 29 ∨ q = 30 ∨ q = 31 ∨ q = 32 ∨ q = 33 ∨ q = 34 ∨ q = 35 ∨ q = 36 ∨ q = 37 ∨ q = 38 ∨ q = 39 ∨ q = 40 ∨ q = 41 ∨ q = 42 ∨ q = 43 ∨ q = 44 ∨ q = 45 ∨ q = 46 ∨ q = 47 ∨ q = 48 ∨ q = 49 ∨ q = 50 ∨ q = 51 ∨ q = 52 by omega) with rfl | rfl | rfl | rfl | rfl | rfl | rfl | rfl | rfl | rfl | rfl | rfl | rfl | rfl | rfl | rfl | rfl | rfl | rfl | rfl | rfl | rfl | rfl | rfl | rfl | rfl | rfl | rfl | rfl | rfl | rfl | rfl | rfl | rfl | rfl | rfl | rfl | rfl | rfl | rfl | rfl | rfl | rfl | rfl | rfl | rfl | rfl | rfl | rfl | rfl | rfl | rfl | rfl
    · refine lv_tableIn (x := nI 0) (off := 228) (tgt := 272) hx hb dL_law_44 (by decide) (by decide) (by decide) (by decide) ?_
      exact ca_0 hl9 C9 hc hsl j hj hL hLF hP hD hS hl kk
    · refine lv_tableIn (x := nI 1) (off := 284) (tgt := 328) hx hb dL_law_44 (by decide) (by decide) (by decide) (by decide) ?_
      exact ca_1 hl9 C9 hc hsl j hj hL hLF hP hD hS hl kk
    · refine lv_tableIn (x := nI 2) (off := 387) (tgt := 431) hx hb dL_law_44 (by decide) (by decide) (by decide) (by decide) ?_
      exact ca_2 hl9 C9 hc hsl j hj hL hLF hP hD hS hl kk
    · refine lv_tableIn (x := nI 3) (off := 455) (tgt := 499) hx hb dL_law_44 (by decide) (by decide) (by decide) (by decide) ?_
      exact ca_3 hl9 C9 hc hsl j hj hL hLF hP hD hS hl kk
    · refine lv_tableIn (x := nI 4) (off := 468) (tgt := 512) hx hb dL_law_44 (by decide) (by decide) (by decide) (by decide) ?_
      exact ca_4 hl9 C9 hc hsl j hj hL hLF hP hD hS hl kk
    · refine lv_tableIn (x := nI 5) (off := 524) (tgt := 568) hx hb dL_law_44 (by decide) (by decide) (by decide) (by decide) ?_
      exact ca_5 hl9 C9 hc hsl j hj hL hLF hP hD hS hl kk
    · refine lv_tableIn (x := nI 6) (off := 580) (tgt := 624) hx hb dL_law_44 (by decide) (by decide) (by decide) (by decide) ?_
      exact ca_6 hl9 C9 hc hsl j hj hL hLF hP hD hS hl kk
    · refine lv_tableIn (x := nI 7) (off := 655) (tgt := 699) hx hb dL_law_44 (by decide) (by decide) (by decide) (by decide) ?_
      exact ca_7 hl9 C9 hc hsl j hj hL hLF hP hD hS hl kk
    · refine lv_tableIn (x := nI 8) (off := 668) (tgt := 712) hx hb dL_law_44 (by decide) (by decide) (by decide) (by decide) ?_
      exact ca_8 hl9 C9 hc hsl j hj hL hLF hP hD hS hl kk
    · refine lv_tableIn (x := nI 9) (off := 681) (tgt := 725) hx hb dL_law_44 (by decide) (by decide) (by decide) (by decide) ?_
      exact ca_9 hl9 C9 hc hsl j hj hL hLF hP hD hS hl kk
    · refine lv_tableIn (x := nI 10) (off := 744) (tgt := 788) hx hb dL_law_44 (by decide) (by decide) (by decide) (by decide) ?_
      exact ca_10 hl9 C9 hc hsl j hj hL hLF hP hD hS hl kk
    · refine lv_tableIn (x := nI 11) (off := 757) (tgt := 801) hx hb dL_law_44 (by decide) (by decide) (by decide) (by decide) ?_
      exact ca_11 hl9 C9 hc hsl j hj hL hLF hP hD hS hl kk
    · refine lv_tableIn (x := nI 12) (off := 770) (tgt := 814) hx hb dL_law_44 (by decide) (by decide) (by decide) (by decide) ?_
      exact ca_12 hl9 C9 hc hsl j hj hL hLF hP hD hS hl kk
    · refine lv_tableIn (x := nI 13) (off := 783) (tgt := 827) hx hb dL_law_44 (by decide) (by decide) (by decide) (by decide) ?_
      exact ca_13 hl9 C9 hc hsl j hj hL hLF hP hD hS hl kk
    · refine lv_tableIn (x := nI 14) (off := 796) (tgt := 840) hx hb dL_law_44 (by decide) (by decide) (by decide) (by decide) ?_
      exact ca_14 hl9 C9 hc hsl j hj hL hLF hP hD hS hl kk
    · refine lv_tableIn (x := nI 15) (off := 809) (tgt := 853) hx hb dL_law_44 (by decide) (by decide) (by decide) (by decide) ?_
      exact ca_15 hl9 C9 hc hsl j hj hL hLF hP hD hS hl kk
    · refine lv_tableIn (x := nI 16) (off := 872) (tgt := 916) hx hb dL_law_44 (by decide) (by decide) (by decide) (by decide) ?_
      exact ca_16 hl9 C9 hc hsl j hj hL hLF hP hD hS hl kk
    · refine lv_tableIn (x := nI 17) (off := 885) (tgt := 929) hx hb dL_law_44 (by decide) (by decide) (by decide) (by decide) ?_
      exact ca_17 hl9 C9 hc hsl j hj hL hLF hP hD hS hl kk
    · refine lv_tableIn (x := nI 18) (off := 898) (tgt := 942) hx hb dL_law_44 (by decide) (by decide) (by decide) (by decide) ?_
      exact ca_18 hl9 C9 hc hsl j hj hL hLF hP hD hS hl kk
    · refine lv_tableIn (x := nI 19) (off := 954) (tgt := 998) hx hb dL_law_44 (by decide) (by decide) (by decide) (by decide) ?_
      exact ca_19 hl9 C9 hc hsl j hj hL hLF hP hD hS hl kk
    · refine lv_tableIn (x := nI 20) (off := 1034) (tgt := 1078) hx hb dL_law_44 (by decide) (by decide) (by decide) (by decide) ?_
      exact ca_20 hl9 C9 hc hsl j hj hL hLF hP hD hS hl kk
    · refine lv_tableIn (x := nI 21) (off := 1114) (tgt := 1158) hx hb dL_law_44 (by decide) (by decide) (by decide) (by decide) ?_
      exact ca_21 hl9 C9 hc hsl j hj hL hLF hP hD hS hl kk
    · refine lv_tableIn (x := nI 22) (off := 1184) (tgt := 1228) hx hb dL_law_44 (by decide) (by decide) (by decide) (by decide) ?_
      exact ca_22 hl9 C9 hc hsl j hj hL hLF hP hD hS hl kk
    · refine lv_tableIn (x := nI 23) (off := 1266) (tgt := 1310) hx hb dL_law_44 (by decide) (by decide) (by decide) (by decide) ?_
      exact ca_23 hl9 C9 hc hsl j hj hL hLF hP hD hS hl kk
    · refine lv_tableIn (x := nI 24) (off := 1334) (tgt := 1378) hx hb dL_law_44 (by decide) (by decide) (by decide) (by decide) ?_
      exact ca_24 hl9 C9 hc hsl j hj hL hLF hP hD hS hl kk
    · refine lv_tableIn (x := nI 25) (off := 1402) (tgt := 1446) hx hb dL_law_44 (by decide) (by decide) (by decide) (by decide) ?_
      exact ca_25 hl9 C9 hc hsl j hj hL hLF hP hD hS hl kk
    · refine lv_tableIn (x := nI 26) (off := 1458) (tgt := 1502) hx hb dL_law_44 (by decide) (by decide) (by decide) (by decide) ?_
      exact ca_26 hl9 C9 hc hsl j hj hL hLF hP hD hS hl kk
    · refine lv_tableIn (x := nI 27) (off := 1548) (tgt := 1592) hx hb dL_law_44 (by decide) (by decide) (by decide) (by decide) ?_
      exact ca_27 hl9 C9 hc hsl j hj hL hLF hP hD hS hl kk
    · refine lv_tableIn (x := nI 28) (off := 1604) (tgt := 1648) hx hb dL_law_44 (by decide) (by decide) (by decide) (by decide) ?_
      exact ca_28 hl9 C9 hc hsl j hj hL hLF hP hD hS hl kk
    · refine lv_tableIn (x := nI 29) (off := 1660) (tgt := 1704) hx hb dL_law_44 (by decide) (by decide) (by decide) (by decide) ?_
      exact ca_29 hl9 C9 hc hsl j hj hL hLF hP hD hS hl kk
    · refine lv_tableIn (x := nI 30) (off := 1738) (tgt := 1782) hx hb dL_law_44 (by decide) (by decide) (by decide) (by decide) ?_
      exact ca_30 hl9 C9 hc hsl j hj hL hLF hP hD hS hl kk
    · refine lv_tableIn (x := nI 31) (off := 1794) (tgt := 1838) hx hb dL_law_44 (by decide) (by decide) (by decide) (by decide) ?_
      exact ca_31 hl9 C9 hc hsl j hj hL hLF hP hD hS hl kk
    · refine lv_tableIn (x := nI 32) (off := 1837) (tgt := 1881) hx hb dL_law_44 (by decide) (by decide) (by decide) (by decide) ?_
      exact ca_32 hl9 C9 hc hsl j hj hL hLF hP hD hS hl kk
    · refine lv_tableIn (x := nI 33) (off := 1850) (tgt := 1894) hx hb dL_law_44 (by decide) (by decide) (by decide) (by decide) ?_
      exact ca_33 hl9 C9 hc hsl j hj hL hLF hP hD hS hl kk
    · refine lv_tableIn (x := nI 34) (off := 1906) (tgt := 1950) hx hb dL_law_44 (by decide) (by decide) (by decide) (by decide) ?_
      exact ca_34 hl9 C9 hc hsl j hj hL hLF hP hD hS hl kk
    · refine lv_tableIn (x := nI 35) (off := 1919) (tgt := 1963) hx hb dL_law_44 (by decide) (by decide) (by decide) (by decide) ?_
      exact ca_35 hl9 C9 hc hsl j hj hL hLF hP hD hS hl kk
    · refine lv_tableIn (x := nI 36) (off := 1932) (tgt := 1976) hx hb dL_law_44 (by decide) (by decide) (by decide) (by decide) ?_
      exact ca_36 hl9 C9 hc hsl j hj hL hLF hP hD hS hl kk
    · refine lv_tableIn (x := nI 37) (off := 1988) (tgt := 2032) hx hb dL_law_44 (by decide) (by decide) (by decide) (by decide) ?_
      exact ca_37 hl9 C9 hc hsl j hj hL hLF hP hD hS hl kk
    · refine lv_tableIn (x := nI 38) (off := 2001) (tgt := 2045) hx hb dL_law_44 (by decide) (by decide) (by decide) (by decide) ?_
      exact ca_38 hl9 C9 hc hsl j hj hL hLF hP hD hS hl kk
    · refine lv_tableIn (x := nI 39) (off := 2057) (tgt := 2101) hx hb dL_law_44 (by decide) (by decide) (by decide) (by decide) ?_
      exact ca_39 hl9 C9 hc hsl j hj hL hLF hP hD hS hl kk
    · refine lv_tableIn (x := nI 40) (off := 2113) (tgt := 2157) hx hb dL_law_44 (by decide) (by decide) (by decide) (by decide) ?_
      exact ca_40 hl9 C9 hc hsl j hj hL hLF hP hD hS hl kk
    · refine lv_tableIn (x := nI 41) (off := 2171) (tgt := 2215) hx hb dL_law_44 (by decide) (by decide) (by decide) (by decide) ?_
      exact ca_41 hl9 C9 hc hsl j hj hL hLF hP hD hS hl kk
    · refine lv_tableIn (x := nI 42) (off := 2215) (tgt := 2259) hx hb dL_law_44 (by decide) (by decide) (by decide) (by decide) ?_
      exact ca_42 hl9 C9 hc hsl j hj hL hLF hP hD hS hl kk
    · refine lv_tableIn (x := nI 43) (off := 2259) (tgt := 2303) hx hb dL_law_44 (by decide) (by decide) (by decide) (by decide) ?_
      exact ca_43 hl9 C9 hc hsl j hj hL hLF hP hD hS hl kk
    · refine lv_tableIn (x := nI 44) (off := 2303) (tgt := 2347) hx hb dL_law_44 (by decide) (by decide) (by decide) (by decide) ?_
      exact ca_44 hl9 C9 hc hsl j hj hL hLF hP hD hS hl kk
    · refine lv_tableIn (x := nI 45) (off := 2359) (tgt := 2403) hx hb dL_law_44 (by decide) (by decide) (by decide) (by decide) ?_
      exact ca_45 hl9 C9 hc hsl j hj hL hLF hP hD hS hl kk
    · refine lv_tableIn (x := nI 46) (off := 2372) (tgt := 2416) hx hb dL_law_44 (by decide) (by decide) (by decide) (by decide) ?_
      exact ca_46 hl9 C9 hc hsl j hj hL hLF hP hD hS hl kk
    · refine lv_tableIn (x := nI 47) (off := 2428) (tgt := 2472) hx hb dL_law_44 (by decide) (by decide) (by decide) (by decide) ?_
      exact ca_47 hl9 C9 hc hsl j hj hL hLF hP hD hS hl kk
    · refine lv_tableIn (x := nI 48) (off := 2493) (tgt := 2537) hx hb dL_law_44 (by decide) (by decide) (by decide) (by decide) ?_
      exact ca_48 hl9 C9 hc hsl j hj hL hLF hP hD hS hl kk
    · refine lv_tableIn (x := nI 49) (off := 2536) (tgt := 2580) hx hb dL_law_44 (by decide) (by decide) (by decide) (by decide) ?_
      exact ca_49 hl9 C9 hc hsl j hj hL hLF hP hD hS hl kk
    · refine lv_tableIn (x := nI 50) (off := 2549) (tgt := 2593) hx hb dL_law_44 (by decide) (by decide) (by decide) (by decide) ?_
      exact ca_50 hl9 C9 hc hsl j hj hL hLF hP hD hS hl kk
    · refine lv_tableIn (x := nI 51) (off := 2593) (tgt := 2637) hx hb dL_law_44 (by decide) (by decide) (by decide) (by decide) ?_
      exact ca_51 hl9 C9 hc hsl j hj hL hLF hP hD hS hl kk
    · refine lv_tableIn (x := nI 52) (off := 2606) (tgt := 2650) hx hb dL_law_44 (by decide) (by decide) (by decide) (by decide) ?_
      exact ca_52 hl9 C9 hc hsl j hj hL hLF hP hD hS hl kk
set_option maxHeartbeats 4000000 in
/-- the loop: from its head to the law's end -/
theorem law_loop (hl9 : l.stackTraces = false) (C9 : LC ks kv kf ka kw D k p s m c A b L xs) (hL : L ≤ 2048) (c0 s0 : Nat) (hc0 : c0 ≤ 2000) (hs0 : s0 ≤ 20000)
    (hend : ∀ (ls : Array Slot) (H : Heap) (locs : List Loc) (cells slots : Nat), cells ≤ 603072 → slots ≤ 7182442 → va_S A s.heap H locs → W p l e room_1 s m #[Value.ref b] below meth c H locs cells slots Q (F0 m 2700 ls [])) :
    ∀ (fuel j : Nat), L + 4 < 4 * j + fuel → 4 * j ≤ L + 3 → ∀ (un : Nat → Nat → Nat) (S : SC) (ub : Nat → Nat → Nat) (Sb : SC) (uv : Nat → Nat → Nat) (Sv : SC) (ut : Nat → Nat → Nat) (St : SC) (U : Nat → Nat → Nat → Nat) (PS : Nat → SC) (pn pk : Nat) (iz : Bool) (er fl : Int32) (ll tl cm vc sp : Nat) (ts : Nat → Int32) (V : Nat → Nat → Int32) (fs : Nat → Option Nat) (le lf rd : Nat → Int32) (T : CT) (th ea fa : Int32) (ch tn he en ln : Nat) (svb wr dg : Bool) (v be sd pm rc : Nat → Int32) (f fb fd fp nx as9 : Nat → UInt32) (wy mo : Nat → Int64) (tx9 li9 il : Nat → Int32) (ou : Nat → Int64) (od : Nat → UInt64), LF S Sv PS pn pk iz er fl ll tl cm vc sp ts le ea fa ch tn ln svb v sd pm f fd fp tx9 li9 → ∀ (ls : Array Slot) (H : Heap) (locs : List Loc), lv_has ls 10 [(0, .ref b), (1, .ref o), (2, .ref (mq 0)), (3, .ref out), (4, .ref outd), (5, .int (nI (4 * j)))] → va_P D vwCl (LBg k o pa tx sg fo va li co qk qq gi mq out outd (un 0 0) (ub 0 0) (fun j => U j 0 0) un S ub Sb uv Sv ut St U PS pn pk iz er fl ll tl cm vc sp ts V fs le lf rd T th ea fa ch tn he en ln svb wr dg v be sd pm rc f fb fd fp nx as9 wy mo tx9 li9 il ou od).flatten H → va_D A (LBg k o pa tx sg fo va li co qk qq gi mq out outd (un 0 0) (ub 0 0) (fun j => U j 0 0) un S ub Sb uv Sv ut St U PS pn pk iz er fl ll tl cm vc sp ts V fs le lf rd T th ea fa ch tn he en ln svb wr dg v be sd pm rc f fb fd fp nx as9 wy mo tx9 li9 il ou od).flatten → va_S A s.heap H locs → W p l e room_1 s m #[Value.ref b] below meth c H locs (c0 + j) (s0 + 6 * j) Q (F0 m 28 ls []) := by
  obtain ⟨⟨hx, hb, hml, hown, hts⟩, hK, hN, hXN, hNC, hZ, hKC, hA, hX, hbl, hbA⟩ := id C9
  intro fuel
  induction fuel with
  | zero => intro j h1 h2; omega
  | succ fuel ih =>
    intro j h1 h2 un S ub Sb uv Sv ut St U PS pn pk iz er fl ll tl cm vc sp ts V fs le lf rd T th ea fa ch tn he en ln svb wr dg v be sd pm rc f fb fd fp nx as9 wy mo tx9 li9 il ou od hLF ls H locs hl hP hD hS
    refine lv_iload hx hb dL_law_28 (lv_at hl 5 rfl) ?_
    refine lv_aload_n hx hb dL_law_30 rfl (lv_at hl 0 rfl) ?_
    refine va_slen hx hb hX hbl hbA hS dL_law_31 ?_
    refine lv_iconst (v := 4) hx hb dL_law_32 (by decide) ?_
    refine lv_isub hx hb dL_law_33 ?_
    refine lv_icmp_gt (tgt := 2700) hx hb dL_law_34 (by decide) (fun c_1 => ?_) (fun c_1 => ?_)
    · exact hend ls H locs _ _ (by omega) (by omega) hS
    · have hj : 4 * j + 4 ≤ L := Classical.byContradiction (fun q => c_1 ((len4 hL h2).mpr q))
      refine law_step hl9 C9 (by omega) (by omega) j hj hL hLF hP hD hS hl ?_
      intro un S ub Sb uv Sv ut St U PS pn pk iz er fl ll tl cm vc sp ts V fs le lf rd T th ea fa ch tn he en ln svb wr dg v be sd pm rc f fb fd fp nx as9 wy mo tx9 li9 il ou od hLF ls H locs hl hP hD hS
      refine lv_iinc (v := nI (4 * (j + 1))) (lv' := [(5, .int (nI (4 * (j + 1)))), (0, .ref b), (1, .ref o), (2, .ref (mq 0)), (3, .ref out), (4, .ref outd)]) hx hb dL_law_2694 hl (k := 5) rfl (nI_inc4 j) (by decide) rfl (fun ls hl => ?_)
      refine lv_goto (tgt := 28) hx hb dL_law_2697 (by decide) ?_
      have := ih (j + 1) (by omega) (by omega) un S ub Sb uv Sv ut St U PS pn pk iz er fl ll tl cm vc sp ts V fs le lf rd T th ea fa ch tn he en ln svb wr dg v be sd pm rc f fb fd fp nx as9 wy mo tx9 li9 il ou od hLF ls H locs (lv_sub hl [1, 2, 3, 4, 5, 0] rfl) hP hD hS
      rw [show c0 + (j + 1) = c0 + j + 1 by omega, show s0 + 6 * (j + 1) = s0 + 6 * j + 6 by omega] at this
      exact this
end LAWS

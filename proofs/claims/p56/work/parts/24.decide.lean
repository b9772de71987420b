/-! Deciding; the place of an entry; rows of references. -/
theorem lt10 {j : Nat} (h : j < 10) : j = 0 ∨ j = 1 ∨ j = 2 ∨ j = 3 ∨ j = 4 ∨ j = 5 ∨ j = 6 ∨ j = 7 ∨ j = 8 ∨ j = 9 := by omega
section AROWS
variable {p : Program} {l : Launch} {e : Env} {R : Room} {s : State} {m : MethodId} {args : Array Value} {below : List Frame} {meth : Method} {c : Code} {H H0 : Heap} {locs : List Loc} {cells slots : Nat} {Q : State → Prop}
variable {cc : ByteArray} {pc : Nat} {ls : Array Slot} {rest : List Value} {D : va_G} {k : Nat → ClassId} {A : Nat → Prop} {ws : va_W}
theorem ar_ld {a : Nat} (hexec : p.tables.exec = Jvm.exec) (hb : c.code = cc) (hK : va_K D vwCl (tyL k) s) (hP : va_P D vwCl ws H) (q0 t0 : Nat) {cA : ClassId} {n x : Nat} {ty : FieldType} {f : Nat → Option Nat} (ha : ws[q0]? = some (a, .inl (cA, n, .inr (.inr (.inr (.inr f)))))) (ht : (tyL k)[t0]? = some (cA, ty)) (hr : ty.isReference = true) (j : Nat) (hj : j < n) (hn : n < 2 ^ 31) (hx : f j = some x) (hdg : decode cc pc = .ok (.aaload, 1)) (kk : W p l e R s m args below meth c H locs cells slots Q (F0 m (pc + 1) ls (.ref x :: rest))) : W p l e R s m args below meth c H locs cells slots Q (F0 m pc ls (.int (nI j) :: .ref a :: rest)) := by
  have hc : (nI j).toNatClampNeg = j := nI_clamp (Nat.lt_trans hj hn)
  have hlt : (nI j).toNatClampNeg < n := by rw [hc]; exact hj
  refine W.aald (v := va_rf (f (nI j).toNatClampNeg)) (ty := ty) hexec hb (hP q0 _ ha) ((hK.2 t0 _ ht).1 n (fun j => va_rf (f j))) hr (fun q => by cases q) (by show ¬ (nI j < 0 ∨ (arrV _ _ _).slots.size ≤ _); rw [arrV_size]; exact vp_in_nI hj hn) (by show (arrV _ _ _).slots[_]? = _; rw [arrV_read _ _ hlt]) rfl rfl hdg ?_
  rw [hc, hx]
  exact kk
end AROWS
/-- the positions among the sets that go on from x, the claims below c being decided -/
def dcB (n : Nat) (t a : Nat → Int32) (x : Int32) : Nat := if orS n a x &&& (orS n t x ^^^ (-1)) = 0 then 1 else 0
def dcS (n : Nat) (t a : Nat → Int32) : Nat → Nat → Int32 → Nat
  | 0, _, x => dcB n t a x
  | d + 1, c, x => if n ≤ c then dcB n t a x else dcS n t a d (c + 1) x + (if (t c ||| a c) &&& (x ||| bt c) = 0 then dcS n t a d (c + 1) (x ||| bt c) else 0)
theorem dcS_hi {n : Nat} {t a : Nat → Int32} {c : Nat} {x : Int32} (h : n ≤ c) (d : Nat) : dcS n t a d c x = dcB n t a x := by
  cases d with
  | zero => rfl
  | succ d => exact if_pos h
theorem dcS_lo {n : Nat} {t a : Nat → Int32} {c : Nat} {x : Int32} (h : ¬ n ≤ c) (d : Nat) : dcS n t a (d + 1) c x = dcS n t a d (c + 1) x + (if (t c ||| a c) &&& (x ||| bt c) = 0 then dcS n t a d (c + 1) (x ||| bt c) else 0) := if_neg h
/-- floorMod by 16 -/
def fmE (x : Int32) : Int32 := if 0 ≤ x ^^^ 16 then x - x / 16 * 16 else if x - x / 16 * 16 = 0 then x - x / 16 * 16 else x - x / 16 * 16 + 16
theorem fmE_p {i r : Nat} (hi : i < 16) (hr : r < 16) : fmE (nI i - 1 - nI r) = nI ((i + 15 - r) % 16) := by
  have : ∀ i : Nat, i < 16 → ∀ r : Nat, r < 16 → fmE (nI i - 1 - nI r) = nI ((i + 15 - r) % 16) := by decide +kernel
  exact this i hi r hr

set_option maxHeartbeats 4000000 in
set_option maxRecDepth 100000 in
theorem m_X9_decide_0 (l9 : Launch) (D : va_G) (k : Nat → ClassId) (q : Nat → Nat) (n : Nat) (w ly t a : Nat → Int32) (fx : Nat → UInt32) (c : Nat) (x : Int32) (hn : n ≤ 10) (hc : c ≤ 10) (hd : n ≤ c + 0) : Met l9 yX9_decide wsX9_decide ({ frames := 2, cells := 0, slots := 0, locals := 44 }) (RPc D k [.ref (q 0), .int (nI c), .int x] (bClaims k q n w ly t a fx)) (EI (nI (dcS n t a 0 c x))) 0 0 noA := by
  refine rMet (y := yX9_decide) (cc := cX9_decide) (maxL := 5) (ret := (some .int)) [.ref (q 0), .int (nI c), .int x] (by decide) rfl (Nat.le_of_ble_eq_true rfl) ?_
  intro p9 e9 s9 m9 bl9 me9 c9 ls hF hr hlocks hP hK hN hl
  have hl : lv_has ls 5 [(0, .ref (q 0)), (1, .int (nI c)), (2, .int x)] := hl
  obtain ⟨hx, hb, hml, hown, hts⟩ := id hF
  have k_fieldLink_30 : (Cond.fieldLink RX9 30 "OpinionReactor$Claims" "count" "I").before _ s9 = true := hts (.fieldLink RX9 30 "OpinionReactor$Claims" "count" "I") (by decide +kernel)
  have kc_RX5 : ∀ w ∈ u_ws RX5 TX5 6, w ∈ wsX9_decide := by decide +kernel
  refine lv_iload_n hx hb dX9_decide_0 rfl (lv_at hl 1 rfl) ?_
  refine lv_aload_n hx hb dX9_decide_1 rfl (lv_at hl 0 rfl) ?_
  refine va_get (D := D) (ci := 7) (v := .int (nI n)) (C := RX5) (T := TX5) (N := 6) hx hb hts kc_RX5 hown hK hP 0 rfl rfl 0 (by decide) k_fieldLink_30 (fun _ h9 => h9) rfl dX9_decide_2 ?_
  refine lv_icmp_lt (tgt := 30) hx hb dX9_decide_5 (by decide) (fun c_1 => ?_) (fun c_1 => ?_)
  · skip
    have c_1 : c < n := (nI_ltI (a := c) (b := n) (by omega) (by omega)).mp c_1
    exact absurd c_1 (by omega)
  · skip
    have c_1 : ¬ c < n := fun h => c_1 ((nI_ltI (a := c) (b := n) (by omega) (by omega)).mpr h)
    refine lv_aload_n hx hb dX9_decide_8 rfl (lv_at hl 0 rfl) ?_
    refine lv_iload_n hx hb dX9_decide_9 rfl (lv_at hl 2 rfl) ?_
    refine vp_callSi (W.runV (As := [.int x]) (rest := []) hF (m_X5_attackersOf l9 D k q n w ly t a fx x hn) (cwV 1 hts gX9_decide_X5_attackersOf rfl rfl rfl (by decide +kernel) ⟨Nat.le_of_ble_eq_true rfl, Nat.le_of_ble_eq_true rfl⟩) (rPreV hK hN hP [0, 1, 2, 3, 4, 5] rfl 0 7 rfl rfl) rfl rfl hl.1 rfl (lv_room (Nat.le_of_ble_eq_true rfl)) dX9_decide_10 ⟨Nat.zero_le _, Nat.zero_le _⟩) (fun r_2 hr_2 => ?_)
    subst hr_2
    refine lv_aload_n hx hb dX9_decide_13 rfl (lv_at hl 0 rfl) ?_
    refine lv_iload_n hx hb dX9_decide_14 rfl (lv_at hl 2 rfl) ?_
    refine vp_callSi (W.runV (As := [.int x]) (rest := [.int (orS n a x)]) hF (m_X5_targetsOf l9 D k q n w ly t a fx x hn) (cwV 1 hts gX9_decide_X5_targetsOf rfl rfl rfl (by decide +kernel) ⟨Nat.le_of_ble_eq_true rfl, Nat.le_of_ble_eq_true rfl⟩) (rPreV hK hN hP [0, 1, 2, 3, 4, 5] rfl 0 7 rfl rfl) rfl rfl hl.1 rfl (lv_room (Nat.le_of_ble_eq_true rfl)) dX9_decide_15 ⟨Nat.zero_le _, Nat.zero_le _⟩) (fun r_3 hr_3 => ?_)
    subst hr_3
    refine lv_iconst (v := (-1)) hx hb dX9_decide_18 (by decide) ?_
    refine lv_ixor hx hb dX9_decide_19 ?_
    refine lv_iand hx hb dX9_decide_20 ?_
    refine lv_if_ne (tgt := 28) hx hb dX9_decide_21 (by decide) (fun c_4 => ?_) (fun c_4 => ?_)
    · skip
      refine lv_iconst (v := 0) hx hb dX9_decide_28 (by decide) ?_
      exact W.iret (v := 0) hx hb hr (fun t9 ht hW => ⟨_, rfl, (by rw [dcS_hi (by omega)]; unfold dcB; rw [if_neg c_4]; rfl), ht⟩) (fun _ h => by cases h) dX9_decide_29 hlocks
    · skip
      refine lv_iconst (v := 1) hx hb dX9_decide_24 (by decide) ?_
      refine lv_goto (tgt := 29) hx hb dX9_decide_25 (by decide) ?_
      exact W.iret (v := 1) hx hb hr (fun t9 ht hW => ⟨_, rfl, (by rw [dcS_hi (by omega)]; unfold dcB; rw [if_pos c_4]; rfl), ht⟩) (fun _ h => by cases h) dX9_decide_29 hlocks

set_option maxHeartbeats 4000000 in
set_option maxRecDepth 100000 in
theorem m_X9_decide_1 (l9 : Launch) (D : va_G) (k : Nat → ClassId) (q : Nat → Nat) (n : Nat) (w ly t a : Nat → Int32) (fx : Nat → UInt32) (c : Nat) (x : Int32) (hn : n ≤ 10) (hc : c ≤ 10) (hd : n ≤ c + 1) : Met l9 yX9_decide wsX9_decide ({ frames := 3, cells := 0, slots := 0, locals := 68 }) (RPc D k [.ref (q 0), .int (nI c), .int x] (bClaims k q n w ly t a fx)) (EI (nI (dcS n t a 1 c x))) 0 0 noA := by
  refine rMet (y := yX9_decide) (cc := cX9_decide) (maxL := 5) (ret := (some .int)) [.ref (q 0), .int (nI c), .int x] (by decide) rfl (Nat.le_of_ble_eq_true rfl) ?_
  intro p9 e9 s9 m9 bl9 me9 c9 ls hF hr hlocks hP hK hN hl
  have hl : lv_has ls 5 [(0, .ref (q 0)), (1, .int (nI c)), (2, .int x)] := hl
  obtain ⟨hx, hb, hml, hown, hts⟩ := id hF
  have k_fieldLink_30 : (Cond.fieldLink RX9 30 "OpinionReactor$Claims" "count" "I").before _ s9 = true := hts (.fieldLink RX9 30 "OpinionReactor$Claims" "count" "I") (by decide +kernel)
  have kc_RX5 : ∀ w ∈ u_ws RX5 TX5 6, w ∈ wsX9_decide := by decide +kernel
  have k_fieldLink_39 : (Cond.fieldLink RX9 39 "OpinionReactor$Claims" "targets" "[I").before _ s9 = true := hts (.fieldLink RX9 39 "OpinionReactor$Claims" "targets" "[I") (by decide +kernel)
  have k_fieldLink_43 : (Cond.fieldLink RX9 43 "OpinionReactor$Claims" "attackers" "[I").before _ s9 = true := hts (.fieldLink RX9 43 "OpinionReactor$Claims" "attackers" "[I") (by decide +kernel)
  refine lv_iload_n hx hb dX9_decide_0 rfl (lv_at hl 1 rfl) ?_
  refine lv_aload_n hx hb dX9_decide_1 rfl (lv_at hl 0 rfl) ?_
  refine va_get (D := D) (ci := 7) (v := .int (nI n)) (C := RX5) (T := TX5) (N := 6) hx hb hts kc_RX5 hown hK hP 0 rfl rfl 0 (by decide) k_fieldLink_30 (fun _ h9 => h9) rfl dX9_decide_2 ?_
  refine lv_icmp_lt (tgt := 30) hx hb dX9_decide_5 (by decide) (fun c_1 => ?_) (fun c_1 => ?_)
  · skip
    have c_1 : c < n := (nI_ltI (a := c) (b := n) (by omega) (by omega)).mp c_1
    refine lv_aload_n hx hb dX9_decide_30 rfl (lv_at hl 0 rfl) ?_
    refine lv_iload_n hx hb dX9_decide_31 rfl (lv_at hl 1 rfl) ?_
    refine lv_iconst (v := 1) hx hb dX9_decide_32 (by decide) ?_
    refine ni_add hx hb c 1 dX9_decide_33 ?_
    refine lv_iload_n hx hb dX9_decide_34 rfl (lv_at hl 2 rfl) ?_
    refine vp_callSi (W.runS (As := [.ref (q 0), .int (nI (c + 1)), .int x]) (rest := []) hF (m_X9_decide_0 l9 D k q n w ly t a fx (c + 1) x hn (by omega) (by omega)) (va_cwS 3 hts gX9_decide_X9_decide rfl rfl rfl (by decide +kernel) ⟨Nat.le_of_ble_eq_true rfl, Nat.le_of_ble_eq_true rfl⟩) (rPreS hK hN hP [0, 1, 2, 3, 4, 5] rfl) rfl rfl hl.1 rfl (lv_room (Nat.le_of_ble_eq_true rfl)) dX9_decide_35 ⟨Nat.zero_le _, Nat.zero_le _⟩) (fun r_2 hr_2 => ?_)
    subst hr_2
    refine lv_istore_n (lv' := [(3, .int (nI (dcS n t a 0 (c + 1) x))), (0, .ref (q 0)), (1, .int (nI c)), (2, .int x)]) hx hb dX9_decide_38 rfl hl (by decide) rfl (fun ls hl => ?_)
    refine lv_iload_n hx hb dX9_decide_39 rfl (lv_at hl 3 rfl) ?_
    refine lv_iload_n hx hb dX9_decide_40 rfl (lv_at hl 2 rfl) ?_
    refine vp_callSi (va_Run.run (va_runSN (As := [.int (nI c)]) (rest := [.int x]) hF (m_X12_bit l9 D k c ) ⟨va_cnB 1 hts gX9_decide_X12_bit_n34 rfl rfl rfl (hN (.methodLinkNest RX9 34 yX12_bit RX12) (by decide +kernel)) (hts (.initialized RX12) (by decide +kernel)) (by decide +kernel) ⟨Nat.le_of_ble_eq_true rfl, Nat.le_of_ble_eq_true rfl⟩, hts (.static yX12_bit) (by decide +kernel), trivial⟩ (rPreS hK hN hP [] rfl) rfl rfl hl.1 rfl (lv_room (Nat.le_of_ble_eq_true rfl)) dX9_decide_41 ⟨Nat.zero_le _, Nat.zero_le _⟩)) (fun r_3 hr_3 => ?_)
    subst hr_3
    refine lv_ior hx hb dX9_decide_44 ?_
    refine lv_istore (lv' := [(4, .int (x ||| (bt c))), (3, .int (nI (dcS n t a 0 (c + 1) x))), (0, .ref (q 0)), (1, .int (nI c)), (2, .int x)]) hx hb dX9_decide_45 hl (by decide) rfl (fun ls hl => ?_)
    refine lv_aload_n hx hb dX9_decide_47 rfl (lv_at hl 2 rfl) ?_
    refine va_get (D := D) (ci := 7) (v := .ref (q 3)) (C := RX5) (T := TX5) (N := 6) hx hb hts kc_RX5 hown hK hP 0 rfl rfl 3 (by decide) k_fieldLink_39 (fun _ h9 => h9) rfl dX9_decide_48 ?_
    refine lv_iload_n hx hb dX9_decide_51 rfl (lv_at hl 3 rfl) ?_
    refine ia_ld hx hb hK hP 3 rfl c (by omega) (by decide) dX9_decide_52 ?_
    refine lv_aload_n hx hb dX9_decide_53 rfl (lv_at hl 2 rfl) ?_
    refine va_get (D := D) (ci := 7) (v := .ref (q 4)) (C := RX5) (T := TX5) (N := 6) hx hb hts kc_RX5 hown hK hP 0 rfl rfl 4 (by decide) k_fieldLink_43 (fun _ h9 => h9) rfl dX9_decide_54 ?_
    refine lv_iload_n hx hb dX9_decide_57 rfl (lv_at hl 3 rfl) ?_
    refine ia_ld hx hb hK hP 4 rfl c (by omega) (by decide) dX9_decide_58 ?_
    refine lv_ior hx hb dX9_decide_59 ?_
    refine lv_iload hx hb dX9_decide_60 (lv_at hl 0 rfl) ?_
    refine lv_iand hx hb dX9_decide_62 ?_
    refine lv_if_ne (tgt := 78) hx hb dX9_decide_63 (by decide) (fun c_4 => ?_) (fun c_4 => ?_)
    · skip
      refine lv_iload_n hx hb dX9_decide_78 rfl (lv_at hl 1 rfl) ?_
      exact W.iret (v := nI (dcS n t a 0 (c + 1) x)) hx hb hr (fun t9 ht hW => ⟨_, rfl, (by rw [dcS_lo (by omega), if_neg c_4]; rfl), ht⟩) (fun _ h => by cases h) dX9_decide_79 hlocks
    · skip
      refine lv_iload_n hx hb dX9_decide_66 rfl (lv_at hl 1 rfl) ?_
      refine lv_aload_n hx hb dX9_decide_67 rfl (lv_at hl 2 rfl) ?_
      refine lv_iload_n hx hb dX9_decide_68 rfl (lv_at hl 3 rfl) ?_
      refine lv_iconst (v := 1) hx hb dX9_decide_69 (by decide) ?_
      refine ni_add hx hb c 1 dX9_decide_70 ?_
      refine lv_iload hx hb dX9_decide_71 (lv_at hl 0 rfl) ?_
      refine vp_callSi (W.runS (As := [.ref (q 0), .int (nI (c + 1)), .int (x ||| (bt c))]) (rest := [.int (nI (dcS n t a 0 (c + 1) x))]) hF (m_X9_decide_0 l9 D k q n w ly t a fx (c + 1) (x ||| (bt c)) hn (by omega) (by omega)) (va_cwS 3 hts gX9_decide_X9_decide rfl rfl rfl (by decide +kernel) ⟨Nat.le_of_ble_eq_true rfl, Nat.le_of_ble_eq_true rfl⟩) (rPreS hK hN hP [0, 1, 2, 3, 4, 5] rfl) rfl rfl hl.1 rfl (lv_room (Nat.le_of_ble_eq_true rfl)) dX9_decide_73 ⟨Nat.zero_le _, Nat.zero_le _⟩) (fun r_5 hr_5 => ?_)
      subst hr_5
      refine ni_add hx hb (dcS n t a 0 (c + 1) x) (dcS n t a 0 (c + 1) (x ||| (bt c))) dX9_decide_76 ?_
      refine lv_istore_n (lv' := [(3, .int (nI ((dcS n t a 0 (c + 1) x) + (dcS n t a 0 (c + 1) (x ||| (bt c)))))), (4, .int (x ||| (bt c))), (0, .ref (q 0)), (1, .int (nI c)), (2, .int x)]) hx hb dX9_decide_77 rfl hl (by decide) rfl (fun ls hl => ?_)
      refine lv_iload_n hx hb dX9_decide_78 rfl (lv_at hl 0 rfl) ?_
      exact W.iret (v := nI ((dcS n t a 0 (c + 1) x) + (dcS n t a 0 (c + 1) (x ||| (bt c))))) hx hb hr (fun t9 ht hW => ⟨_, rfl, (by rw [dcS_lo (by omega), if_pos c_4]), ht⟩) (fun _ h => by cases h) dX9_decide_79 hlocks
  · skip
    have c_1 : ¬ c < n := fun h => c_1 ((nI_ltI (a := c) (b := n) (by omega) (by omega)).mpr h)
    refine lv_aload_n hx hb dX9_decide_8 rfl (lv_at hl 0 rfl) ?_
    refine lv_iload_n hx hb dX9_decide_9 rfl (lv_at hl 2 rfl) ?_
    refine vp_callSi (W.runV (As := [.int x]) (rest := []) hF (m_X5_attackersOf l9 D k q n w ly t a fx x hn) (cwV 1 hts gX9_decide_X5_attackersOf rfl rfl rfl (by decide +kernel) ⟨Nat.le_of_ble_eq_true rfl, Nat.le_of_ble_eq_true rfl⟩) (rPreV hK hN hP [0, 1, 2, 3, 4, 5] rfl 0 7 rfl rfl) rfl rfl hl.1 rfl (lv_room (Nat.le_of_ble_eq_true rfl)) dX9_decide_10 ⟨Nat.zero_le _, Nat.zero_le _⟩) (fun r_6 hr_6 => ?_)
    subst hr_6
    refine lv_aload_n hx hb dX9_decide_13 rfl (lv_at hl 0 rfl) ?_
    refine lv_iload_n hx hb dX9_decide_14 rfl (lv_at hl 2 rfl) ?_
    refine vp_callSi (W.runV (As := [.int x]) (rest := [.int (orS n a x)]) hF (m_X5_targetsOf l9 D k q n w ly t a fx x hn) (cwV 1 hts gX9_decide_X5_targetsOf rfl rfl rfl (by decide +kernel) ⟨Nat.le_of_ble_eq_true rfl, Nat.le_of_ble_eq_true rfl⟩) (rPreV hK hN hP [0, 1, 2, 3, 4, 5] rfl 0 7 rfl rfl) rfl rfl hl.1 rfl (lv_room (Nat.le_of_ble_eq_true rfl)) dX9_decide_15 ⟨Nat.zero_le _, Nat.zero_le _⟩) (fun r_7 hr_7 => ?_)
    subst hr_7
    refine lv_iconst (v := (-1)) hx hb dX9_decide_18 (by decide) ?_
    refine lv_ixor hx hb dX9_decide_19 ?_
    refine lv_iand hx hb dX9_decide_20 ?_
    refine lv_if_ne (tgt := 28) hx hb dX9_decide_21 (by decide) (fun c_8 => ?_) (fun c_8 => ?_)
    · skip
      refine lv_iconst (v := 0) hx hb dX9_decide_28 (by decide) ?_
      exact W.iret (v := 0) hx hb hr (fun t9 ht hW => ⟨_, rfl, (by rw [dcS_hi (by omega)]; unfold dcB; rw [if_neg c_8]; rfl), ht⟩) (fun _ h => by cases h) dX9_decide_29 hlocks
    · skip
      refine lv_iconst (v := 1) hx hb dX9_decide_24 (by decide) ?_
      refine lv_goto (tgt := 29) hx hb dX9_decide_25 (by decide) ?_
      exact W.iret (v := 1) hx hb hr (fun t9 ht hW => ⟨_, rfl, (by rw [dcS_hi (by omega)]; unfold dcB; rw [if_pos c_8]; rfl), ht⟩) (fun _ h => by cases h) dX9_decide_29 hlocks

set_option maxHeartbeats 4000000 in
set_option maxRecDepth 100000 in
theorem m_X9_decide_2 (l9 : Launch) (D : va_G) (k : Nat → ClassId) (q : Nat → Nat) (n : Nat) (w ly t a : Nat → Int32) (fx : Nat → UInt32) (c : Nat) (x : Int32) (hn : n ≤ 10) (hc : c ≤ 10) (hd : n ≤ c + 2) : Met l9 yX9_decide wsX9_decide ({ frames := 4, cells := 0, slots := 0, locals := 92 }) (RPc D k [.ref (q 0), .int (nI c), .int x] (bClaims k q n w ly t a fx)) (EI (nI (dcS n t a 2 c x))) 0 0 noA := by
  refine rMet (y := yX9_decide) (cc := cX9_decide) (maxL := 5) (ret := (some .int)) [.ref (q 0), .int (nI c), .int x] (by decide) rfl (Nat.le_of_ble_eq_true rfl) ?_
  intro p9 e9 s9 m9 bl9 me9 c9 ls hF hr hlocks hP hK hN hl
  have hl : lv_has ls 5 [(0, .ref (q 0)), (1, .int (nI c)), (2, .int x)] := hl
  obtain ⟨hx, hb, hml, hown, hts⟩ := id hF
  have k_fieldLink_30 : (Cond.fieldLink RX9 30 "OpinionReactor$Claims" "count" "I").before _ s9 = true := hts (.fieldLink RX9 30 "OpinionReactor$Claims" "count" "I") (by decide +kernel)
  have kc_RX5 : ∀ w ∈ u_ws RX5 TX5 6, w ∈ wsX9_decide := by decide +kernel
  have k_fieldLink_39 : (Cond.fieldLink RX9 39 "OpinionReactor$Claims" "targets" "[I").before _ s9 = true := hts (.fieldLink RX9 39 "OpinionReactor$Claims" "targets" "[I") (by decide +kernel)
  have k_fieldLink_43 : (Cond.fieldLink RX9 43 "OpinionReactor$Claims" "attackers" "[I").before _ s9 = true := hts (.fieldLink RX9 43 "OpinionReactor$Claims" "attackers" "[I") (by decide +kernel)
  refine lv_iload_n hx hb dX9_decide_0 rfl (lv_at hl 1 rfl) ?_
  refine lv_aload_n hx hb dX9_decide_1 rfl (lv_at hl 0 rfl) ?_
  refine va_get (D := D) (ci := 7) (v := .int (nI n)) (C := RX5) (T := TX5) (N := 6) hx hb hts kc_RX5 hown hK hP 0 rfl rfl 0 (by decide) k_fieldLink_30 (fun _ h9 => h9) rfl dX9_decide_2 ?_
  refine lv_icmp_lt (tgt := 30) hx hb dX9_decide_5 (by decide) (fun c_1 => ?_) (fun c_1 => ?_)
  · skip
    have c_1 : c < n := (nI_ltI (a := c) (b := n) (by omega) (by omega)).mp c_1
    refine lv_aload_n hx hb dX9_decide_30 rfl (lv_at hl 0 rfl) ?_
    refine lv_iload_n hx hb dX9_decide_31 rfl (lv_at hl 1 rfl) ?_
    refine lv_iconst (v := 1) hx hb dX9_decide_32 (by decide) ?_
    refine ni_add hx hb c 1 dX9_decide_33 ?_
    refine lv_iload_n hx hb dX9_decide_34 rfl (lv_at hl 2 rfl) ?_
    refine vp_callSi (W.runS (As := [.ref (q 0), .int (nI (c + 1)), .int x]) (rest := []) hF (m_X9_decide_1 l9 D k q n w ly t a fx (c + 1) x hn (by omega) (by omega)) (va_cwS 3 hts gX9_decide_X9_decide rfl rfl rfl (by decide +kernel) ⟨Nat.le_of_ble_eq_true rfl, Nat.le_of_ble_eq_true rfl⟩) (rPreS hK hN hP [0, 1, 2, 3, 4, 5] rfl) rfl rfl hl.1 rfl (lv_room (Nat.le_of_ble_eq_true rfl)) dX9_decide_35 ⟨Nat.zero_le _, Nat.zero_le _⟩) (fun r_2 hr_2 => ?_)
    subst hr_2
    refine lv_istore_n (lv' := [(3, .int (nI (dcS n t a 1 (c + 1) x))), (0, .ref (q 0)), (1, .int (nI c)), (2, .int x)]) hx hb dX9_decide_38 rfl hl (by decide) rfl (fun ls hl => ?_)
    refine lv_iload_n hx hb dX9_decide_39 rfl (lv_at hl 3 rfl) ?_
    refine lv_iload_n hx hb dX9_decide_40 rfl (lv_at hl 2 rfl) ?_
    refine vp_callSi (va_Run.run (va_runSN (As := [.int (nI c)]) (rest := [.int x]) hF (m_X12_bit l9 D k c ) ⟨va_cnB 1 hts gX9_decide_X12_bit_n34 rfl rfl rfl (hN (.methodLinkNest RX9 34 yX12_bit RX12) (by decide +kernel)) (hts (.initialized RX12) (by decide +kernel)) (by decide +kernel) ⟨Nat.le_of_ble_eq_true rfl, Nat.le_of_ble_eq_true rfl⟩, hts (.static yX12_bit) (by decide +kernel), trivial⟩ (rPreS hK hN hP [] rfl) rfl rfl hl.1 rfl (lv_room (Nat.le_of_ble_eq_true rfl)) dX9_decide_41 ⟨Nat.zero_le _, Nat.zero_le _⟩)) (fun r_3 hr_3 => ?_)
    subst hr_3
    refine lv_ior hx hb dX9_decide_44 ?_
    refine lv_istore (lv' := [(4, .int (x ||| (bt c))), (3, .int (nI (dcS n t a 1 (c + 1) x))), (0, .ref (q 0)), (1, .int (nI c)), (2, .int x)]) hx hb dX9_decide_45 hl (by decide) rfl (fun ls hl => ?_)
    refine lv_aload_n hx hb dX9_decide_47 rfl (lv_at hl 2 rfl) ?_
    refine va_get (D := D) (ci := 7) (v := .ref (q 3)) (C := RX5) (T := TX5) (N := 6) hx hb hts kc_RX5 hown hK hP 0 rfl rfl 3 (by decide) k_fieldLink_39 (fun _ h9 => h9) rfl dX9_decide_48 ?_
    refine lv_iload_n hx hb dX9_decide_51 rfl (lv_at hl 3 rfl) ?_
    refine ia_ld hx hb hK hP 3 rfl c (by omega) (by decide) dX9_decide_52 ?_
    refine lv_aload_n hx hb dX9_decide_53 rfl (lv_at hl 2 rfl) ?_
    refine va_get (D := D) (ci := 7) (v := .ref (q 4)) (C := RX5) (T := TX5) (N := 6) hx hb hts kc_RX5 hown hK hP 0 rfl rfl 4 (by decide) k_fieldLink_43 (fun _ h9 => h9) rfl dX9_decide_54 ?_
    refine lv_iload_n hx hb dX9_decide_57 rfl (lv_at hl 3 rfl) ?_
    refine ia_ld hx hb hK hP 4 rfl c (by omega) (by decide) dX9_decide_58 ?_
    refine lv_ior hx hb dX9_decide_59 ?_
    refine lv_iload hx hb dX9_decide_60 (lv_at hl 0 rfl) ?_
    refine lv_iand hx hb dX9_decide_62 ?_
    refine lv_if_ne (tgt := 78) hx hb dX9_decide_63 (by decide) (fun c_4 => ?_) (fun c_4 => ?_)
    · skip
      refine lv_iload_n hx hb dX9_decide_78 rfl (lv_at hl 1 rfl) ?_
      exact W.iret (v := nI (dcS n t a 1 (c + 1) x)) hx hb hr (fun t9 ht hW => ⟨_, rfl, (by rw [dcS_lo (by omega), if_neg c_4]; rfl), ht⟩) (fun _ h => by cases h) dX9_decide_79 hlocks
    · skip
      refine lv_iload_n hx hb dX9_decide_66 rfl (lv_at hl 1 rfl) ?_
      refine lv_aload_n hx hb dX9_decide_67 rfl (lv_at hl 2 rfl) ?_
      refine lv_iload_n hx hb dX9_decide_68 rfl (lv_at hl 3 rfl) ?_
      refine lv_iconst (v := 1) hx hb dX9_decide_69 (by decide) ?_
      refine ni_add hx hb c 1 dX9_decide_70 ?_
      refine lv_iload hx hb dX9_decide_71 (lv_at hl 0 rfl) ?_
      refine vp_callSi (W.runS (As := [.ref (q 0), .int (nI (c + 1)), .int (x ||| (bt c))]) (rest := [.int (nI (dcS n t a 1 (c + 1) x))]) hF (m_X9_decide_1 l9 D k q n w ly t a fx (c + 1) (x ||| (bt c)) hn (by omega) (by omega)) (va_cwS 3 hts gX9_decide_X9_decide rfl rfl rfl (by decide +kernel) ⟨Nat.le_of_ble_eq_true rfl, Nat.le_of_ble_eq_true rfl⟩) (rPreS hK hN hP [0, 1, 2, 3, 4, 5] rfl) rfl rfl hl.1 rfl (lv_room (Nat.le_of_ble_eq_true rfl)) dX9_decide_73 ⟨Nat.zero_le _, Nat.zero_le _⟩) (fun r_5 hr_5 => ?_)
      subst hr_5
      refine ni_add hx hb (dcS n t a 1 (c + 1) x) (dcS n t a 1 (c + 1) (x ||| (bt c))) dX9_decide_76 ?_
      refine lv_istore_n (lv' := [(3, .int (nI ((dcS n t a 1 (c + 1) x) + (dcS n t a 1 (c + 1) (x ||| (bt c)))))), (4, .int (x ||| (bt c))), (0, .ref (q 0)), (1, .int (nI c)), (2, .int x)]) hx hb dX9_decide_77 rfl hl (by decide) rfl (fun ls hl => ?_)
      refine lv_iload_n hx hb dX9_decide_78 rfl (lv_at hl 0 rfl) ?_
      exact W.iret (v := nI ((dcS n t a 1 (c + 1) x) + (dcS n t a 1 (c + 1) (x ||| (bt c))))) hx hb hr (fun t9 ht hW => ⟨_, rfl, (by rw [dcS_lo (by omega), if_pos c_4]), ht⟩) (fun _ h => by cases h) dX9_decide_79 hlocks
  · skip
    have c_1 : ¬ c < n := fun h => c_1 ((nI_ltI (a := c) (b := n) (by omega) (by omega)).mpr h)
    refine lv_aload_n hx hb dX9_decide_8 rfl (lv_at hl 0 rfl) ?_
    refine lv_iload_n hx hb dX9_decide_9 rfl (lv_at hl 2 rfl) ?_
    refine vp_callSi (W.runV (As := [.int x]) (rest := []) hF (m_X5_attackersOf l9 D k q n w ly t a fx x hn) (cwV 1 hts gX9_decide_X5_attackersOf rfl rfl rfl (by decide +kernel) ⟨Nat.le_of_ble_eq_true rfl, Nat.le_of_ble_eq_true rfl⟩) (rPreV hK hN hP [0, 1, 2, 3, 4, 5] rfl 0 7 rfl rfl) rfl rfl hl.1 rfl (lv_room (Nat.le_of_ble_eq_true rfl)) dX9_decide_10 ⟨Nat.zero_le _, Nat.zero_le _⟩) (fun r_6 hr_6 => ?_)
    subst hr_6
    refine lv_aload_n hx hb dX9_decide_13 rfl (lv_at hl 0 rfl) ?_
    refine lv_iload_n hx hb dX9_decide_14 rfl (lv_at hl 2 rfl) ?_
    refine vp_callSi (W.runV (As := [.int x]) (rest := [.int (orS n a x)]) hF (m_X5_targetsOf l9 D k q n w ly t a fx x hn) (cwV 1 hts gX9_decide_X5_targetsOf rfl rfl rfl (by decide +kernel) ⟨Nat.le_of_ble_eq_true rfl, Nat.le_of_ble_eq_true rfl⟩) (rPreV hK hN hP [0, 1, 2, 3, 4, 5] rfl 0 7 rfl rfl) rfl rfl hl.1 rfl (lv_room (Nat.le_of_ble_eq_true rfl)) dX9_decide_15 ⟨Nat.zero_le _, Nat.zero_le _⟩) (fun r_7 hr_7 => ?_)
    subst hr_7
    refine lv_iconst (v := (-1)) hx hb dX9_decide_18 (by decide) ?_
    refine lv_ixor hx hb dX9_decide_19 ?_
    refine lv_iand hx hb dX9_decide_20 ?_
    refine lv_if_ne (tgt := 28) hx hb dX9_decide_21 (by decide) (fun c_8 => ?_) (fun c_8 => ?_)
    · skip
      refine lv_iconst (v := 0) hx hb dX9_decide_28 (by decide) ?_
      exact W.iret (v := 0) hx hb hr (fun t9 ht hW => ⟨_, rfl, (by rw [dcS_hi (by omega)]; unfold dcB; rw [if_neg c_8]; rfl), ht⟩) (fun _ h => by cases h) dX9_decide_29 hlocks
    · skip
      refine lv_iconst (v := 1) hx hb dX9_decide_24 (by decide) ?_
      refine lv_goto (tgt := 29) hx hb dX9_decide_25 (by decide) ?_
      exact W.iret (v := 1) hx hb hr (fun t9 ht hW => ⟨_, rfl, (by rw [dcS_hi (by omega)]; unfold dcB; rw [if_pos c_8]; rfl), ht⟩) (fun _ h => by cases h) dX9_decide_29 hlocks

set_option maxHeartbeats 4000000 in
set_option maxRecDepth 100000 in
theorem m_X9_decide_3 (l9 : Launch) (D : va_G) (k : Nat → ClassId) (q : Nat → Nat) (n : Nat) (w ly t a : Nat → Int32) (fx : Nat → UInt32) (c : Nat) (x : Int32) (hn : n ≤ 10) (hc : c ≤ 10) (hd : n ≤ c + 3) : Met l9 yX9_decide wsX9_decide ({ frames := 5, cells := 0, slots := 0, locals := 116 }) (RPc D k [.ref (q 0), .int (nI c), .int x] (bClaims k q n w ly t a fx)) (EI (nI (dcS n t a 3 c x))) 0 0 noA := by
  refine rMet (y := yX9_decide) (cc := cX9_decide) (maxL := 5) (ret := (some .int)) [.ref (q 0), .int (nI c), .int x] (by decide) rfl (Nat.le_of_ble_eq_true rfl) ?_
  intro p9 e9 s9 m9 bl9 me9 c9 ls hF hr hlocks hP hK hN hl
  have hl : lv_has ls 5 [(0, .ref (q 0)), (1, .int (nI c)), (2, .int x)] := hl
  obtain ⟨hx, hb, hml, hown, hts⟩ := id hF
  have k_fieldLink_30 : (Cond.fieldLink RX9 30 "OpinionReactor$Claims" "count" "I").before _ s9 = true := hts (.fieldLink RX9 30 "OpinionReactor$Claims" "count" "I") (by decide +kernel)
  have kc_RX5 : ∀ w ∈ u_ws RX5 TX5 6, w ∈ wsX9_decide := by decide +kernel
  have k_fieldLink_39 : (Cond.fieldLink RX9 39 "OpinionReactor$Claims" "targets" "[I").before _ s9 = true := hts (.fieldLink RX9 39 "OpinionReactor$Claims" "targets" "[I") (by decide +kernel)
  have k_fieldLink_43 : (Cond.fieldLink RX9 43 "OpinionReactor$Claims" "attackers" "[I").before _ s9 = true := hts (.fieldLink RX9 43 "OpinionReactor$Claims" "attackers" "[I") (by decide +kernel)
  refine lv_iload_n hx hb dX9_decide_0 rfl (lv_at hl 1 rfl) ?_
  refine lv_aload_n hx hb dX9_decide_1 rfl (lv_at hl 0 rfl) ?_
  refine va_get (D := D) (ci := 7) (v := .int (nI n)) (C := RX5) (T := TX5) (N := 6) hx hb hts kc_RX5 hown hK hP 0 rfl rfl 0 (by decide) k_fieldLink_30 (fun _ h9 => h9) rfl dX9_decide_2 ?_
  refine lv_icmp_lt (tgt := 30) hx hb dX9_decide_5 (by decide) (fun c_1 => ?_) (fun c_1 => ?_)
  · skip
    have c_1 : c < n := (nI_ltI (a := c) (b := n) (by omega) (by omega)).mp c_1
    refine lv_aload_n hx hb dX9_decide_30 rfl (lv_at hl 0 rfl) ?_
    refine lv_iload_n hx hb dX9_decide_31 rfl (lv_at hl 1 rfl) ?_
    refine lv_iconst (v := 1) hx hb dX9_decide_32 (by decide) ?_
    refine ni_add hx hb c 1 dX9_decide_33 ?_
    refine lv_iload_n hx hb dX9_decide_34 rfl (lv_at hl 2 rfl) ?_
    refine vp_callSi (W.runS (As := [.ref (q 0), .int (nI (c + 1)), .int x]) (rest := []) hF (m_X9_decide_2 l9 D k q n w ly t a fx (c + 1) x hn (by omega) (by omega)) (va_cwS 3 hts gX9_decide_X9_decide rfl rfl rfl (by decide +kernel) ⟨Nat.le_of_ble_eq_true rfl, Nat.le_of_ble_eq_true rfl⟩) (rPreS hK hN hP [0, 1, 2, 3, 4, 5] rfl) rfl rfl hl.1 rfl (lv_room (Nat.le_of_ble_eq_true rfl)) dX9_decide_35 ⟨Nat.zero_le _, Nat.zero_le _⟩) (fun r_2 hr_2 => ?_)
    subst hr_2
    refine lv_istore_n (lv' := [(3, .int (nI (dcS n t a 2 (c + 1) x))), (0, .ref (q 0)), (1, .int (nI c)), (2, .int x)]) hx hb dX9_decide_38 rfl hl (by decide) rfl (fun ls hl => ?_)
    refine lv_iload_n hx hb dX9_decide_39 rfl (lv_at hl 3 rfl) ?_
    refine lv_iload_n hx hb dX9_decide_40 rfl (lv_at hl 2 rfl) ?_
    refine vp_callSi (va_Run.run (va_runSN (As := [.int (nI c)]) (rest := [.int x]) hF (m_X12_bit l9 D k c ) ⟨va_cnB 1 hts gX9_decide_X12_bit_n34 rfl rfl rfl (hN (.methodLinkNest RX9 34 yX12_bit RX12) (by decide +kernel)) (hts (.initialized RX12) (by decide +kernel)) (by decide +kernel) ⟨Nat.le_of_ble_eq_true rfl, Nat.le_of_ble_eq_true rfl⟩, hts (.static yX12_bit) (by decide +kernel), trivial⟩ (rPreS hK hN hP [] rfl) rfl rfl hl.1 rfl (lv_room (Nat.le_of_ble_eq_true rfl)) dX9_decide_41 ⟨Nat.zero_le _, Nat.zero_le _⟩)) (fun r_3 hr_3 => ?_)
    subst hr_3
    refine lv_ior hx hb dX9_decide_44 ?_
    refine lv_istore (lv' := [(4, .int (x ||| (bt c))), (3, .int (nI (dcS n t a 2 (c + 1) x))), (0, .ref (q 0)), (1, .int (nI c)), (2, .int x)]) hx hb dX9_decide_45 hl (by decide) rfl (fun ls hl => ?_)
    refine lv_aload_n hx hb dX9_decide_47 rfl (lv_at hl 2 rfl) ?_
    refine va_get (D := D) (ci := 7) (v := .ref (q 3)) (C := RX5) (T := TX5) (N := 6) hx hb hts kc_RX5 hown hK hP 0 rfl rfl 3 (by decide) k_fieldLink_39 (fun _ h9 => h9) rfl dX9_decide_48 ?_
    refine lv_iload_n hx hb dX9_decide_51 rfl (lv_at hl 3 rfl) ?_
    refine ia_ld hx hb hK hP 3 rfl c (by omega) (by decide) dX9_decide_52 ?_
    refine lv_aload_n hx hb dX9_decide_53 rfl (lv_at hl 2 rfl) ?_
    refine va_get (D := D) (ci := 7) (v := .ref (q 4)) (C := RX5) (T := TX5) (N := 6) hx hb hts kc_RX5 hown hK hP 0 rfl rfl 4 (by decide) k_fieldLink_43 (fun _ h9 => h9) rfl dX9_decide_54 ?_
    refine lv_iload_n hx hb dX9_decide_57 rfl (lv_at hl 3 rfl) ?_
    refine ia_ld hx hb hK hP 4 rfl c (by omega) (by decide) dX9_decide_58 ?_
    refine lv_ior hx hb dX9_decide_59 ?_
    refine lv_iload hx hb dX9_decide_60 (lv_at hl 0 rfl) ?_
    refine lv_iand hx hb dX9_decide_62 ?_
    refine lv_if_ne (tgt := 78) hx hb dX9_decide_63 (by decide) (fun c_4 => ?_) (fun c_4 => ?_)
    · skip
      refine lv_iload_n hx hb dX9_decide_78 rfl (lv_at hl 1 rfl) ?_
      exact W.iret (v := nI (dcS n t a 2 (c + 1) x)) hx hb hr (fun t9 ht hW => ⟨_, rfl, (by rw [dcS_lo (by omega), if_neg c_4]; rfl), ht⟩) (fun _ h => by cases h) dX9_decide_79 hlocks
    · skip
      refine lv_iload_n hx hb dX9_decide_66 rfl (lv_at hl 1 rfl) ?_
      refine lv_aload_n hx hb dX9_decide_67 rfl (lv_at hl 2 rfl) ?_
      refine lv_iload_n hx hb dX9_decide_68 rfl (lv_at hl 3 rfl) ?_
      refine lv_iconst (v := 1) hx hb dX9_decide_69 (by decide) ?_
      refine ni_add hx hb c 1 dX9_decide_70 ?_
      refine lv_iload hx hb dX9_decide_71 (lv_at hl 0 rfl) ?_
      refine vp_callSi (W.runS (As := [.ref (q 0), .int (nI (c + 1)), .int (x ||| (bt c))]) (rest := [.int (nI (dcS n t a 2 (c + 1) x))]) hF (m_X9_decide_2 l9 D k q n w ly t a fx (c + 1) (x ||| (bt c)) hn (by omega) (by omega)) (va_cwS 3 hts gX9_decide_X9_decide rfl rfl rfl (by decide +kernel) ⟨Nat.le_of_ble_eq_true rfl, Nat.le_of_ble_eq_true rfl⟩) (rPreS hK hN hP [0, 1, 2, 3, 4, 5] rfl) rfl rfl hl.1 rfl (lv_room (Nat.le_of_ble_eq_true rfl)) dX9_decide_73 ⟨Nat.zero_le _, Nat.zero_le _⟩) (fun r_5 hr_5 => ?_)
      subst hr_5
      refine ni_add hx hb (dcS n t a 2 (c + 1) x) (dcS n t a 2 (c + 1) (x ||| (bt c))) dX9_decide_76 ?_
      refine lv_istore_n (lv' := [(3, .int (nI ((dcS n t a 2 (c + 1) x) + (dcS n t a 2 (c + 1) (x ||| (bt c)))))), (4, .int (x ||| (bt c))), (0, .ref (q 0)), (1, .int (nI c)), (2, .int x)]) hx hb dX9_decide_77 rfl hl (by decide) rfl (fun ls hl => ?_)
      refine lv_iload_n hx hb dX9_decide_78 rfl (lv_at hl 0 rfl) ?_
      exact W.iret (v := nI ((dcS n t a 2 (c + 1) x) + (dcS n t a 2 (c + 1) (x ||| (bt c))))) hx hb hr (fun t9 ht hW => ⟨_, rfl, (by rw [dcS_lo (by omega), if_pos c_4]), ht⟩) (fun _ h => by cases h) dX9_decide_79 hlocks
  · skip
    have c_1 : ¬ c < n := fun h => c_1 ((nI_ltI (a := c) (b := n) (by omega) (by omega)).mpr h)
    refine lv_aload_n hx hb dX9_decide_8 rfl (lv_at hl 0 rfl) ?_
    refine lv_iload_n hx hb dX9_decide_9 rfl (lv_at hl 2 rfl) ?_
    refine vp_callSi (W.runV (As := [.int x]) (rest := []) hF (m_X5_attackersOf l9 D k q n w ly t a fx x hn) (cwV 1 hts gX9_decide_X5_attackersOf rfl rfl rfl (by decide +kernel) ⟨Nat.le_of_ble_eq_true rfl, Nat.le_of_ble_eq_true rfl⟩) (rPreV hK hN hP [0, 1, 2, 3, 4, 5] rfl 0 7 rfl rfl) rfl rfl hl.1 rfl (lv_room (Nat.le_of_ble_eq_true rfl)) dX9_decide_10 ⟨Nat.zero_le _, Nat.zero_le _⟩) (fun r_6 hr_6 => ?_)
    subst hr_6
    refine lv_aload_n hx hb dX9_decide_13 rfl (lv_at hl 0 rfl) ?_
    refine lv_iload_n hx hb dX9_decide_14 rfl (lv_at hl 2 rfl) ?_
    refine vp_callSi (W.runV (As := [.int x]) (rest := [.int (orS n a x)]) hF (m_X5_targetsOf l9 D k q n w ly t a fx x hn) (cwV 1 hts gX9_decide_X5_targetsOf rfl rfl rfl (by decide +kernel) ⟨Nat.le_of_ble_eq_true rfl, Nat.le_of_ble_eq_true rfl⟩) (rPreV hK hN hP [0, 1, 2, 3, 4, 5] rfl 0 7 rfl rfl) rfl rfl hl.1 rfl (lv_room (Nat.le_of_ble_eq_true rfl)) dX9_decide_15 ⟨Nat.zero_le _, Nat.zero_le _⟩) (fun r_7 hr_7 => ?_)
    subst hr_7
    refine lv_iconst (v := (-1)) hx hb dX9_decide_18 (by decide) ?_
    refine lv_ixor hx hb dX9_decide_19 ?_
    refine lv_iand hx hb dX9_decide_20 ?_
    refine lv_if_ne (tgt := 28) hx hb dX9_decide_21 (by decide) (fun c_8 => ?_) (fun c_8 => ?_)
    · skip
      refine lv_iconst (v := 0) hx hb dX9_decide_28 (by decide) ?_
      exact W.iret (v := 0) hx hb hr (fun t9 ht hW => ⟨_, rfl, (by rw [dcS_hi (by omega)]; unfold dcB; rw [if_neg c_8]; rfl), ht⟩) (fun _ h => by cases h) dX9_decide_29 hlocks
    · skip
      refine lv_iconst (v := 1) hx hb dX9_decide_24 (by decide) ?_
      refine lv_goto (tgt := 29) hx hb dX9_decide_25 (by decide) ?_
      exact W.iret (v := 1) hx hb hr (fun t9 ht hW => ⟨_, rfl, (by rw [dcS_hi (by omega)]; unfold dcB; rw [if_pos c_8]; rfl), ht⟩) (fun _ h => by cases h) dX9_decide_29 hlocks

set_option maxHeartbeats 4000000 in
set_option maxRecDepth 100000 in
theorem m_X9_decide_4 (l9 : Launch) (D : va_G) (k : Nat → ClassId) (q : Nat → Nat) (n : Nat) (w ly t a : Nat → Int32) (fx : Nat → UInt32) (c : Nat) (x : Int32) (hn : n ≤ 10) (hc : c ≤ 10) (hd : n ≤ c + 4) : Met l9 yX9_decide wsX9_decide ({ frames := 6, cells := 0, slots := 0, locals := 140 }) (RPc D k [.ref (q 0), .int (nI c), .int x] (bClaims k q n w ly t a fx)) (EI (nI (dcS n t a 4 c x))) 0 0 noA := by
  refine rMet (y := yX9_decide) (cc := cX9_decide) (maxL := 5) (ret := (some .int)) [.ref (q 0), .int (nI c), .int x] (by decide) rfl (Nat.le_of_ble_eq_true rfl) ?_
  intro p9 e9 s9 m9 bl9 me9 c9 ls hF hr hlocks hP hK hN hl
  have hl : lv_has ls 5 [(0, .ref (q 0)), (1, .int (nI c)), (2, .int x)] := hl
  obtain ⟨hx, hb, hml, hown, hts⟩ := id hF
  have k_fieldLink_30 : (Cond.fieldLink RX9 30 "OpinionReactor$Claims" "count" "I").before _ s9 = true := hts (.fieldLink RX9 30 "OpinionReactor$Claims" "count" "I") (by decide +kernel)
  have kc_RX5 : ∀ w ∈ u_ws RX5 TX5 6, w ∈ wsX9_decide := by decide +kernel
  have k_fieldLink_39 : (Cond.fieldLink RX9 39 "OpinionReactor$Claims" "targets" "[I").before _ s9 = true := hts (.fieldLink RX9 39 "OpinionReactor$Claims" "targets" "[I") (by decide +kernel)
  have k_fieldLink_43 : (Cond.fieldLink RX9 43 "OpinionReactor$Claims" "attackers" "[I").before _ s9 = true := hts (.fieldLink RX9 43 "OpinionReactor$Claims" "attackers" "[I") (by decide +kernel)
  refine lv_iload_n hx hb dX9_decide_0 rfl (lv_at hl 1 rfl) ?_
  refine lv_aload_n hx hb dX9_decide_1 rfl (lv_at hl 0 rfl) ?_
  refine va_get (D := D) (ci := 7) (v := .int (nI n)) (C := RX5) (T := TX5) (N := 6) hx hb hts kc_RX5 hown hK hP 0 rfl rfl 0 (by decide) k_fieldLink_30 (fun _ h9 => h9) rfl dX9_decide_2 ?_
  refine lv_icmp_lt (tgt := 30) hx hb dX9_decide_5 (by decide) (fun c_1 => ?_) (fun c_1 => ?_)
  · skip
    have c_1 : c < n := (nI_ltI (a := c) (b := n) (by omega) (by omega)).mp c_1
    refine lv_aload_n hx hb dX9_decide_30 rfl (lv_at hl 0 rfl) ?_
    refine lv_iload_n hx hb dX9_decide_31 rfl (lv_at hl 1 rfl) ?_
    refine lv_iconst (v := 1) hx hb dX9_decide_32 (by decide) ?_
    refine ni_add hx hb c 1 dX9_decide_33 ?_
    refine lv_iload_n hx hb dX9_decide_34 rfl (lv_at hl 2 rfl) ?_
    refine vp_callSi (W.runS (As := [.ref (q 0), .int (nI (c + 1)), .int x]) (rest := []) hF (m_X9_decide_3 l9 D k q n w ly t a fx (c + 1) x hn (by omega) (by omega)) (va_cwS 3 hts gX9_decide_X9_decide rfl rfl rfl (by decide +kernel) ⟨Nat.le_of_ble_eq_true rfl, Nat.le_of_ble_eq_true rfl⟩) (rPreS hK hN hP [0, 1, 2, 3, 4, 5] rfl) rfl rfl hl.1 rfl (lv_room (Nat.le_of_ble_eq_true rfl)) dX9_decide_35 ⟨Nat.zero_le _, Nat.zero_le _⟩) (fun r_2 hr_2 => ?_)
    subst hr_2
    refine lv_istore_n (lv' := [(3, .int (nI (dcS n t a 3 (c + 1) x))), (0, .ref (q 0)), (1, .int (nI c)), (2, .int x)]) hx hb dX9_decide_38 rfl hl (by decide) rfl (fun ls hl => ?_)
    refine lv_iload_n hx hb dX9_decide_39 rfl (lv_at hl 3 rfl) ?_
    refine lv_iload_n hx hb dX9_decide_40 rfl (lv_at hl 2 rfl) ?_
    refine vp_callSi (va_Run.run (va_runSN (As := [.int (nI c)]) (rest := [.int x]) hF (m_X12_bit l9 D k c ) ⟨va_cnB 1 hts gX9_decide_X12_bit_n34 rfl rfl rfl (hN (.methodLinkNest RX9 34 yX12_bit RX12) (by decide +kernel)) (hts (.initialized RX12) (by decide +kernel)) (by decide +kernel) ⟨Nat.le_of_ble_eq_true rfl, Nat.le_of_ble_eq_true rfl⟩, hts (.static yX12_bit) (by decide +kernel), trivial⟩ (rPreS hK hN hP [] rfl) rfl rfl hl.1 rfl (lv_room (Nat.le_of_ble_eq_true rfl)) dX9_decide_41 ⟨Nat.zero_le _, Nat.zero_le _⟩)) (fun r_3 hr_3 => ?_)
    subst hr_3
    refine lv_ior hx hb dX9_decide_44 ?_
    refine lv_istore (lv' := [(4, .int (x ||| (bt c))), (3, .int (nI (dcS n t a 3 (c + 1) x))), (0, .ref (q 0)), (1, .int (nI c)), (2, .int x)]) hx hb dX9_decide_45 hl (by decide) rfl (fun ls hl => ?_)
    refine lv_aload_n hx hb dX9_decide_47 rfl (lv_at hl 2 rfl) ?_
    refine va_get (D := D) (ci := 7) (v := .ref (q 3)) (C := RX5) (T := TX5) (N := 6) hx hb hts kc_RX5 hown hK hP 0 rfl rfl 3 (by decide) k_fieldLink_39 (fun _ h9 => h9) rfl dX9_decide_48 ?_
    refine lv_iload_n hx hb dX9_decide_51 rfl (lv_at hl 3 rfl) ?_
    refine ia_ld hx hb hK hP 3 rfl c (by omega) (by decide) dX9_decide_52 ?_
    refine lv_aload_n hx hb dX9_decide_53 rfl (lv_at hl 2 rfl) ?_
    refine va_get (D := D) (ci := 7) (v := .ref (q 4)) (C := RX5) (T := TX5) (N := 6) hx hb hts kc_RX5 hown hK hP 0 rfl rfl 4 (by decide) k_fieldLink_43 (fun _ h9 => h9) rfl dX9_decide_54 ?_
    refine lv_iload_n hx hb dX9_decide_57 rfl (lv_at hl 3 rfl) ?_
    refine ia_ld hx hb hK hP 4 rfl c (by omega) (by decide) dX9_decide_58 ?_
    refine lv_ior hx hb dX9_decide_59 ?_
    refine lv_iload hx hb dX9_decide_60 (lv_at hl 0 rfl) ?_
    refine lv_iand hx hb dX9_decide_62 ?_
    refine lv_if_ne (tgt := 78) hx hb dX9_decide_63 (by decide) (fun c_4 => ?_) (fun c_4 => ?_)
    · skip
      refine lv_iload_n hx hb dX9_decide_78 rfl (lv_at hl 1 rfl) ?_
      exact W.iret (v := nI (dcS n t a 3 (c + 1) x)) hx hb hr (fun t9 ht hW => ⟨_, rfl, (by rw [dcS_lo (by omega), if_neg c_4]; rfl), ht⟩) (fun _ h => by cases h) dX9_decide_79 hlocks
    · skip
      refine lv_iload_n hx hb dX9_decide_66 rfl (lv_at hl 1 rfl) ?_
      refine lv_aload_n hx hb dX9_decide_67 rfl (lv_at hl 2 rfl) ?_
      refine lv_iload_n hx hb dX9_decide_68 rfl (lv_at hl 3 rfl) ?_
      refine lv_iconst (v := 1) hx hb dX9_decide_69 (by decide) ?_
      refine ni_add hx hb c 1 dX9_decide_70 ?_
      refine lv_iload hx hb dX9_decide_71 (lv_at hl 0 rfl) ?_
      refine vp_callSi (W.runS (As := [.ref (q 0), .int (nI (c + 1)), .int (x ||| (bt c))]) (rest := [.int (nI (dcS n t a 3 (c + 1) x))]) hF (m_X9_decide_3 l9 D k q n w ly t a fx (c + 1) (x ||| (bt c)) hn (by omega) (by omega)) (va_cwS 3 hts gX9_decide_X9_decide rfl rfl rfl (by decide +kernel) ⟨Nat.le_of_ble_eq_true rfl, Nat.le_of_ble_eq_true rfl⟩) (rPreS hK hN hP [0, 1, 2, 3, 4, 5] rfl) rfl rfl hl.1 rfl (lv_room (Nat.le_of_ble_eq_true rfl)) dX9_decide_73 ⟨Nat.zero_le _, Nat.zero_le _⟩) (fun r_5 hr_5 => ?_)
      subst hr_5
      refine ni_add hx hb (dcS n t a 3 (c + 1) x) (dcS n t a 3 (c + 1) (x ||| (bt c))) dX9_decide_76 ?_
      refine lv_istore_n (lv' := [(3, .int (nI ((dcS n t a 3 (c + 1) x) + (dcS n t a 3 (c + 1) (x ||| (bt c)))))), (4, .int (x ||| (bt c))), (0, .ref (q 0)), (1, .int (nI c)), (2, .int x)]) hx hb dX9_decide_77 rfl hl (by decide) rfl (fun ls hl => ?_)
      refine lv_iload_n hx hb dX9_decide_78 rfl (lv_at hl 0 rfl) ?_
      exact W.iret (v := nI ((dcS n t a 3 (c + 1) x) + (dcS n t a 3 (c + 1) (x ||| (bt c))))) hx hb hr (fun t9 ht hW => ⟨_, rfl, (by rw [dcS_lo (by omega), if_pos c_4]), ht⟩) (fun _ h => by cases h) dX9_decide_79 hlocks
  · skip
    have c_1 : ¬ c < n := fun h => c_1 ((nI_ltI (a := c) (b := n) (by omega) (by omega)).mpr h)
    refine lv_aload_n hx hb dX9_decide_8 rfl (lv_at hl 0 rfl) ?_
    refine lv_iload_n hx hb dX9_decide_9 rfl (lv_at hl 2 rfl) ?_
    refine vp_callSi (W.runV (As := [.int x]) (rest := []) hF (m_X5_attackersOf l9 D k q n w ly t a fx x hn) (cwV 1 hts gX9_decide_X5_attackersOf rfl rfl rfl (by decide +kernel) ⟨Nat.le_of_ble_eq_true rfl, Nat.le_of_ble_eq_true rfl⟩) (rPreV hK hN hP [0, 1, 2, 3, 4, 5] rfl 0 7 rfl rfl) rfl rfl hl.1 rfl (lv_room (Nat.le_of_ble_eq_true rfl)) dX9_decide_10 ⟨Nat.zero_le _, Nat.zero_le _⟩) (fun r_6 hr_6 => ?_)
    subst hr_6
    refine lv_aload_n hx hb dX9_decide_13 rfl (lv_at hl 0 rfl) ?_
    refine lv_iload_n hx hb dX9_decide_14 rfl (lv_at hl 2 rfl) ?_
    refine vp_callSi (W.runV (As := [.int x]) (rest := [.int (orS n a x)]) hF (m_X5_targetsOf l9 D k q n w ly t a fx x hn) (cwV 1 hts gX9_decide_X5_targetsOf rfl rfl rfl (by decide +kernel) ⟨Nat.le_of_ble_eq_true rfl, Nat.le_of_ble_eq_true rfl⟩) (rPreV hK hN hP [0, 1, 2, 3, 4, 5] rfl 0 7 rfl rfl) rfl rfl hl.1 rfl (lv_room (Nat.le_of_ble_eq_true rfl)) dX9_decide_15 ⟨Nat.zero_le _, Nat.zero_le _⟩) (fun r_7 hr_7 => ?_)
    subst hr_7
    refine lv_iconst (v := (-1)) hx hb dX9_decide_18 (by decide) ?_
    refine lv_ixor hx hb dX9_decide_19 ?_
    refine lv_iand hx hb dX9_decide_20 ?_
    refine lv_if_ne (tgt := 28) hx hb dX9_decide_21 (by decide) (fun c_8 => ?_) (fun c_8 => ?_)
    · skip
      refine lv_iconst (v := 0) hx hb dX9_decide_28 (by decide) ?_
      exact W.iret (v := 0) hx hb hr (fun t9 ht hW => ⟨_, rfl, (by rw [dcS_hi (by omega)]; unfold dcB; rw [if_neg c_8]; rfl), ht⟩) (fun _ h => by cases h) dX9_decide_29 hlocks
    · skip
      refine lv_iconst (v := 1) hx hb dX9_decide_24 (by decide) ?_
      refine lv_goto (tgt := 29) hx hb dX9_decide_25 (by decide) ?_
      exact W.iret (v := 1) hx hb hr (fun t9 ht hW => ⟨_, rfl, (by rw [dcS_hi (by omega)]; unfold dcB; rw [if_pos c_8]; rfl), ht⟩) (fun _ h => by cases h) dX9_decide_29 hlocks

set_option maxHeartbeats 4000000 in
set_option maxRecDepth 100000 in
theorem m_X9_decide_5 (l9 : Launch) (D : va_G) (k : Nat → ClassId) (q : Nat → Nat) (n : Nat) (w ly t a : Nat → Int32) (fx : Nat → UInt32) (c : Nat) (x : Int32) (hn : n ≤ 10) (hc : c ≤ 10) (hd : n ≤ c + 5) : Met l9 yX9_decide wsX9_decide ({ frames := 7, cells := 0, slots := 0, locals := 164 }) (RPc D k [.ref (q 0), .int (nI c), .int x] (bClaims k q n w ly t a fx)) (EI (nI (dcS n t a 5 c x))) 0 0 noA := by
  refine rMet (y := yX9_decide) (cc := cX9_decide) (maxL := 5) (ret := (some .int)) [.ref (q 0), .int (nI c), .int x] (by decide) rfl (Nat.le_of_ble_eq_true rfl) ?_
  intro p9 e9 s9 m9 bl9 me9 c9 ls hF hr hlocks hP hK hN hl
  have hl : lv_has ls 5 [(0, .ref (q 0)), (1, .int (nI c)), (2, .int x)] := hl
  obtain ⟨hx, hb, hml, hown, hts⟩ := id hF
  have k_fieldLink_30 : (Cond.fieldLink RX9 30 "OpinionReactor$Claims" "count" "I").before _ s9 = true := hts (.fieldLink RX9 30 "OpinionReactor$Claims" "count" "I") (by decide +kernel)
  have kc_RX5 : ∀ w ∈ u_ws RX5 TX5 6, w ∈ wsX9_decide := by decide +kernel
  have k_fieldLink_39 : (Cond.fieldLink RX9 39 "OpinionReactor$Claims" "targets" "[I").before _ s9 = true := hts (.fieldLink RX9 39 "OpinionReactor$Claims" "targets" "[I") (by decide +kernel)
  have k_fieldLink_43 : (Cond.fieldLink RX9 43 "OpinionReactor$Claims" "attackers" "[I").before _ s9 = true := hts (.fieldLink RX9 43 "OpinionReactor$Claims" "attackers" "[I") (by decide +kernel)
  refine lv_iload_n hx hb dX9_decide_0 rfl (lv_at hl 1 rfl) ?_
  refine lv_aload_n hx hb dX9_decide_1 rfl (lv_at hl 0 rfl) ?_
  refine va_get (D := D) (ci := 7) (v := .int (nI n)) (C := RX5) (T := TX5) (N := 6) hx hb hts kc_RX5 hown hK hP 0 rfl rfl 0 (by decide) k_fieldLink_30 (fun _ h9 => h9) rfl dX9_decide_2 ?_
  refine lv_icmp_lt (tgt := 30) hx hb dX9_decide_5 (by decide) (fun c_1 => ?_) (fun c_1 => ?_)
  · skip
    have c_1 : c < n := (nI_ltI (a := c) (b := n) (by omega) (by omega)).mp c_1
    refine lv_aload_n hx hb dX9_decide_30 rfl (lv_at hl 0 rfl) ?_
    refine lv_iload_n hx hb dX9_decide_31 rfl (lv_at hl 1 rfl) ?_
    refine lv_iconst (v := 1) hx hb dX9_decide_32 (by decide) ?_
    refine ni_add hx hb c 1 dX9_decide_33 ?_
    refine lv_iload_n hx hb dX9_decide_34 rfl (lv_at hl 2 rfl) ?_
    refine vp_callSi (W.runS (As := [.ref (q 0), .int (nI (c + 1)), .int x]) (rest := []) hF (m_X9_decide_4 l9 D k q n w ly t a fx (c + 1) x hn (by omega) (by omega)) (va_cwS 3 hts gX9_decide_X9_decide rfl rfl rfl (by decide +kernel) ⟨Nat.le_of_ble_eq_true rfl, Nat.le_of_ble_eq_true rfl⟩) (rPreS hK hN hP [0, 1, 2, 3, 4, 5] rfl) rfl rfl hl.1 rfl (lv_room (Nat.le_of_ble_eq_true rfl)) dX9_decide_35 ⟨Nat.zero_le _, Nat.zero_le _⟩) (fun r_2 hr_2 => ?_)
    subst hr_2
    refine lv_istore_n (lv' := [(3, .int (nI (dcS n t a 4 (c + 1) x))), (0, .ref (q 0)), (1, .int (nI c)), (2, .int x)]) hx hb dX9_decide_38 rfl hl (by decide) rfl (fun ls hl => ?_)
    refine lv_iload_n hx hb dX9_decide_39 rfl (lv_at hl 3 rfl) ?_
    refine lv_iload_n hx hb dX9_decide_40 rfl (lv_at hl 2 rfl) ?_
    refine vp_callSi (va_Run.run (va_runSN (As := [.int (nI c)]) (rest := [.int x]) hF (m_X12_bit l9 D k c ) ⟨va_cnB 1 hts gX9_decide_X12_bit_n34 rfl rfl rfl (hN (.methodLinkNest RX9 34 yX12_bit RX12) (by decide +kernel)) (hts (.initialized RX12) (by decide +kernel)) (by decide +kernel) ⟨Nat.le_of_ble_eq_true rfl, Nat.le_of_ble_eq_true rfl⟩, hts (.static yX12_bit) (by decide +kernel), trivial⟩ (rPreS hK hN hP [] rfl) rfl rfl hl.1 rfl (lv_room (Nat.le_of_ble_eq_true rfl)) dX9_decide_41 ⟨Nat.zero_le _, Nat.zero_le _⟩)) (fun r_3 hr_3 => ?_)
    subst hr_3
    refine lv_ior hx hb dX9_decide_44 ?_
    refine lv_istore (lv' := [(4, .int (x ||| (bt c))), (3, .int (nI (dcS n t a 4 (c + 1) x))), (0, .ref (q 0)), (1, .int (nI c)), (2, .int x)]) hx hb dX9_decide_45 hl (by decide) rfl (fun ls hl => ?_)
    refine lv_aload_n hx hb dX9_decide_47 rfl (lv_at hl 2 rfl) ?_
    refine va_get (D := D) (ci := 7) (v := .ref (q 3)) (C := RX5) (T := TX5) (N := 6) hx hb hts kc_RX5 hown hK hP 0 rfl rfl 3 (by decide) k_fieldLink_39 (fun _ h9 => h9) rfl dX9_decide_48 ?_
    refine lv_iload_n hx hb dX9_decide_51 rfl (lv_at hl 3 rfl) ?_
    refine ia_ld hx hb hK hP 3 rfl c (by omega) (by decide) dX9_decide_52 ?_
    refine lv_aload_n hx hb dX9_decide_53 rfl (lv_at hl 2 rfl) ?_
    refine va_get (D := D) (ci := 7) (v := .ref (q 4)) (C := RX5) (T := TX5) (N := 6) hx hb hts kc_RX5 hown hK hP 0 rfl rfl 4 (by decide) k_fieldLink_43 (fun _ h9 => h9) rfl dX9_decide_54 ?_
    refine lv_iload_n hx hb dX9_decide_57 rfl (lv_at hl 3 rfl) ?_
    refine ia_ld hx hb hK hP 4 rfl c (by omega) (by decide) dX9_decide_58 ?_
    refine lv_ior hx hb dX9_decide_59 ?_
    refine lv_iload hx hb dX9_decide_60 (lv_at hl 0 rfl) ?_
    refine lv_iand hx hb dX9_decide_62 ?_
    refine lv_if_ne (tgt := 78) hx hb dX9_decide_63 (by decide) (fun c_4 => ?_) (fun c_4 => ?_)
    · skip
      refine lv_iload_n hx hb dX9_decide_78 rfl (lv_at hl 1 rfl) ?_
      exact W.iret (v := nI (dcS n t a 4 (c + 1) x)) hx hb hr (fun t9 ht hW => ⟨_, rfl, (by rw [dcS_lo (by omega), if_neg c_4]; rfl), ht⟩) (fun _ h => by cases h) dX9_decide_79 hlocks
    · skip
      refine lv_iload_n hx hb dX9_decide_66 rfl (lv_at hl 1 rfl) ?_
      refine lv_aload_n hx hb dX9_decide_67 rfl (lv_at hl 2 rfl) ?_
      refine lv_iload_n hx hb dX9_decide_68 rfl (lv_at hl 3 rfl) ?_
      refine lv_iconst (v := 1) hx hb dX9_decide_69 (by decide) ?_
      refine ni_add hx hb c 1 dX9_decide_70 ?_
      refine lv_iload hx hb dX9_decide_71 (lv_at hl 0 rfl) ?_
      refine vp_callSi (W.runS (As := [.ref (q 0), .int (nI (c + 1)), .int (x ||| (bt c))]) (rest := [.int (nI (dcS n t a 4 (c + 1) x))]) hF (m_X9_decide_4 l9 D k q n w ly t a fx (c + 1) (x ||| (bt c)) hn (by omega) (by omega)) (va_cwS 3 hts gX9_decide_X9_decide rfl rfl rfl (by decide +kernel) ⟨Nat.le_of_ble_eq_true rfl, Nat.le_of_ble_eq_true rfl⟩) (rPreS hK hN hP [0, 1, 2, 3, 4, 5] rfl) rfl rfl hl.1 rfl (lv_room (Nat.le_of_ble_eq_true rfl)) dX9_decide_73 ⟨Nat.zero_le _, Nat.zero_le _⟩) (fun r_5 hr_5 => ?_)
      subst hr_5
      refine ni_add hx hb (dcS n t a 4 (c + 1) x) (dcS n t a 4 (c + 1) (x ||| (bt c))) dX9_decide_76 ?_
      refine lv_istore_n (lv' := [(3, .int (nI ((dcS n t a 4 (c + 1) x) + (dcS n t a 4 (c + 1) (x ||| (bt c)))))), (4, .int (x ||| (bt c))), (0, .ref (q 0)), (1, .int (nI c)), (2, .int x)]) hx hb dX9_decide_77 rfl hl (by decide) rfl (fun ls hl => ?_)
      refine lv_iload_n hx hb dX9_decide_78 rfl (lv_at hl 0 rfl) ?_
      exact W.iret (v := nI ((dcS n t a 4 (c + 1) x) + (dcS n t a 4 (c + 1) (x ||| (bt c))))) hx hb hr (fun t9 ht hW => ⟨_, rfl, (by rw [dcS_lo (by omega), if_pos c_4]), ht⟩) (fun _ h => by cases h) dX9_decide_79 hlocks
  · skip
    have c_1 : ¬ c < n := fun h => c_1 ((nI_ltI (a := c) (b := n) (by omega) (by omega)).mpr h)
    refine lv_aload_n hx hb dX9_decide_8 rfl (lv_at hl 0 rfl) ?_
    refine lv_iload_n hx hb dX9_decide_9 rfl (lv_at hl 2 rfl) ?_
    refine vp_callSi (W.runV (As := [.int x]) (rest := []) hF (m_X5_attackersOf l9 D k q n w ly t a fx x hn) (cwV 1 hts gX9_decide_X5_attackersOf rfl rfl rfl (by decide +kernel) ⟨Nat.le_of_ble_eq_true rfl, Nat.le_of_ble_eq_true rfl⟩) (rPreV hK hN hP [0, 1, 2, 3, 4, 5] rfl 0 7 rfl rfl) rfl rfl hl.1 rfl (lv_room (Nat.le_of_ble_eq_true rfl)) dX9_decide_10 ⟨Nat.zero_le _, Nat.zero_le _⟩) (fun r_6 hr_6 => ?_)
    subst hr_6
    refine lv_aload_n hx hb dX9_decide_13 rfl (lv_at hl 0 rfl) ?_
    refine lv_iload_n hx hb dX9_decide_14 rfl (lv_at hl 2 rfl) ?_
    refine vp_callSi (W.runV (As := [.int x]) (rest := [.int (orS n a x)]) hF (m_X5_targetsOf l9 D k q n w ly t a fx x hn) (cwV 1 hts gX9_decide_X5_targetsOf rfl rfl rfl (by decide +kernel) ⟨Nat.le_of_ble_eq_true rfl, Nat.le_of_ble_eq_true rfl⟩) (rPreV hK hN hP [0, 1, 2, 3, 4, 5] rfl 0 7 rfl rfl) rfl rfl hl.1 rfl (lv_room (Nat.le_of_ble_eq_true rfl)) dX9_decide_15 ⟨Nat.zero_le _, Nat.zero_le _⟩) (fun r_7 hr_7 => ?_)
    subst hr_7
    refine lv_iconst (v := (-1)) hx hb dX9_decide_18 (by decide) ?_
    refine lv_ixor hx hb dX9_decide_19 ?_
    refine lv_iand hx hb dX9_decide_20 ?_
    refine lv_if_ne (tgt := 28) hx hb dX9_decide_21 (by decide) (fun c_8 => ?_) (fun c_8 => ?_)
    · skip
      refine lv_iconst (v := 0) hx hb dX9_decide_28 (by decide) ?_
      exact W.iret (v := 0) hx hb hr (fun t9 ht hW => ⟨_, rfl, (by rw [dcS_hi (by omega)]; unfold dcB; rw [if_neg c_8]; rfl), ht⟩) (fun _ h => by cases h) dX9_decide_29 hlocks
    · skip
      refine lv_iconst (v := 1) hx hb dX9_decide_24 (by decide) ?_
      refine lv_goto (tgt := 29) hx hb dX9_decide_25 (by decide) ?_
      exact W.iret (v := 1) hx hb hr (fun t9 ht hW => ⟨_, rfl, (by rw [dcS_hi (by omega)]; unfold dcB; rw [if_pos c_8]; rfl), ht⟩) (fun _ h => by cases h) dX9_decide_29 hlocks

set_option maxHeartbeats 4000000 in
set_option maxRecDepth 100000 in
theorem m_X9_decide_6 (l9 : Launch) (D : va_G) (k : Nat → ClassId) (q : Nat → Nat) (n : Nat) (w ly t a : Nat → Int32) (fx : Nat → UInt32) (c : Nat) (x : Int32) (hn : n ≤ 10) (hc : c ≤ 10) (hd : n ≤ c + 6) : Met l9 yX9_decide wsX9_decide ({ frames := 8, cells := 0, slots := 0, locals := 188 }) (RPc D k [.ref (q 0), .int (nI c), .int x] (bClaims k q n w ly t a fx)) (EI (nI (dcS n t a 6 c x))) 0 0 noA := by
  refine rMet (y := yX9_decide) (cc := cX9_decide) (maxL := 5) (ret := (some .int)) [.ref (q 0), .int (nI c), .int x] (by decide) rfl (Nat.le_of_ble_eq_true rfl) ?_
  intro p9 e9 s9 m9 bl9 me9 c9 ls hF hr hlocks hP hK hN hl
  have hl : lv_has ls 5 [(0, .ref (q 0)), (1, .int (nI c)), (2, .int x)] := hl
  obtain ⟨hx, hb, hml, hown, hts⟩ := id hF
  have k_fieldLink_30 : (Cond.fieldLink RX9 30 "OpinionReactor$Claims" "count" "I").before _ s9 = true := hts (.fieldLink RX9 30 "OpinionReactor$Claims" "count" "I") (by decide +kernel)
  have kc_RX5 : ∀ w ∈ u_ws RX5 TX5 6, w ∈ wsX9_decide := by decide +kernel
  have k_fieldLink_39 : (Cond.fieldLink RX9 39 "OpinionReactor$Claims" "targets" "[I").before _ s9 = true := hts (.fieldLink RX9 39 "OpinionReactor$Claims" "targets" "[I") (by decide +kernel)
  have k_fieldLink_43 : (Cond.fieldLink RX9 43 "OpinionReactor$Claims" "attackers" "[I").before _ s9 = true := hts (.fieldLink RX9 43 "OpinionReactor$Claims" "attackers" "[I") (by decide +kernel)
  refine lv_iload_n hx hb dX9_decide_0 rfl (lv_at hl 1 rfl) ?_
  refine lv_aload_n hx hb dX9_decide_1 rfl (lv_at hl 0 rfl) ?_
  refine va_get (D := D) (ci := 7) (v := .int (nI n)) (C := RX5) (T := TX5) (N := 6) hx hb hts kc_RX5 hown hK hP 0 rfl rfl 0 (by decide) k_fieldLink_30 (fun _ h9 => h9) rfl dX9_decide_2 ?_
  refine lv_icmp_lt (tgt := 30) hx hb dX9_decide_5 (by decide) (fun c_1 => ?_) (fun c_1 => ?_)
  · skip
    have c_1 : c < n := (nI_ltI (a := c) (b := n) (by omega) (by omega)).mp c_1
    refine lv_aload_n hx hb dX9_decide_30 rfl (lv_at hl 0 rfl) ?_
    refine lv_iload_n hx hb dX9_decide_31 rfl (lv_at hl 1 rfl) ?_
    refine lv_iconst (v := 1) hx hb dX9_decide_32 (by decide) ?_
    refine ni_add hx hb c 1 dX9_decide_33 ?_
    refine lv_iload_n hx hb dX9_decide_34 rfl (lv_at hl 2 rfl) ?_
    refine vp_callSi (W.runS (As := [.ref (q 0), .int (nI (c + 1)), .int x]) (rest := []) hF (m_X9_decide_5 l9 D k q n w ly t a fx (c + 1) x hn (by omega) (by omega)) (va_cwS 3 hts gX9_decide_X9_decide rfl rfl rfl (by decide +kernel) ⟨Nat.le_of_ble_eq_true rfl, Nat.le_of_ble_eq_true rfl⟩) (rPreS hK hN hP [0, 1, 2, 3, 4, 5] rfl) rfl rfl hl.1 rfl (lv_room (Nat.le_of_ble_eq_true rfl)) dX9_decide_35 ⟨Nat.zero_le _, Nat.zero_le _⟩) (fun r_2 hr_2 => ?_)
    subst hr_2
    refine lv_istore_n (lv' := [(3, .int (nI (dcS n t a 5 (c + 1) x))), (0, .ref (q 0)), (1, .int (nI c)), (2, .int x)]) hx hb dX9_decide_38 rfl hl (by decide) rfl (fun ls hl => ?_)
    refine lv_iload_n hx hb dX9_decide_39 rfl (lv_at hl 3 rfl) ?_
    refine lv_iload_n hx hb dX9_decide_40 rfl (lv_at hl 2 rfl) ?_
    refine vp_callSi (va_Run.run (va_runSN (As := [.int (nI c)]) (rest := [.int x]) hF (m_X12_bit l9 D k c ) ⟨va_cnB 1 hts gX9_decide_X12_bit_n34 rfl rfl rfl (hN (.methodLinkNest RX9 34 yX12_bit RX12) (by decide +kernel)) (hts (.initialized RX12) (by decide +kernel)) (by decide +kernel) ⟨Nat.le_of_ble_eq_true rfl, Nat.le_of_ble_eq_true rfl⟩, hts (.static yX12_bit) (by decide +kernel), trivial⟩ (rPreS hK hN hP [] rfl) rfl rfl hl.1 rfl (lv_room (Nat.le_of_ble_eq_true rfl)) dX9_decide_41 ⟨Nat.zero_le _, Nat.zero_le _⟩)) (fun r_3 hr_3 => ?_)
    subst hr_3
    refine lv_ior hx hb dX9_decide_44 ?_
    refine lv_istore (lv' := [(4, .int (x ||| (bt c))), (3, .int (nI (dcS n t a 5 (c + 1) x))), (0, .ref (q 0)), (1, .int (nI c)), (2, .int x)]) hx hb dX9_decide_45 hl (by decide) rfl (fun ls hl => ?_)
    refine lv_aload_n hx hb dX9_decide_47 rfl (lv_at hl 2 rfl) ?_
    refine va_get (D := D) (ci := 7) (v := .ref (q 3)) (C := RX5) (T := TX5) (N := 6) hx hb hts kc_RX5 hown hK hP 0 rfl rfl 3 (by decide) k_fieldLink_39 (fun _ h9 => h9) rfl dX9_decide_48 ?_
    refine lv_iload_n hx hb dX9_decide_51 rfl (lv_at hl 3 rfl) ?_
    refine ia_ld hx hb hK hP 3 rfl c (by omega) (by decide) dX9_decide_52 ?_
    refine lv_aload_n hx hb dX9_decide_53 rfl (lv_at hl 2 rfl) ?_
    refine va_get (D := D) (ci := 7) (v := .ref (q 4)) (C := RX5) (T := TX5) (N := 6) hx hb hts kc_RX5 hown hK hP 0 rfl rfl 4 (by decide) k_fieldLink_43 (fun _ h9 => h9) rfl dX9_decide_54 ?_
    refine lv_iload_n hx hb dX9_decide_57 rfl (lv_at hl 3 rfl) ?_
    refine ia_ld hx hb hK hP 4 rfl c (by omega) (by decide) dX9_decide_58 ?_
    refine lv_ior hx hb dX9_decide_59 ?_
    refine lv_iload hx hb dX9_decide_60 (lv_at hl 0 rfl) ?_
    refine lv_iand hx hb dX9_decide_62 ?_
    refine lv_if_ne (tgt := 78) hx hb dX9_decide_63 (by decide) (fun c_4 => ?_) (fun c_4 => ?_)
    · skip
      refine lv_iload_n hx hb dX9_decide_78 rfl (lv_at hl 1 rfl) ?_
      exact W.iret (v := nI (dcS n t a 5 (c + 1) x)) hx hb hr (fun t9 ht hW => ⟨_, rfl, (by rw [dcS_lo (by omega), if_neg c_4]; rfl), ht⟩) (fun _ h => by cases h) dX9_decide_79 hlocks
    · skip
      refine lv_iload_n hx hb dX9_decide_66 rfl (lv_at hl 1 rfl) ?_
      refine lv_aload_n hx hb dX9_decide_67 rfl (lv_at hl 2 rfl) ?_
      refine lv_iload_n hx hb dX9_decide_68 rfl (lv_at hl 3 rfl) ?_
      refine lv_iconst (v := 1) hx hb dX9_decide_69 (by decide) ?_
      refine ni_add hx hb c 1 dX9_decide_70 ?_
      refine lv_iload hx hb dX9_decide_71 (lv_at hl 0 rfl) ?_
      refine vp_callSi (W.runS (As := [.ref (q 0), .int (nI (c + 1)), .int (x ||| (bt c))]) (rest := [.int (nI (dcS n t a 5 (c + 1) x))]) hF (m_X9_decide_5 l9 D k q n w ly t a fx (c + 1) (x ||| (bt c)) hn (by omega) (by omega)) (va_cwS 3 hts gX9_decide_X9_decide rfl rfl rfl (by decide +kernel) ⟨Nat.le_of_ble_eq_true rfl, Nat.le_of_ble_eq_true rfl⟩) (rPreS hK hN hP [0, 1, 2, 3, 4, 5] rfl) rfl rfl hl.1 rfl (lv_room (Nat.le_of_ble_eq_true rfl)) dX9_decide_73 ⟨Nat.zero_le _, Nat.zero_le _⟩) (fun r_5 hr_5 => ?_)
      subst hr_5
      refine ni_add hx hb (dcS n t a 5 (c + 1) x) (dcS n t a 5 (c + 1) (x ||| (bt c))) dX9_decide_76 ?_
      refine lv_istore_n (lv' := [(3, .int (nI ((dcS n t a 5 (c + 1) x) + (dcS n t a 5 (c + 1) (x ||| (bt c)))))), (4, .int (x ||| (bt c))), (0, .ref (q 0)), (1, .int (nI c)), (2, .int x)]) hx hb dX9_decide_77 rfl hl (by decide) rfl (fun ls hl => ?_)
      refine lv_iload_n hx hb dX9_decide_78 rfl (lv_at hl 0 rfl) ?_
      exact W.iret (v := nI ((dcS n t a 5 (c + 1) x) + (dcS n t a 5 (c + 1) (x ||| (bt c))))) hx hb hr (fun t9 ht hW => ⟨_, rfl, (by rw [dcS_lo (by omega), if_pos c_4]), ht⟩) (fun _ h => by cases h) dX9_decide_79 hlocks
  · skip
    have c_1 : ¬ c < n := fun h => c_1 ((nI_ltI (a := c) (b := n) (by omega) (by omega)).mpr h)
    refine lv_aload_n hx hb dX9_decide_8 rfl (lv_at hl 0 rfl) ?_
    refine lv_iload_n hx hb dX9_decide_9 rfl (lv_at hl 2 rfl) ?_
    refine vp_callSi (W.runV (As := [.int x]) (rest := []) hF (m_X5_attackersOf l9 D k q n w ly t a fx x hn) (cwV 1 hts gX9_decide_X5_attackersOf rfl rfl rfl (by decide +kernel) ⟨Nat.le_of_ble_eq_true rfl, Nat.le_of_ble_eq_true rfl⟩) (rPreV hK hN hP [0, 1, 2, 3, 4, 5] rfl 0 7 rfl rfl) rfl rfl hl.1 rfl (lv_room (Nat.le_of_ble_eq_true rfl)) dX9_decide_10 ⟨Nat.zero_le _, Nat.zero_le _⟩) (fun r_6 hr_6 => ?_)
    subst hr_6
    refine lv_aload_n hx hb dX9_decide_13 rfl (lv_at hl 0 rfl) ?_
    refine lv_iload_n hx hb dX9_decide_14 rfl (lv_at hl 2 rfl) ?_
    refine vp_callSi (W.runV (As := [.int x]) (rest := [.int (orS n a x)]) hF (m_X5_targetsOf l9 D k q n w ly t a fx x hn) (cwV 1 hts gX9_decide_X5_targetsOf rfl rfl rfl (by decide +kernel) ⟨Nat.le_of_ble_eq_true rfl, Nat.le_of_ble_eq_true rfl⟩) (rPreV hK hN hP [0, 1, 2, 3, 4, 5] rfl 0 7 rfl rfl) rfl rfl hl.1 rfl (lv_room (Nat.le_of_ble_eq_true rfl)) dX9_decide_15 ⟨Nat.zero_le _, Nat.zero_le _⟩) (fun r_7 hr_7 => ?_)
    subst hr_7
    refine lv_iconst (v := (-1)) hx hb dX9_decide_18 (by decide) ?_
    refine lv_ixor hx hb dX9_decide_19 ?_
    refine lv_iand hx hb dX9_decide_20 ?_
    refine lv_if_ne (tgt := 28) hx hb dX9_decide_21 (by decide) (fun c_8 => ?_) (fun c_8 => ?_)
    · skip
      refine lv_iconst (v := 0) hx hb dX9_decide_28 (by decide) ?_
      exact W.iret (v := 0) hx hb hr (fun t9 ht hW => ⟨_, rfl, (by rw [dcS_hi (by omega)]; unfold dcB; rw [if_neg c_8]; rfl), ht⟩) (fun _ h => by cases h) dX9_decide_29 hlocks
    · skip
      refine lv_iconst (v := 1) hx hb dX9_decide_24 (by decide) ?_
      refine lv_goto (tgt := 29) hx hb dX9_decide_25 (by decide) ?_
      exact W.iret (v := 1) hx hb hr (fun t9 ht hW => ⟨_, rfl, (by rw [dcS_hi (by omega)]; unfold dcB; rw [if_pos c_8]; rfl), ht⟩) (fun _ h => by cases h) dX9_decide_29 hlocks

set_option maxHeartbeats 4000000 in
set_option maxRecDepth 100000 in
theorem m_X9_decide_7 (l9 : Launch) (D : va_G) (k : Nat → ClassId) (q : Nat → Nat) (n : Nat) (w ly t a : Nat → Int32) (fx : Nat → UInt32) (c : Nat) (x : Int32) (hn : n ≤ 10) (hc : c ≤ 10) (hd : n ≤ c + 7) : Met l9 yX9_decide wsX9_decide ({ frames := 9, cells := 0, slots := 0, locals := 212 }) (RPc D k [.ref (q 0), .int (nI c), .int x] (bClaims k q n w ly t a fx)) (EI (nI (dcS n t a 7 c x))) 0 0 noA := by
  refine rMet (y := yX9_decide) (cc := cX9_decide) (maxL := 5) (ret := (some .int)) [.ref (q 0), .int (nI c), .int x] (by decide) rfl (Nat.le_of_ble_eq_true rfl) ?_
  intro p9 e9 s9 m9 bl9 me9 c9 ls hF hr hlocks hP hK hN hl
  have hl : lv_has ls 5 [(0, .ref (q 0)), (1, .int (nI c)), (2, .int x)] := hl
  obtain ⟨hx, hb, hml, hown, hts⟩ := id hF
  have k_fieldLink_30 : (Cond.fieldLink RX9 30 "OpinionReactor$Claims" "count" "I").before _ s9 = true := hts (.fieldLink RX9 30 "OpinionReactor$Claims" "count" "I") (by decide +kernel)
  have kc_RX5 : ∀ w ∈ u_ws RX5 TX5 6, w ∈ wsX9_decide := by decide +kernel
  have k_fieldLink_39 : (Cond.fieldLink RX9 39 "OpinionReactor$Claims" "targets" "[I").before _ s9 = true := hts (.fieldLink RX9 39 "OpinionReactor$Claims" "targets" "[I") (by decide +kernel)
  have k_fieldLink_43 : (Cond.fieldLink RX9 43 "OpinionReactor$Claims" "attackers" "[I").before _ s9 = true := hts (.fieldLink RX9 43 "OpinionReactor$Claims" "attackers" "[I") (by decide +kernel)
  refine lv_iload_n hx hb dX9_decide_0 rfl (lv_at hl 1 rfl) ?_
  refine lv_aload_n hx hb dX9_decide_1 rfl (lv_at hl 0 rfl) ?_
  refine va_get (D := D) (ci := 7) (v := .int (nI n)) (C := RX5) (T := TX5) (N := 6) hx hb hts kc_RX5 hown hK hP 0 rfl rfl 0 (by decide) k_fieldLink_30 (fun _ h9 => h9) rfl dX9_decide_2 ?_
  refine lv_icmp_lt (tgt := 30) hx hb dX9_decide_5 (by decide) (fun c_1 => ?_) (fun c_1 => ?_)
  · skip
    have c_1 : c < n := (nI_ltI (a := c) (b := n) (by omega) (by omega)).mp c_1
    refine lv_aload_n hx hb dX9_decide_30 rfl (lv_at hl 0 rfl) ?_
    refine lv_iload_n hx hb dX9_decide_31 rfl (lv_at hl 1 rfl) ?_
    refine lv_iconst (v := 1) hx hb dX9_decide_32 (by decide) ?_
    refine ni_add hx hb c 1 dX9_decide_33 ?_
    refine lv_iload_n hx hb dX9_decide_34 rfl (lv_at hl 2 rfl) ?_
    refine vp_callSi (W.runS (As := [.ref (q 0), .int (nI (c + 1)), .int x]) (rest := []) hF (m_X9_decide_6 l9 D k q n w ly t a fx (c + 1) x hn (by omega) (by omega)) (va_cwS 3 hts gX9_decide_X9_decide rfl rfl rfl (by decide +kernel) ⟨Nat.le_of_ble_eq_true rfl, Nat.le_of_ble_eq_true rfl⟩) (rPreS hK hN hP [0, 1, 2, 3, 4, 5] rfl) rfl rfl hl.1 rfl (lv_room (Nat.le_of_ble_eq_true rfl)) dX9_decide_35 ⟨Nat.zero_le _, Nat.zero_le _⟩) (fun r_2 hr_2 => ?_)
    subst hr_2
    refine lv_istore_n (lv' := [(3, .int (nI (dcS n t a 6 (c + 1) x))), (0, .ref (q 0)), (1, .int (nI c)), (2, .int x)]) hx hb dX9_decide_38 rfl hl (by decide) rfl (fun ls hl => ?_)
    refine lv_iload_n hx hb dX9_decide_39 rfl (lv_at hl 3 rfl) ?_
    refine lv_iload_n hx hb dX9_decide_40 rfl (lv_at hl 2 rfl) ?_
    refine vp_callSi (va_Run.run (va_runSN (As := [.int (nI c)]) (rest := [.int x]) hF (m_X12_bit l9 D k c ) ⟨va_cnB 1 hts gX9_decide_X12_bit_n34 rfl rfl rfl (hN (.methodLinkNest RX9 34 yX12_bit RX12) (by decide +kernel)) (hts (.initialized RX12) (by decide +kernel)) (by decide +kernel) ⟨Nat.le_of_ble_eq_true rfl, Nat.le_of_ble_eq_true rfl⟩, hts (.static yX12_bit) (by decide +kernel), trivial⟩ (rPreS hK hN hP [] rfl) rfl rfl hl.1 rfl (lv_room (Nat.le_of_ble_eq_true rfl)) dX9_decide_41 ⟨Nat.zero_le _, Nat.zero_le _⟩)) (fun r_3 hr_3 => ?_)
    subst hr_3
    refine lv_ior hx hb dX9_decide_44 ?_
    refine lv_istore (lv' := [(4, .int (x ||| (bt c))), (3, .int (nI (dcS n t a 6 (c + 1) x))), (0, .ref (q 0)), (1, .int (nI c)), (2, .int x)]) hx hb dX9_decide_45 hl (by decide) rfl (fun ls hl => ?_)
    refine lv_aload_n hx hb dX9_decide_47 rfl (lv_at hl 2 rfl) ?_
    refine va_get (D := D) (ci := 7) (v := .ref (q 3)) (C := RX5) (T := TX5) (N := 6) hx hb hts kc_RX5 hown hK hP 0 rfl rfl 3 (by decide) k_fieldLink_39 (fun _ h9 => h9) rfl dX9_decide_48 ?_
    refine lv_iload_n hx hb dX9_decide_51 rfl (lv_at hl 3 rfl) ?_
    refine ia_ld hx hb hK hP 3 rfl c (by omega) (by decide) dX9_decide_52 ?_
    refine lv_aload_n hx hb dX9_decide_53 rfl (lv_at hl 2 rfl) ?_
    refine va_get (D := D) (ci := 7) (v := .ref (q 4)) (C := RX5) (T := TX5) (N := 6) hx hb hts kc_RX5 hown hK hP 0 rfl rfl 4 (by decide) k_fieldLink_43 (fun _ h9 => h9) rfl dX9_decide_54 ?_
    refine lv_iload_n hx hb dX9_decide_57 rfl (lv_at hl 3 rfl) ?_
    refine ia_ld hx hb hK hP 4 rfl c (by omega) (by decide) dX9_decide_58 ?_
    refine lv_ior hx hb dX9_decide_59 ?_
    refine lv_iload hx hb dX9_decide_60 (lv_at hl 0 rfl) ?_
    refine lv_iand hx hb dX9_decide_62 ?_
    refine lv_if_ne (tgt := 78) hx hb dX9_decide_63 (by decide) (fun c_4 => ?_) (fun c_4 => ?_)
    · skip
      refine lv_iload_n hx hb dX9_decide_78 rfl (lv_at hl 1 rfl) ?_
      exact W.iret (v := nI (dcS n t a 6 (c + 1) x)) hx hb hr (fun t9 ht hW => ⟨_, rfl, (by rw [dcS_lo (by omega), if_neg c_4]; rfl), ht⟩) (fun _ h => by cases h) dX9_decide_79 hlocks
    · skip
      refine lv_iload_n hx hb dX9_decide_66 rfl (lv_at hl 1 rfl) ?_
      refine lv_aload_n hx hb dX9_decide_67 rfl (lv_at hl 2 rfl) ?_
      refine lv_iload_n hx hb dX9_decide_68 rfl (lv_at hl 3 rfl) ?_
      refine lv_iconst (v := 1) hx hb dX9_decide_69 (by decide) ?_
      refine ni_add hx hb c 1 dX9_decide_70 ?_
      refine lv_iload hx hb dX9_decide_71 (lv_at hl 0 rfl) ?_
      refine vp_callSi (W.runS (As := [.ref (q 0), .int (nI (c + 1)), .int (x ||| (bt c))]) (rest := [.int (nI (dcS n t a 6 (c + 1) x))]) hF (m_X9_decide_6 l9 D k q n w ly t a fx (c + 1) (x ||| (bt c)) hn (by omega) (by omega)) (va_cwS 3 hts gX9_decide_X9_decide rfl rfl rfl (by decide +kernel) ⟨Nat.le_of_ble_eq_true rfl, Nat.le_of_ble_eq_true rfl⟩) (rPreS hK hN hP [0, 1, 2, 3, 4, 5] rfl) rfl rfl hl.1 rfl (lv_room (Nat.le_of_ble_eq_true rfl)) dX9_decide_73 ⟨Nat.zero_le _, Nat.zero_le _⟩) (fun r_5 hr_5 => ?_)
      subst hr_5
      refine ni_add hx hb (dcS n t a 6 (c + 1) x) (dcS n t a 6 (c + 1) (x ||| (bt c))) dX9_decide_76 ?_
      refine lv_istore_n (lv' := [(3, .int (nI ((dcS n t a 6 (c + 1) x) + (dcS n t a 6 (c + 1) (x ||| (bt c)))))), (4, .int (x ||| (bt c))), (0, .ref (q 0)), (1, .int (nI c)), (2, .int x)]) hx hb dX9_decide_77 rfl hl (by decide) rfl (fun ls hl => ?_)
      refine lv_iload_n hx hb dX9_decide_78 rfl (lv_at hl 0 rfl) ?_
      exact W.iret (v := nI ((dcS n t a 6 (c + 1) x) + (dcS n t a 6 (c + 1) (x ||| (bt c))))) hx hb hr (fun t9 ht hW => ⟨_, rfl, (by rw [dcS_lo (by omega), if_pos c_4]), ht⟩) (fun _ h => by cases h) dX9_decide_79 hlocks
  · skip
    have c_1 : ¬ c < n := fun h => c_1 ((nI_ltI (a := c) (b := n) (by omega) (by omega)).mpr h)
    refine lv_aload_n hx hb dX9_decide_8 rfl (lv_at hl 0 rfl) ?_
    refine lv_iload_n hx hb dX9_decide_9 rfl (lv_at hl 2 rfl) ?_
    refine vp_callSi (W.runV (As := [.int x]) (rest := []) hF (m_X5_attackersOf l9 D k q n w ly t a fx x hn) (cwV 1 hts gX9_decide_X5_attackersOf rfl rfl rfl (by decide +kernel) ⟨Nat.le_of_ble_eq_true rfl, Nat.le_of_ble_eq_true rfl⟩) (rPreV hK hN hP [0, 1, 2, 3, 4, 5] rfl 0 7 rfl rfl) rfl rfl hl.1 rfl (lv_room (Nat.le_of_ble_eq_true rfl)) dX9_decide_10 ⟨Nat.zero_le _, Nat.zero_le _⟩) (fun r_6 hr_6 => ?_)
    subst hr_6
    refine lv_aload_n hx hb dX9_decide_13 rfl (lv_at hl 0 rfl) ?_
    refine lv_iload_n hx hb dX9_decide_14 rfl (lv_at hl 2 rfl) ?_
    refine vp_callSi (W.runV (As := [.int x]) (rest := [.int (orS n a x)]) hF (m_X5_targetsOf l9 D k q n w ly t a fx x hn) (cwV 1 hts gX9_decide_X5_targetsOf rfl rfl rfl (by decide +kernel) ⟨Nat.le_of_ble_eq_true rfl, Nat.le_of_ble_eq_true rfl⟩) (rPreV hK hN hP [0, 1, 2, 3, 4, 5] rfl 0 7 rfl rfl) rfl rfl hl.1 rfl (lv_room (Nat.le_of_ble_eq_true rfl)) dX9_decide_15 ⟨Nat.zero_le _, Nat.zero_le _⟩) (fun r_7 hr_7 => ?_)
    subst hr_7
    refine lv_iconst (v := (-1)) hx hb dX9_decide_18 (by decide) ?_
    refine lv_ixor hx hb dX9_decide_19 ?_
    refine lv_iand hx hb dX9_decide_20 ?_
    refine lv_if_ne (tgt := 28) hx hb dX9_decide_21 (by decide) (fun c_8 => ?_) (fun c_8 => ?_)
    · skip
      refine lv_iconst (v := 0) hx hb dX9_decide_28 (by decide) ?_
      exact W.iret (v := 0) hx hb hr (fun t9 ht hW => ⟨_, rfl, (by rw [dcS_hi (by omega)]; unfold dcB; rw [if_neg c_8]; rfl), ht⟩) (fun _ h => by cases h) dX9_decide_29 hlocks
    · skip
      refine lv_iconst (v := 1) hx hb dX9_decide_24 (by decide) ?_
      refine lv_goto (tgt := 29) hx hb dX9_decide_25 (by decide) ?_
      exact W.iret (v := 1) hx hb hr (fun t9 ht hW => ⟨_, rfl, (by rw [dcS_hi (by omega)]; unfold dcB; rw [if_pos c_8]; rfl), ht⟩) (fun _ h => by cases h) dX9_decide_29 hlocks

set_option maxHeartbeats 4000000 in
set_option maxRecDepth 100000 in
theorem m_X9_decide_8 (l9 : Launch) (D : va_G) (k : Nat → ClassId) (q : Nat → Nat) (n : Nat) (w ly t a : Nat → Int32) (fx : Nat → UInt32) (c : Nat) (x : Int32) (hn : n ≤ 10) (hc : c ≤ 10) (hd : n ≤ c + 8) : Met l9 yX9_decide wsX9_decide ({ frames := 10, cells := 0, slots := 0, locals := 236 }) (RPc D k [.ref (q 0), .int (nI c), .int x] (bClaims k q n w ly t a fx)) (EI (nI (dcS n t a 8 c x))) 0 0 noA := by
  refine rMet (y := yX9_decide) (cc := cX9_decide) (maxL := 5) (ret := (some .int)) [.ref (q 0), .int (nI c), .int x] (by decide) rfl (Nat.le_of_ble_eq_true rfl) ?_
  intro p9 e9 s9 m9 bl9 me9 c9 ls hF hr hlocks hP hK hN hl
  have hl : lv_has ls 5 [(0, .ref (q 0)), (1, .int (nI c)), (2, .int x)] := hl
  obtain ⟨hx, hb, hml, hown, hts⟩ := id hF
  have k_fieldLink_30 : (Cond.fieldLink RX9 30 "OpinionReactor$Claims" "count" "I").before _ s9 = true := hts (.fieldLink RX9 30 "OpinionReactor$Claims" "count" "I") (by decide +kernel)
  have kc_RX5 : ∀ w ∈ u_ws RX5 TX5 6, w ∈ wsX9_decide := by decide +kernel
  have k_fieldLink_39 : (Cond.fieldLink RX9 39 "OpinionReactor$Claims" "targets" "[I").before _ s9 = true := hts (.fieldLink RX9 39 "OpinionReactor$Claims" "targets" "[I") (by decide +kernel)
  have k_fieldLink_43 : (Cond.fieldLink RX9 43 "OpinionReactor$Claims" "attackers" "[I").before _ s9 = true := hts (.fieldLink RX9 43 "OpinionReactor$Claims" "attackers" "[I") (by decide +kernel)
  refine lv_iload_n hx hb dX9_decide_0 rfl (lv_at hl 1 rfl) ?_
  refine lv_aload_n hx hb dX9_decide_1 rfl (lv_at hl 0 rfl) ?_
  refine va_get (D := D) (ci := 7) (v := .int (nI n)) (C := RX5) (T := TX5) (N := 6) hx hb hts kc_RX5 hown hK hP 0 rfl rfl 0 (by decide) k_fieldLink_30 (fun _ h9 => h9) rfl dX9_decide_2 ?_
  refine lv_icmp_lt (tgt := 30) hx hb dX9_decide_5 (by decide) (fun c_1 => ?_) (fun c_1 => ?_)
  · skip
    have c_1 : c < n := (nI_ltI (a := c) (b := n) (by omega) (by omega)).mp c_1
    refine lv_aload_n hx hb dX9_decide_30 rfl (lv_at hl 0 rfl) ?_
    refine lv_iload_n hx hb dX9_decide_31 rfl (lv_at hl 1 rfl) ?_
    refine lv_iconst (v := 1) hx hb dX9_decide_32 (by decide) ?_
    refine ni_add hx hb c 1 dX9_decide_33 ?_
    refine lv_iload_n hx hb dX9_decide_34 rfl (lv_at hl 2 rfl) ?_
    refine vp_callSi (W.runS (As := [.ref (q 0), .int (nI (c + 1)), .int x]) (rest := []) hF (m_X9_decide_7 l9 D k q n w ly t a fx (c + 1) x hn (by omega) (by omega)) (va_cwS 3 hts gX9_decide_X9_decide rfl rfl rfl (by decide +kernel) ⟨Nat.le_of_ble_eq_true rfl, Nat.le_of_ble_eq_true rfl⟩) (rPreS hK hN hP [0, 1, 2, 3, 4, 5] rfl) rfl rfl hl.1 rfl (lv_room (Nat.le_of_ble_eq_true rfl)) dX9_decide_35 ⟨Nat.zero_le _, Nat.zero_le _⟩) (fun r_2 hr_2 => ?_)
    subst hr_2
    refine lv_istore_n (lv' := [(3, .int (nI (dcS n t a 7 (c + 1) x))), (0, .ref (q 0)), (1, .int (nI c)), (2, .int x)]) hx hb dX9_decide_38 rfl hl (by decide) rfl (fun ls hl => ?_)
    refine lv_iload_n hx hb dX9_decide_39 rfl (lv_at hl 3 rfl) ?_
    refine lv_iload_n hx hb dX9_decide_40 rfl (lv_at hl 2 rfl) ?_
    refine vp_callSi (va_Run.run (va_runSN (As := [.int (nI c)]) (rest := [.int x]) hF (m_X12_bit l9 D k c ) ⟨va_cnB 1 hts gX9_decide_X12_bit_n34 rfl rfl rfl (hN (.methodLinkNest RX9 34 yX12_bit RX12) (by decide +kernel)) (hts (.initialized RX12) (by decide +kernel)) (by decide +kernel) ⟨Nat.le_of_ble_eq_true rfl, Nat.le_of_ble_eq_true rfl⟩, hts (.static yX12_bit) (by decide +kernel), trivial⟩ (rPreS hK hN hP [] rfl) rfl rfl hl.1 rfl (lv_room (Nat.le_of_ble_eq_true rfl)) dX9_decide_41 ⟨Nat.zero_le _, Nat.zero_le _⟩)) (fun r_3 hr_3 => ?_)
    subst hr_3
    refine lv_ior hx hb dX9_decide_44 ?_
    refine lv_istore (lv' := [(4, .int (x ||| (bt c))), (3, .int (nI (dcS n t a 7 (c + 1) x))), (0, .ref (q 0)), (1, .int (nI c)), (2, .int x)]) hx hb dX9_decide_45 hl (by decide) rfl (fun ls hl => ?_)
    refine lv_aload_n hx hb dX9_decide_47 rfl (lv_at hl 2 rfl) ?_
    refine va_get (D := D) (ci := 7) (v := .ref (q 3)) (C := RX5) (T := TX5) (N := 6) hx hb hts kc_RX5 hown hK hP 0 rfl rfl 3 (by decide) k_fieldLink_39 (fun _ h9 => h9) rfl dX9_decide_48 ?_
    refine lv_iload_n hx hb dX9_decide_51 rfl (lv_at hl 3 rfl) ?_
    refine ia_ld hx hb hK hP 3 rfl c (by omega) (by decide) dX9_decide_52 ?_
    refine lv_aload_n hx hb dX9_decide_53 rfl (lv_at hl 2 rfl) ?_
    refine va_get (D := D) (ci := 7) (v := .ref (q 4)) (C := RX5) (T := TX5) (N := 6) hx hb hts kc_RX5 hown hK hP 0 rfl rfl 4 (by decide) k_fieldLink_43 (fun _ h9 => h9) rfl dX9_decide_54 ?_
    refine lv_iload_n hx hb dX9_decide_57 rfl (lv_at hl 3 rfl) ?_
    refine ia_ld hx hb hK hP 4 rfl c (by omega) (by decide) dX9_decide_58 ?_
    refine lv_ior hx hb dX9_decide_59 ?_
    refine lv_iload hx hb dX9_decide_60 (lv_at hl 0 rfl) ?_
    refine lv_iand hx hb dX9_decide_62 ?_
    refine lv_if_ne (tgt := 78) hx hb dX9_decide_63 (by decide) (fun c_4 => ?_) (fun c_4 => ?_)
    · skip
      refine lv_iload_n hx hb dX9_decide_78 rfl (lv_at hl 1 rfl) ?_
      exact W.iret (v := nI (dcS n t a 7 (c + 1) x)) hx hb hr (fun t9 ht hW => ⟨_, rfl, (by rw [dcS_lo (by omega), if_neg c_4]; rfl), ht⟩) (fun _ h => by cases h) dX9_decide_79 hlocks
    · skip
      refine lv_iload_n hx hb dX9_decide_66 rfl (lv_at hl 1 rfl) ?_
      refine lv_aload_n hx hb dX9_decide_67 rfl (lv_at hl 2 rfl) ?_
      refine lv_iload_n hx hb dX9_decide_68 rfl (lv_at hl 3 rfl) ?_
      refine lv_iconst (v := 1) hx hb dX9_decide_69 (by decide) ?_
      refine ni_add hx hb c 1 dX9_decide_70 ?_
      refine lv_iload hx hb dX9_decide_71 (lv_at hl 0 rfl) ?_
      refine vp_callSi (W.runS (As := [.ref (q 0), .int (nI (c + 1)), .int (x ||| (bt c))]) (rest := [.int (nI (dcS n t a 7 (c + 1) x))]) hF (m_X9_decide_7 l9 D k q n w ly t a fx (c + 1) (x ||| (bt c)) hn (by omega) (by omega)) (va_cwS 3 hts gX9_decide_X9_decide rfl rfl rfl (by decide +kernel) ⟨Nat.le_of_ble_eq_true rfl, Nat.le_of_ble_eq_true rfl⟩) (rPreS hK hN hP [0, 1, 2, 3, 4, 5] rfl) rfl rfl hl.1 rfl (lv_room (Nat.le_of_ble_eq_true rfl)) dX9_decide_73 ⟨Nat.zero_le _, Nat.zero_le _⟩) (fun r_5 hr_5 => ?_)
      subst hr_5
      refine ni_add hx hb (dcS n t a 7 (c + 1) x) (dcS n t a 7 (c + 1) (x ||| (bt c))) dX9_decide_76 ?_
      refine lv_istore_n (lv' := [(3, .int (nI ((dcS n t a 7 (c + 1) x) + (dcS n t a 7 (c + 1) (x ||| (bt c)))))), (4, .int (x ||| (bt c))), (0, .ref (q 0)), (1, .int (nI c)), (2, .int x)]) hx hb dX9_decide_77 rfl hl (by decide) rfl (fun ls hl => ?_)
      refine lv_iload_n hx hb dX9_decide_78 rfl (lv_at hl 0 rfl) ?_
      exact W.iret (v := nI ((dcS n t a 7 (c + 1) x) + (dcS n t a 7 (c + 1) (x ||| (bt c))))) hx hb hr (fun t9 ht hW => ⟨_, rfl, (by rw [dcS_lo (by omega), if_pos c_4]), ht⟩) (fun _ h => by cases h) dX9_decide_79 hlocks
  · skip
    have c_1 : ¬ c < n := fun h => c_1 ((nI_ltI (a := c) (b := n) (by omega) (by omega)).mpr h)
    refine lv_aload_n hx hb dX9_decide_8 rfl (lv_at hl 0 rfl) ?_
    refine lv_iload_n hx hb dX9_decide_9 rfl (lv_at hl 2 rfl) ?_
    refine vp_callSi (W.runV (As := [.int x]) (rest := []) hF (m_X5_attackersOf l9 D k q n w ly t a fx x hn) (cwV 1 hts gX9_decide_X5_attackersOf rfl rfl rfl (by decide +kernel) ⟨Nat.le_of_ble_eq_true rfl, Nat.le_of_ble_eq_true rfl⟩) (rPreV hK hN hP [0, 1, 2, 3, 4, 5] rfl 0 7 rfl rfl) rfl rfl hl.1 rfl (lv_room (Nat.le_of_ble_eq_true rfl)) dX9_decide_10 ⟨Nat.zero_le _, Nat.zero_le _⟩) (fun r_6 hr_6 => ?_)
    subst hr_6
    refine lv_aload_n hx hb dX9_decide_13 rfl (lv_at hl 0 rfl) ?_
    refine lv_iload_n hx hb dX9_decide_14 rfl (lv_at hl 2 rfl) ?_
    refine vp_callSi (W.runV (As := [.int x]) (rest := [.int (orS n a x)]) hF (m_X5_targetsOf l9 D k q n w ly t a fx x hn) (cwV 1 hts gX9_decide_X5_targetsOf rfl rfl rfl (by decide +kernel) ⟨Nat.le_of_ble_eq_true rfl, Nat.le_of_ble_eq_true rfl⟩) (rPreV hK hN hP [0, 1, 2, 3, 4, 5] rfl 0 7 rfl rfl) rfl rfl hl.1 rfl (lv_room (Nat.le_of_ble_eq_true rfl)) dX9_decide_15 ⟨Nat.zero_le _, Nat.zero_le _⟩) (fun r_7 hr_7 => ?_)
    subst hr_7
    refine lv_iconst (v := (-1)) hx hb dX9_decide_18 (by decide) ?_
    refine lv_ixor hx hb dX9_decide_19 ?_
    refine lv_iand hx hb dX9_decide_20 ?_
    refine lv_if_ne (tgt := 28) hx hb dX9_decide_21 (by decide) (fun c_8 => ?_) (fun c_8 => ?_)
    · skip
      refine lv_iconst (v := 0) hx hb dX9_decide_28 (by decide) ?_
      exact W.iret (v := 0) hx hb hr (fun t9 ht hW => ⟨_, rfl, (by rw [dcS_hi (by omega)]; unfold dcB; rw [if_neg c_8]; rfl), ht⟩) (fun _ h => by cases h) dX9_decide_29 hlocks
    · skip
      refine lv_iconst (v := 1) hx hb dX9_decide_24 (by decide) ?_
      refine lv_goto (tgt := 29) hx hb dX9_decide_25 (by decide) ?_
      exact W.iret (v := 1) hx hb hr (fun t9 ht hW => ⟨_, rfl, (by rw [dcS_hi (by omega)]; unfold dcB; rw [if_pos c_8]; rfl), ht⟩) (fun _ h => by cases h) dX9_decide_29 hlocks

set_option maxHeartbeats 4000000 in
set_option maxRecDepth 100000 in
theorem m_X9_decide_9 (l9 : Launch) (D : va_G) (k : Nat → ClassId) (q : Nat → Nat) (n : Nat) (w ly t a : Nat → Int32) (fx : Nat → UInt32) (c : Nat) (x : Int32) (hn : n ≤ 10) (hc : c ≤ 10) (hd : n ≤ c + 9) : Met l9 yX9_decide wsX9_decide ({ frames := 11, cells := 0, slots := 0, locals := 260 }) (RPc D k [.ref (q 0), .int (nI c), .int x] (bClaims k q n w ly t a fx)) (EI (nI (dcS n t a 9 c x))) 0 0 noA := by
  refine rMet (y := yX9_decide) (cc := cX9_decide) (maxL := 5) (ret := (some .int)) [.ref (q 0), .int (nI c), .int x] (by decide) rfl (Nat.le_of_ble_eq_true rfl) ?_
  intro p9 e9 s9 m9 bl9 me9 c9 ls hF hr hlocks hP hK hN hl
  have hl : lv_has ls 5 [(0, .ref (q 0)), (1, .int (nI c)), (2, .int x)] := hl
  obtain ⟨hx, hb, hml, hown, hts⟩ := id hF
  have k_fieldLink_30 : (Cond.fieldLink RX9 30 "OpinionReactor$Claims" "count" "I").before _ s9 = true := hts (.fieldLink RX9 30 "OpinionReactor$Claims" "count" "I") (by decide +kernel)
  have kc_RX5 : ∀ w ∈ u_ws RX5 TX5 6, w ∈ wsX9_decide := by decide +kernel
  have k_fieldLink_39 : (Cond.fieldLink RX9 39 "OpinionReactor$Claims" "targets" "[I").before _ s9 = true := hts (.fieldLink RX9 39 "OpinionReactor$Claims" "targets" "[I") (by decide +kernel)
  have k_fieldLink_43 : (Cond.fieldLink RX9 43 "OpinionReactor$Claims" "attackers" "[I").before _ s9 = true := hts (.fieldLink RX9 43 "OpinionReactor$Claims" "attackers" "[I") (by decide +kernel)
  refine lv_iload_n hx hb dX9_decide_0 rfl (lv_at hl 1 rfl) ?_
  refine lv_aload_n hx hb dX9_decide_1 rfl (lv_at hl 0 rfl) ?_
  refine va_get (D := D) (ci := 7) (v := .int (nI n)) (C := RX5) (T := TX5) (N := 6) hx hb hts kc_RX5 hown hK hP 0 rfl rfl 0 (by decide) k_fieldLink_30 (fun _ h9 => h9) rfl dX9_decide_2 ?_
  refine lv_icmp_lt (tgt := 30) hx hb dX9_decide_5 (by decide) (fun c_1 => ?_) (fun c_1 => ?_)
  · skip
    have c_1 : c < n := (nI_ltI (a := c) (b := n) (by omega) (by omega)).mp c_1
    refine lv_aload_n hx hb dX9_decide_30 rfl (lv_at hl 0 rfl) ?_
    refine lv_iload_n hx hb dX9_decide_31 rfl (lv_at hl 1 rfl) ?_
    refine lv_iconst (v := 1) hx hb dX9_decide_32 (by decide) ?_
    refine ni_add hx hb c 1 dX9_decide_33 ?_
    refine lv_iload_n hx hb dX9_decide_34 rfl (lv_at hl 2 rfl) ?_
    refine vp_callSi (W.runS (As := [.ref (q 0), .int (nI (c + 1)), .int x]) (rest := []) hF (m_X9_decide_8 l9 D k q n w ly t a fx (c + 1) x hn (by omega) (by omega)) (va_cwS 3 hts gX9_decide_X9_decide rfl rfl rfl (by decide +kernel) ⟨Nat.le_of_ble_eq_true rfl, Nat.le_of_ble_eq_true rfl⟩) (rPreS hK hN hP [0, 1, 2, 3, 4, 5] rfl) rfl rfl hl.1 rfl (lv_room (Nat.le_of_ble_eq_true rfl)) dX9_decide_35 ⟨Nat.zero_le _, Nat.zero_le _⟩) (fun r_2 hr_2 => ?_)
    subst hr_2
    refine lv_istore_n (lv' := [(3, .int (nI (dcS n t a 8 (c + 1) x))), (0, .ref (q 0)), (1, .int (nI c)), (2, .int x)]) hx hb dX9_decide_38 rfl hl (by decide) rfl (fun ls hl => ?_)
    refine lv_iload_n hx hb dX9_decide_39 rfl (lv_at hl 3 rfl) ?_
    refine lv_iload_n hx hb dX9_decide_40 rfl (lv_at hl 2 rfl) ?_
    refine vp_callSi (va_Run.run (va_runSN (As := [.int (nI c)]) (rest := [.int x]) hF (m_X12_bit l9 D k c ) ⟨va_cnB 1 hts gX9_decide_X12_bit_n34 rfl rfl rfl (hN (.methodLinkNest RX9 34 yX12_bit RX12) (by decide +kernel)) (hts (.initialized RX12) (by decide +kernel)) (by decide +kernel) ⟨Nat.le_of_ble_eq_true rfl, Nat.le_of_ble_eq_true rfl⟩, hts (.static yX12_bit) (by decide +kernel), trivial⟩ (rPreS hK hN hP [] rfl) rfl rfl hl.1 rfl (lv_room (Nat.le_of_ble_eq_true rfl)) dX9_decide_41 ⟨Nat.zero_le _, Nat.zero_le _⟩)) (fun r_3 hr_3 => ?_)
    subst hr_3
    refine lv_ior hx hb dX9_decide_44 ?_
    refine lv_istore (lv' := [(4, .int (x ||| (bt c))), (3, .int (nI (dcS n t a 8 (c + 1) x))), (0, .ref (q 0)), (1, .int (nI c)), (2, .int x)]) hx hb dX9_decide_45 hl (by decide) rfl (fun ls hl => ?_)
    refine lv_aload_n hx hb dX9_decide_47 rfl (lv_at hl 2 rfl) ?_
    refine va_get (D := D) (ci := 7) (v := .ref (q 3)) (C := RX5) (T := TX5) (N := 6) hx hb hts kc_RX5 hown hK hP 0 rfl rfl 3 (by decide) k_fieldLink_39 (fun _ h9 => h9) rfl dX9_decide_48 ?_
    refine lv_iload_n hx hb dX9_decide_51 rfl (lv_at hl 3 rfl) ?_
    refine ia_ld hx hb hK hP 3 rfl c (by omega) (by decide) dX9_decide_52 ?_
    refine lv_aload_n hx hb dX9_decide_53 rfl (lv_at hl 2 rfl) ?_
    refine va_get (D := D) (ci := 7) (v := .ref (q 4)) (C := RX5) (T := TX5) (N := 6) hx hb hts kc_RX5 hown hK hP 0 rfl rfl 4 (by decide) k_fieldLink_43 (fun _ h9 => h9) rfl dX9_decide_54 ?_
    refine lv_iload_n hx hb dX9_decide_57 rfl (lv_at hl 3 rfl) ?_
    refine ia_ld hx hb hK hP 4 rfl c (by omega) (by decide) dX9_decide_58 ?_
    refine lv_ior hx hb dX9_decide_59 ?_
    refine lv_iload hx hb dX9_decide_60 (lv_at hl 0 rfl) ?_
    refine lv_iand hx hb dX9_decide_62 ?_
    refine lv_if_ne (tgt := 78) hx hb dX9_decide_63 (by decide) (fun c_4 => ?_) (fun c_4 => ?_)
    · skip
      refine lv_iload_n hx hb dX9_decide_78 rfl (lv_at hl 1 rfl) ?_
      exact W.iret (v := nI (dcS n t a 8 (c + 1) x)) hx hb hr (fun t9 ht hW => ⟨_, rfl, (by rw [dcS_lo (by omega), if_neg c_4]; rfl), ht⟩) (fun _ h => by cases h) dX9_decide_79 hlocks
    · skip
      refine lv_iload_n hx hb dX9_decide_66 rfl (lv_at hl 1 rfl) ?_
      refine lv_aload_n hx hb dX9_decide_67 rfl (lv_at hl 2 rfl) ?_
      refine lv_iload_n hx hb dX9_decide_68 rfl (lv_at hl 3 rfl) ?_
      refine lv_iconst (v := 1) hx hb dX9_decide_69 (by decide) ?_
      refine ni_add hx hb c 1 dX9_decide_70 ?_
      refine lv_iload hx hb dX9_decide_71 (lv_at hl 0 rfl) ?_
      refine vp_callSi (W.runS (As := [.ref (q 0), .int (nI (c + 1)), .int (x ||| (bt c))]) (rest := [.int (nI (dcS n t a 8 (c + 1) x))]) hF (m_X9_decide_8 l9 D k q n w ly t a fx (c + 1) (x ||| (bt c)) hn (by omega) (by omega)) (va_cwS 3 hts gX9_decide_X9_decide rfl rfl rfl (by decide +kernel) ⟨Nat.le_of_ble_eq_true rfl, Nat.le_of_ble_eq_true rfl⟩) (rPreS hK hN hP [0, 1, 2, 3, 4, 5] rfl) rfl rfl hl.1 rfl (lv_room (Nat.le_of_ble_eq_true rfl)) dX9_decide_73 ⟨Nat.zero_le _, Nat.zero_le _⟩) (fun r_5 hr_5 => ?_)
      subst hr_5
      refine ni_add hx hb (dcS n t a 8 (c + 1) x) (dcS n t a 8 (c + 1) (x ||| (bt c))) dX9_decide_76 ?_
      refine lv_istore_n (lv' := [(3, .int (nI ((dcS n t a 8 (c + 1) x) + (dcS n t a 8 (c + 1) (x ||| (bt c)))))), (4, .int (x ||| (bt c))), (0, .ref (q 0)), (1, .int (nI c)), (2, .int x)]) hx hb dX9_decide_77 rfl hl (by decide) rfl (fun ls hl => ?_)
      refine lv_iload_n hx hb dX9_decide_78 rfl (lv_at hl 0 rfl) ?_
      exact W.iret (v := nI ((dcS n t a 8 (c + 1) x) + (dcS n t a 8 (c + 1) (x ||| (bt c))))) hx hb hr (fun t9 ht hW => ⟨_, rfl, (by rw [dcS_lo (by omega), if_pos c_4]), ht⟩) (fun _ h => by cases h) dX9_decide_79 hlocks
  · skip
    have c_1 : ¬ c < n := fun h => c_1 ((nI_ltI (a := c) (b := n) (by omega) (by omega)).mpr h)
    refine lv_aload_n hx hb dX9_decide_8 rfl (lv_at hl 0 rfl) ?_
    refine lv_iload_n hx hb dX9_decide_9 rfl (lv_at hl 2 rfl) ?_
    refine vp_callSi (W.runV (As := [.int x]) (rest := []) hF (m_X5_attackersOf l9 D k q n w ly t a fx x hn) (cwV 1 hts gX9_decide_X5_attackersOf rfl rfl rfl (by decide +kernel) ⟨Nat.le_of_ble_eq_true rfl, Nat.le_of_ble_eq_true rfl⟩) (rPreV hK hN hP [0, 1, 2, 3, 4, 5] rfl 0 7 rfl rfl) rfl rfl hl.1 rfl (lv_room (Nat.le_of_ble_eq_true rfl)) dX9_decide_10 ⟨Nat.zero_le _, Nat.zero_le _⟩) (fun r_6 hr_6 => ?_)
    subst hr_6
    refine lv_aload_n hx hb dX9_decide_13 rfl (lv_at hl 0 rfl) ?_
    refine lv_iload_n hx hb dX9_decide_14 rfl (lv_at hl 2 rfl) ?_
    refine vp_callSi (W.runV (As := [.int x]) (rest := [.int (orS n a x)]) hF (m_X5_targetsOf l9 D k q n w ly t a fx x hn) (cwV 1 hts gX9_decide_X5_targetsOf rfl rfl rfl (by decide +kernel) ⟨Nat.le_of_ble_eq_true rfl, Nat.le_of_ble_eq_true rfl⟩) (rPreV hK hN hP [0, 1, 2, 3, 4, 5] rfl 0 7 rfl rfl) rfl rfl hl.1 rfl (lv_room (Nat.le_of_ble_eq_true rfl)) dX9_decide_15 ⟨Nat.zero_le _, Nat.zero_le _⟩) (fun r_7 hr_7 => ?_)
    subst hr_7
    refine lv_iconst (v := (-1)) hx hb dX9_decide_18 (by decide) ?_
    refine lv_ixor hx hb dX9_decide_19 ?_
    refine lv_iand hx hb dX9_decide_20 ?_
    refine lv_if_ne (tgt := 28) hx hb dX9_decide_21 (by decide) (fun c_8 => ?_) (fun c_8 => ?_)
    · skip
      refine lv_iconst (v := 0) hx hb dX9_decide_28 (by decide) ?_
      exact W.iret (v := 0) hx hb hr (fun t9 ht hW => ⟨_, rfl, (by rw [dcS_hi (by omega)]; unfold dcB; rw [if_neg c_8]; rfl), ht⟩) (fun _ h => by cases h) dX9_decide_29 hlocks
    · skip
      refine lv_iconst (v := 1) hx hb dX9_decide_24 (by decide) ?_
      refine lv_goto (tgt := 29) hx hb dX9_decide_25 (by decide) ?_
      exact W.iret (v := 1) hx hb hr (fun t9 ht hW => ⟨_, rfl, (by rw [dcS_hi (by omega)]; unfold dcB; rw [if_pos c_8]; rfl), ht⟩) (fun _ h => by cases h) dX9_decide_29 hlocks

set_option maxHeartbeats 4000000 in
set_option maxRecDepth 100000 in
theorem m_X9_decide_10 (l9 : Launch) (D : va_G) (k : Nat → ClassId) (q : Nat → Nat) (n : Nat) (w ly t a : Nat → Int32) (fx : Nat → UInt32) (c : Nat) (x : Int32) (hn : n ≤ 10) (hc : c ≤ 10) (hd : n ≤ c + 10) : Met l9 yX9_decide wsX9_decide ({ frames := 12, cells := 0, slots := 0, locals := 284 }) (RPc D k [.ref (q 0), .int (nI c), .int x] (bClaims k q n w ly t a fx)) (EI (nI (dcS n t a 10 c x))) 0 0 noA := by
  refine rMet (y := yX9_decide) (cc := cX9_decide) (maxL := 5) (ret := (some .int)) [.ref (q 0), .int (nI c), .int x] (by decide) rfl (Nat.le_of_ble_eq_true rfl) ?_
  intro p9 e9 s9 m9 bl9 me9 c9 ls hF hr hlocks hP hK hN hl
  have hl : lv_has ls 5 [(0, .ref (q 0)), (1, .int (nI c)), (2, .int x)] := hl
  obtain ⟨hx, hb, hml, hown, hts⟩ := id hF
  have k_fieldLink_30 : (Cond.fieldLink RX9 30 "OpinionReactor$Claims" "count" "I").before _ s9 = true := hts (.fieldLink RX9 30 "OpinionReactor$Claims" "count" "I") (by decide +kernel)
  have kc_RX5 : ∀ w ∈ u_ws RX5 TX5 6, w ∈ wsX9_decide := by decide +kernel
  have k_fieldLink_39 : (Cond.fieldLink RX9 39 "OpinionReactor$Claims" "targets" "[I").before _ s9 = true := hts (.fieldLink RX9 39 "OpinionReactor$Claims" "targets" "[I") (by decide +kernel)
  have k_fieldLink_43 : (Cond.fieldLink RX9 43 "OpinionReactor$Claims" "attackers" "[I").before _ s9 = true := hts (.fieldLink RX9 43 "OpinionReactor$Claims" "attackers" "[I") (by decide +kernel)
  refine lv_iload_n hx hb dX9_decide_0 rfl (lv_at hl 1 rfl) ?_
  refine lv_aload_n hx hb dX9_decide_1 rfl (lv_at hl 0 rfl) ?_
  refine va_get (D := D) (ci := 7) (v := .int (nI n)) (C := RX5) (T := TX5) (N := 6) hx hb hts kc_RX5 hown hK hP 0 rfl rfl 0 (by decide) k_fieldLink_30 (fun _ h9 => h9) rfl dX9_decide_2 ?_
  refine lv_icmp_lt (tgt := 30) hx hb dX9_decide_5 (by decide) (fun c_1 => ?_) (fun c_1 => ?_)
  · skip
    have c_1 : c < n := (nI_ltI (a := c) (b := n) (by omega) (by omega)).mp c_1
    refine lv_aload_n hx hb dX9_decide_30 rfl (lv_at hl 0 rfl) ?_
    refine lv_iload_n hx hb dX9_decide_31 rfl (lv_at hl 1 rfl) ?_
    refine lv_iconst (v := 1) hx hb dX9_decide_32 (by decide) ?_
    refine ni_add hx hb c 1 dX9_decide_33 ?_
    refine lv_iload_n hx hb dX9_decide_34 rfl (lv_at hl 2 rfl) ?_
    refine vp_callSi (W.runS (As := [.ref (q 0), .int (nI (c + 1)), .int x]) (rest := []) hF (m_X9_decide_9 l9 D k q n w ly t a fx (c + 1) x hn (by omega) (by omega)) (va_cwS 3 hts gX9_decide_X9_decide rfl rfl rfl (by decide +kernel) ⟨Nat.le_of_ble_eq_true rfl, Nat.le_of_ble_eq_true rfl⟩) (rPreS hK hN hP [0, 1, 2, 3, 4, 5] rfl) rfl rfl hl.1 rfl (lv_room (Nat.le_of_ble_eq_true rfl)) dX9_decide_35 ⟨Nat.zero_le _, Nat.zero_le _⟩) (fun r_2 hr_2 => ?_)
    subst hr_2
    refine lv_istore_n (lv' := [(3, .int (nI (dcS n t a 9 (c + 1) x))), (0, .ref (q 0)), (1, .int (nI c)), (2, .int x)]) hx hb dX9_decide_38 rfl hl (by decide) rfl (fun ls hl => ?_)
    refine lv_iload_n hx hb dX9_decide_39 rfl (lv_at hl 3 rfl) ?_
    refine lv_iload_n hx hb dX9_decide_40 rfl (lv_at hl 2 rfl) ?_
    refine vp_callSi (va_Run.run (va_runSN (As := [.int (nI c)]) (rest := [.int x]) hF (m_X12_bit l9 D k c ) ⟨va_cnB 1 hts gX9_decide_X12_bit_n34 rfl rfl rfl (hN (.methodLinkNest RX9 34 yX12_bit RX12) (by decide +kernel)) (hts (.initialized RX12) (by decide +kernel)) (by decide +kernel) ⟨Nat.le_of_ble_eq_true rfl, Nat.le_of_ble_eq_true rfl⟩, hts (.static yX12_bit) (by decide +kernel), trivial⟩ (rPreS hK hN hP [] rfl) rfl rfl hl.1 rfl (lv_room (Nat.le_of_ble_eq_true rfl)) dX9_decide_41 ⟨Nat.zero_le _, Nat.zero_le _⟩)) (fun r_3 hr_3 => ?_)
    subst hr_3
    refine lv_ior hx hb dX9_decide_44 ?_
    refine lv_istore (lv' := [(4, .int (x ||| (bt c))), (3, .int (nI (dcS n t a 9 (c + 1) x))), (0, .ref (q 0)), (1, .int (nI c)), (2, .int x)]) hx hb dX9_decide_45 hl (by decide) rfl (fun ls hl => ?_)
    refine lv_aload_n hx hb dX9_decide_47 rfl (lv_at hl 2 rfl) ?_
    refine va_get (D := D) (ci := 7) (v := .ref (q 3)) (C := RX5) (T := TX5) (N := 6) hx hb hts kc_RX5 hown hK hP 0 rfl rfl 3 (by decide) k_fieldLink_39 (fun _ h9 => h9) rfl dX9_decide_48 ?_
    refine lv_iload_n hx hb dX9_decide_51 rfl (lv_at hl 3 rfl) ?_
    refine ia_ld hx hb hK hP 3 rfl c (by omega) (by decide) dX9_decide_52 ?_
    refine lv_aload_n hx hb dX9_decide_53 rfl (lv_at hl 2 rfl) ?_
    refine va_get (D := D) (ci := 7) (v := .ref (q 4)) (C := RX5) (T := TX5) (N := 6) hx hb hts kc_RX5 hown hK hP 0 rfl rfl 4 (by decide) k_fieldLink_43 (fun _ h9 => h9) rfl dX9_decide_54 ?_
    refine lv_iload_n hx hb dX9_decide_57 rfl (lv_at hl 3 rfl) ?_
    refine ia_ld hx hb hK hP 4 rfl c (by omega) (by decide) dX9_decide_58 ?_
    refine lv_ior hx hb dX9_decide_59 ?_
    refine lv_iload hx hb dX9_decide_60 (lv_at hl 0 rfl) ?_
    refine lv_iand hx hb dX9_decide_62 ?_
    refine lv_if_ne (tgt := 78) hx hb dX9_decide_63 (by decide) (fun c_4 => ?_) (fun c_4 => ?_)
    · skip
      refine lv_iload_n hx hb dX9_decide_78 rfl (lv_at hl 1 rfl) ?_
      exact W.iret (v := nI (dcS n t a 9 (c + 1) x)) hx hb hr (fun t9 ht hW => ⟨_, rfl, (by rw [dcS_lo (by omega), if_neg c_4]; rfl), ht⟩) (fun _ h => by cases h) dX9_decide_79 hlocks
    · skip
      refine lv_iload_n hx hb dX9_decide_66 rfl (lv_at hl 1 rfl) ?_
      refine lv_aload_n hx hb dX9_decide_67 rfl (lv_at hl 2 rfl) ?_
      refine lv_iload_n hx hb dX9_decide_68 rfl (lv_at hl 3 rfl) ?_
      refine lv_iconst (v := 1) hx hb dX9_decide_69 (by decide) ?_
      refine ni_add hx hb c 1 dX9_decide_70 ?_
      refine lv_iload hx hb dX9_decide_71 (lv_at hl 0 rfl) ?_
      refine vp_callSi (W.runS (As := [.ref (q 0), .int (nI (c + 1)), .int (x ||| (bt c))]) (rest := [.int (nI (dcS n t a 9 (c + 1) x))]) hF (m_X9_decide_9 l9 D k q n w ly t a fx (c + 1) (x ||| (bt c)) hn (by omega) (by omega)) (va_cwS 3 hts gX9_decide_X9_decide rfl rfl rfl (by decide +kernel) ⟨Nat.le_of_ble_eq_true rfl, Nat.le_of_ble_eq_true rfl⟩) (rPreS hK hN hP [0, 1, 2, 3, 4, 5] rfl) rfl rfl hl.1 rfl (lv_room (Nat.le_of_ble_eq_true rfl)) dX9_decide_73 ⟨Nat.zero_le _, Nat.zero_le _⟩) (fun r_5 hr_5 => ?_)
      subst hr_5
      refine ni_add hx hb (dcS n t a 9 (c + 1) x) (dcS n t a 9 (c + 1) (x ||| (bt c))) dX9_decide_76 ?_
      refine lv_istore_n (lv' := [(3, .int (nI ((dcS n t a 9 (c + 1) x) + (dcS n t a 9 (c + 1) (x ||| (bt c)))))), (4, .int (x ||| (bt c))), (0, .ref (q 0)), (1, .int (nI c)), (2, .int x)]) hx hb dX9_decide_77 rfl hl (by decide) rfl (fun ls hl => ?_)
      refine lv_iload_n hx hb dX9_decide_78 rfl (lv_at hl 0 rfl) ?_
      exact W.iret (v := nI ((dcS n t a 9 (c + 1) x) + (dcS n t a 9 (c + 1) (x ||| (bt c))))) hx hb hr (fun t9 ht hW => ⟨_, rfl, (by rw [dcS_lo (by omega), if_pos c_4]), ht⟩) (fun _ h => by cases h) dX9_decide_79 hlocks
  · skip
    have c_1 : ¬ c < n := fun h => c_1 ((nI_ltI (a := c) (b := n) (by omega) (by omega)).mpr h)
    refine lv_aload_n hx hb dX9_decide_8 rfl (lv_at hl 0 rfl) ?_
    refine lv_iload_n hx hb dX9_decide_9 rfl (lv_at hl 2 rfl) ?_
    refine vp_callSi (W.runV (As := [.int x]) (rest := []) hF (m_X5_attackersOf l9 D k q n w ly t a fx x hn) (cwV 1 hts gX9_decide_X5_attackersOf rfl rfl rfl (by decide +kernel) ⟨Nat.le_of_ble_eq_true rfl, Nat.le_of_ble_eq_true rfl⟩) (rPreV hK hN hP [0, 1, 2, 3, 4, 5] rfl 0 7 rfl rfl) rfl rfl hl.1 rfl (lv_room (Nat.le_of_ble_eq_true rfl)) dX9_decide_10 ⟨Nat.zero_le _, Nat.zero_le _⟩) (fun r_6 hr_6 => ?_)
    subst hr_6
    refine lv_aload_n hx hb dX9_decide_13 rfl (lv_at hl 0 rfl) ?_
    refine lv_iload_n hx hb dX9_decide_14 rfl (lv_at hl 2 rfl) ?_
    refine vp_callSi (W.runV (As := [.int x]) (rest := [.int (orS n a x)]) hF (m_X5_targetsOf l9 D k q n w ly t a fx x hn) (cwV 1 hts gX9_decide_X5_targetsOf rfl rfl rfl (by decide +kernel) ⟨Nat.le_of_ble_eq_true rfl, Nat.le_of_ble_eq_true rfl⟩) (rPreV hK hN hP [0, 1, 2, 3, 4, 5] rfl 0 7 rfl rfl) rfl rfl hl.1 rfl (lv_room (Nat.le_of_ble_eq_true rfl)) dX9_decide_15 ⟨Nat.zero_le _, Nat.zero_le _⟩) (fun r_7 hr_7 => ?_)
    subst hr_7
    refine lv_iconst (v := (-1)) hx hb dX9_decide_18 (by decide) ?_
    refine lv_ixor hx hb dX9_decide_19 ?_
    refine lv_iand hx hb dX9_decide_20 ?_
    refine lv_if_ne (tgt := 28) hx hb dX9_decide_21 (by decide) (fun c_8 => ?_) (fun c_8 => ?_)
    · skip
      refine lv_iconst (v := 0) hx hb dX9_decide_28 (by decide) ?_
      exact W.iret (v := 0) hx hb hr (fun t9 ht hW => ⟨_, rfl, (by rw [dcS_hi (by omega)]; unfold dcB; rw [if_neg c_8]; rfl), ht⟩) (fun _ h => by cases h) dX9_decide_29 hlocks
    · skip
      refine lv_iconst (v := 1) hx hb dX9_decide_24 (by decide) ?_
      refine lv_goto (tgt := 29) hx hb dX9_decide_25 (by decide) ?_
      exact W.iret (v := 1) hx hb hr (fun t9 ht hW => ⟨_, rfl, (by rw [dcS_hi (by omega)]; unfold dcB; rw [if_pos c_8]; rfl), ht⟩) (fun _ h => by cases h) dX9_decide_29 hlocks

set_option maxHeartbeats 4000000 in
set_option maxRecDepth 100000 in
theorem m_X9_byDeciding (l9 : Launch) (D : va_G) (k : Nat → ClassId) (q : Nat → Nat) (n : Nat) (w ly t a : Nat → Int32) (fx : Nat → UInt32) (hn : n ≤ 10) : Met l9 yX9_byDeciding wsX9_byDeciding ({ frames := 13, cells := 0, slots := 0, locals := 308 }) (RPc D k [.ref (q 0)] (bClaims k q n w ly t a fx)) (EI (nI (dcS n t a 10 0 0))) 0 0 noA := by
  refine rMet (y := yX9_byDeciding) (cc := cX9_byDeciding) (maxL := 1) (ret := (some .int)) [.ref (q 0)] (by decide) rfl (Nat.le_of_ble_eq_true rfl) ?_
  intro p9 e9 s9 m9 bl9 me9 c9 ls hF hr hlocks hP hK hN hl
  have hl : lv_has ls 1 [(0, .ref (q 0))] := hl
  obtain ⟨hx, hb, hml, hown, hts⟩ := id hF
  refine lv_aload_n hx hb dX9_byDeciding_0 rfl (lv_at hl 0 rfl) ?_
  refine lv_iconst (v := 0) hx hb dX9_byDeciding_1 (by decide) ?_
  refine lv_iconst (v := 0) hx hb dX9_byDeciding_2 (by decide) ?_
  refine vp_callSi (W.runS (As := [.ref (q 0), .int 0, .int 0]) (rest := []) hF (m_X9_decide_10 l9 D k q n w ly t a fx 0 0 hn (by omega) (by omega)) (va_cwS 3 hts gX9_byDeciding_X9_decide rfl rfl rfl (by decide +kernel) ⟨Nat.le_of_ble_eq_true rfl, Nat.le_of_ble_eq_true rfl⟩) (rPreS hK hN hP [0, 1, 2, 3, 4, 5] rfl) rfl rfl hl.1 rfl (lv_room (Nat.le_of_ble_eq_true rfl)) dX9_byDeciding_3 ⟨Nat.zero_le _, Nat.zero_le _⟩) (fun r_1 hr_1 => ?_)
  subst hr_1
  exact W.iret (v := nI (dcS n t a 10 0 0)) hx hb hr (fun t9 ht hW => ⟨_, rfl, (by rfl), ht⟩) (fun _ h => by cases h) dX9_byDeciding_6 hlocks

set_option maxHeartbeats 4000000 in
set_option maxRecDepth 100000 in
theorem m_J9_floorMod_7cf53 (l9 : Launch) (D : va_G) (k : Nat → ClassId) (x : Int32) : Met l9 yJ9_floorMod_7cf53 wsJ9_floorMod_7cf53 ({ frames := 0, cells := 0, slots := 0, locals := 0 }) (RPc D k [.int x, .int 16] ([])) (EI (fmE x)) 0 0 noA := by
  refine rMetF (y := yJ9_floorMod_7cf53) (cc := cJ9_floorMod_7cf53) (maxL := 3) (ret := (some .int)) [.int x, .int 16] (by decide +kernel) rfl (Nat.le_of_ble_eq_true rfl) ?_
  intro p9 e9 s9 m9 bl9 me9 c9 ls hF hr hlocks hP hK hN hl
  have hl : lv_has ls 3 [(0, .int x), (1, .int 16)] := hl
  obtain ⟨hx, hb, hml, hown, hts⟩ := id hF
  refine lv_iload_n hx hb dJ9_floorMod_7cf53_0 rfl (lv_at hl 0 rfl) ?_
  refine lv_iload_n hx hb dJ9_floorMod_7cf53_1 rfl (lv_at hl 1 rfl) ?_
  refine lv_irem hx hb dJ9_floorMod_7cf53_2 (by decide) ?_
  refine lv_istore_n (lv' := [(2, .int (x - x / 16 * 16)), (0, .int x), (1, .int 16)]) hx hb dJ9_floorMod_7cf53_3 rfl hl (by decide) rfl (fun ls hl => ?_)
  refine lv_iload_n hx hb dJ9_floorMod_7cf53_4 rfl (lv_at hl 1 rfl) ?_
  refine lv_iload_n hx hb dJ9_floorMod_7cf53_5 rfl (lv_at hl 2 rfl) ?_
  refine lv_ixor hx hb dJ9_floorMod_7cf53_6 ?_
  refine lv_if_ge (tgt := 18) hx hb dJ9_floorMod_7cf53_7 (by decide) (fun c_1 => ?_) (fun c_1 => ?_)
  · skip
    refine lv_iload_n hx hb dJ9_floorMod_7cf53_18 rfl (lv_at hl 0 rfl) ?_
    exact W.iret (v := x - x / 16 * 16) hx hb hr (fun t9 ht hW => ⟨_, rfl, (by (try simp only [fmE]); (repeat (first | rw [if_pos (by first | assumption | exact Eq.trans (b := false) (by assumption) (Eq.symm (by assumption)) | exact Eq.trans (b := true) (by assumption) (Eq.symm (by assumption)) | exact ⟨by assumption, by assumption⟩ | exact Or.inl (by assumption) | exact Or.inr (by assumption) | exact Or.inr (Or.inl (by assumption)) | exact Or.inr (Or.inr (by assumption)) | (simp only [Int32.lt_iff_toInt_lt, Int32.le_iff_toInt_le, i32_0, i32_1, i32_2, i32_3, i32_4, i32_9, i32_10, i32_99, i32_100, i32_1000, i32_9999] at *; omega))] | rw [if_neg (by first | assumption | (rintro (h9 | h9 | h9) <;> contradiction) | (rintro (h9 | h9) <;> contradiction) | (intro h9; exact Bool.noConfusion (Eq.trans (c := false) h9.symm (by assumption))) | (rintro ⟨h8, h9⟩; exact Bool.noConfusion (Eq.trans (c := false) h8.symm (by assumption))) | (rintro ⟨h8, h9⟩; exact Bool.noConfusion (Eq.trans (c := false) h9.symm (by assumption))) | (simp only [Int32.lt_iff_toInt_lt, Int32.le_iff_toInt_le, i32_0, i32_1, i32_2, i32_3, i32_4, i32_9, i32_10, i32_99, i32_100, i32_1000, i32_9999] at *; omega))])); (try rfl)), ht⟩) (fun _ h => by cases h) dJ9_floorMod_7cf53_19 hlocks
  · skip
    refine lv_iload_n hx hb dJ9_floorMod_7cf53_10 rfl (lv_at hl 0 rfl) ?_
    refine lv_if_eq (tgt := 18) hx hb dJ9_floorMod_7cf53_11 (by decide) (fun c_2 => ?_) (fun c_2 => ?_)
    · skip
      refine lv_iload_n hx hb dJ9_floorMod_7cf53_18 rfl (lv_at hl 0 rfl) ?_
      exact W.iret (v := x - x / 16 * 16) hx hb hr (fun t9 ht hW => ⟨_, rfl, (by (try simp only [fmE]); (repeat (first | rw [if_pos (by first | assumption | exact Eq.trans (b := false) (by assumption) (Eq.symm (by assumption)) | exact Eq.trans (b := true) (by assumption) (Eq.symm (by assumption)) | exact ⟨by assumption, by assumption⟩ | exact Or.inl (by assumption) | exact Or.inr (by assumption) | exact Or.inr (Or.inl (by assumption)) | exact Or.inr (Or.inr (by assumption)) | (simp only [Int32.lt_iff_toInt_lt, Int32.le_iff_toInt_le, i32_0, i32_1, i32_2, i32_3, i32_4, i32_9, i32_10, i32_99, i32_100, i32_1000, i32_9999] at *; omega))] | rw [if_neg (by first | assumption | (rintro (h9 | h9 | h9) <;> contradiction) | (rintro (h9 | h9) <;> contradiction) | (intro h9; exact Bool.noConfusion (Eq.trans (c := false) h9.symm (by assumption))) | (rintro ⟨h8, h9⟩; exact Bool.noConfusion (Eq.trans (c := false) h8.symm (by assumption))) | (rintro ⟨h8, h9⟩; exact Bool.noConfusion (Eq.trans (c := false) h9.symm (by assumption))) | (simp only [Int32.lt_iff_toInt_lt, Int32.le_iff_toInt_le, i32_0, i32_1, i32_2, i32_3, i32_4, i32_9, i32_10, i32_99, i32_100, i32_1000, i32_9999] at *; omega))])); (try rfl)), ht⟩) (fun _ h => by cases h) dJ9_floorMod_7cf53_19 hlocks
    · skip
      refine lv_iload_n hx hb dJ9_floorMod_7cf53_14 rfl (lv_at hl 0 rfl) ?_
      refine lv_iload_n hx hb dJ9_floorMod_7cf53_15 rfl (lv_at hl 2 rfl) ?_
      refine lv_iadd hx hb dJ9_floorMod_7cf53_16 ?_
      exact W.iret (v := (x - x / 16 * 16) + 16) hx hb hr (fun t9 ht hW => ⟨_, rfl, (by (try simp only [fmE]); (repeat (first | rw [if_pos (by first | assumption | exact Eq.trans (b := false) (by assumption) (Eq.symm (by assumption)) | exact Eq.trans (b := true) (by assumption) (Eq.symm (by assumption)) | exact ⟨by assumption, by assumption⟩ | exact Or.inl (by assumption) | exact Or.inr (by assumption) | exact Or.inr (Or.inl (by assumption)) | exact Or.inr (Or.inr (by assumption)) | (simp only [Int32.lt_iff_toInt_lt, Int32.le_iff_toInt_le, i32_0, i32_1, i32_2, i32_3, i32_4, i32_9, i32_10, i32_99, i32_100, i32_1000, i32_9999] at *; omega))] | rw [if_neg (by first | assumption | (rintro (h9 | h9 | h9) <;> contradiction) | (rintro (h9 | h9) <;> contradiction) | (intro h9; exact Bool.noConfusion (Eq.trans (c := false) h9.symm (by assumption))) | (rintro ⟨h8, h9⟩; exact Bool.noConfusion (Eq.trans (c := false) h8.symm (by assumption))) | (rintro ⟨h8, h9⟩; exact Bool.noConfusion (Eq.trans (c := false) h9.symm (by assumption))) | (simp only [Int32.lt_iff_toInt_lt, Int32.le_iff_toInt_le, i32_0, i32_1, i32_2, i32_3, i32_4, i32_9, i32_10, i32_99, i32_100, i32_1000, i32_9999] at *; omega))])); (try rfl)), ht⟩) (fun _ h => by cases h) dJ9_floorMod_7cf53_17 hlocks

set_option maxHeartbeats 4000000 in
set_option maxRecDepth 100000 in
theorem m_X8_place (l9 : Launch) (D : va_G) (k : Nat → ClassId) (q : Nat → Nat) (lsh lk : Nat → Int32) (lc lx : Nat) (r : Nat) (hlx : lx < 16) (hr9 : r < 16) : Met l9 yX8_place wsX8_place ({ frames := 1, cells := 0, slots := 0, locals := 22 }) (RPc D k [.ref (q 0), .int (nI r)] (bLog k q lsh lk lc lx)) (EI (nI ((lx + 15 - r) % 16))) 0 0 noA := by
  refine rMet (y := yX8_place) (cc := cX8_place) (maxL := 2) (ret := (some .int)) [.ref (q 0), .int (nI r)] (by decide) rfl (Nat.le_of_ble_eq_true rfl) ?_
  intro p9 e9 s9 m9 bl9 me9 c9 ls hF hr hlocks hP hK hN hl
  have hl : lv_has ls 2 [(0, .ref (q 0)), (1, .int (nI r))] := hl
  obtain ⟨hx, hb, hml, hown, hts⟩ := id hF
  have k_fieldLink_23 : (Cond.fieldLink RX8 23 "OpinionReactor$Log" "next" "I").before _ s9 = true := hts (.fieldLink RX8 23 "OpinionReactor$Log" "next" "I") (by decide +kernel)
  have kc_RX8 : ∀ w ∈ u_ws RX8 TX8 4, w ∈ wsX8_place := by decide +kernel
  refine lv_aload_n hx hb dX8_place_0 rfl (lv_at hl 0 rfl) ?_
  refine va_get (D := D) (ci := 9) (v := .int (nI lx)) (C := RX8) (T := TX8) (N := 4) hx hb hts kc_RX8 hown hK hP 0 rfl rfl 3 (by decide) k_fieldLink_23 (fun _ h9 => h9) rfl dX8_place_1 ?_
  refine lv_iconst (v := 1) hx hb dX8_place_4 (by decide) ?_
  refine lv_isub hx hb dX8_place_5 ?_
  refine lv_iload_n hx hb dX8_place_6 rfl (lv_at hl 1 rfl) ?_
  refine lv_isub hx hb dX8_place_7 ?_
  refine lv_bipush (v := 16) hx hb dX8_place_8 (by decide) ?_
  refine vp_callSi (W.runS (As := [.int (((nI lx) - 1) - (nI r)), .int 16]) (rest := []) hF (m_J9_floorMod_7cf53 l9 D k (nI lx - 1 - nI r) ) (va_cwS 2 hts gX8_place_J9_floorMod_7cf53 rfl rfl rfl (by decide +kernel) ⟨Nat.le_of_ble_eq_true rfl, Nat.le_of_ble_eq_true rfl⟩) (rPreS hK hN hP [] rfl) rfl rfl hl.1 rfl (lv_room (Nat.le_of_ble_eq_true rfl)) dX8_place_10 ⟨Nat.zero_le _, Nat.zero_le _⟩) (fun r_1 hr_1 => ?_)
  subst hr_1
  exact W.iret (v := fmE (nI lx - 1 - nI r)) hx hb hr (fun t9 ht hW => ⟨_, rfl, (by exact fmE_p hlx hr9), ht⟩) (fun _ h => by cases h) dX8_place_13 hlocks

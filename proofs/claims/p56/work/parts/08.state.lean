/-! The log; small changes of a state. -/
theorem nI_min {a b : Nat} (ha : a < 2 ^ 31) (hb : b < 2 ^ 31) : (if nI b < nI a then nI b else nI a) = nI (min a b) := by
  by_cases h : b < a
  · rw [if_pos ((nI_ltI hb ha).mpr h), Nat.min_eq_right (Nat.le_of_lt h)]
  · rw [if_neg (fun q => h ((nI_ltI hb ha).mp q)), Nat.min_eq_left (Nat.not_lt.mp h)]
/-- the class's log behind an entry -/
def ltS (ls : Nat → Int32) (lx : Nat) (x : Int32) : Nat → Int32 := upd ls lx x
/-- the class's changes of a state: answers, racks, log -/
def okI (x : Int32) : Bool := decide (0 ≤ x)

abbrev bSt (k : Nat → ClassId) (q : Nat → Nat) (qc : Nat → Nat) (qr : Nat → Nat) (ql : Nat → Nat) (lim : Int32) (sh : Int32) (sc : Int32) (fr : Nat → UInt32) : va_W := [(q 0, .inr (11, [.ref (qc 0), .ref (qr 0), .ref (ql 0), .int lim, .int sh, .int sc, .ref (q 1)])), (q 1, .inl (k 2, 10, .inr (.inr (.inl fr))))]
set_option maxHeartbeats 4000000 in
set_option maxRecDepth 100000 in
theorem m_X8_note (l9 : Launch) (D : va_G) (k : Nat → ClassId) (sz : Nat) (q : Nat → Nat) (lsh lk : Nat → Int32) (lc lx : Nat) (x z : Int32) (hlc : lc ≤ 16) (hlx : lx < 16) (hz : vp_nar .char z = z) : Met l9 yX8_note wsX8_note ({ frames := 1, cells := 0, slots := 0, locals := 21 }) (WPc D k [.ref (q 0), .int x, .int z] (bLog k q lsh lk lc lx) sz) (WV D k (bLog k q (upd lsh lx x) (upd lk lx z) (min (lc + 1) 16) ((lx + 1) % 16)) (va_A (bLog k q lsh lk lc lx) sz)) 0 0 (va_A (bLog k q lsh lk lc lx) sz) := by
  refine wMet (y := yX8_note) (cc := cX8_note) (maxL := 3) (ret := none) (Qc := fun A => WV D k (bLog k q (upd lsh lx x) (upd lk lx z) (min (lc + 1) 16) ((lx + 1) % 16)) A) [.ref (q 0), .int x, .int z] (by decide) rfl (Nat.le_of_ble_eq_true rfl) ?_
  intro p9 e9 s9 m9 bl9 me9 c9 ls A H hF hr hlocks hP hK hN hD hA hS hl hin
  have hl : lv_has ls 3 [(0, .ref (q 0)), (1, .int x), (2, .int z)] := hl
  obtain ⟨hx, hb, hml, hown, hts⟩ := id hF
  have k_fieldLink_9 : (Cond.fieldLink RX8 9 "OpinionReactor$Log" "shifts" "[I").before _ s9 = true := hts (.fieldLink RX8 9 "OpinionReactor$Log" "shifts" "[I") (by decide +kernel)
  have kc_RX8 : ∀ w ∈ u_ws RX8 TX8 4, w ∈ wsX8_note := by decide +kernel
  have k_fieldLink_23 : (Cond.fieldLink RX8 23 "OpinionReactor$Log" "next" "I").before _ s9 = true := hts (.fieldLink RX8 23 "OpinionReactor$Log" "next" "I") (by decide +kernel)
  have k_fieldLink_15 : (Cond.fieldLink RX8 15 "OpinionReactor$Log" "kinds" "[C").before _ s9 = true := hts (.fieldLink RX8 15 "OpinionReactor$Log" "kinds" "[C") (by decide +kernel)
  have k_fieldLink_19 : (Cond.fieldLink RX8 19 "OpinionReactor$Log" "count" "I").before _ s9 = true := hts (.fieldLink RX8 19 "OpinionReactor$Log" "count" "I") (by decide +kernel)
  refine lv_aload_n hx hb dX8_note_0 rfl (lv_at hl 0 rfl) ?_
  refine va_get (D := D) (ci := 9) (v := .ref (q 1)) (C := RX8) (T := TX8) (N := 4) hx hb hts kc_RX8 hown hK hP 0 rfl rfl 0 (by decide) k_fieldLink_9 (fun _ h9 => h9) rfl dX8_note_1 ?_
  refine lv_aload_n hx hb dX8_note_4 rfl (lv_at hl 0 rfl) ?_
  refine va_get (D := D) (ci := 9) (v := .int (nI lx)) (C := RX8) (T := TX8) (N := 4) hx hb hts kc_RX8 hown hK hP 0 rfl rfl 3 (by decide) k_fieldLink_23 (fun _ h9 => h9) rfl dX8_note_5 ?_
  refine lv_iload_n hx hb dX8_note_8 rfl (lv_at hl 1 rfl) ?_
  refine ia_st hx hb hK hP hD hS 1 rfl lx (by omega) (by decide) (bLog k q (upd lsh lx x) lk lc lx) rfl dX8_note_9 (fun H locs hP hD hS => ?_)
  refine lv_aload_n hx hb dX8_note_10 rfl (lv_at hl 0 rfl) ?_
  refine va_get (D := D) (ci := 9) (v := .ref (q 2)) (C := RX8) (T := TX8) (N := 4) hx hb hts kc_RX8 hown hK hP 0 rfl rfl 1 (by decide) k_fieldLink_15 (fun _ h9 => h9) rfl dX8_note_11 ?_
  refine lv_aload_n hx hb dX8_note_14 rfl (lv_at hl 0 rfl) ?_
  refine va_get (D := D) (ci := 9) (v := .int (nI lx)) (C := RX8) (T := TX8) (N := 4) hx hb hts kc_RX8 hown hK hP 0 rfl rfl 3 (by decide) k_fieldLink_23 (fun _ h9 => h9) rfl dX8_note_15 ?_
  refine lv_iload_n hx hb dX8_note_18 rfl (lv_at hl 2 rfl) ?_
  refine ca_st hx hb hK hP hD hS 2 rfl lx (by omega) (by decide) hz (bLog k q (upd lsh lx x) (upd lk lx z) lc lx) rfl dX8_note_19 (fun H locs hP hD hS => ?_)
  refine lv_aload_n hx hb dX8_note_20 rfl (lv_at hl 0 rfl) ?_
  refine lv_aload_n hx hb dX8_note_21 rfl (lv_at hl 0 rfl) ?_
  refine va_get (D := D) (ci := 9) (v := .int (nI lx)) (C := RX8) (T := TX8) (N := 4) hx hb hts kc_RX8 hown hK hP 0 rfl rfl 3 (by decide) k_fieldLink_23 (fun _ h9 => h9) rfl dX8_note_22 ?_
  refine lv_iconst (v := 1) hx hb dX8_note_25 (by decide) ?_
  refine ni_add hx hb lx 1 dX8_note_26 ?_
  refine lv_bipush (v := 16) hx hb dX8_note_27 (by decide) ?_
  refine ni_rem hx hb (lx + 1) 16 (by omega) (by decide) (by decide) dX8_note_29 ?_
  refine va_put (D := D) (ci := 9) (v := .int (nI ((lx + 1) % 16))) (ty := .int) (C := RX8) (T := TX8) (N := 4) hx hb hts kc_RX8 tyX8 tyX8_ok nmX8 hown hK hP hD hS 0 rfl rfl 3 (by decide) k_fieldLink_23 (fun _ h9 => h9) rfl (by decide +kernel) rfl rfl (Nat.le_of_ble_eq_true rfl) dX8_note_30 (fun H locs hP hD hS => ?_)
  have hP : va_P D vwCl (bLog k q (upd lsh lx x) (upd lk lx z) lc ((lx + 1) % 16)) H := hP
  have hD : va_D A (bLog k q (upd lsh lx x) (upd lk lx z) lc ((lx + 1) % 16)) := hD
  refine lv_aload_n hx hb dX8_note_33 rfl (lv_at hl 0 rfl) ?_
  refine lv_aload_n hx hb dX8_note_34 rfl (lv_at hl 0 rfl) ?_
  refine va_get (D := D) (ci := 9) (v := .int (nI lc)) (C := RX8) (T := TX8) (N := 4) hx hb hts kc_RX8 hown hK hP 0 rfl rfl 2 (by decide) k_fieldLink_19 (fun _ h9 => h9) rfl dX8_note_35 ?_
  refine lv_iconst (v := 1) hx hb dX8_note_38 (by decide) ?_
  refine ni_add hx hb lc 1 dX8_note_39 ?_
  refine lv_bipush (v := 16) hx hb dX8_note_40 (by decide) ?_
  refine va_mmin hx hb (hml.trans hl.1.symm) hown (hts (.methodLink RX8 26 Lib.Math.min.name) (by decide +kernel)) (hts (.static Lib.Math.min.name) (by decide +kernel)) (hts (.initialized "java/lang/Math") (by decide +kernel)) (hts (.code Lib.Math.min.name Lib.Math.min.code 2 (some .int)) (by decide +kernel)) (Nat.le_of_ble_eq_true rfl) (Nat.le_of_ble_eq_true rfl) (Nat.zero_le _) (Nat.zero_le _) dX8_note_42 ?_
  rw [show (if 16 < (nI (lc + 1)) then 16 else (nI (lc + 1)) : Int32) = nI (min (lc + 1) 16) from nI_min (a := lc + 1) (b := 16) (by omega) (by omega)]
  refine va_put (D := D) (ci := 9) (v := .int (nI (min (lc + 1) 16))) (ty := .int) (C := RX8) (T := TX8) (N := 4) hx hb hts kc_RX8 tyX8 tyX8_ok nmX8 hown hK hP hD hS 0 rfl rfl 2 (by decide) k_fieldLink_19 (fun _ h9 => h9) rfl (by decide +kernel) rfl rfl (Nat.le_of_ble_eq_true rfl) dX8_note_45 (fun H locs hP hD hS => ?_)
  have hP : va_P D vwCl (bLog k q (upd lsh lx x) (upd lk lx z) (min (lc + 1) 16) ((lx + 1) % 16)) H := hP
  have hD : va_D A (bLog k q (upd lsh lx x) (upd lk lx z) (min (lc + 1) 16) ((lx + 1) % 16)) := hD
  exact W.vret hx hb hr (fun t9 ht hW => ⟨⟨(), rfl, trivial, ⟨by rw [ht]; exact hP, va_K.moved hW.alike hK, hD⟩⟩, hS.F ht⟩) hS.2.2 dX8_note_48 hlocks

set_option maxHeartbeats 4000000 in
set_option maxRecDepth 100000 in
theorem m_X11_bound (l9 : Launch) (D : va_G) (k : Nat → ClassId) (sz : Nat) (qs qc qr ql : Nat → Nat) (lim sh sc : Int32) (fr : Nat → UInt32) (x : Int32) : Met l9 yX11_bound wsX11_bound ({ frames := 0, cells := 0, slots := 0, locals := 0 }) (WPc D k [.ref (qs 0), .int x] (bSt k qs qc qr ql lim sh sc fr) sz) (WI D k (bSt k qs qc qr ql (if 1 ≤ x ∧ x ≤ 9999 then x else lim) sh sc fr) (if 1 ≤ x ∧ x ≤ 9999 then lim else -2) (va_A (bSt k qs qc qr ql lim sh sc fr) sz)) 0 0 (va_A (bSt k qs qc qr ql lim sh sc fr) sz) := by
  refine wMet (y := yX11_bound) (cc := cX11_bound) (maxL := 3) (ret := (some .int)) (Qc := fun A => WI D k (bSt k qs qc qr ql (if 1 ≤ x ∧ x ≤ 9999 then x else lim) sh sc fr) (if 1 ≤ x ∧ x ≤ 9999 then lim else -2) A) [.ref (qs 0), .int x] (by decide) rfl (Nat.le_of_ble_eq_true rfl) ?_
  intro p9 e9 s9 m9 bl9 me9 c9 ls A H hF hr hlocks hP hK hN hD hA hS hl hin
  have hl : lv_has ls 3 [(0, .ref (qs 0)), (1, .int x)] := hl
  obtain ⟨hx, hb, hml, hown, hts⟩ := id hF
  have k_fieldLink_32 : (Cond.fieldLink RX11 32 "OpinionReactor$State" "limit" "I").before _ s9 = true := hts (.fieldLink RX11 32 "OpinionReactor$State" "limit" "I") (by decide +kernel)
  have kc_RX11 : ∀ w ∈ u_ws RX11 TX11 7, w ∈ wsX11_bound := by decide +kernel
  refine lv_iload_n hx hb dX11_bound_0 rfl (lv_at hl 1 rfl) ?_
  refine lv_iconst (v := 1) hx hb dX11_bound_1 (by decide) ?_
  refine lv_icmp_lt (tgt := 12) hx hb dX11_bound_2 (by decide) (fun c_1 => ?_) (fun c_1 => ?_)
  · skip
    refine lv_bipush (v := (-2)) hx hb dX11_bound_12 (by decide) ?_
    have e_2 : (lim : Int32) = if 1 ≤ x ∧ x ≤ 9999 then x else lim := by first | (with_reducible rfl) | ((try simp only []); (repeat (first | rw [if_pos (by first | assumption | exact Eq.trans (b := false) (by assumption) (Eq.symm (by assumption)) | exact Eq.trans (b := true) (by assumption) (Eq.symm (by assumption)) | exact ⟨by assumption, by assumption⟩ | exact Or.inl (by assumption) | exact Or.inr (by assumption) | exact Or.inr (Or.inl (by assumption)) | exact Or.inr (Or.inr (by assumption)) | (simp only [Int32.lt_iff_toInt_lt, Int32.le_iff_toInt_le, i32_0, i32_1, i32_2, i32_3, i32_4, i32_9, i32_10, i32_99, i32_100, i32_1000, i32_9999] at *; omega))] | rw [if_neg (by first | assumption | (rintro (h9 | h9 | h9) <;> contradiction) | (rintro (h9 | h9) <;> contradiction) | (intro h9; exact Bool.noConfusion (Eq.trans (c := false) h9.symm (by assumption))) | (rintro ⟨h8, h9⟩; exact Bool.noConfusion (Eq.trans (c := false) h8.symm (by assumption))) | (rintro ⟨h8, h9⟩; exact Bool.noConfusion (Eq.trans (c := false) h9.symm (by assumption))) | (simp only [Int32.lt_iff_toInt_lt, Int32.le_iff_toInt_le, i32_0, i32_1, i32_2, i32_3, i32_4, i32_9, i32_10, i32_99, i32_100, i32_1000, i32_9999] at *; omega))])); (try rfl))
    have hP := Eq.mp (congrArg (fun z9 => va_P D vwCl (bSt k qs qc qr ql z9 sh sc fr) H) e_2) hP
    have hD := Eq.mp (congrArg (fun z9 => va_D A (bSt k qs qc qr ql z9 sh sc fr)) e_2) hD
    exact W.iret (v := (-2)) hx hb hr (fun t9 ht hW => ⟨⟨_, (), rfl, (by (try simp only []); (repeat (first | rw [if_pos (by first | assumption | exact Eq.trans (b := false) (by assumption) (Eq.symm (by assumption)) | exact Eq.trans (b := true) (by assumption) (Eq.symm (by assumption)) | exact ⟨by assumption, by assumption⟩ | exact Or.inl (by assumption) | exact Or.inr (by assumption) | exact Or.inr (Or.inl (by assumption)) | exact Or.inr (Or.inr (by assumption)) | (simp only [Int32.lt_iff_toInt_lt, Int32.le_iff_toInt_le, i32_0, i32_1, i32_2, i32_3, i32_4, i32_9, i32_10, i32_99, i32_100, i32_1000, i32_9999] at *; omega))] | rw [if_neg (by first | assumption | (rintro (h9 | h9 | h9) <;> contradiction) | (rintro (h9 | h9) <;> contradiction) | (intro h9; exact Bool.noConfusion (Eq.trans (c := false) h9.symm (by assumption))) | (rintro ⟨h8, h9⟩; exact Bool.noConfusion (Eq.trans (c := false) h8.symm (by assumption))) | (rintro ⟨h8, h9⟩; exact Bool.noConfusion (Eq.trans (c := false) h9.symm (by assumption))) | (simp only [Int32.lt_iff_toInt_lt, Int32.le_iff_toInt_le, i32_0, i32_1, i32_2, i32_3, i32_4, i32_9, i32_10, i32_99, i32_100, i32_1000, i32_9999] at *; omega))])); (try rfl)), ⟨by rw [ht]; exact hP, va_K.moved hW.alike hK, hD⟩⟩, hS.F ht⟩) hS.2.2 dX11_bound_14 hlocks
  · skip
    refine lv_iload_n hx hb dX11_bound_5 rfl (lv_at hl 1 rfl) ?_
    refine lv_sipush (v := 9999) hx hb dX11_bound_6 (by decide) ?_
    refine lv_icmp_le (tgt := 15) hx hb dX11_bound_9 (by decide) (fun c_3 => ?_) (fun c_3 => ?_)
    · skip
      refine lv_aload_n hx hb dX11_bound_15 rfl (lv_at hl 0 rfl) ?_
      refine va_get (D := D) (ci := 11) (v := .int lim) (C := RX11) (T := TX11) (N := 7) hx hb hts kc_RX11 hown hK hP 0 rfl rfl 3 (by decide) k_fieldLink_32 (fun _ h9 => h9) rfl dX11_bound_16 ?_
      refine lv_istore_n (lv' := [(2, .int lim), (0, .ref (qs 0)), (1, .int x)]) hx hb dX11_bound_19 rfl hl (by decide) rfl (fun ls hl => ?_)
      refine lv_aload_n hx hb dX11_bound_20 rfl (lv_at hl 1 rfl) ?_
      refine lv_iload_n hx hb dX11_bound_21 rfl (lv_at hl 2 rfl) ?_
      refine va_put (D := D) (ci := 11) (v := .int x) (ty := .int) (C := RX11) (T := TX11) (N := 7) hx hb hts kc_RX11 tyX11 tyX11_ok nmX11 hown hK hP hD hS 0 rfl rfl 3 (by decide) k_fieldLink_32 (fun _ h9 => h9) rfl (by decide +kernel) rfl rfl (Nat.le_of_ble_eq_true rfl) dX11_bound_22 (fun H locs hP hD hS => ?_)
      have hP : va_P D vwCl (bSt k qs qc qr ql x sh sc fr) H := hP
      have hD : va_D A (bSt k qs qc qr ql x sh sc fr) := hD
      refine lv_iload_n hx hb dX11_bound_25 rfl (lv_at hl 0 rfl) ?_
      have e_4 : (x : Int32) = if 1 ≤ x ∧ x ≤ 9999 then x else lim := by first | (with_reducible rfl) | ((try simp only []); (repeat (first | rw [if_pos (by first | assumption | exact Eq.trans (b := false) (by assumption) (Eq.symm (by assumption)) | exact Eq.trans (b := true) (by assumption) (Eq.symm (by assumption)) | exact ⟨by assumption, by assumption⟩ | exact Or.inl (by assumption) | exact Or.inr (by assumption) | exact Or.inr (Or.inl (by assumption)) | exact Or.inr (Or.inr (by assumption)) | (simp only [Int32.lt_iff_toInt_lt, Int32.le_iff_toInt_le, i32_0, i32_1, i32_2, i32_3, i32_4, i32_9, i32_10, i32_99, i32_100, i32_1000, i32_9999] at *; omega))] | rw [if_neg (by first | assumption | (rintro (h9 | h9 | h9) <;> contradiction) | (rintro (h9 | h9) <;> contradiction) | (intro h9; exact Bool.noConfusion (Eq.trans (c := false) h9.symm (by assumption))) | (rintro ⟨h8, h9⟩; exact Bool.noConfusion (Eq.trans (c := false) h8.symm (by assumption))) | (rintro ⟨h8, h9⟩; exact Bool.noConfusion (Eq.trans (c := false) h9.symm (by assumption))) | (simp only [Int32.lt_iff_toInt_lt, Int32.le_iff_toInt_le, i32_0, i32_1, i32_2, i32_3, i32_4, i32_9, i32_10, i32_99, i32_100, i32_1000, i32_9999] at *; omega))])); (try rfl))
      have hP := Eq.mp (congrArg (fun z9 => va_P D vwCl (bSt k qs qc qr ql z9 sh sc fr) H) e_4) hP
      have hD := Eq.mp (congrArg (fun z9 => va_D A (bSt k qs qc qr ql z9 sh sc fr)) e_4) hD
      exact W.iret (v := lim) hx hb hr (fun t9 ht hW => ⟨⟨_, (), rfl, (by (try simp only []); (repeat (first | rw [if_pos (by first | assumption | exact Eq.trans (b := false) (by assumption) (Eq.symm (by assumption)) | exact Eq.trans (b := true) (by assumption) (Eq.symm (by assumption)) | exact ⟨by assumption, by assumption⟩ | exact Or.inl (by assumption) | exact Or.inr (by assumption) | exact Or.inr (Or.inl (by assumption)) | exact Or.inr (Or.inr (by assumption)) | (simp only [Int32.lt_iff_toInt_lt, Int32.le_iff_toInt_le, i32_0, i32_1, i32_2, i32_3, i32_4, i32_9, i32_10, i32_99, i32_100, i32_1000, i32_9999] at *; omega))] | rw [if_neg (by first | assumption | (rintro (h9 | h9 | h9) <;> contradiction) | (rintro (h9 | h9) <;> contradiction) | (intro h9; exact Bool.noConfusion (Eq.trans (c := false) h9.symm (by assumption))) | (rintro ⟨h8, h9⟩; exact Bool.noConfusion (Eq.trans (c := false) h8.symm (by assumption))) | (rintro ⟨h8, h9⟩; exact Bool.noConfusion (Eq.trans (c := false) h9.symm (by assumption))) | (simp only [Int32.lt_iff_toInt_lt, Int32.le_iff_toInt_le, i32_0, i32_1, i32_2, i32_3, i32_4, i32_9, i32_10, i32_99, i32_100, i32_1000, i32_9999] at *; omega))])); (try rfl)), ⟨by rw [ht]; exact hP, va_K.moved hW.alike hK, hD⟩⟩, hS.F ht⟩) hS.2.2 dX11_bound_26 hlocks
    · skip
      refine lv_bipush (v := (-2)) hx hb dX11_bound_12 (by decide) ?_
      have e_5 : (lim : Int32) = if 1 ≤ x ∧ x ≤ 9999 then x else lim := by first | (with_reducible rfl) | ((try simp only []); (repeat (first | rw [if_pos (by first | assumption | exact Eq.trans (b := false) (by assumption) (Eq.symm (by assumption)) | exact Eq.trans (b := true) (by assumption) (Eq.symm (by assumption)) | exact ⟨by assumption, by assumption⟩ | exact Or.inl (by assumption) | exact Or.inr (by assumption) | exact Or.inr (Or.inl (by assumption)) | exact Or.inr (Or.inr (by assumption)) | (simp only [Int32.lt_iff_toInt_lt, Int32.le_iff_toInt_le, i32_0, i32_1, i32_2, i32_3, i32_4, i32_9, i32_10, i32_99, i32_100, i32_1000, i32_9999] at *; omega))] | rw [if_neg (by first | assumption | (rintro (h9 | h9 | h9) <;> contradiction) | (rintro (h9 | h9) <;> contradiction) | (intro h9; exact Bool.noConfusion (Eq.trans (c := false) h9.symm (by assumption))) | (rintro ⟨h8, h9⟩; exact Bool.noConfusion (Eq.trans (c := false) h8.symm (by assumption))) | (rintro ⟨h8, h9⟩; exact Bool.noConfusion (Eq.trans (c := false) h9.symm (by assumption))) | (simp only [Int32.lt_iff_toInt_lt, Int32.le_iff_toInt_le, i32_0, i32_1, i32_2, i32_3, i32_4, i32_9, i32_10, i32_99, i32_100, i32_1000, i32_9999] at *; omega))])); (try rfl))
      have hP := Eq.mp (congrArg (fun z9 => va_P D vwCl (bSt k qs qc qr ql z9 sh sc fr) H) e_5) hP
      have hD := Eq.mp (congrArg (fun z9 => va_D A (bSt k qs qc qr ql z9 sh sc fr)) e_5) hD
      exact W.iret (v := (-2)) hx hb hr (fun t9 ht hW => ⟨⟨_, (), rfl, (by (try simp only []); (repeat (first | rw [if_pos (by first | assumption | exact Eq.trans (b := false) (by assumption) (Eq.symm (by assumption)) | exact Eq.trans (b := true) (by assumption) (Eq.symm (by assumption)) | exact ⟨by assumption, by assumption⟩ | exact Or.inl (by assumption) | exact Or.inr (by assumption) | exact Or.inr (Or.inl (by assumption)) | exact Or.inr (Or.inr (by assumption)) | (simp only [Int32.lt_iff_toInt_lt, Int32.le_iff_toInt_le, i32_0, i32_1, i32_2, i32_3, i32_4, i32_9, i32_10, i32_99, i32_100, i32_1000, i32_9999] at *; omega))] | rw [if_neg (by first | assumption | (rintro (h9 | h9 | h9) <;> contradiction) | (rintro (h9 | h9) <;> contradiction) | (intro h9; exact Bool.noConfusion (Eq.trans (c := false) h9.symm (by assumption))) | (rintro ⟨h8, h9⟩; exact Bool.noConfusion (Eq.trans (c := false) h8.symm (by assumption))) | (rintro ⟨h8, h9⟩; exact Bool.noConfusion (Eq.trans (c := false) h9.symm (by assumption))) | (simp only [Int32.lt_iff_toInt_lt, Int32.le_iff_toInt_le, i32_0, i32_1, i32_2, i32_3, i32_4, i32_9, i32_10, i32_99, i32_100, i32_1000, i32_9999] at *; omega))])); (try rfl)), ⟨by rw [ht]; exact hP, va_K.moved hW.alike hK, hD⟩⟩, hS.F ht⟩) hS.2.2 dX11_bound_14 hlocks

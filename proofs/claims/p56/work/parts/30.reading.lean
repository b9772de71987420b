/-! The reading of a command text, the class's way: letters, digits, numbers. -/
def isG (ts : Nat → Int32) (tl sp : Nat) : Bool := decide (sp < tl) && rg 48 (ts sp) 57
theorem isG_in {ts : Nat → Int32} {tl sp : Nat} (h : isG ts tl sp = true) : sp < tl := by
  unfold isG at h
  rw [Bool.and_eq_true] at h
  exact of_decide_eq_true h.1
theorem isG_t {ts : Nat → Int32} {tl sp : Nat} (h : sp < tl) (h1 : ¬ ts sp < 48) (h2 : ¬ 57 < ts sp) : isG ts tl sp = true := by
  unfold isG rg
  rw [decide_eq_true h, decide_eq_true ⟨Int32.not_lt.mp h1, Int32.not_lt.mp h2⟩]
  rfl
theorem isG_f0 {ts : Nat → Int32} {tl sp : Nat} (h : ¬ sp < tl) : isG ts tl sp = false := by
  unfold isG
  rw [decide_eq_false h]
  rfl
theorem isG_f1 {ts : Nat → Int32} {tl sp : Nat} (h : ts sp < 48) : isG ts tl sp = false := by
  unfold isG rg
  rw [decide_eq_false (fun q : (48 : Int32) ≤ ts sp ∧ ts sp ≤ 57 => absurd q.1 (Int32.not_le.mpr h)), Bool.and_false]
theorem isG_f2 {ts : Nat → Int32} {tl sp : Nat} (h : ¬ ts sp ≤ 57) : isG ts tl sp = false := by
  unfold isG rg
  rw [decide_eq_false (fun q : (48 : Int32) ≤ ts sp ∧ ts sp ≤ 57 => absurd q.2 h), Bool.and_false]
def kpN (vc : Nat) : Nat := if vc < 3 then vc + 1 else vc
def kpV (cm vc : Nat) (V : Nat → Nat → Int32) (x : Int32) : Nat → Nat → Int32 := if vc < 3 then upR V cm (upd (V cm) vc x) else V
def sgC (ts : Nat → Int32) (tl sp : Nat) (z : Int32) : Bool := decide (sp < tl) && decide (ts sp = z)
theorem sgC_t {ts : Nat → Int32} {tl sp : Nat} {z : Int32} (h : sp < tl) (h2 : ts sp = z) : sgC ts tl sp z = true := by
  unfold sgC
  rw [decide_eq_true h, decide_eq_true h2]
  rfl
theorem sgC_f1 {ts : Nat → Int32} {tl sp : Nat} {z : Int32} (h : ¬ sp < tl) : sgC ts tl sp z = false := by
  unfold sgC
  rw [decide_eq_false h]
  rfl
theorem sgC_f2 {ts : Nat → Int32} {tl sp : Nat} {z : Int32} (h : ¬ ts sp = z) : sgC ts tl sp z = false := by
  unfold sgC
  rw [decide_eq_false h, Bool.and_false]
/-- the digits of a number, four at most, and its value -/
def dkC (ts : Nat → Int32) (tl sp : Nat) : Nat := fsN (fun i => !isG ts tl (sp + i)) 4
def nvC (ts : Nat → Int32) (sp m : Nat) : Int32 := up (fun i x => x * 10 + (ts (sp + i) - 48)) 0 m
theorem nvC_s (ts : Nat → Int32) (sp m : Nat) : nvC ts sp (m + 1) = nvC ts sp m * 10 + (ts (sp + m) - 48) := rfl
theorem dkC_at {ts : Nat → Int32} {tl sp i : Nat} (ha : ∀ c, c < i → isG ts tl (sp + c) = true) (hi : isG ts tl (sp + i) = false) (q : i < 4) : dkC ts tl sp = i := fsN_some (fun c hc => by rw [ha c hc]; rfl) (by rw [hi]; rfl) q
theorem dkC_no {ts : Nat → Int32} {tl sp : Nat} (ha : ∀ c, c < 4 → isG ts tl (sp + c) = true) : dkC ts tl sp = 4 := fsN_none (fun c hc => by rw [ha c hc]; rfl)

abbrev bCT (k : Nat → ClassId) (tx : Nat) (sg : Nat) (tl : Nat) (fo : Nat) (va : Nat) (cm : Nat) (vc : Nat) (sp : Nat) : va_W := [(tx, .inr (8, [.ref sg, .int (nI tl), .ref fo, .ref va, .int (nI cm), .int (nI vc), .int (nI sp)]))]
abbrev bGI (k : Nat → ClassId) (ad : Nat) (g : Nat → Nat) : va_W := [(ad, .inl (k 5, 10, .inr (.inr (.inr (.inr (fun j => some (g j)))))))]
abbrev bG3 (k : Nat → ClassId) (g : Nat → Nat) (V : Nat → Nat → Int32) : va_W := [(g 0, .inl (k 0, 3, .inl (V 0))), (g 1, .inl (k 0, 3, .inl (V 1))), (g 2, .inl (k 0, 3, .inl (V 2))), (g 3, .inl (k 0, 3, .inl (V 3))), (g 4, .inl (k 0, 3, .inl (V 4))), (g 5, .inl (k 0, 3, .inl (V 5))), (g 6, .inl (k 0, 3, .inl (V 6))), (g 7, .inl (k 0, 3, .inl (V 7))), (g 8, .inl (k 0, 3, .inl (V 8))), (g 9, .inl (k 0, 3, .inl (V 9)))]
set_option maxHeartbeats 4000000 in
set_option maxRecDepth 100000 in
theorem m_X6_isDigit (l9 : Launch) (D : va_G) (k : Nat → ClassId) (tx sg tl fo va cm vc sp : Nat) (ts : Nat → Int32)  (htl : tl ≤ 60) (hsp : sp ≤ 60) : Met l9 yX6_isDigit wsX6_isDigit ({ frames := 0, cells := 0, slots := 0, locals := 0 }) (RPc D k [.ref tx] (bCT k tx sg tl fo va cm vc sp ++ bC60 k sg ts)) (EI (bI (isG ts tl sp))) 0 0 noA := by
  refine rMet (y := yX6_isDigit) (cc := cX6_isDigit) (maxL := 1) (ret := (some .boolean)) [.ref tx] (by decide) rfl (Nat.le_of_ble_eq_true rfl) ?_
  intro p9 e9 s9 m9 bl9 me9 c9 ls hF hr hlocks hP hK hN hl
  have hl : lv_has ls 1 [(0, .ref tx)] := hl
  obtain ⟨hx, hb, hml, hown, hts⟩ := id hF
  have k_fieldLink_36 : (Cond.fieldLink RX6 36 "OpinionReactor$CommandText" "stop" "I").before _ s9 = true := hts (.fieldLink RX6 36 "OpinionReactor$CommandText" "stop" "I") (by decide +kernel)
  have kc_RX6 : ∀ w ∈ u_ws RX6 TX6 7, w ∈ wsX6_isDigit := by decide +kernel
  have k_fieldLink_15 : (Cond.fieldLink RX6 15 "OpinionReactor$CommandText" "length" "I").before _ s9 = true := hts (.fieldLink RX6 15 "OpinionReactor$CommandText" "length" "I") (by decide +kernel)
  have k_fieldLink_9 : (Cond.fieldLink RX6 9 "OpinionReactor$CommandText" "signs" "[C").before _ s9 = true := hts (.fieldLink RX6 9 "OpinionReactor$CommandText" "signs" "[C") (by decide +kernel)
  refine lv_aload_n hx hb dX6_isDigit_0 rfl (lv_at hl 0 rfl) ?_
  refine va_get (D := D) (ci := 8) (v := .int (nI sp)) (C := RX6) (T := TX6) (N := 7) hx hb hts kc_RX6 hown hK hP 0 rfl rfl 6 (by decide) k_fieldLink_36 (fun _ h9 => h9) rfl dX6_isDigit_1 ?_
  refine lv_aload_n hx hb dX6_isDigit_4 rfl (lv_at hl 0 rfl) ?_
  refine va_get (D := D) (ci := 8) (v := .int (nI tl)) (C := RX6) (T := TX6) (N := 7) hx hb hts kc_RX6 hown hK hP 0 rfl rfl 1 (by decide) k_fieldLink_15 (fun _ h9 => h9) rfl dX6_isDigit_5 ?_
  refine lv_icmp_ge (tgt := 43) hx hb dX6_isDigit_8 (by decide) (fun c_1 => ?_) (fun c_1 => ?_)
  · skip
    have c_1 : tl ≤ sp := (nI_leI (a := tl) (b := sp) (by omega) (by omega)).mp c_1
    refine lv_iconst (v := 0) hx hb dX6_isDigit_43 (by decide) ?_
    exact W.zret (v := 0) hx hb hr (rfl) (fun t9 ht hW => ⟨_, rfl, (by first | (rw [isG_t (by omega) (by assumption) (by assumption)]; rfl) | (rw [isG_t (by omega) (by assumption) (Int32.not_lt.mp (by assumption))]; rfl) | (rw [isG_f2 (Int32.not_le.mpr (by assumption))]; rfl) | (rw [isG_f0 (by omega)]; rfl) | (rw [isG_f1 (by assumption)]; rfl) | (rw [isG_f2 (by assumption)]; rfl)), ht⟩) (fun _ h => by cases h) dX6_isDigit_44 hlocks
  · skip
    have c_1 : ¬ tl ≤ sp := fun h => c_1 ((nI_leI (a := tl) (b := sp) (by omega) (by omega)).mpr h)
    refine lv_aload_n hx hb dX6_isDigit_11 rfl (lv_at hl 0 rfl) ?_
    refine va_get (D := D) (ci := 8) (v := .ref sg) (C := RX6) (T := TX6) (N := 7) hx hb hts kc_RX6 hown hK hP 0 rfl rfl 0 (by decide) k_fieldLink_9 (fun _ h9 => h9) rfl dX6_isDigit_12 ?_
    refine lv_aload_n hx hb dX6_isDigit_15 rfl (lv_at hl 0 rfl) ?_
    refine va_get (D := D) (ci := 8) (v := .int (nI sp)) (C := RX6) (T := TX6) (N := 7) hx hb hts kc_RX6 hown hK hP 0 rfl rfl 6 (by decide) k_fieldLink_36 (fun _ h9 => h9) rfl dX6_isDigit_16 ?_
    refine ca_ld hx hb hK hP 1 rfl sp (by omega) (by decide) dX6_isDigit_19 ?_
    refine lv_bipush (v := 48) hx hb dX6_isDigit_20 (by decide) ?_
    refine lv_icmp_lt (tgt := 43) hx hb dX6_isDigit_22 (by decide) (fun c_2 => ?_) (fun c_2 => ?_)
    · skip
      refine lv_iconst (v := 0) hx hb dX6_isDigit_43 (by decide) ?_
      exact W.zret (v := 0) hx hb hr (rfl) (fun t9 ht hW => ⟨_, rfl, (by first | (rw [isG_t (by omega) (by assumption) (by assumption)]; rfl) | (rw [isG_t (by omega) (by assumption) (Int32.not_lt.mp (by assumption))]; rfl) | (rw [isG_f2 (Int32.not_le.mpr (by assumption))]; rfl) | (rw [isG_f0 (by omega)]; rfl) | (rw [isG_f1 (by assumption)]; rfl) | (rw [isG_f2 (by assumption)]; rfl)), ht⟩) (fun _ h => by cases h) dX6_isDigit_44 hlocks
    · skip
      refine lv_aload_n hx hb dX6_isDigit_25 rfl (lv_at hl 0 rfl) ?_
      refine va_get (D := D) (ci := 8) (v := .ref sg) (C := RX6) (T := TX6) (N := 7) hx hb hts kc_RX6 hown hK hP 0 rfl rfl 0 (by decide) k_fieldLink_9 (fun _ h9 => h9) rfl dX6_isDigit_26 ?_
      refine lv_aload_n hx hb dX6_isDigit_29 rfl (lv_at hl 0 rfl) ?_
      refine va_get (D := D) (ci := 8) (v := .int (nI sp)) (C := RX6) (T := TX6) (N := 7) hx hb hts kc_RX6 hown hK hP 0 rfl rfl 6 (by decide) k_fieldLink_36 (fun _ h9 => h9) rfl dX6_isDigit_30 ?_
      refine ca_ld hx hb hK hP 1 rfl sp (by omega) (by decide) dX6_isDigit_33 ?_
      refine lv_bipush (v := 57) hx hb dX6_isDigit_34 (by decide) ?_
      refine lv_icmp_gt (tgt := 43) hx hb dX6_isDigit_36 (by decide) (fun c_3 => ?_) (fun c_3 => ?_)
      · skip
        refine lv_iconst (v := 0) hx hb dX6_isDigit_43 (by decide) ?_
        exact W.zret (v := 0) hx hb hr (rfl) (fun t9 ht hW => ⟨_, rfl, (by first | (rw [isG_t (by omega) (by assumption) (by assumption)]; rfl) | (rw [isG_t (by omega) (by assumption) (Int32.not_lt.mp (by assumption))]; rfl) | (rw [isG_f2 (Int32.not_le.mpr (by assumption))]; rfl) | (rw [isG_f0 (by omega)]; rfl) | (rw [isG_f1 (by assumption)]; rfl) | (rw [isG_f2 (by assumption)]; rfl)), ht⟩) (fun _ h => by cases h) dX6_isDigit_44 hlocks
      · skip
        refine lv_iconst (v := 1) hx hb dX6_isDigit_39 (by decide) ?_
        refine lv_goto (tgt := 44) hx hb dX6_isDigit_40 (by decide) ?_
        exact W.zret (v := 1) hx hb hr (rfl) (fun t9 ht hW => ⟨_, rfl, (by first | (rw [isG_t (by omega) (by assumption) (by assumption)]; rfl) | (rw [isG_t (by omega) (by assumption) (Int32.not_lt.mp (by assumption))]; rfl) | (rw [isG_f2 (Int32.not_le.mpr (by assumption))]; rfl) | (rw [isG_f0 (by omega)]; rfl) | (rw [isG_f1 (by assumption)]; rfl) | (rw [isG_f2 (by assumption)]; rfl)), ht⟩) (fun _ h => by cases h) dX6_isDigit_44 hlocks

set_option maxHeartbeats 4000000 in
set_option maxRecDepth 100000 in
theorem m_X6_keep (l9 : Launch) (D : va_G) (k : Nat → ClassId) (sz : Nat) (tx sg tl fo va cm vc sp : Nat) (gi : Nat → Nat) (V : Nat → Nat → Int32) (x : Int32) (hcm : cm < 10) (hvc : vc ≤ 3) : Met l9 yX6_keep wsX6_keep ({ frames := 0, cells := 0, slots := 0, locals := 0 }) (WPc D k [.ref tx, .int x] (bCT k tx sg tl fo va cm vc sp ++ bGI k va gi ++ bG3 k gi V) sz) (WV D k (bCT k tx sg tl fo va cm (kpN vc) sp ++ bGI k va gi ++ bG3 k gi (kpV cm vc V x)) (va_A (bCT k tx sg tl fo va cm vc sp ++ bGI k va gi ++ bG3 k gi V) sz)) 0 0 (va_A (bCT k tx sg tl fo va cm vc sp ++ bGI k va gi ++ bG3 k gi V) sz) := by
  refine wMet (y := yX6_keep) (cc := cX6_keep) (maxL := 2) (ret := none) (Qc := fun A => WV D k (bCT k tx sg tl fo va cm (kpN vc) sp ++ bGI k va gi ++ bG3 k gi (kpV cm vc V x)) A) [.ref tx, .int x] (by decide) rfl (Nat.le_of_ble_eq_true rfl) ?_
  intro p9 e9 s9 m9 bl9 me9 c9 ls A H hF hr hlocks hP hK hN hD hA hS hl hin
  have hl : lv_has ls 2 [(0, .ref tx), (1, .int x)] := hl
  obtain ⟨hx, hb, hml, hown, hts⟩ := id hF
  have k_fieldLink_30 : (Cond.fieldLink RX6 30 "OpinionReactor$CommandText" "commands" "I").before _ s9 = true := hts (.fieldLink RX6 30 "OpinionReactor$CommandText" "commands" "I") (by decide +kernel)
  have kc_RX6 : ∀ w ∈ u_ws RX6 TX6 7, w ∈ wsX6_keep := by decide +kernel
  have k_fieldLink_33 : (Cond.fieldLink RX6 33 "OpinionReactor$CommandText" "valueCount" "I").before _ s9 = true := hts (.fieldLink RX6 33 "OpinionReactor$CommandText" "valueCount" "I") (by decide +kernel)
  have k_fieldLink_27 : (Cond.fieldLink RX6 27 "OpinionReactor$CommandText" "values" "[[I").before _ s9 = true := hts (.fieldLink RX6 27 "OpinionReactor$CommandText" "values" "[[I") (by decide +kernel)
  refine lv_aload_n hx hb dX6_keep_0 rfl (lv_at hl 0 rfl) ?_
  refine va_get (D := D) (ci := 8) (v := .int (nI cm)) (C := RX6) (T := TX6) (N := 7) hx hb hts kc_RX6 hown hK hP 0 rfl rfl 4 (by decide) k_fieldLink_30 (fun _ h9 => h9) rfl dX6_keep_1 ?_
  refine lv_bipush (v := 10) hx hb dX6_keep_4 (by decide) ?_
  refine lv_icmp_ge (tgt := 42) hx hb dX6_keep_6 (by decide) (fun c_1 => ?_) (fun c_1 => ?_)
  · skip
    have c_1 : 10 ≤ cm := (nI_leI (a := 10) (b := cm) (by omega) (by omega)).mp c_1
    exact absurd hcm (by omega)
  · skip
    have c_1 : ¬ 10 ≤ cm := fun h => c_1 ((nI_leI (a := 10) (b := cm) (by omega) (by omega)).mpr h)
    refine lv_aload_n hx hb dX6_keep_9 rfl (lv_at hl 0 rfl) ?_
    refine va_get (D := D) (ci := 8) (v := .int (nI vc)) (C := RX6) (T := TX6) (N := 7) hx hb hts kc_RX6 hown hK hP 0 rfl rfl 5 (by decide) k_fieldLink_33 (fun _ h9 => h9) rfl dX6_keep_10 ?_
    refine lv_iconst (v := 3) hx hb dX6_keep_13 (by decide) ?_
    refine lv_icmp_ge (tgt := 42) hx hb dX6_keep_14 (by decide) (fun c_2 => ?_) (fun c_2 => ?_)
    · skip
      have c_2 : 3 ≤ vc := (nI_leI (a := 3) (b := vc) (by omega) (by omega)).mp c_2
      have e_3 : (vc : Nat) = kpN vc := by first | (with_reducible rfl) | (first | (unfold kpN; rw [if_pos (by omega)]; done) | (unfold kpN; rw [if_neg (by omega)]; done) | (unfold kpV; rw [if_pos (by omega)]; done) | (unfold kpV; rw [if_neg (by omega)]; done))
      have hP := Eq.mp (congrArg (fun z9 => va_P D vwCl (bCT k tx sg tl fo va cm z9 sp ++ bGI k va gi ++ bG3 k gi V) H) e_3) hP
      have hD := Eq.mp (congrArg (fun z9 => va_D A (bCT k tx sg tl fo va cm z9 sp ++ bGI k va gi ++ bG3 k gi V)) e_3) hD
      have e_4 : (V : Nat → Nat → Int32) = kpV cm vc V x := by first | (with_reducible rfl) | (first | (unfold kpN; rw [if_pos (by omega)]; done) | (unfold kpN; rw [if_neg (by omega)]; done) | (unfold kpV; rw [if_pos (by omega)]; done) | (unfold kpV; rw [if_neg (by omega)]; done))
      have hP := Eq.mp (congrArg (fun z9 => va_P D vwCl (bCT k tx sg tl fo va cm (kpN vc) sp ++ bGI k va gi ++ bG3 k gi z9) H) e_4) hP
      have hD := Eq.mp (congrArg (fun z9 => va_D A (bCT k tx sg tl fo va cm (kpN vc) sp ++ bGI k va gi ++ bG3 k gi z9)) e_4) hD
      exact W.vret hx hb hr (fun t9 ht hW => ⟨⟨(), rfl, trivial, ⟨by rw [ht]; exact hP, va_K.moved hW.alike hK, hD⟩⟩, hS.F ht⟩) hS.2.2 dX6_keep_42 hlocks
    · skip
      have c_2 : ¬ 3 ≤ vc := fun h => c_2 ((nI_leI (a := 3) (b := vc) (by omega) (by omega)).mpr h)
      refine lv_aload_n hx hb dX6_keep_17 rfl (lv_at hl 0 rfl) ?_
      refine va_get (D := D) (ci := 8) (v := .ref va) (C := RX6) (T := TX6) (N := 7) hx hb hts kc_RX6 hown hK hP 0 rfl rfl 3 (by decide) k_fieldLink_27 (fun _ h9 => h9) rfl dX6_keep_18 ?_
      refine lv_aload_n hx hb dX6_keep_21 rfl (lv_at hl 0 rfl) ?_
      refine va_get (D := D) (ci := 8) (v := .int (nI cm)) (C := RX6) (T := TX6) (N := 7) hx hb hts kc_RX6 hown hK hP 0 rfl rfl 4 (by decide) k_fieldLink_30 (fun _ h9 => h9) rfl dX6_keep_22 ?_
      refine ar_ld hx hb hK hP 1 5 (x := gi cm) rfl rfl rfl cm (by omega) (by decide) rfl dX6_keep_25 ?_
      refine lv_aload_n hx hb dX6_keep_26 rfl (lv_at hl 0 rfl) ?_
      refine va_get (D := D) (ci := 8) (v := .int (nI vc)) (C := RX6) (T := TX6) (N := 7) hx hb hts kc_RX6 hown hK hP 0 rfl rfl 5 (by decide) k_fieldLink_33 (fun _ h9 => h9) rfl dX6_keep_27 ?_
      refine lv_iload_n hx hb dX6_keep_30 rfl (lv_at hl 1 rfl) ?_
      refine ia_st hx hb hK hP hD hS (2 + cm) (n := 3) (f := V cm) (by have h9 := lt10 (j := cm) (by omega); rcases h9 with h9 | h9 | h9 | h9 | h9 | h9 | h9 | h9 | h9 | h9 <;> rw [h9] <;> rfl) vc (by omega) (by decide) (bCT k tx sg tl fo va cm vc sp ++ bGI k va gi ++ bG3 k gi (upR V cm (upd (V cm) vc x))) (by have h9 := lt10 (j := cm) (by omega); rcases h9 with h9 | h9 | h9 | h9 | h9 | h9 | h9 | h9 | h9 | h9 <;> rw [h9] <;> rfl) dX6_keep_31 (fun H locs hP hD hS => ?_)
      refine lv_aload_n hx hb dX6_keep_32 rfl (lv_at hl 0 rfl) ?_
      refine lv_dup hx hb dX6_keep_33 rfl ?_
      refine va_get (D := D) (ci := 8) (v := .int (nI vc)) (C := RX6) (T := TX6) (N := 7) hx hb hts kc_RX6 hown hK hP 0 rfl rfl 5 (by decide) k_fieldLink_33 (fun _ h9 => h9) rfl dX6_keep_34 ?_
      refine lv_iconst (v := 1) hx hb dX6_keep_37 (by decide) ?_
      refine ni_add hx hb vc 1 dX6_keep_38 ?_
      refine va_put (D := D) (ci := 8) (v := .int (nI (vc + 1))) (ty := .int) (C := RX6) (T := TX6) (N := 7) hx hb hts kc_RX6 tyX6 tyX6_ok nmX6 hown hK hP hD hS 0 rfl rfl 5 (by decide) k_fieldLink_33 (fun _ h9 => h9) rfl (by decide +kernel) rfl rfl (Nat.le_of_ble_eq_true rfl) dX6_keep_39 (fun H locs hP hD hS => ?_)
      have hP : va_P D vwCl (bCT k tx sg tl fo va cm (vc + 1) sp ++ bGI k va gi ++ bG3 k gi (upR V cm (upd (V cm) vc x))) H := hP
      have hD : va_D A (bCT k tx sg tl fo va cm (vc + 1) sp ++ bGI k va gi ++ bG3 k gi (upR V cm (upd (V cm) vc x))) := hD
      have e_5 : (vc + 1 : Nat) = kpN vc := by first | (with_reducible rfl) | (first | (unfold kpN; rw [if_pos (by omega)]; done) | (unfold kpN; rw [if_neg (by omega)]; done) | (unfold kpV; rw [if_pos (by omega)]; done) | (unfold kpV; rw [if_neg (by omega)]; done))
      have hP := Eq.mp (congrArg (fun z9 => va_P D vwCl (bCT k tx sg tl fo va cm z9 sp ++ bGI k va gi ++ bG3 k gi (upR V cm (upd (V cm) vc x))) H) e_5) hP
      have hD := Eq.mp (congrArg (fun z9 => va_D A (bCT k tx sg tl fo va cm z9 sp ++ bGI k va gi ++ bG3 k gi (upR V cm (upd (V cm) vc x)))) e_5) hD
      have e_6 : (upR V cm (upd (V cm) vc x) : Nat → Nat → Int32) = kpV cm vc V x := by first | (with_reducible rfl) | (first | (unfold kpN; rw [if_pos (by omega)]; done) | (unfold kpN; rw [if_neg (by omega)]; done) | (unfold kpV; rw [if_pos (by omega)]; done) | (unfold kpV; rw [if_neg (by omega)]; done))
      have hP := Eq.mp (congrArg (fun z9 => va_P D vwCl (bCT k tx sg tl fo va cm (kpN vc) sp ++ bGI k va gi ++ bG3 k gi z9) H) e_6) hP
      have hD := Eq.mp (congrArg (fun z9 => va_D A (bCT k tx sg tl fo va cm (kpN vc) sp ++ bGI k va gi ++ bG3 k gi z9)) e_6) hD
      exact W.vret hx hb hr (fun t9 ht hW => ⟨⟨(), rfl, trivial, ⟨by rw [ht]; exact hP, va_K.moved hW.alike hK, hD⟩⟩, hS.F ht⟩) hS.2.2 dX6_keep_42 hlocks

set_option maxHeartbeats 4000000 in
set_option maxRecDepth 100000 in
theorem m_X6_takesSign (l9 : Launch) (D : va_G) (k : Nat → ClassId) (sz : Nat) (tx sg tl fo va cm vc sp : Nat) (ts : Nat → Int32) (z : Int32) (htl : tl ≤ 60) (hsp : sp ≤ 60) : Met l9 yX6_takesSign wsX6_takesSign ({ frames := 0, cells := 0, slots := 0, locals := 0 }) (WPc D k [.ref tx, .int z] (bCT k tx sg tl fo va cm vc sp ++ bC60 k sg ts) sz) (WI D k (bCT k tx sg tl fo va cm vc (if (sgC ts tl sp z) = true then sp + 1 else sp) ++ bC60 k sg ts) (bI (sgC ts tl sp z)) (va_A (bCT k tx sg tl fo va cm vc sp ++ bC60 k sg ts) sz)) 0 0 (va_A (bCT k tx sg tl fo va cm vc sp ++ bC60 k sg ts) sz) := by
  refine wMet (y := yX6_takesSign) (cc := cX6_takesSign) (maxL := 2) (ret := (some .boolean)) (Qc := fun A => WI D k (bCT k tx sg tl fo va cm vc (if (sgC ts tl sp z) = true then sp + 1 else sp) ++ bC60 k sg ts) (bI (sgC ts tl sp z)) A) [.ref tx, .int z] (by decide) rfl (Nat.le_of_ble_eq_true rfl) ?_
  intro p9 e9 s9 m9 bl9 me9 c9 ls A H hF hr hlocks hP hK hN hD hA hS hl hin
  have hl : lv_has ls 2 [(0, .ref tx), (1, .int z)] := hl
  obtain ⟨hx, hb, hml, hown, hts⟩ := id hF
  have k_fieldLink_36 : (Cond.fieldLink RX6 36 "OpinionReactor$CommandText" "stop" "I").before _ s9 = true := hts (.fieldLink RX6 36 "OpinionReactor$CommandText" "stop" "I") (by decide +kernel)
  have kc_RX6 : ∀ w ∈ u_ws RX6 TX6 7, w ∈ wsX6_takesSign := by decide +kernel
  have k_fieldLink_15 : (Cond.fieldLink RX6 15 "OpinionReactor$CommandText" "length" "I").before _ s9 = true := hts (.fieldLink RX6 15 "OpinionReactor$CommandText" "length" "I") (by decide +kernel)
  have k_fieldLink_9 : (Cond.fieldLink RX6 9 "OpinionReactor$CommandText" "signs" "[C").before _ s9 = true := hts (.fieldLink RX6 9 "OpinionReactor$CommandText" "signs" "[C") (by decide +kernel)
  refine lv_aload_n hx hb dX6_takesSign_0 rfl (lv_at hl 0 rfl) ?_
  refine va_get (D := D) (ci := 8) (v := .int (nI sp)) (C := RX6) (T := TX6) (N := 7) hx hb hts kc_RX6 hown hK hP 0 rfl rfl 6 (by decide) k_fieldLink_36 (fun _ h9 => h9) rfl dX6_takesSign_1 ?_
  refine lv_aload_n hx hb dX6_takesSign_4 rfl (lv_at hl 0 rfl) ?_
  refine va_get (D := D) (ci := 8) (v := .int (nI tl)) (C := RX6) (T := TX6) (N := 7) hx hb hts kc_RX6 hown hK hP 0 rfl rfl 1 (by decide) k_fieldLink_15 (fun _ h9 => h9) rfl dX6_takesSign_5 ?_
  refine lv_icmp_ge (tgt := 24) hx hb dX6_takesSign_8 (by decide) (fun c_1 => ?_) (fun c_1 => ?_)
  · skip
    have c_1 : tl ≤ sp := (nI_leI (a := tl) (b := sp) (by omega) (by omega)).mp c_1
    refine lv_iconst (v := 0) hx hb dX6_takesSign_24 (by decide) ?_
    have e_2 : (sp : Nat) = if (sgC ts tl sp z) = true then sp + 1 else sp := by first | (with_reducible rfl) | (first | (rw [sgC_t (by omega) (by assumption)]; rfl) | (rw [sgC_f1 (by omega)]; rfl) | (rw [sgC_f2 (by assumption)]; rfl))
    have hP := Eq.mp (congrArg (fun z9 => va_P D vwCl (bCT k tx sg tl fo va cm vc z9 ++ bC60 k sg ts) H) e_2) hP
    have hD := Eq.mp (congrArg (fun z9 => va_D A (bCT k tx sg tl fo va cm vc z9 ++ bC60 k sg ts)) e_2) hD
    exact W.zret (v := 0) hx hb hr (rfl) (fun t9 ht hW => ⟨⟨_, (), rfl, (by first | (rw [sgC_t (by omega) (by assumption)]; rfl) | (rw [sgC_f1 (by omega)]; rfl) | (rw [sgC_f2 (by assumption)]; rfl)), ⟨by rw [ht]; exact hP, va_K.moved hW.alike hK, hD⟩⟩, hS.F ht⟩) hS.2.2 dX6_takesSign_25 hlocks
  · skip
    have c_1 : ¬ tl ≤ sp := fun h => c_1 ((nI_leI (a := tl) (b := sp) (by omega) (by omega)).mpr h)
    refine lv_aload_n hx hb dX6_takesSign_11 rfl (lv_at hl 0 rfl) ?_
    refine va_get (D := D) (ci := 8) (v := .ref sg) (C := RX6) (T := TX6) (N := 7) hx hb hts kc_RX6 hown hK hP 0 rfl rfl 0 (by decide) k_fieldLink_9 (fun _ h9 => h9) rfl dX6_takesSign_12 ?_
    refine lv_aload_n hx hb dX6_takesSign_15 rfl (lv_at hl 0 rfl) ?_
    refine va_get (D := D) (ci := 8) (v := .int (nI sp)) (C := RX6) (T := TX6) (N := 7) hx hb hts kc_RX6 hown hK hP 0 rfl rfl 6 (by decide) k_fieldLink_36 (fun _ h9 => h9) rfl dX6_takesSign_16 ?_
    refine ca_ld hx hb hK hP 1 rfl sp (by omega) (by decide) dX6_takesSign_19 ?_
    refine lv_iload_n hx hb dX6_takesSign_20 rfl (lv_at hl 1 rfl) ?_
    refine lv_icmp_eq (tgt := 26) hx hb dX6_takesSign_21 (by decide) (fun c_3 => ?_) (fun c_3 => ?_)
    · skip
      refine lv_aload_n hx hb dX6_takesSign_26 rfl (lv_at hl 0 rfl) ?_
      refine lv_dup hx hb dX6_takesSign_27 rfl ?_
      refine va_get (D := D) (ci := 8) (v := .int (nI sp)) (C := RX6) (T := TX6) (N := 7) hx hb hts kc_RX6 hown hK hP 0 rfl rfl 6 (by decide) k_fieldLink_36 (fun _ h9 => h9) rfl dX6_takesSign_28 ?_
      refine lv_iconst (v := 1) hx hb dX6_takesSign_31 (by decide) ?_
      refine ni_add hx hb sp 1 dX6_takesSign_32 ?_
      refine va_put (D := D) (ci := 8) (v := .int (nI (sp + 1))) (ty := .int) (C := RX6) (T := TX6) (N := 7) hx hb hts kc_RX6 tyX6 tyX6_ok nmX6 hown hK hP hD hS 0 rfl rfl 6 (by decide) k_fieldLink_36 (fun _ h9 => h9) rfl (by decide +kernel) rfl rfl (Nat.le_of_ble_eq_true rfl) dX6_takesSign_33 (fun H locs hP hD hS => ?_)
      have hP : va_P D vwCl (bCT k tx sg tl fo va cm vc (sp + 1) ++ bC60 k sg ts) H := hP
      have hD : va_D A (bCT k tx sg tl fo va cm vc (sp + 1) ++ bC60 k sg ts) := hD
      refine lv_iconst (v := 1) hx hb dX6_takesSign_36 (by decide) ?_
      have e_4 : (sp + 1 : Nat) = if (sgC ts tl sp z) = true then sp + 1 else sp := by first | (with_reducible rfl) | (first | (rw [sgC_t (by omega) (by assumption)]; rfl) | (rw [sgC_f1 (by omega)]; rfl) | (rw [sgC_f2 (by assumption)]; rfl))
      have hP := Eq.mp (congrArg (fun z9 => va_P D vwCl (bCT k tx sg tl fo va cm vc z9 ++ bC60 k sg ts) H) e_4) hP
      have hD := Eq.mp (congrArg (fun z9 => va_D A (bCT k tx sg tl fo va cm vc z9 ++ bC60 k sg ts)) e_4) hD
      exact W.zret (v := 1) hx hb hr (rfl) (fun t9 ht hW => ⟨⟨_, (), rfl, (by first | (rw [sgC_t (by omega) (by assumption)]; rfl) | (rw [sgC_f1 (by omega)]; rfl) | (rw [sgC_f2 (by assumption)]; rfl)), ⟨by rw [ht]; exact hP, va_K.moved hW.alike hK, hD⟩⟩, hS.F ht⟩) hS.2.2 dX6_takesSign_37 hlocks
    · skip
      refine lv_iconst (v := 0) hx hb dX6_takesSign_24 (by decide) ?_
      have e_5 : (sp : Nat) = if (sgC ts tl sp z) = true then sp + 1 else sp := by first | (with_reducible rfl) | (first | (rw [sgC_t (by omega) (by assumption)]; rfl) | (rw [sgC_f1 (by omega)]; rfl) | (rw [sgC_f2 (by assumption)]; rfl))
      have hP := Eq.mp (congrArg (fun z9 => va_P D vwCl (bCT k tx sg tl fo va cm vc z9 ++ bC60 k sg ts) H) e_5) hP
      have hD := Eq.mp (congrArg (fun z9 => va_D A (bCT k tx sg tl fo va cm vc z9 ++ bC60 k sg ts)) e_5) hD
      exact W.zret (v := 0) hx hb hr (rfl) (fun t9 ht hW => ⟨⟨_, (), rfl, (by first | (rw [sgC_t (by omega) (by assumption)]; rfl) | (rw [sgC_f1 (by omega)]; rfl) | (rw [sgC_f2 (by assumption)]; rfl)), ⟨by rw [ht]; exact hP, va_K.moved hW.alike hK, hD⟩⟩, hS.F ht⟩) hS.2.2 dX6_takesSign_25 hlocks

set_option maxHeartbeats 4000000 in
set_option maxRecDepth 100000 in
theorem m_X6_takesDigit (l9 : Launch) (D : va_G) (k : Nat → ClassId) (sz : Nat) (tx sg tl fo va cm vc sp : Nat) (ts : Nat → Int32) (gi : Nat → Nat) (V : Nat → Nat → Int32)  (htl : tl ≤ 60) (hsp : sp ≤ 60) (hcm : cm < 10) (hvc : vc ≤ 3) : Met l9 yX6_takesDigit wsX6_takesDigit ({ frames := 1, cells := 0, slots := 0, locals := 21 }) (WPc D k [.ref tx] (bCT k tx sg tl fo va cm vc sp ++ bC60 k sg ts ++ bGI k va gi ++ bG3 k gi V) sz) (WI D k (bCT k tx sg tl fo va cm (if isG ts tl sp = true then kpN vc else vc) (if isG ts tl sp = true then sp + 1 else sp) ++ bC60 k sg ts ++ bGI k va gi ++ bG3 k gi (if isG ts tl sp = true then kpV cm vc V (ts sp - 48) else V)) (bI (isG ts tl sp)) (va_A (bCT k tx sg tl fo va cm vc sp ++ bC60 k sg ts ++ bGI k va gi ++ bG3 k gi V) sz)) 0 0 (va_A (bCT k tx sg tl fo va cm vc sp ++ bC60 k sg ts ++ bGI k va gi ++ bG3 k gi V) sz) := by
  refine wMet (y := yX6_takesDigit) (cc := cX6_takesDigit) (maxL := 1) (ret := (some .boolean)) (Qc := fun A => WI D k (bCT k tx sg tl fo va cm (if isG ts tl sp = true then kpN vc else vc) (if isG ts tl sp = true then sp + 1 else sp) ++ bC60 k sg ts ++ bGI k va gi ++ bG3 k gi (if isG ts tl sp = true then kpV cm vc V (ts sp - 48) else V)) (bI (isG ts tl sp)) A) [.ref tx] (by decide) rfl (Nat.le_of_ble_eq_true rfl) ?_
  intro p9 e9 s9 m9 bl9 me9 c9 ls A H hF hr hlocks hP hK hN hD hA hS hl hin
  have hl : lv_has ls 1 [(0, .ref tx)] := hl
  obtain ⟨hx, hb, hml, hown, hts⟩ := id hF
  have k_fieldLink_9 : (Cond.fieldLink RX6 9 "OpinionReactor$CommandText" "signs" "[C").before _ s9 = true := hts (.fieldLink RX6 9 "OpinionReactor$CommandText" "signs" "[C") (by decide +kernel)
  have kc_RX6 : ∀ w ∈ u_ws RX6 TX6 7, w ∈ wsX6_takesDigit := by decide +kernel
  have k_fieldLink_36 : (Cond.fieldLink RX6 36 "OpinionReactor$CommandText" "stop" "I").before _ s9 = true := hts (.fieldLink RX6 36 "OpinionReactor$CommandText" "stop" "I") (by decide +kernel)
  refine lv_aload_n hx hb dX6_takesDigit_0 rfl (lv_at hl 0 rfl) ?_
  refine vp_callSi (W.runV (As := []) (rest := []) hF (m_X6_isDigit l9 D k tx sg tl fo va cm vc sp ts (by omega) (by omega)) (cwV 0 hts gX6_takesDigit_X6_isDigit rfl rfl rfl (by decide +kernel) ⟨Nat.le_of_ble_eq_true rfl, Nat.le_of_ble_eq_true rfl⟩) (rPreV hK hN hP [0, 1] rfl 0 8 rfl rfl) rfl rfl hl.1 rfl (lv_room (Nat.le_of_ble_eq_true rfl)) dX6_takesDigit_1 ⟨Nat.zero_le _, Nat.zero_le _⟩) (fun r_1 hr_1 => ?_)
  subst hr_1
  refine lv_if_ne (tgt := 9) hx hb dX6_takesDigit_4 (by decide) (fun c_2 => ?_) (fun c_2 => ?_)
  · skip
    have c_2 : (isG ts tl sp) = true := bI_1 c_2
    refine lv_aload_n hx hb dX6_takesDigit_9 rfl (lv_at hl 0 rfl) ?_
    refine lv_aload_n hx hb dX6_takesDigit_10 rfl (lv_at hl 0 rfl) ?_
    refine va_get (D := D) (ci := 8) (v := .ref sg) (C := RX6) (T := TX6) (N := 7) hx hb hts kc_RX6 hown hK hP 0 rfl rfl 0 (by decide) k_fieldLink_9 (fun _ h9 => h9) rfl dX6_takesDigit_11 ?_
    refine lv_aload_n hx hb dX6_takesDigit_14 rfl (lv_at hl 0 rfl) ?_
    refine va_get (D := D) (ci := 8) (v := .int (nI sp)) (C := RX6) (T := TX6) (N := 7) hx hb hts kc_RX6 hown hK hP 0 rfl rfl 6 (by decide) k_fieldLink_36 (fun _ h9 => h9) rfl dX6_takesDigit_15 ?_
    refine ca_ld hx hb hK hP 1 rfl sp (by have := isG_in (ts := ts) (tl := tl) (sp := sp) (by assumption); omega) (by decide) dX6_takesDigit_18 ?_
    refine lv_bipush (v := 48) hx hb dX6_takesDigit_19 (by decide) ?_
    refine lv_isub hx hb dX6_takesDigit_21 ?_
    have hq9 := mp_of (ws := bCT k tx sg tl fo va cm vc sp ++ bC60 k sg ts ++ bGI k va gi ++ bG3 k gi V) (wc := bCT k tx sg tl fo va cm vc sp ++ bGI k va gi ++ bG3 k gi V) (is := [0, 2, 3, 4, 5, 6, 7, 8, 9, 10, 11, 12]) rfl
    have hFc := va_free (wc := bCT k tx sg tl fo va cm vc sp ++ bGI k va gi ++ bG3 k gi V) hD hS hA [0, 2, 3, 4, 5, 6, 7, 8, 9, 10, 11, 12] hq9
    refine va_callv (va_runV (As := [.int ((ts sp) - 48)]) (rest := []) hF (m_X6_keep l9 D k H.size tx sg tl fo va cm vc sp gi V ((ts sp) - 48) hcm hvc) (cwV 1 hts gX6_takesDigit_X6_keep rfl rfl rfl (by decide +kernel) ⟨Nat.le_of_ble_eq_true rfl, Nat.le_of_ble_eq_true rfl⟩) (wPreV hK hN hP hD [0, 2, 3, 4, 5, 6, 7, 8, 9, 10, 11, 12] (fm_of hq9) (by decide) hq9 0 8 rfl rfl) rfl rfl hl.1 rfl (lv_room (Nat.le_of_ble_eq_true rfl)) dX6_takesDigit_22 ⟨Nat.zero_le _, Nat.zero_le _⟩) hS (fun q _ h => hFc q h) hFc (fun u9 t9 H1 locs ht hvm hw hB hz1 hk1 hS => ?_)
    obtain ⟨hP, hD⟩ := wjoin9 (wr := bC60 k sg ts) (wf := bCT k tx sg tl fo va cm (kpN vc) sp ++ bC60 k sg ts ++ bGI k va gi ++ bG3 k gi (kpV cm vc V ((ts sp) - 48))) hP hD [0, 2, 3, 4, 5, 6, 7, 8, 9, 10, 11, 12] [1] [1, 0, 2, 3, 4, 5, 6, 7, 8, 9, 10, 11, 12] hq9 rfl (by decide) (by decide) hk1 hFc hB ht rfl (by decide)
    clear hB hk1 hz1 hvm hFc hq9
    clear ht
    clear t9
    generalize H1 = H at hP hS ⊢
    refine lv_aload_n hx hb dX6_takesDigit_25 rfl (lv_at hl 0 rfl) ?_
    refine lv_dup hx hb dX6_takesDigit_26 rfl ?_
    refine va_get (D := D) (ci := 8) (v := .int (nI sp)) (C := RX6) (T := TX6) (N := 7) hx hb hts kc_RX6 hown hK hP 0 rfl rfl 6 (by decide) k_fieldLink_36 (fun _ h9 => h9) rfl dX6_takesDigit_27 ?_
    refine lv_iconst (v := 1) hx hb dX6_takesDigit_30 (by decide) ?_
    refine ni_add hx hb sp 1 dX6_takesDigit_31 ?_
    refine va_put (D := D) (ci := 8) (v := .int (nI (sp + 1))) (ty := .int) (C := RX6) (T := TX6) (N := 7) hx hb hts kc_RX6 tyX6 tyX6_ok nmX6 hown hK hP hD hS 0 rfl rfl 6 (by decide) k_fieldLink_36 (fun _ h9 => h9) rfl (by decide +kernel) rfl rfl (Nat.le_of_ble_eq_true rfl) dX6_takesDigit_32 (fun H locs hP hD hS => ?_)
    have hP : va_P D vwCl (bCT k tx sg tl fo va cm (kpN vc) (sp + 1) ++ bC60 k sg ts ++ bGI k va gi ++ bG3 k gi (kpV cm vc V ((ts sp) - 48))) H := hP
    have hD : va_D A (bCT k tx sg tl fo va cm (kpN vc) (sp + 1) ++ bC60 k sg ts ++ bGI k va gi ++ bG3 k gi (kpV cm vc V ((ts sp) - 48))) := hD
    refine lv_iconst (v := 1) hx hb dX6_takesDigit_35 (by decide) ?_
    have e_3 : (kpN vc : Nat) = if isG ts tl sp = true then kpN vc else vc := by first | (with_reducible rfl) | (first | (rw [if_pos (by assumption)]; done) | (rw [if_neg (fun h9 => Bool.noConfusion (Eq.trans (Eq.symm h9) (by assumption)))]; done) | (rw [show isG ts tl sp = true by assumption]; rfl) | (rw [show isG ts tl sp = false by assumption]; rfl))
    have hP := Eq.mp (congrArg (fun z9 => va_P D vwCl (bCT k tx sg tl fo va cm z9 (sp + 1) ++ bC60 k sg ts ++ bGI k va gi ++ bG3 k gi (kpV cm vc V ((ts sp) - 48))) H) e_3) hP
    have hD := Eq.mp (congrArg (fun z9 => va_D A (bCT k tx sg tl fo va cm z9 (sp + 1) ++ bC60 k sg ts ++ bGI k va gi ++ bG3 k gi (kpV cm vc V ((ts sp) - 48)))) e_3) hD
    have e_4 : (sp + 1 : Nat) = if isG ts tl sp = true then sp + 1 else sp := by first | (with_reducible rfl) | (first | (rw [if_pos (by assumption)]; done) | (rw [if_neg (fun h9 => Bool.noConfusion (Eq.trans (Eq.symm h9) (by assumption)))]; done) | (rw [show isG ts tl sp = true by assumption]; rfl) | (rw [show isG ts tl sp = false by assumption]; rfl))
    have hP := Eq.mp (congrArg (fun z9 => va_P D vwCl (bCT k tx sg tl fo va cm (if isG ts tl sp = true then kpN vc else vc) z9 ++ bC60 k sg ts ++ bGI k va gi ++ bG3 k gi (kpV cm vc V ((ts sp) - 48))) H) e_4) hP
    have hD := Eq.mp (congrArg (fun z9 => va_D A (bCT k tx sg tl fo va cm (if isG ts tl sp = true then kpN vc else vc) z9 ++ bC60 k sg ts ++ bGI k va gi ++ bG3 k gi (kpV cm vc V ((ts sp) - 48)))) e_4) hD
    have e_5 : (kpV cm vc V ((ts sp) - 48) : Nat → Nat → Int32) = if isG ts tl sp = true then kpV cm vc V (ts sp - 48) else V := by first | (with_reducible rfl) | (first | (rw [if_pos (by assumption)]; done) | (rw [if_neg (fun h9 => Bool.noConfusion (Eq.trans (Eq.symm h9) (by assumption)))]; done) | (rw [show isG ts tl sp = true by assumption]; rfl) | (rw [show isG ts tl sp = false by assumption]; rfl))
    have hP := Eq.mp (congrArg (fun z9 => va_P D vwCl (bCT k tx sg tl fo va cm (if isG ts tl sp = true then kpN vc else vc) (if isG ts tl sp = true then sp + 1 else sp) ++ bC60 k sg ts ++ bGI k va gi ++ bG3 k gi z9) H) e_5) hP
    have hD := Eq.mp (congrArg (fun z9 => va_D A (bCT k tx sg tl fo va cm (if isG ts tl sp = true then kpN vc else vc) (if isG ts tl sp = true then sp + 1 else sp) ++ bC60 k sg ts ++ bGI k va gi ++ bG3 k gi z9)) e_5) hD
    exact W.zret (v := 1) hx hb hr (rfl) (fun t9 ht hW => ⟨⟨_, (), rfl, (by first | (rw [if_pos (by assumption)]; done) | (rw [if_neg (fun h9 => Bool.noConfusion (Eq.trans (Eq.symm h9) (by assumption)))]; done) | (rw [show isG ts tl sp = true by assumption]; rfl) | (rw [show isG ts tl sp = false by assumption]; rfl)), ⟨by rw [ht]; exact hP, va_K.moved hW.alike hK, hD⟩⟩, hS.F ht⟩) hS.2.2 dX6_takesDigit_36 hlocks
  · skip
    have c_2 : (isG ts tl sp) = false := bI_0 c_2
    refine lv_iconst (v := 0) hx hb dX6_takesDigit_7 (by decide) ?_
    have e_6 : (vc : Nat) = if isG ts tl sp = true then kpN vc else vc := by first | (with_reducible rfl) | (first | (rw [if_pos (by assumption)]; done) | (rw [if_neg (fun h9 => Bool.noConfusion (Eq.trans (Eq.symm h9) (by assumption)))]; done) | (rw [show isG ts tl sp = true by assumption]; rfl) | (rw [show isG ts tl sp = false by assumption]; rfl))
    have hP := Eq.mp (congrArg (fun z9 => va_P D vwCl (bCT k tx sg tl fo va cm z9 sp ++ bC60 k sg ts ++ bGI k va gi ++ bG3 k gi V) H) e_6) hP
    have hD := Eq.mp (congrArg (fun z9 => va_D A (bCT k tx sg tl fo va cm z9 sp ++ bC60 k sg ts ++ bGI k va gi ++ bG3 k gi V)) e_6) hD
    have e_7 : (sp : Nat) = if isG ts tl sp = true then sp + 1 else sp := by first | (with_reducible rfl) | (first | (rw [if_pos (by assumption)]; done) | (rw [if_neg (fun h9 => Bool.noConfusion (Eq.trans (Eq.symm h9) (by assumption)))]; done) | (rw [show isG ts tl sp = true by assumption]; rfl) | (rw [show isG ts tl sp = false by assumption]; rfl))
    have hP := Eq.mp (congrArg (fun z9 => va_P D vwCl (bCT k tx sg tl fo va cm (if isG ts tl sp = true then kpN vc else vc) z9 ++ bC60 k sg ts ++ bGI k va gi ++ bG3 k gi V) H) e_7) hP
    have hD := Eq.mp (congrArg (fun z9 => va_D A (bCT k tx sg tl fo va cm (if isG ts tl sp = true then kpN vc else vc) z9 ++ bC60 k sg ts ++ bGI k va gi ++ bG3 k gi V)) e_7) hD
    have e_8 : (V : Nat → Nat → Int32) = if isG ts tl sp = true then kpV cm vc V (ts sp - 48) else V := by first | (with_reducible rfl) | (first | (rw [if_pos (by assumption)]; done) | (rw [if_neg (fun h9 => Bool.noConfusion (Eq.trans (Eq.symm h9) (by assumption)))]; done) | (rw [show isG ts tl sp = true by assumption]; rfl) | (rw [show isG ts tl sp = false by assumption]; rfl))
    have hP := Eq.mp (congrArg (fun z9 => va_P D vwCl (bCT k tx sg tl fo va cm (if isG ts tl sp = true then kpN vc else vc) (if isG ts tl sp = true then sp + 1 else sp) ++ bC60 k sg ts ++ bGI k va gi ++ bG3 k gi z9) H) e_8) hP
    have hD := Eq.mp (congrArg (fun z9 => va_D A (bCT k tx sg tl fo va cm (if isG ts tl sp = true then kpN vc else vc) (if isG ts tl sp = true then sp + 1 else sp) ++ bC60 k sg ts ++ bGI k va gi ++ bG3 k gi z9)) e_8) hD
    exact W.zret (v := 0) hx hb hr (rfl) (fun t9 ht hW => ⟨⟨_, (), rfl, (by first | (rw [if_pos (by assumption)]; done) | (rw [if_neg (fun h9 => Bool.noConfusion (Eq.trans (Eq.symm h9) (by assumption)))]; done) | (rw [show isG ts tl sp = true by assumption]; rfl) | (rw [show isG ts tl sp = false by assumption]; rfl)), ⟨by rw [ht]; exact hP, va_K.moved hW.alike hK, hD⟩⟩, hS.F ht⟩) hS.2.2 dX6_takesDigit_8 hlocks

set_option maxHeartbeats 4000000 in
set_option maxRecDepth 100000 in
theorem m_X6_takesNumber (l9 : Launch) (D : va_G) (k : Nat → ClassId) (sz : Nat) (tx sg tl fo va cm vc sp : Nat) (ts : Nat → Int32) (gi : Nat → Nat) (V : Nat → Nat → Int32)  (htl : tl ≤ 60) (hsp : sp ≤ 60) (hcm : cm < 10) (hvc : vc ≤ 3) : Met l9 yX6_takesNumber wsX6_takesNumber ({ frames := 1, cells := 0, slots := 0, locals := 21 }) (WPc D k [.ref tx] (bCT k tx sg tl fo va cm vc sp ++ bC60 k sg ts ++ bGI k va gi ++ bG3 k gi V) sz) (WI D k (bCT k tx sg tl fo va cm (if isG ts tl sp = true then kpN vc else vc) (if isG ts tl sp = true then sp + (dkC ts tl sp) else sp) ++ bC60 k sg ts ++ bGI k va gi ++ bG3 k gi (if isG ts tl sp = true then kpV cm vc V (nvC ts sp (dkC ts tl sp)) else V)) (bI (isG ts tl sp)) (va_A (bCT k tx sg tl fo va cm vc sp ++ bC60 k sg ts ++ bGI k va gi ++ bG3 k gi V) sz)) 0 0 (va_A (bCT k tx sg tl fo va cm vc sp ++ bC60 k sg ts ++ bGI k va gi ++ bG3 k gi V) sz) := by
  refine wMet (y := yX6_takesNumber) (cc := cX6_takesNumber) (maxL := 3) (ret := (some .boolean)) (Qc := fun A => WI D k (bCT k tx sg tl fo va cm (if isG ts tl sp = true then kpN vc else vc) (if isG ts tl sp = true then sp + (dkC ts tl sp) else sp) ++ bC60 k sg ts ++ bGI k va gi ++ bG3 k gi (if isG ts tl sp = true then kpV cm vc V (nvC ts sp (dkC ts tl sp)) else V)) (bI (isG ts tl sp)) A) [.ref tx] (by decide) rfl (Nat.le_of_ble_eq_true rfl) ?_
  intro p9 e9 s9 m9 bl9 me9 c9 ls A H hF hr hlocks hP hK hN hD hA hS hl hin
  have hl : lv_has ls 3 [(0, .ref tx)] := hl
  obtain ⟨hx, hb, hml, hown, hts⟩ := id hF
  have k_fieldLink_9 : (Cond.fieldLink RX6 9 "OpinionReactor$CommandText" "signs" "[C").before _ s9 = true := hts (.fieldLink RX6 9 "OpinionReactor$CommandText" "signs" "[C") (by decide +kernel)
  have kc_RX6 : ∀ w ∈ u_ws RX6 TX6 7, w ∈ wsX6_takesNumber := by decide +kernel
  have k_fieldLink_36 : (Cond.fieldLink RX6 36 "OpinionReactor$CommandText" "stop" "I").before _ s9 = true := hts (.fieldLink RX6 36 "OpinionReactor$CommandText" "stop" "I") (by decide +kernel)
  have loop_13 : ∀ (fuel : Nat) (i : Nat), (i ≤ 4) → (isG ts tl sp = true) → (∀ c, c < i → isG ts tl (sp + c) = true) → (sp + i ≤ 60) → 4 - i < fuel → ∀ (ls : Array Slot), ∀ (H : Heap) (locs : List Loc), va_P D vwCl (bCT k tx sg tl fo va cm vc (sp + i) ++ bC60 k sg ts ++ bGI k va gi ++ bG3 k gi V) H → va_D A (bCT k tx sg tl fo va cm vc (sp + i) ++ bC60 k sg ts ++ bGI k va gi ++ bG3 k gi V) → va_S A s9.heap H locs → lv_has ls 3 [(0, .ref tx), (1, .int (nvC ts sp i)), (2, .int (nI i))] → W p9 l9 e9 ({ frames := 1, cells := 0, slots := 0, locals := 21 }) s9 m9 ([.ref tx] : List Value).toArray bl9 me9 c9 H locs 0 0 (MQ bl9 (WI D k (bCT k tx sg tl fo va cm (if isG ts tl sp = true then kpN vc else vc) (if isG ts tl sp = true then sp + (dkC ts tl sp) else sp) ++ bC60 k sg ts ++ bGI k va gi ++ bG3 k gi (if isG ts tl sp = true then kpV cm vc V (nvC ts sp (dkC ts tl sp)) else V)) (bI (isG ts tl sp)) A) ([.ref tx] : List Value).toArray s9 0 0 A) (F0 m9 13 ls []) := by
    intro fuel
    induction fuel with
    | zero => intro i hi hg0 ha hsi hfuel_13; exact absurd hfuel_13 (Nat.not_lt_zero _)
    | succ fuel ih_13 =>
      intro i hi hg0 ha hsi hfuel_13 ls H locs hP hD hS hl
      refine lv_iload_n hx hb dX6_takesNumber_13 rfl (lv_at hl 2 rfl) ?_
      refine lv_iconst (v := 4) hx hb dX6_takesNumber_14 (by decide) ?_
      refine lv_icmp_ge (tgt := 59) hx hb dX6_takesNumber_15 (by decide) (fun c_1 => ?_) (fun c_1 => ?_)
      · skip
        have c_1 : 4 ≤ i := (nI_leI (a := 4) (b := i) (by omega) (by omega)).mp c_1
        have hk9 : dkC ts tl sp = i := by first | exact dkC_at ha (by assumption) (by omega) | exact (dkC_no (fun c hc => ha c (by omega))).trans (by omega)
        refine lv_aload_n hx hb dX6_takesNumber_59 rfl (lv_at hl 0 rfl) ?_
        refine lv_iload_n hx hb dX6_takesNumber_60 rfl (lv_at hl 1 rfl) ?_
        have hq9 := mp_of (ws := bCT k tx sg tl fo va cm vc (sp + i) ++ bC60 k sg ts ++ bGI k va gi ++ bG3 k gi V) (wc := bCT k tx sg tl fo va cm vc (sp + i) ++ bGI k va gi ++ bG3 k gi V) (is := [0, 2, 3, 4, 5, 6, 7, 8, 9, 10, 11, 12]) rfl
        have hFc := va_free (wc := bCT k tx sg tl fo va cm vc (sp + i) ++ bGI k va gi ++ bG3 k gi V) hD hS hA [0, 2, 3, 4, 5, 6, 7, 8, 9, 10, 11, 12] hq9
        refine va_callv (va_runV (As := [.int (nvC ts sp i)]) (rest := []) hF (m_X6_keep l9 D k H.size tx sg tl fo va cm vc (sp + i) gi V (nvC ts sp i) hcm hvc) (cwV 1 hts gX6_takesNumber_X6_keep rfl rfl rfl (by decide +kernel) ⟨Nat.le_of_ble_eq_true rfl, Nat.le_of_ble_eq_true rfl⟩) (wPreV hK hN hP hD [0, 2, 3, 4, 5, 6, 7, 8, 9, 10, 11, 12] (fm_of hq9) (by decide) hq9 0 8 rfl rfl) rfl rfl hl.1 rfl (lv_room (Nat.le_of_ble_eq_true rfl)) dX6_takesNumber_61 ⟨Nat.zero_le _, Nat.zero_le _⟩) hS (fun q _ h => hFc q h) hFc (fun u9 t9 H1 locs ht hvm hw hB hz1 hk1 hS => ?_)
        obtain ⟨hP, hD⟩ := wjoin9 (wr := bC60 k sg ts) (wf := bCT k tx sg tl fo va cm (kpN vc) (sp + i) ++ bC60 k sg ts ++ bGI k va gi ++ bG3 k gi (kpV cm vc V (nvC ts sp i))) hP hD [0, 2, 3, 4, 5, 6, 7, 8, 9, 10, 11, 12] [1] [1, 0, 2, 3, 4, 5, 6, 7, 8, 9, 10, 11, 12] hq9 rfl (by decide) (by decide) hk1 hFc hB ht rfl (by decide)
        clear hB hk1 hz1 hvm hFc hq9
        clear ht
        clear t9
        generalize H1 = H at hP hS ⊢
        refine lv_iconst (v := 1) hx hb dX6_takesNumber_64 (by decide) ?_
        have e_2 : (kpN vc : Nat) = if isG ts tl sp = true then kpN vc else vc := by first | (with_reducible rfl) | (first | (rw [if_pos hg0, hk9]; done) | (rw [if_pos hg0]; done) | (rw [show isG ts tl sp = true by assumption]; rfl) | (rw [if_neg (fun h9 => Bool.noConfusion (Eq.trans (Eq.symm h9) (by assumption)))]; done) | (rw [show isG ts tl sp = false by assumption]; rfl))
        have hP := Eq.mp (congrArg (fun z9 => va_P D vwCl (bCT k tx sg tl fo va cm z9 (sp + i) ++ bC60 k sg ts ++ bGI k va gi ++ bG3 k gi (kpV cm vc V (nvC ts sp i))) H) e_2) hP
        have hD := Eq.mp (congrArg (fun z9 => va_D A (bCT k tx sg tl fo va cm z9 (sp + i) ++ bC60 k sg ts ++ bGI k va gi ++ bG3 k gi (kpV cm vc V (nvC ts sp i)))) e_2) hD
        have e_3 : ((sp + i) : Nat) = if isG ts tl sp = true then sp + (dkC ts tl sp) else sp := by first | (with_reducible rfl) | (first | (rw [if_pos hg0, hk9]; done) | (rw [if_pos hg0]; done) | (rw [show isG ts tl sp = true by assumption]; rfl) | (rw [if_neg (fun h9 => Bool.noConfusion (Eq.trans (Eq.symm h9) (by assumption)))]; done) | (rw [show isG ts tl sp = false by assumption]; rfl))
        have hP := Eq.mp (congrArg (fun z9 => va_P D vwCl (bCT k tx sg tl fo va cm (if isG ts tl sp = true then kpN vc else vc) z9 ++ bC60 k sg ts ++ bGI k va gi ++ bG3 k gi (kpV cm vc V (nvC ts sp i))) H) e_3) hP
        have hD := Eq.mp (congrArg (fun z9 => va_D A (bCT k tx sg tl fo va cm (if isG ts tl sp = true then kpN vc else vc) z9 ++ bC60 k sg ts ++ bGI k va gi ++ bG3 k gi (kpV cm vc V (nvC ts sp i)))) e_3) hD
        have e_4 : (kpV cm vc V (nvC ts sp i) : Nat → Nat → Int32) = if isG ts tl sp = true then kpV cm vc V (nvC ts sp (dkC ts tl sp)) else V := by first | (with_reducible rfl) | (first | (rw [if_pos hg0, hk9]; done) | (rw [if_pos hg0]; done) | (rw [show isG ts tl sp = true by assumption]; rfl) | (rw [if_neg (fun h9 => Bool.noConfusion (Eq.trans (Eq.symm h9) (by assumption)))]; done) | (rw [show isG ts tl sp = false by assumption]; rfl))
        have hP := Eq.mp (congrArg (fun z9 => va_P D vwCl (bCT k tx sg tl fo va cm (if isG ts tl sp = true then kpN vc else vc) (if isG ts tl sp = true then sp + (dkC ts tl sp) else sp) ++ bC60 k sg ts ++ bGI k va gi ++ bG3 k gi z9) H) e_4) hP
        have hD := Eq.mp (congrArg (fun z9 => va_D A (bCT k tx sg tl fo va cm (if isG ts tl sp = true then kpN vc else vc) (if isG ts tl sp = true then sp + (dkC ts tl sp) else sp) ++ bC60 k sg ts ++ bGI k va gi ++ bG3 k gi z9)) e_4) hD
        exact W.zret (v := 1) hx hb hr (rfl) (fun t9 ht hW => ⟨⟨_, (), rfl, (by first | (rw [if_pos hg0, hk9]; done) | (rw [if_pos hg0]; done) | (rw [show isG ts tl sp = true by assumption]; rfl) | (rw [if_neg (fun h9 => Bool.noConfusion (Eq.trans (Eq.symm h9) (by assumption)))]; done) | (rw [show isG ts tl sp = false by assumption]; rfl)), ⟨by rw [ht]; exact hP, va_K.moved hW.alike hK, hD⟩⟩, hS.F ht⟩) hS.2.2 dX6_takesNumber_65 hlocks
      · skip
        have c_1 : ¬ 4 ≤ i := fun h => c_1 ((nI_leI (a := 4) (b := i) (by omega) (by omega)).mpr h)
        refine lv_aload_n hx hb dX6_takesNumber_18 rfl (lv_at hl 0 rfl) ?_
        refine vp_callSi (W.runV (As := []) (rest := []) hF (m_X6_isDigit l9 D k tx sg tl fo va cm vc (sp + i) ts (by omega) (by omega)) (cwV 0 hts gX6_takesNumber_X6_isDigit rfl rfl rfl (by decide +kernel) ⟨Nat.le_of_ble_eq_true rfl, Nat.le_of_ble_eq_true rfl⟩) (rPreV hK hN hP [0, 1] rfl 0 8 rfl rfl) rfl rfl hl.1 rfl (lv_room (Nat.le_of_ble_eq_true rfl)) dX6_takesNumber_19 ⟨Nat.zero_le _, Nat.zero_le _⟩) (fun r_5 hr_5 => ?_)
        subst hr_5
        refine lv_if_eq (tgt := 59) hx hb dX6_takesNumber_22 (by decide) (fun c_6 => ?_) (fun c_6 => ?_)
        · skip
          have c_6 : (isG ts tl (sp + i)) = false := bI_0 c_6
          have hk9 : dkC ts tl sp = i := by first | exact dkC_at ha (by assumption) (by omega) | exact (dkC_no (fun c hc => ha c (by omega))).trans (by omega)
          refine lv_aload_n hx hb dX6_takesNumber_59 rfl (lv_at hl 0 rfl) ?_
          refine lv_iload_n hx hb dX6_takesNumber_60 rfl (lv_at hl 1 rfl) ?_
          have hq9 := mp_of (ws := bCT k tx sg tl fo va cm vc (sp + i) ++ bC60 k sg ts ++ bGI k va gi ++ bG3 k gi V) (wc := bCT k tx sg tl fo va cm vc (sp + i) ++ bGI k va gi ++ bG3 k gi V) (is := [0, 2, 3, 4, 5, 6, 7, 8, 9, 10, 11, 12]) rfl
          have hFc := va_free (wc := bCT k tx sg tl fo va cm vc (sp + i) ++ bGI k va gi ++ bG3 k gi V) hD hS hA [0, 2, 3, 4, 5, 6, 7, 8, 9, 10, 11, 12] hq9
          refine va_callv (va_runV (As := [.int (nvC ts sp i)]) (rest := []) hF (m_X6_keep l9 D k H.size tx sg tl fo va cm vc (sp + i) gi V (nvC ts sp i) hcm hvc) (cwV 1 hts gX6_takesNumber_X6_keep rfl rfl rfl (by decide +kernel) ⟨Nat.le_of_ble_eq_true rfl, Nat.le_of_ble_eq_true rfl⟩) (wPreV hK hN hP hD [0, 2, 3, 4, 5, 6, 7, 8, 9, 10, 11, 12] (fm_of hq9) (by decide) hq9 0 8 rfl rfl) rfl rfl hl.1 rfl (lv_room (Nat.le_of_ble_eq_true rfl)) dX6_takesNumber_61 ⟨Nat.zero_le _, Nat.zero_le _⟩) hS (fun q _ h => hFc q h) hFc (fun u9 t9 H1 locs ht hvm hw hB hz1 hk1 hS => ?_)
          obtain ⟨hP, hD⟩ := wjoin9 (wr := bC60 k sg ts) (wf := bCT k tx sg tl fo va cm (kpN vc) (sp + i) ++ bC60 k sg ts ++ bGI k va gi ++ bG3 k gi (kpV cm vc V (nvC ts sp i))) hP hD [0, 2, 3, 4, 5, 6, 7, 8, 9, 10, 11, 12] [1] [1, 0, 2, 3, 4, 5, 6, 7, 8, 9, 10, 11, 12] hq9 rfl (by decide) (by decide) hk1 hFc hB ht rfl (by decide)
          clear hB hk1 hz1 hvm hFc hq9
          clear ht
          clear t9
          generalize H1 = H at hP hS ⊢
          refine lv_iconst (v := 1) hx hb dX6_takesNumber_64 (by decide) ?_
          have e_7 : (kpN vc : Nat) = if isG ts tl sp = true then kpN vc else vc := by first | (with_reducible rfl) | (first | (rw [if_pos hg0, hk9]; done) | (rw [if_pos hg0]; done) | (rw [show isG ts tl sp = true by assumption]; rfl) | (rw [if_neg (fun h9 => Bool.noConfusion (Eq.trans (Eq.symm h9) (by assumption)))]; done) | (rw [show isG ts tl sp = false by assumption]; rfl))
          have hP := Eq.mp (congrArg (fun z9 => va_P D vwCl (bCT k tx sg tl fo va cm z9 (sp + i) ++ bC60 k sg ts ++ bGI k va gi ++ bG3 k gi (kpV cm vc V (nvC ts sp i))) H) e_7) hP
          have hD := Eq.mp (congrArg (fun z9 => va_D A (bCT k tx sg tl fo va cm z9 (sp + i) ++ bC60 k sg ts ++ bGI k va gi ++ bG3 k gi (kpV cm vc V (nvC ts sp i)))) e_7) hD
          have e_8 : ((sp + i) : Nat) = if isG ts tl sp = true then sp + (dkC ts tl sp) else sp := by first | (with_reducible rfl) | (first | (rw [if_pos hg0, hk9]; done) | (rw [if_pos hg0]; done) | (rw [show isG ts tl sp = true by assumption]; rfl) | (rw [if_neg (fun h9 => Bool.noConfusion (Eq.trans (Eq.symm h9) (by assumption)))]; done) | (rw [show isG ts tl sp = false by assumption]; rfl))
          have hP := Eq.mp (congrArg (fun z9 => va_P D vwCl (bCT k tx sg tl fo va cm (if isG ts tl sp = true then kpN vc else vc) z9 ++ bC60 k sg ts ++ bGI k va gi ++ bG3 k gi (kpV cm vc V (nvC ts sp i))) H) e_8) hP
          have hD := Eq.mp (congrArg (fun z9 => va_D A (bCT k tx sg tl fo va cm (if isG ts tl sp = true then kpN vc else vc) z9 ++ bC60 k sg ts ++ bGI k va gi ++ bG3 k gi (kpV cm vc V (nvC ts sp i)))) e_8) hD
          have e_9 : (kpV cm vc V (nvC ts sp i) : Nat → Nat → Int32) = if isG ts tl sp = true then kpV cm vc V (nvC ts sp (dkC ts tl sp)) else V := by first | (with_reducible rfl) | (first | (rw [if_pos hg0, hk9]; done) | (rw [if_pos hg0]; done) | (rw [show isG ts tl sp = true by assumption]; rfl) | (rw [if_neg (fun h9 => Bool.noConfusion (Eq.trans (Eq.symm h9) (by assumption)))]; done) | (rw [show isG ts tl sp = false by assumption]; rfl))
          have hP := Eq.mp (congrArg (fun z9 => va_P D vwCl (bCT k tx sg tl fo va cm (if isG ts tl sp = true then kpN vc else vc) (if isG ts tl sp = true then sp + (dkC ts tl sp) else sp) ++ bC60 k sg ts ++ bGI k va gi ++ bG3 k gi z9) H) e_9) hP
          have hD := Eq.mp (congrArg (fun z9 => va_D A (bCT k tx sg tl fo va cm (if isG ts tl sp = true then kpN vc else vc) (if isG ts tl sp = true then sp + (dkC ts tl sp) else sp) ++ bC60 k sg ts ++ bGI k va gi ++ bG3 k gi z9)) e_9) hD
          exact W.zret (v := 1) hx hb hr (rfl) (fun t9 ht hW => ⟨⟨_, (), rfl, (by first | (rw [if_pos hg0, hk9]; done) | (rw [if_pos hg0]; done) | (rw [show isG ts tl sp = true by assumption]; rfl) | (rw [if_neg (fun h9 => Bool.noConfusion (Eq.trans (Eq.symm h9) (by assumption)))]; done) | (rw [show isG ts tl sp = false by assumption]; rfl)), ⟨by rw [ht]; exact hP, va_K.moved hW.alike hK, hD⟩⟩, hS.F ht⟩) hS.2.2 dX6_takesNumber_65 hlocks
        · skip
          have c_6 : (isG ts tl (sp + i)) = true := bI_1 c_6
          refine lv_iload_n hx hb dX6_takesNumber_25 rfl (lv_at hl 1 rfl) ?_
          refine lv_bipush (v := 10) hx hb dX6_takesNumber_26 (by decide) ?_
          refine lv_imul hx hb dX6_takesNumber_28 ?_
          refine lv_aload_n hx hb dX6_takesNumber_29 rfl (lv_at hl 0 rfl) ?_
          refine va_get (D := D) (ci := 8) (v := .ref sg) (C := RX6) (T := TX6) (N := 7) hx hb hts kc_RX6 hown hK hP 0 rfl rfl 0 (by decide) k_fieldLink_9 (fun _ h9 => h9) rfl dX6_takesNumber_30 ?_
          refine lv_aload_n hx hb dX6_takesNumber_33 rfl (lv_at hl 0 rfl) ?_
          refine va_get (D := D) (ci := 8) (v := .int (nI (sp + i))) (C := RX6) (T := TX6) (N := 7) hx hb hts kc_RX6 hown hK hP 0 rfl rfl 6 (by decide) k_fieldLink_36 (fun _ h9 => h9) rfl dX6_takesNumber_34 ?_
          refine ca_ld hx hb hK hP 1 rfl (sp + i) (by have := isG_in (ts := ts) (tl := tl) (sp := sp + i) (by assumption); omega) (by decide) dX6_takesNumber_37 ?_
          refine lv_bipush (v := 48) hx hb dX6_takesNumber_38 (by decide) ?_
          refine lv_isub hx hb dX6_takesNumber_40 ?_
          refine lv_iadd hx hb dX6_takesNumber_41 ?_
          refine lv_istore_n (lv' := [(1, .int (((nvC ts sp i) * 10) + ((ts (sp + i)) - 48))), (0, .ref tx), (2, .int (nI i))]) hx hb dX6_takesNumber_42 rfl hl (by decide) rfl (fun ls hl => ?_)
          refine lv_aload_n hx hb dX6_takesNumber_43 rfl (lv_at hl 1 rfl) ?_
          refine lv_dup hx hb dX6_takesNumber_44 rfl ?_
          refine va_get (D := D) (ci := 8) (v := .int (nI (sp + i))) (C := RX6) (T := TX6) (N := 7) hx hb hts kc_RX6 hown hK hP 0 rfl rfl 6 (by decide) k_fieldLink_36 (fun _ h9 => h9) rfl dX6_takesNumber_45 ?_
          refine lv_iconst (v := 1) hx hb dX6_takesNumber_48 (by decide) ?_
          refine ni_add hx hb (sp + i) 1 dX6_takesNumber_49 ?_
          refine va_put (D := D) (ci := 8) (v := .int (nI ((sp + i) + 1))) (ty := .int) (C := RX6) (T := TX6) (N := 7) hx hb hts kc_RX6 tyX6 tyX6_ok nmX6 hown hK hP hD hS 0 rfl rfl 6 (by decide) k_fieldLink_36 (fun _ h9 => h9) rfl (by decide +kernel) rfl rfl (Nat.le_of_ble_eq_true rfl) dX6_takesNumber_50 (fun H locs hP hD hS => ?_)
          have hP : va_P D vwCl (bCT k tx sg tl fo va cm vc ((sp + i) + 1) ++ bC60 k sg ts ++ bGI k va gi ++ bG3 k gi V) H := hP
          have hD : va_D A (bCT k tx sg tl fo va cm vc ((sp + i) + 1) ++ bC60 k sg ts ++ bGI k va gi ++ bG3 k gi V) := hD
          refine lv_iinc (v := nI (i + 1)) (lv' := [(2, .int (nI (i + 1))), (1, .int (((nvC ts sp i) * 10) + ((ts (sp + i)) - 48))), (0, .ref tx)]) hx hb dX6_takesNumber_53 hl (k := 2) rfl (nI_inc i) (by decide) rfl (fun ls hl => ?_)
          refine lv_goto (tgt := 13) hx hb dX6_takesNumber_56 (by decide) ?_
          have e_10 : (((nvC ts sp i) * 10) + ((ts (sp + i)) - 48) : Int32) = nvC ts sp (i + 1) := by first | (with_reducible rfl) | (rfl)
          have e_11 : ((sp + i) + 1 : Nat) = sp + (i + 1) := by first | (with_reducible rfl) | (omega)
          have hP := Eq.mp (congrArg (fun z9 => va_P D vwCl (bCT k tx sg tl fo va cm vc z9 ++ bC60 k sg ts ++ bGI k va gi ++ bG3 k gi V) H) e_11) hP
          have hD := Eq.mp (congrArg (fun z9 => va_D A (bCT k tx sg tl fo va cm vc z9 ++ bC60 k sg ts ++ bGI k va gi ++ bG3 k gi V)) e_11) hD
          exact ih_13 (i + 1) (by omega) hg0 (fun c hc => (Nat.lt_succ_iff_lt_or_eq.mp hc).elim (ha c) (fun e => by rw [e]; assumption)) (by have := isG_in (ts := ts) (tl := tl) (sp := sp + i) (by assumption); omega) (by omega) ls _ _ hP hD hS (lv_one hl 2 rfl rfl (lv_one hl 1 rfl (congrArg Value.int e_10) (lv_one hl 0 rfl rfl (lv_nil hl))))
  refine lv_aload_n hx hb dX6_takesNumber_0 rfl (lv_at hl 0 rfl) ?_
  refine vp_callSi (W.runV (As := []) (rest := []) hF (m_X6_isDigit l9 D k tx sg tl fo va cm vc sp ts (by omega) (by omega)) (cwV 0 hts gX6_takesNumber_X6_isDigit rfl rfl rfl (by decide +kernel) ⟨Nat.le_of_ble_eq_true rfl, Nat.le_of_ble_eq_true rfl⟩) (rPreV hK hN hP [0, 1] rfl 0 8 rfl rfl) rfl rfl hl.1 rfl (lv_room (Nat.le_of_ble_eq_true rfl)) dX6_takesNumber_1 ⟨Nat.zero_le _, Nat.zero_le _⟩) (fun r_12 hr_12 => ?_)
  subst hr_12
  refine lv_if_ne (tgt := 9) hx hb dX6_takesNumber_4 (by decide) (fun c_13 => ?_) (fun c_13 => ?_)
  · skip
    have c_13 : (isG ts tl sp) = true := bI_1 c_13
    refine lv_iconst (v := 0) hx hb dX6_takesNumber_9 (by decide) ?_
    refine lv_istore_n (lv' := [(1, .int 0), (0, .ref tx)]) hx hb dX6_takesNumber_10 rfl hl (by decide) rfl (fun ls hl => ?_)
    refine lv_iconst (v := 0) hx hb dX6_takesNumber_11 (by decide) ?_
    refine lv_istore_n (lv' := [(2, .int 0), (1, .int 0), (0, .ref tx)]) hx hb dX6_takesNumber_12 rfl hl (by decide) rfl (fun ls hl => ?_)
    have e_14 : (0 : Int32) = nvC ts sp 0 := by first | (with_reducible rfl) | (rfl)
    have e_15 : (sp : Nat) = sp + 0 := by first | (with_reducible rfl) | (rfl)
    have hP := Eq.mp (congrArg (fun z9 => va_P D vwCl (bCT k tx sg tl fo va cm vc z9 ++ bC60 k sg ts ++ bGI k va gi ++ bG3 k gi V) H) e_15) hP
    have hD := Eq.mp (congrArg (fun z9 => va_D A (bCT k tx sg tl fo va cm vc z9 ++ bC60 k sg ts ++ bGI k va gi ++ bG3 k gi V)) e_15) hD
    exact loop_13 ((4 - 0) + 1) 0 (by omega) (by assumption) (fun c hc => absurd hc (Nat.not_lt_zero c)) (by omega) (Nat.lt_succ_self _) ls _ _ hP hD hS (lv_one hl 2 rfl rfl (lv_one hl 1 rfl (congrArg Value.int e_14) (lv_one hl 0 rfl rfl (lv_nil hl))))
  · skip
    have c_13 : (isG ts tl sp) = false := bI_0 c_13
    refine lv_iconst (v := 0) hx hb dX6_takesNumber_7 (by decide) ?_
    have e_16 : (vc : Nat) = if isG ts tl sp = true then kpN vc else vc := by first | (with_reducible rfl) | (first | (rw [if_pos hg0, hk9]; done) | (rw [if_pos hg0]; done) | (rw [show isG ts tl sp = true by assumption]; rfl) | (rw [if_neg (fun h9 => Bool.noConfusion (Eq.trans (Eq.symm h9) (by assumption)))]; done) | (rw [show isG ts tl sp = false by assumption]; rfl))
    have hP := Eq.mp (congrArg (fun z9 => va_P D vwCl (bCT k tx sg tl fo va cm z9 sp ++ bC60 k sg ts ++ bGI k va gi ++ bG3 k gi V) H) e_16) hP
    have hD := Eq.mp (congrArg (fun z9 => va_D A (bCT k tx sg tl fo va cm z9 sp ++ bC60 k sg ts ++ bGI k va gi ++ bG3 k gi V)) e_16) hD
    have e_17 : (sp : Nat) = if isG ts tl sp = true then sp + (dkC ts tl sp) else sp := by first | (with_reducible rfl) | (first | (rw [if_pos hg0, hk9]; done) | (rw [if_pos hg0]; done) | (rw [show isG ts tl sp = true by assumption]; rfl) | (rw [if_neg (fun h9 => Bool.noConfusion (Eq.trans (Eq.symm h9) (by assumption)))]; done) | (rw [show isG ts tl sp = false by assumption]; rfl))
    have hP := Eq.mp (congrArg (fun z9 => va_P D vwCl (bCT k tx sg tl fo va cm (if isG ts tl sp = true then kpN vc else vc) z9 ++ bC60 k sg ts ++ bGI k va gi ++ bG3 k gi V) H) e_17) hP
    have hD := Eq.mp (congrArg (fun z9 => va_D A (bCT k tx sg tl fo va cm (if isG ts tl sp = true then kpN vc else vc) z9 ++ bC60 k sg ts ++ bGI k va gi ++ bG3 k gi V)) e_17) hD
    have e_18 : (V : Nat → Nat → Int32) = if isG ts tl sp = true then kpV cm vc V (nvC ts sp (dkC ts tl sp)) else V := by first | (with_reducible rfl) | (first | (rw [if_pos hg0, hk9]; done) | (rw [if_pos hg0]; done) | (rw [show isG ts tl sp = true by assumption]; rfl) | (rw [if_neg (fun h9 => Bool.noConfusion (Eq.trans (Eq.symm h9) (by assumption)))]; done) | (rw [show isG ts tl sp = false by assumption]; rfl))
    have hP := Eq.mp (congrArg (fun z9 => va_P D vwCl (bCT k tx sg tl fo va cm (if isG ts tl sp = true then kpN vc else vc) (if isG ts tl sp = true then sp + (dkC ts tl sp) else sp) ++ bC60 k sg ts ++ bGI k va gi ++ bG3 k gi z9) H) e_18) hP
    have hD := Eq.mp (congrArg (fun z9 => va_D A (bCT k tx sg tl fo va cm (if isG ts tl sp = true then kpN vc else vc) (if isG ts tl sp = true then sp + (dkC ts tl sp) else sp) ++ bC60 k sg ts ++ bGI k va gi ++ bG3 k gi z9)) e_18) hD
    exact W.zret (v := 0) hx hb hr (rfl) (fun t9 ht hW => ⟨⟨_, (), rfl, (by first | (rw [if_pos hg0, hk9]; done) | (rw [if_pos hg0]; done) | (rw [show isG ts tl sp = true by assumption]; rfl) | (rw [if_neg (fun h9 => Bool.noConfusion (Eq.trans (Eq.symm h9) (by assumption)))]; done) | (rw [show isG ts tl sp = false by assumption]; rfl)), ⟨by rw [ht]; exact hP, va_K.moved hW.alike hK, hD⟩⟩, hS.F ht⟩) hS.2.2 dX6_takesNumber_8 hlocks

/-! The model's face. -/
def s83 (pa : Nat → Int32) (m : Nat) : Nat → Int32 := fun j => if j < m then pa (j + 83) else pa j
theorem s83_0 (pa : Nat → Int32) : pa = s83 pa 0 := by funext j; simp [s83]
theorem s83_u (pa : Nat → Int32) (m : Nat) : upd (s83 pa m) m (s83 pa m (m + 83)) = s83 pa (m + 1) := by
  funext j
  unfold upd s83
  by_cases h : j = m
  · subst h; rw [if_pos rfl, if_neg (by omega), if_pos (by omega)]
  · by_cases h2 : j < m
    · rw [if_neg h, if_pos h2, if_pos (by omega)]
    · rw [if_neg h, if_neg h2, if_neg (by omega)]
def s10 (fp : Nat → UInt32) (m : Nat) : Nat → UInt32 := fun j => if j < m then fp (j + 10) else fp j
theorem s10_0 (fp : Nat → UInt32) : fp = s10 fp 0 := by funext j; simp [s10]
theorem s10_u (fp : Nat → UInt32) (m : Nat) : vf_upd (s10 fp m) m (s10 fp m (m + 10)) = s10 fp (m + 1) := by
  funext j
  unfold vf_upd s10
  by_cases h : j = m
  · subst h; rw [if_pos rfl, if_neg (by omega), if_pos (by omega)]
  · by_cases h2 : j < m
    · rw [if_neg h, if_pos h2, if_pos (by omega)]
    · rw [if_neg h, if_neg h2, if_neg (by omega)]
/-- g laid into f at b, m of it -/
def pt {α : Type} (f : Nat → α) (b : Nat) (g : Nat → α) (m : Nat) : Nat → α := fun j => if b ≤ j ∧ j < b + m then g (j - b) else f j
theorem pt_0 {α : Type} (f : Nat → α) (b : Nat) (g : Nat → α) : f = pt f b g 0 := by
  funext j
  unfold pt
  rw [if_neg (by omega)]
theorem pt_u (f : Nat → Int32) (b : Nat) (g : Nat → Int32) (m : Nat) : upd (pt f b g m) (b + m) (g m) = pt f b g (m + 1) := by
  funext j
  unfold upd pt
  by_cases h : j = b + m
  · subst h
    rw [if_pos rfl, if_pos (by omega), show b + m - b = m by omega]
  · by_cases h2 : b ≤ j ∧ j < b + m
    · rw [if_neg h, if_pos h2, if_pos (by omega)]
    · rw [if_neg h, if_neg h2, if_neg (by omega)]
theorem pt_v (f : Nat → UInt32) (b : Nat) (g : Nat → UInt32) (m : Nat) : vf_upd (pt f b g m) (b + m) (g m) = pt f b g (m + 1) := by
  funext j
  unfold vf_upd pt
  by_cases h : j = b + m
  · subst h
    rw [if_pos rfl, if_pos (by omega), show b + m - b = m by omega]
  · by_cases h2 : b ≤ j ∧ j < b + m
    · rw [if_neg h, if_pos h2, if_pos (by omega)]
    · rw [if_neg h, if_neg h2, if_neg (by omega)]
def c1E (ch : Nat) : Nat := if ch = 8 then 7 else ch
def chE (ch : Nat) : Nat := c1E ch + 1
def paE (ch : Nat) (pa be : Nat → Int32) : Nat → Int32 := pt (if ch = 8 then s83 pa 581 else pa) (c1E ch * 83) be 83
def fpE (ch : Nat) (fp fb : Nat → UInt32) : Nat → UInt32 := pt (if ch = 8 then s10 fp 70 else fp) (c1E ch * 10) fb 10
theorem opExc_ok {v : Nat → Int32} {fl : Nat → UInt32} {n nl : Nat} {x am : Int32} (h : (opExc v fl n nl 0 x am).2.1 = 0) : inC n x = true := by
  cases q : inC n x with
  | true => rfl
  | false =>
    unfold opExc at h
    rw [if_neg (by rw [q]; decide)] at h
    exact absurd (show (1 : Int32) = 0 from h) (by decide)
/-- the bits of a set go one by one -/
def kcS (x : Int32) (m : Nat) : Int32 := up (fun _ y => y &&& (y - 1)) x m
theorem kc_step {x : Int32} (h : lowB x) (h0 : ¬ x = 0) : lowB (x &&& (x - 1)) ∧ cn 10 (x &&& (x - 1)) + 1 = cn 10 x := by
  refine ⟨low_and h _, ?_⟩
  obtain ⟨j, hj, rfl⟩ := low_nat h
  have : ∀ j : Nat, j < 1024 → nI j = 0 ∨ cn 10 (nI j &&& (nI j - 1)) + 1 = cn 10 (nI j) := by decide +kernel
  rcases this j hj with q | q
  · exact absurd q h0
  · exact q
theorem cn_0 {x : Int32} (h : x = 0) : cn 10 x = 0 := by subst h; decide
theorem low_or {x y : Int32} (hx : lowB x) (hy : lowB y) : lowB (x ||| y) := fun j hj => by rw [tb_or, hx j hj, hy j hj]; rfl
theorem low_accM {n : Nat} (hn : n ≤ 10) (t : Nat → Int32) : lowB (accM n t) := by
  intro j hj
  cases q : tb (accM n t) j with
  | false => rfl
  | true =>
    have := itM_bits hn t (n + 1) q
    omega
/-- the rows t are sets of the first ten claims -/
def lowR (n : Nat) (t : Nat → Int32) : Prop := ∀ c, c < n → lowB (t c)
theorem low_orS {n : Nat} {t : Nat → Int32} (h : lowR n t) (x : Int32) : lowB (orS n t x) := by
  intro j hj
  cases q : tb (orS n t x) j with
  | false => rfl
  | true =>
    obtain ⟨i, hi, _, h2⟩ := (tb_orS n t x j).mp q
    rw [h i hi j hj] at h2
    cases h2
theorem low_crM (f : Nat → Int32) (j : Nat) {m : Nat} (hm : m ≤ 10) : lowB (crM f j m) := by
  intro i hi
  induction m with
  | zero => exact tb_0 i
  | succ m ih =>
    rw [crM_s, tb_or, ih (by omega)]
    split
    · rw [tb_bt (by omega)]
      simp
      omega
    · rw [tb_0]; rfl
/-- a set as the model's isPosition tells one -/
def inPM (n : Nat) (x : Int32) : Bool := if x < 0 then false else decide ((x >>> (nI n &&& 31)) = 0)

set_option maxHeartbeats 4000000 in
set_option maxRecDepth 100000 in
theorem m_X13_ends (l9 : Launch) (D : va_G) (k : Nat → ClassId) (sz : Nat) (q : Nat → Nat) (th ea fa : Int32) (ch tn he en ln : Nat) (sv wr dg : Bool) (v be pa : Nat → Int32) (fl fb fp : Nat → UInt32) (x : Int32) (hch : ch ≤ 8) : Met l9 yX13_ends wsX13_ends ({ frames := 1, cells := 0, slots := 0, locals := 22 }) (WPc D k [.ref (q 0), .int x] (bMO k q th ea fa ch tn he en ln sv wr dg ++ bI83 k (q 1) v ++ bI83 k (q 2) be ++ bF10 k (q 6) fl ++ bF10 k (q 7) fb ++ bI664 k (q 4) pa ++ bF80 k (q 9) fp) sz) (WI D k (bMO k q th ea fa (if th = 0 then chE ch else ch) tn he en ln sv wr dg ++ bI83 k (q 1) (if th = 0 then v else be) ++ bI83 k (q 2) be ++ bF10 k (q 6) (if th = 0 then fl else fb) ++ bF10 k (q 7) fb ++ bI664 k (q 4) (if th = 0 then paE ch pa be else pa) ++ bF80 k (q 9) (if th = 0 then fpE ch fp fb else fp)) (if th = 0 then x else 0) (va_A (bMO k q th ea fa ch tn he en ln sv wr dg ++ bI83 k (q 1) v ++ bI83 k (q 2) be ++ bF10 k (q 6) fl ++ bF10 k (q 7) fb ++ bI664 k (q 4) pa ++ bF80 k (q 9) fp) sz)) 0 0 (va_A (bMO k q th ea fa ch tn he en ln sv wr dg ++ bI83 k (q 1) v ++ bI83 k (q 2) be ++ bF10 k (q 6) fl ++ bF10 k (q 7) fb ++ bI664 k (q 4) pa ++ bF80 k (q 9) fp) sz) := by
  refine wMet (y := yX13_ends) (cc := cX13_ends) (maxL := 3) (ret := (some .int)) (Qc := fun A => WI D k (bMO k q th ea fa (if th = 0 then chE ch else ch) tn he en ln sv wr dg ++ bI83 k (q 1) (if th = 0 then v else be) ++ bI83 k (q 2) be ++ bF10 k (q 6) (if th = 0 then fl else fb) ++ bF10 k (q 7) fb ++ bI664 k (q 4) (if th = 0 then paE ch pa be else pa) ++ bF80 k (q 9) (if th = 0 then fpE ch fp fb else fp)) (if th = 0 then x else 0) A) [.ref (q 0), .int x] (by decide) rfl (Nat.le_of_ble_eq_true rfl) ?_
  intro p9 e9 s9 m9 bl9 me9 c9 ls A H hF hr hlocks hP hK hN hD hA hS hl hin
  have hl : lv_has ls 3 [(0, .ref (q 0)), (1, .int x)] := hl
  obtain ⟨hx, hb, hml, hown, hts⟩ := id hF
  have k_fieldLink_88 : (Cond.fieldLink RX13 88 "OpinionReactorModel" "changes" "I").before _ s9 = true := hts (.fieldLink RX13 88 "OpinionReactorModel" "changes" "I") (by decide +kernel)
  have kc_RX13 : ∀ w ∈ u_ws RX13 TX13 29, w ∈ wsX13_ends := by decide +kernel
  have k_fieldLink_42 : (Cond.fieldLink RX13 42 "OpinionReactorModel" "fluxPast" "[F").before _ s9 = true := hts (.fieldLink RX13 42 "OpinionReactorModel" "fluxPast" "[F") (by decide +kernel)
  have k_fieldLink_36 : (Cond.fieldLink RX13 36 "OpinionReactorModel" "fluxBefore" "[F").before _ s9 = true := hts (.fieldLink RX13 36 "OpinionReactorModel" "fluxBefore" "[F") (by decide +kernel)
  have k_fieldLink_26 : (Cond.fieldLink RX13 26 "OpinionReactorModel" "past" "[I").before _ s9 = true := hts (.fieldLink RX13 26 "OpinionReactorModel" "past" "[I") (by decide +kernel)
  have k_fieldLink_20 : (Cond.fieldLink RX13 20 "OpinionReactorModel" "before" "[I").before _ s9 = true := hts (.fieldLink RX13 20 "OpinionReactorModel" "before" "[I") (by decide +kernel)
  have k_fieldLink_77 : (Cond.fieldLink RX13 77 "OpinionReactorModel" "thrown" "I").before _ s9 = true := hts (.fieldLink RX13 77 "OpinionReactorModel" "thrown" "I") (by decide +kernel)
  have k_fieldLink_16 : (Cond.fieldLink RX13 16 "OpinionReactorModel" "v" "[I").before _ s9 = true := hts (.fieldLink RX13 16 "OpinionReactorModel" "v" "[I") (by decide +kernel)
  have k_fieldLink_32 : (Cond.fieldLink RX13 32 "OpinionReactorModel" "flux" "[F").before _ s9 = true := hts (.fieldLink RX13 32 "OpinionReactorModel" "flux" "[F") (by decide +kernel)
  have loop_145 : ∀ (fuel : Nat) (i c1 : Nat) (p1 : Nat → Int32) (f1 : Nat → UInt32), (i ≤ 10) → (th = 0) → (c1 = c1E ch) → (c1 ≤ 7) → (p1 = if ch = 8 then s83 pa 581 else pa) → (f1 = if ch = 8 then s10 fp 70 else fp) → 10 - i < fuel → ∀ (ls : Array Slot), ∀ (H : Heap) (locs : List Loc), va_P D vwCl (bMO k q th ea fa c1 tn he en ln sv wr dg ++ bI83 k (q 1) v ++ bI83 k (q 2) be ++ bF10 k (q 6) fl ++ bF10 k (q 7) fb ++ bI664 k (q 4) (pt p1 (c1 * 83) be 83) ++ bF80 k (q 9) (pt f1 (c1 * 10) fb i)) H → va_D A (bMO k q th ea fa c1 tn he en ln sv wr dg ++ bI83 k (q 1) v ++ bI83 k (q 2) be ++ bF10 k (q 6) fl ++ bF10 k (q 7) fb ++ bI664 k (q 4) (pt p1 (c1 * 83) be 83) ++ bF80 k (q 9) (pt f1 (c1 * 10) fb i)) → va_S A s9.heap H locs → lv_has ls 3 [(0, .ref (q 0)), (1, .int x), (2, .int (nI i))] → W p9 l9 e9 ({ frames := 1, cells := 0, slots := 0, locals := 22 }) s9 m9 ([.ref (q 0), .int x] : List Value).toArray bl9 me9 c9 H locs 0 0 (MQ bl9 (WI D k (bMO k q th ea fa (if th = 0 then chE ch else ch) tn he en ln sv wr dg ++ bI83 k (q 1) (if th = 0 then v else be) ++ bI83 k (q 2) be ++ bF10 k (q 6) (if th = 0 then fl else fb) ++ bF10 k (q 7) fb ++ bI664 k (q 4) (if th = 0 then paE ch pa be else pa) ++ bF80 k (q 9) (if th = 0 then fpE ch fp fb else fp)) (if th = 0 then x else 0) A) ([.ref (q 0), .int x] : List Value).toArray s9 0 0 A) (F0 m9 145 ls []) := by
    intro fuel
    induction fuel with
    | zero => intro i c1 p1 f1 hi ht0 hc1 hc7 hp1 hf1 hfuel_145; exact absurd hfuel_145 (Nat.not_lt_zero _)
    | succ fuel ih_145 =>
      intro i c1 p1 f1 hi ht0 hc1 hc7 hp1 hf1 hfuel_145 ls H locs hP hD hS hl
      refine lv_iload_n hx hb dX13_ends_145 rfl (lv_at hl 2 rfl) ?_
      refine lv_bipush (v := 10) hx hb dX13_ends_146 (by decide) ?_
      refine lv_icmp_ge (tgt := 177) hx hb dX13_ends_148 (by decide) (fun c_1 => ?_) (fun c_1 => ?_)
      · skip
        have c_1 : 10 ≤ i := (nI_leI (a := 10) (b := i) (by omega) (by omega)).mp c_1
        refine lv_aload_n hx hb dX13_ends_177 rfl (lv_at hl 0 rfl) ?_
        refine lv_dup hx hb dX13_ends_178 rfl ?_
        refine va_get (D := D) (ci := 11) (v := .int (nI c1)) (C := RX13) (T := TX13) (N := 29) hx hb hts kc_RX13 hown hK hP 0 rfl rfl 1 (by decide) k_fieldLink_88 (fun _ h9 => h9) rfl dX13_ends_179 ?_
        refine lv_iconst (v := 1) hx hb dX13_ends_182 (by decide) ?_
        refine ni_add hx hb c1 1 dX13_ends_183 ?_
        refine va_put (D := D) (ci := 11) (v := .int (nI (c1 + 1))) (ty := .int) (C := RX13) (T := TX13) (N := 29) hx hb hts kc_RX13 tyX13 tyX13_ok nmX13 hown hK hP hD hS 0 rfl rfl 1 (by decide) k_fieldLink_88 (fun _ h9 => h9) rfl (by decide +kernel) rfl rfl (Nat.le_of_ble_eq_true rfl) dX13_ends_184 (fun H locs hP hD hS => ?_)
        have hP : va_P D vwCl (bMO k q th ea fa (c1 + 1) tn he en ln sv wr dg ++ bI83 k (q 1) v ++ bI83 k (q 2) be ++ bF10 k (q 6) fl ++ bF10 k (q 7) fb ++ bI664 k (q 4) (pt p1 (c1 * 83) be 83) ++ bF80 k (q 9) (pt f1 (c1 * 10) fb i)) H := hP
        have hD : va_D A (bMO k q th ea fa (c1 + 1) tn he en ln sv wr dg ++ bI83 k (q 1) v ++ bI83 k (q 2) be ++ bF10 k (q 6) fl ++ bF10 k (q 7) fb ++ bI664 k (q 4) (pt p1 (c1 * 83) be 83) ++ bF80 k (q 9) (pt f1 (c1 * 10) fb i)) := hD
        refine lv_iload_n hx hb dX13_ends_187 rfl (lv_at hl 1 rfl) ?_
        have e_2 : (c1 + 1 : Nat) = if th = 0 then chE ch else ch := by first | (with_reducible rfl) | (rw [if_pos ht0]; unfold chE; rw [hc1])
        have hP := Eq.mp (congrArg (fun z9 => va_P D vwCl (bMO k q th ea fa z9 tn he en ln sv wr dg ++ bI83 k (q 1) v ++ bI83 k (q 2) be ++ bF10 k (q 6) fl ++ bF10 k (q 7) fb ++ bI664 k (q 4) (pt p1 (c1 * 83) be 83) ++ bF80 k (q 9) (pt f1 (c1 * 10) fb i)) H) e_2) hP
        have hD := Eq.mp (congrArg (fun z9 => va_D A (bMO k q th ea fa z9 tn he en ln sv wr dg ++ bI83 k (q 1) v ++ bI83 k (q 2) be ++ bF10 k (q 6) fl ++ bF10 k (q 7) fb ++ bI664 k (q 4) (pt p1 (c1 * 83) be 83) ++ bF80 k (q 9) (pt f1 (c1 * 10) fb i))) e_2) hD
        have e_3 : (v : Nat → Int32) = if th = 0 then v else be := by first | (with_reducible rfl) | (rw [if_pos ht0])
        have hP := Eq.mp (congrArg (fun z9 => va_P D vwCl (bMO k q th ea fa (if th = 0 then chE ch else ch) tn he en ln sv wr dg ++ bI83 k (q 1) z9 ++ bI83 k (q 2) be ++ bF10 k (q 6) fl ++ bF10 k (q 7) fb ++ bI664 k (q 4) (pt p1 (c1 * 83) be 83) ++ bF80 k (q 9) (pt f1 (c1 * 10) fb i)) H) e_3) hP
        have hD := Eq.mp (congrArg (fun z9 => va_D A (bMO k q th ea fa (if th = 0 then chE ch else ch) tn he en ln sv wr dg ++ bI83 k (q 1) z9 ++ bI83 k (q 2) be ++ bF10 k (q 6) fl ++ bF10 k (q 7) fb ++ bI664 k (q 4) (pt p1 (c1 * 83) be 83) ++ bF80 k (q 9) (pt f1 (c1 * 10) fb i))) e_3) hD
        have e_4 : (fl : Nat → UInt32) = if th = 0 then fl else fb := by first | (with_reducible rfl) | (rw [if_pos ht0])
        have hP := Eq.mp (congrArg (fun z9 => va_P D vwCl (bMO k q th ea fa (if th = 0 then chE ch else ch) tn he en ln sv wr dg ++ bI83 k (q 1) (if th = 0 then v else be) ++ bI83 k (q 2) be ++ bF10 k (q 6) z9 ++ bF10 k (q 7) fb ++ bI664 k (q 4) (pt p1 (c1 * 83) be 83) ++ bF80 k (q 9) (pt f1 (c1 * 10) fb i)) H) e_4) hP
        have hD := Eq.mp (congrArg (fun z9 => va_D A (bMO k q th ea fa (if th = 0 then chE ch else ch) tn he en ln sv wr dg ++ bI83 k (q 1) (if th = 0 then v else be) ++ bI83 k (q 2) be ++ bF10 k (q 6) z9 ++ bF10 k (q 7) fb ++ bI664 k (q 4) (pt p1 (c1 * 83) be 83) ++ bF80 k (q 9) (pt f1 (c1 * 10) fb i))) e_4) hD
        have e_5 : (pt p1 (c1 * 83) be 83 : Nat → Int32) = if th = 0 then paE ch pa be else pa := by first | (with_reducible rfl) | (rw [if_pos ht0]; unfold paE; rw [hc1, hp1])
        have hP := Eq.mp (congrArg (fun z9 => va_P D vwCl (bMO k q th ea fa (if th = 0 then chE ch else ch) tn he en ln sv wr dg ++ bI83 k (q 1) (if th = 0 then v else be) ++ bI83 k (q 2) be ++ bF10 k (q 6) (if th = 0 then fl else fb) ++ bF10 k (q 7) fb ++ bI664 k (q 4) z9 ++ bF80 k (q 9) (pt f1 (c1 * 10) fb i)) H) e_5) hP
        have hD := Eq.mp (congrArg (fun z9 => va_D A (bMO k q th ea fa (if th = 0 then chE ch else ch) tn he en ln sv wr dg ++ bI83 k (q 1) (if th = 0 then v else be) ++ bI83 k (q 2) be ++ bF10 k (q 6) (if th = 0 then fl else fb) ++ bF10 k (q 7) fb ++ bI664 k (q 4) z9 ++ bF80 k (q 9) (pt f1 (c1 * 10) fb i))) e_5) hD
        have e_6 : (pt f1 (c1 * 10) fb i : Nat → UInt32) = if th = 0 then fpE ch fp fb else fp := by first | (with_reducible rfl) | (rw [if_pos ht0]; unfold fpE; rw [hc1, hf1, show i = 10 by omega])
        have hP := Eq.mp (congrArg (fun z9 => va_P D vwCl (bMO k q th ea fa (if th = 0 then chE ch else ch) tn he en ln sv wr dg ++ bI83 k (q 1) (if th = 0 then v else be) ++ bI83 k (q 2) be ++ bF10 k (q 6) (if th = 0 then fl else fb) ++ bF10 k (q 7) fb ++ bI664 k (q 4) (if th = 0 then paE ch pa be else pa) ++ bF80 k (q 9) z9) H) e_6) hP
        have hD := Eq.mp (congrArg (fun z9 => va_D A (bMO k q th ea fa (if th = 0 then chE ch else ch) tn he en ln sv wr dg ++ bI83 k (q 1) (if th = 0 then v else be) ++ bI83 k (q 2) be ++ bF10 k (q 6) (if th = 0 then fl else fb) ++ bF10 k (q 7) fb ++ bI664 k (q 4) (if th = 0 then paE ch pa be else pa) ++ bF80 k (q 9) z9)) e_6) hD
        exact W.iret (v := x) hx hb hr (fun t9 ht hW => ⟨⟨_, (), rfl, (by rw [if_pos ht0]), ⟨by rw [ht]; exact hP, va_K.moved hW.alike hK, hD⟩⟩, hS.F ht⟩) hS.2.2 dX13_ends_188 hlocks
      · skip
        have c_1 : ¬ 10 ≤ i := fun h => c_1 ((nI_leI (a := 10) (b := i) (by omega) (by omega)).mpr h)
        refine lv_aload_n hx hb dX13_ends_151 rfl (lv_at hl 0 rfl) ?_
        refine va_get (D := D) (ci := 11) (v := .ref (q 9)) (C := RX13) (T := TX13) (N := 29) hx hb hts kc_RX13 hown hK hP 0 rfl rfl 13 (by decide) k_fieldLink_42 (fun _ h9 => h9) rfl dX13_ends_152 ?_
        refine lv_aload_n hx hb dX13_ends_155 rfl (lv_at hl 0 rfl) ?_
        refine va_get (D := D) (ci := 11) (v := .int (nI c1)) (C := RX13) (T := TX13) (N := 29) hx hb hts kc_RX13 hown hK hP 0 rfl rfl 1 (by decide) k_fieldLink_88 (fun _ h9 => h9) rfl dX13_ends_156 ?_
        refine lv_bipush (v := 10) hx hb dX13_ends_159 (by decide) ?_
        refine ni_mul hx hb c1 10 dX13_ends_161 ?_
        refine lv_iload_n hx hb dX13_ends_162 rfl (lv_at hl 2 rfl) ?_
        refine ni_add hx hb (c1 * 10) i dX13_ends_163 ?_
        refine lv_aload_n hx hb dX13_ends_164 rfl (lv_at hl 0 rfl) ?_
        refine va_get (D := D) (ci := 11) (v := .ref (q 7)) (C := RX13) (T := TX13) (N := 29) hx hb hts kc_RX13 hown hK hP 0 rfl rfl 11 (by decide) k_fieldLink_36 (fun _ h9 => h9) rfl dX13_ends_165 ?_
        refine lv_iload_n hx hb dX13_ends_168 rfl (lv_at hl 2 rfl) ?_
        refine fa_ld hx hb hK hP 4 rfl i (by omega) (by decide) dX13_ends_169 ?_
        refine fa_st hx hb hK hP hD hS 6 rfl ((c1 * 10) + i) (by omega) (by decide) (bMO k q th ea fa c1 tn he en ln sv wr dg ++ bI83 k (q 1) v ++ bI83 k (q 2) be ++ bF10 k (q 6) fl ++ bF10 k (q 7) fb ++ bI664 k (q 4) (pt p1 (c1 * 83) be 83) ++ bF80 k (q 9) (vf_upd (pt f1 (c1 * 10) fb i) ((c1 * 10) + i) (fb i))) rfl dX13_ends_170 (fun H locs hP hD hS => ?_)
        refine lv_iinc (v := nI (i + 1)) (lv' := [(2, .int (nI (i + 1))), (0, .ref (q 0)), (1, .int x)]) hx hb dX13_ends_171 hl (k := 2) rfl (nI_inc i) (by decide) rfl (fun ls hl => ?_)
        refine lv_goto (tgt := 145) hx hb dX13_ends_174 (by decide) ?_
        have e_7 : (vf_upd (pt f1 (c1 * 10) fb i) ((c1 * 10) + i) (fb i) : Nat → UInt32) = pt f1 (c1 * 10) fb (i + 1) := by first | (with_reducible rfl) | (exact pt_v _ _ _ _)
        have hP := Eq.mp (congrArg (fun z9 => va_P D vwCl (bMO k q th ea fa c1 tn he en ln sv wr dg ++ bI83 k (q 1) v ++ bI83 k (q 2) be ++ bF10 k (q 6) fl ++ bF10 k (q 7) fb ++ bI664 k (q 4) (pt p1 (c1 * 83) be 83) ++ bF80 k (q 9) z9) H) e_7) hP
        have hD := Eq.mp (congrArg (fun z9 => va_D A (bMO k q th ea fa c1 tn he en ln sv wr dg ++ bI83 k (q 1) v ++ bI83 k (q 2) be ++ bF10 k (q 6) fl ++ bF10 k (q 7) fb ++ bI664 k (q 4) (pt p1 (c1 * 83) be 83) ++ bF80 k (q 9) z9)) e_7) hD
        exact ih_145 (i + 1) c1 p1 f1 (by omega) ht0 hc1 hc7 hp1 hf1 (by omega) ls _ _ hP hD hS (lv_one hl 1 rfl rfl (lv_one hl 2 rfl rfl (lv_one hl 0 rfl rfl (lv_nil hl))))
  have loop_111 : ∀ (fuel : Nat) (i c1 : Nat) (p1 : Nat → Int32) (f1 : Nat → UInt32), (i ≤ 83) → (th = 0) → (c1 = c1E ch) → (c1 ≤ 7) → (p1 = if ch = 8 then s83 pa 581 else pa) → (f1 = if ch = 8 then s10 fp 70 else fp) → 83 - i < fuel → ∀ (ls : Array Slot), ∀ (H : Heap) (locs : List Loc), va_P D vwCl (bMO k q th ea fa c1 tn he en ln sv wr dg ++ bI83 k (q 1) v ++ bI83 k (q 2) be ++ bF10 k (q 6) fl ++ bF10 k (q 7) fb ++ bI664 k (q 4) (pt p1 (c1 * 83) be i) ++ bF80 k (q 9) f1) H → va_D A (bMO k q th ea fa c1 tn he en ln sv wr dg ++ bI83 k (q 1) v ++ bI83 k (q 2) be ++ bF10 k (q 6) fl ++ bF10 k (q 7) fb ++ bI664 k (q 4) (pt p1 (c1 * 83) be i) ++ bF80 k (q 9) f1) → va_S A s9.heap H locs → lv_has ls 3 [(0, .ref (q 0)), (1, .int x), (2, .int (nI i))] → W p9 l9 e9 ({ frames := 1, cells := 0, slots := 0, locals := 22 }) s9 m9 ([.ref (q 0), .int x] : List Value).toArray bl9 me9 c9 H locs 0 0 (MQ bl9 (WI D k (bMO k q th ea fa (if th = 0 then chE ch else ch) tn he en ln sv wr dg ++ bI83 k (q 1) (if th = 0 then v else be) ++ bI83 k (q 2) be ++ bF10 k (q 6) (if th = 0 then fl else fb) ++ bF10 k (q 7) fb ++ bI664 k (q 4) (if th = 0 then paE ch pa be else pa) ++ bF80 k (q 9) (if th = 0 then fpE ch fp fb else fp)) (if th = 0 then x else 0) A) ([.ref (q 0), .int x] : List Value).toArray s9 0 0 A) (F0 m9 111 ls []) := by
    intro fuel
    induction fuel with
    | zero => intro i c1 p1 f1 hi ht0 hc1 hc7 hp1 hf1 hfuel_111; exact absurd hfuel_111 (Nat.not_lt_zero _)
    | succ fuel ih_111 =>
      intro i c1 p1 f1 hi ht0 hc1 hc7 hp1 hf1 hfuel_111 ls H locs hP hD hS hl
      refine lv_iload_n hx hb dX13_ends_111 rfl (lv_at hl 2 rfl) ?_
      refine lv_bipush (v := 83) hx hb dX13_ends_112 (by decide) ?_
      refine lv_icmp_ge (tgt := 143) hx hb dX13_ends_114 (by decide) (fun c_8 => ?_) (fun c_8 => ?_)
      · skip
        have c_8 : 83 ≤ i := (nI_leI (a := 83) (b := i) (by omega) (by omega)).mp c_8
        refine lv_iconst (v := 0) hx hb dX13_ends_143 (by decide) ?_
        refine lv_istore_n (lv' := [(2, .int 0), (0, .ref (q 0)), (1, .int x)]) hx hb dX13_ends_144 rfl hl (by decide) rfl (fun ls hl => ?_)
        have e_9 : (pt p1 (c1 * 83) be i : Nat → Int32) = pt p1 (c1 * 83) be 83 := by first | (with_reducible rfl) | (rw [show i = 83 by omega])
        have hP := Eq.mp (congrArg (fun z9 => va_P D vwCl (bMO k q th ea fa c1 tn he en ln sv wr dg ++ bI83 k (q 1) v ++ bI83 k (q 2) be ++ bF10 k (q 6) fl ++ bF10 k (q 7) fb ++ bI664 k (q 4) z9 ++ bF80 k (q 9) f1) H) e_9) hP
        have hD := Eq.mp (congrArg (fun z9 => va_D A (bMO k q th ea fa c1 tn he en ln sv wr dg ++ bI83 k (q 1) v ++ bI83 k (q 2) be ++ bF10 k (q 6) fl ++ bF10 k (q 7) fb ++ bI664 k (q 4) z9 ++ bF80 k (q 9) f1)) e_9) hD
        have e_10 : (f1 : Nat → UInt32) = pt f1 (c1 * 10) fb 0 := by first | (with_reducible rfl) | (exact pt_0 _ _ _)
        have hP := Eq.mp (congrArg (fun z9 => va_P D vwCl (bMO k q th ea fa c1 tn he en ln sv wr dg ++ bI83 k (q 1) v ++ bI83 k (q 2) be ++ bF10 k (q 6) fl ++ bF10 k (q 7) fb ++ bI664 k (q 4) (pt p1 (c1 * 83) be 83) ++ bF80 k (q 9) z9) H) e_10) hP
        have hD := Eq.mp (congrArg (fun z9 => va_D A (bMO k q th ea fa c1 tn he en ln sv wr dg ++ bI83 k (q 1) v ++ bI83 k (q 2) be ++ bF10 k (q 6) fl ++ bF10 k (q 7) fb ++ bI664 k (q 4) (pt p1 (c1 * 83) be 83) ++ bF80 k (q 9) z9)) e_10) hD
        exact loop_145 ((10 - 0) + 1) 0 c1 p1 f1 (by omega) ht0 hc1 hc7 hp1 hf1 (Nat.lt_succ_self _) ls _ _ hP hD hS (lv_one hl 1 rfl rfl (lv_one hl 2 rfl rfl (lv_one hl 0 rfl rfl (lv_nil hl))))
      · skip
        have c_8 : ¬ 83 ≤ i := fun h => c_8 ((nI_leI (a := 83) (b := i) (by omega) (by omega)).mpr h)
        refine lv_aload_n hx hb dX13_ends_117 rfl (lv_at hl 0 rfl) ?_
        refine va_get (D := D) (ci := 11) (v := .ref (q 4)) (C := RX13) (T := TX13) (N := 29) hx hb hts kc_RX13 hown hK hP 0 rfl rfl 8 (by decide) k_fieldLink_26 (fun _ h9 => h9) rfl dX13_ends_118 ?_
        refine lv_aload_n hx hb dX13_ends_121 rfl (lv_at hl 0 rfl) ?_
        refine va_get (D := D) (ci := 11) (v := .int (nI c1)) (C := RX13) (T := TX13) (N := 29) hx hb hts kc_RX13 hown hK hP 0 rfl rfl 1 (by decide) k_fieldLink_88 (fun _ h9 => h9) rfl dX13_ends_122 ?_
        refine lv_bipush (v := 83) hx hb dX13_ends_125 (by decide) ?_
        refine ni_mul hx hb c1 83 dX13_ends_127 ?_
        refine lv_iload_n hx hb dX13_ends_128 rfl (lv_at hl 2 rfl) ?_
        refine ni_add hx hb (c1 * 83) i dX13_ends_129 ?_
        refine lv_aload_n hx hb dX13_ends_130 rfl (lv_at hl 0 rfl) ?_
        refine va_get (D := D) (ci := 11) (v := .ref (q 2)) (C := RX13) (T := TX13) (N := 29) hx hb hts kc_RX13 hown hK hP 0 rfl rfl 6 (by decide) k_fieldLink_20 (fun _ h9 => h9) rfl dX13_ends_131 ?_
        refine lv_iload_n hx hb dX13_ends_134 rfl (lv_at hl 2 rfl) ?_
        refine ia_ld hx hb hK hP 2 rfl i (by omega) (by decide) dX13_ends_135 ?_
        refine ia_st hx hb hK hP hD hS 5 rfl ((c1 * 83) + i) (by omega) (by decide) (bMO k q th ea fa c1 tn he en ln sv wr dg ++ bI83 k (q 1) v ++ bI83 k (q 2) be ++ bF10 k (q 6) fl ++ bF10 k (q 7) fb ++ bI664 k (q 4) (upd (pt p1 (c1 * 83) be i) ((c1 * 83) + i) (be i)) ++ bF80 k (q 9) f1) rfl dX13_ends_136 (fun H locs hP hD hS => ?_)
        refine lv_iinc (v := nI (i + 1)) (lv' := [(2, .int (nI (i + 1))), (0, .ref (q 0)), (1, .int x)]) hx hb dX13_ends_137 hl (k := 2) rfl (nI_inc i) (by decide) rfl (fun ls hl => ?_)
        refine lv_goto (tgt := 111) hx hb dX13_ends_140 (by decide) ?_
        have e_11 : (upd (pt p1 (c1 * 83) be i) ((c1 * 83) + i) (be i) : Nat → Int32) = pt p1 (c1 * 83) be (i + 1) := by first | (with_reducible rfl) | (exact pt_u _ _ _ _)
        have hP := Eq.mp (congrArg (fun z9 => va_P D vwCl (bMO k q th ea fa c1 tn he en ln sv wr dg ++ bI83 k (q 1) v ++ bI83 k (q 2) be ++ bF10 k (q 6) fl ++ bF10 k (q 7) fb ++ bI664 k (q 4) z9 ++ bF80 k (q 9) f1) H) e_11) hP
        have hD := Eq.mp (congrArg (fun z9 => va_D A (bMO k q th ea fa c1 tn he en ln sv wr dg ++ bI83 k (q 1) v ++ bI83 k (q 2) be ++ bF10 k (q 6) fl ++ bF10 k (q 7) fb ++ bI664 k (q 4) z9 ++ bF80 k (q 9) f1)) e_11) hD
        exact ih_111 (i + 1) c1 p1 f1 (by omega) ht0 hc1 hc7 hp1 hf1 (by omega) ls _ _ hP hD hS (lv_one hl 1 rfl rfl (lv_one hl 2 rfl rfl (lv_one hl 0 rfl rfl (lv_nil hl))))
  have loop_72 : ∀ (fuel : Nat) (i : Nat), (i ≤ 70) → (th = 0) → (ch = 8) → 70 - i < fuel → ∀ (ls : Array Slot), ∀ (H : Heap) (locs : List Loc), va_P D vwCl (bMO k q th ea fa ch tn he en ln sv wr dg ++ bI83 k (q 1) v ++ bI83 k (q 2) be ++ bF10 k (q 6) fl ++ bF10 k (q 7) fb ++ bI664 k (q 4) (s83 pa 581) ++ bF80 k (q 9) (s10 fp i)) H → va_D A (bMO k q th ea fa ch tn he en ln sv wr dg ++ bI83 k (q 1) v ++ bI83 k (q 2) be ++ bF10 k (q 6) fl ++ bF10 k (q 7) fb ++ bI664 k (q 4) (s83 pa 581) ++ bF80 k (q 9) (s10 fp i)) → va_S A s9.heap H locs → lv_has ls 3 [(0, .ref (q 0)), (1, .int x), (2, .int (nI i))] → W p9 l9 e9 ({ frames := 1, cells := 0, slots := 0, locals := 22 }) s9 m9 ([.ref (q 0), .int x] : List Value).toArray bl9 me9 c9 H locs 0 0 (MQ bl9 (WI D k (bMO k q th ea fa (if th = 0 then chE ch else ch) tn he en ln sv wr dg ++ bI83 k (q 1) (if th = 0 then v else be) ++ bI83 k (q 2) be ++ bF10 k (q 6) (if th = 0 then fl else fb) ++ bF10 k (q 7) fb ++ bI664 k (q 4) (if th = 0 then paE ch pa be else pa) ++ bF80 k (q 9) (if th = 0 then fpE ch fp fb else fp)) (if th = 0 then x else 0) A) ([.ref (q 0), .int x] : List Value).toArray s9 0 0 A) (F0 m9 72 ls []) := by
    intro fuel
    induction fuel with
    | zero => intro i hi ht0 h8 hfuel_72; exact absurd hfuel_72 (Nat.not_lt_zero _)
    | succ fuel ih_72 =>
      intro i hi ht0 h8 hfuel_72 ls H locs hP hD hS hl
      refine lv_iload_n hx hb dX13_ends_72 rfl (lv_at hl 2 rfl) ?_
      refine lv_bipush (v := 70) hx hb dX13_ends_73 (by decide) ?_
      refine lv_icmp_ge (tgt := 99) hx hb dX13_ends_75 (by decide) (fun c_12 => ?_) (fun c_12 => ?_)
      · skip
        have c_12 : 70 ≤ i := (nI_leI (a := 70) (b := i) (by omega) (by omega)).mp c_12
        refine lv_aload_n hx hb dX13_ends_99 rfl (lv_at hl 0 rfl) ?_
        refine lv_dup hx hb dX13_ends_100 rfl ?_
        refine va_get (D := D) (ci := 11) (v := .int (nI ch)) (C := RX13) (T := TX13) (N := 29) hx hb hts kc_RX13 hown hK hP 0 rfl rfl 1 (by decide) k_fieldLink_88 (fun _ h9 => h9) rfl dX13_ends_101 ?_
        refine lv_iconst (v := 1) hx hb dX13_ends_104 (by decide) ?_
        refine ni_sub hx hb ch 1 (by omega) dX13_ends_105 ?_
        refine va_put (D := D) (ci := 11) (v := .int (nI (ch - 1))) (ty := .int) (C := RX13) (T := TX13) (N := 29) hx hb hts kc_RX13 tyX13 tyX13_ok nmX13 hown hK hP hD hS 0 rfl rfl 1 (by decide) k_fieldLink_88 (fun _ h9 => h9) rfl (by decide +kernel) rfl rfl (Nat.le_of_ble_eq_true rfl) dX13_ends_106 (fun H locs hP hD hS => ?_)
        have hP : va_P D vwCl (bMO k q th ea fa (ch - 1) tn he en ln sv wr dg ++ bI83 k (q 1) v ++ bI83 k (q 2) be ++ bF10 k (q 6) fl ++ bF10 k (q 7) fb ++ bI664 k (q 4) (s83 pa 581) ++ bF80 k (q 9) (s10 fp i)) H := hP
        have hD : va_D A (bMO k q th ea fa (ch - 1) tn he en ln sv wr dg ++ bI83 k (q 1) v ++ bI83 k (q 2) be ++ bF10 k (q 6) fl ++ bF10 k (q 7) fb ++ bI664 k (q 4) (s83 pa 581) ++ bF80 k (q 9) (s10 fp i)) := hD
        refine lv_iconst (v := 0) hx hb dX13_ends_109 (by decide) ?_
        refine lv_istore_n (lv' := [(2, .int 0), (0, .ref (q 0)), (1, .int x)]) hx hb dX13_ends_110 rfl hl (by decide) rfl (fun ls hl => ?_)
        have e_13 : (s83 pa 581 : Nat → Int32) = pt (s83 pa 581) ((ch - 1) * 83) be 0 := by first | (with_reducible rfl) | (exact pt_0 _ _ _)
        have hP := Eq.mp (congrArg (fun z9 => va_P D vwCl (bMO k q th ea fa (ch - 1) tn he en ln sv wr dg ++ bI83 k (q 1) v ++ bI83 k (q 2) be ++ bF10 k (q 6) fl ++ bF10 k (q 7) fb ++ bI664 k (q 4) z9 ++ bF80 k (q 9) (s10 fp i)) H) e_13) hP
        have hD := Eq.mp (congrArg (fun z9 => va_D A (bMO k q th ea fa (ch - 1) tn he en ln sv wr dg ++ bI83 k (q 1) v ++ bI83 k (q 2) be ++ bF10 k (q 6) fl ++ bF10 k (q 7) fb ++ bI664 k (q 4) z9 ++ bF80 k (q 9) (s10 fp i))) e_13) hD
        have e_14 : (s10 fp i : Nat → UInt32) = (s10 fp 70) := by first | (with_reducible rfl) | (rw [show i = 70 by omega])
        have hP := Eq.mp (congrArg (fun z9 => va_P D vwCl (bMO k q th ea fa (ch - 1) tn he en ln sv wr dg ++ bI83 k (q 1) v ++ bI83 k (q 2) be ++ bF10 k (q 6) fl ++ bF10 k (q 7) fb ++ bI664 k (q 4) (pt (s83 pa 581) ((ch - 1) * 83) be 0) ++ bF80 k (q 9) z9) H) e_14) hP
        have hD := Eq.mp (congrArg (fun z9 => va_D A (bMO k q th ea fa (ch - 1) tn he en ln sv wr dg ++ bI83 k (q 1) v ++ bI83 k (q 2) be ++ bF10 k (q 6) fl ++ bF10 k (q 7) fb ++ bI664 k (q 4) (pt (s83 pa 581) ((ch - 1) * 83) be 0) ++ bF80 k (q 9) z9)) e_14) hD
        exact loop_111 ((83 - 0) + 1) 0 (ch - 1) (s83 pa 581) (s10 fp 70) (by omega) ht0 (by unfold c1E; rw [if_pos h8]; omega) (by omega) (by rw [if_pos h8]) (by rw [if_pos h8]) (Nat.lt_succ_self _) ls _ _ hP hD hS (lv_one hl 1 rfl rfl (lv_one hl 2 rfl rfl (lv_one hl 0 rfl rfl (lv_nil hl))))
      · skip
        have c_12 : ¬ 70 ≤ i := fun h => c_12 ((nI_leI (a := 70) (b := i) (by omega) (by omega)).mpr h)
        refine lv_aload_n hx hb dX13_ends_78 rfl (lv_at hl 0 rfl) ?_
        refine va_get (D := D) (ci := 11) (v := .ref (q 9)) (C := RX13) (T := TX13) (N := 29) hx hb hts kc_RX13 hown hK hP 0 rfl rfl 13 (by decide) k_fieldLink_42 (fun _ h9 => h9) rfl dX13_ends_79 ?_
        refine lv_iload_n hx hb dX13_ends_82 rfl (lv_at hl 2 rfl) ?_
        refine lv_aload_n hx hb dX13_ends_83 rfl (lv_at hl 0 rfl) ?_
        refine va_get (D := D) (ci := 11) (v := .ref (q 9)) (C := RX13) (T := TX13) (N := 29) hx hb hts kc_RX13 hown hK hP 0 rfl rfl 13 (by decide) k_fieldLink_42 (fun _ h9 => h9) rfl dX13_ends_84 ?_
        refine lv_iload_n hx hb dX13_ends_87 rfl (lv_at hl 2 rfl) ?_
        refine lv_bipush (v := 10) hx hb dX13_ends_88 (by decide) ?_
        refine ni_add hx hb i 10 dX13_ends_90 ?_
        refine fa_ld hx hb hK hP 6 rfl (i + 10) (by omega) (by decide) dX13_ends_91 ?_
        refine fa_st hx hb hK hP hD hS 6 rfl i (by omega) (by decide) (bMO k q th ea fa ch tn he en ln sv wr dg ++ bI83 k (q 1) v ++ bI83 k (q 2) be ++ bF10 k (q 6) fl ++ bF10 k (q 7) fb ++ bI664 k (q 4) (s83 pa 581) ++ bF80 k (q 9) (vf_upd (s10 fp i) i ((s10 fp i) (i + 10)))) rfl dX13_ends_92 (fun H locs hP hD hS => ?_)
        refine lv_iinc (v := nI (i + 1)) (lv' := [(2, .int (nI (i + 1))), (0, .ref (q 0)), (1, .int x)]) hx hb dX13_ends_93 hl (k := 2) rfl (nI_inc i) (by decide) rfl (fun ls hl => ?_)
        refine lv_goto (tgt := 72) hx hb dX13_ends_96 (by decide) ?_
        have e_15 : (vf_upd (s10 fp i) i ((s10 fp i) (i + 10)) : Nat → UInt32) = s10 fp (i + 1) := by first | (with_reducible rfl) | (exact s10_u fp i)
        have hP := Eq.mp (congrArg (fun z9 => va_P D vwCl (bMO k q th ea fa ch tn he en ln sv wr dg ++ bI83 k (q 1) v ++ bI83 k (q 2) be ++ bF10 k (q 6) fl ++ bF10 k (q 7) fb ++ bI664 k (q 4) (s83 pa 581) ++ bF80 k (q 9) z9) H) e_15) hP
        have hD := Eq.mp (congrArg (fun z9 => va_D A (bMO k q th ea fa ch tn he en ln sv wr dg ++ bI83 k (q 1) v ++ bI83 k (q 2) be ++ bF10 k (q 6) fl ++ bF10 k (q 7) fb ++ bI664 k (q 4) (s83 pa 581) ++ bF80 k (q 9) z9)) e_15) hD
        exact ih_72 (i + 1) (by omega) ht0 h8 (by omega) ls _ _ hP hD hS (lv_one hl 1 rfl rfl (lv_one hl 2 rfl rfl (lv_one hl 0 rfl rfl (lv_nil hl))))
  have loop_42 : ∀ (fuel : Nat) (i : Nat), (i ≤ 581) → (th = 0) → (ch = 8) → 581 - i < fuel → ∀ (ls : Array Slot), ∀ (H : Heap) (locs : List Loc), va_P D vwCl (bMO k q th ea fa ch tn he en ln sv wr dg ++ bI83 k (q 1) v ++ bI83 k (q 2) be ++ bF10 k (q 6) fl ++ bF10 k (q 7) fb ++ bI664 k (q 4) (s83 pa i) ++ bF80 k (q 9) fp) H → va_D A (bMO k q th ea fa ch tn he en ln sv wr dg ++ bI83 k (q 1) v ++ bI83 k (q 2) be ++ bF10 k (q 6) fl ++ bF10 k (q 7) fb ++ bI664 k (q 4) (s83 pa i) ++ bF80 k (q 9) fp) → va_S A s9.heap H locs → lv_has ls 3 [(0, .ref (q 0)), (1, .int x), (2, .int (nI i))] → W p9 l9 e9 ({ frames := 1, cells := 0, slots := 0, locals := 22 }) s9 m9 ([.ref (q 0), .int x] : List Value).toArray bl9 me9 c9 H locs 0 0 (MQ bl9 (WI D k (bMO k q th ea fa (if th = 0 then chE ch else ch) tn he en ln sv wr dg ++ bI83 k (q 1) (if th = 0 then v else be) ++ bI83 k (q 2) be ++ bF10 k (q 6) (if th = 0 then fl else fb) ++ bF10 k (q 7) fb ++ bI664 k (q 4) (if th = 0 then paE ch pa be else pa) ++ bF80 k (q 9) (if th = 0 then fpE ch fp fb else fp)) (if th = 0 then x else 0) A) ([.ref (q 0), .int x] : List Value).toArray s9 0 0 A) (F0 m9 42 ls []) := by
    intro fuel
    induction fuel with
    | zero => intro i hi ht0 h8 hfuel_42; exact absurd hfuel_42 (Nat.not_lt_zero _)
    | succ fuel ih_42 =>
      intro i hi ht0 h8 hfuel_42 ls H locs hP hD hS hl
      refine lv_iload_n hx hb dX13_ends_42 rfl (lv_at hl 2 rfl) ?_
      refine lv_sipush (v := 581) hx hb dX13_ends_43 (by decide) ?_
      refine lv_icmp_ge (tgt := 70) hx hb dX13_ends_46 (by decide) (fun c_16 => ?_) (fun c_16 => ?_)
      · skip
        have c_16 : 581 ≤ i := (nI_leI (a := 581) (b := i) (by omega) (by omega)).mp c_16
        refine lv_iconst (v := 0) hx hb dX13_ends_70 (by decide) ?_
        refine lv_istore_n (lv' := [(2, .int 0), (0, .ref (q 0)), (1, .int x)]) hx hb dX13_ends_71 rfl hl (by decide) rfl (fun ls hl => ?_)
        have e_17 : (s83 pa i : Nat → Int32) = s83 pa 581 := by first | (with_reducible rfl) | (rw [show i = 581 by omega])
        have hP := Eq.mp (congrArg (fun z9 => va_P D vwCl (bMO k q th ea fa ch tn he en ln sv wr dg ++ bI83 k (q 1) v ++ bI83 k (q 2) be ++ bF10 k (q 6) fl ++ bF10 k (q 7) fb ++ bI664 k (q 4) z9 ++ bF80 k (q 9) fp) H) e_17) hP
        have hD := Eq.mp (congrArg (fun z9 => va_D A (bMO k q th ea fa ch tn he en ln sv wr dg ++ bI83 k (q 1) v ++ bI83 k (q 2) be ++ bF10 k (q 6) fl ++ bF10 k (q 7) fb ++ bI664 k (q 4) z9 ++ bF80 k (q 9) fp)) e_17) hD
        have e_18 : (fp : Nat → UInt32) = s10 fp 0 := by first | (with_reducible rfl) | (exact s10_0 fp)
        have hP := Eq.mp (congrArg (fun z9 => va_P D vwCl (bMO k q th ea fa ch tn he en ln sv wr dg ++ bI83 k (q 1) v ++ bI83 k (q 2) be ++ bF10 k (q 6) fl ++ bF10 k (q 7) fb ++ bI664 k (q 4) (s83 pa 581) ++ bF80 k (q 9) z9) H) e_18) hP
        have hD := Eq.mp (congrArg (fun z9 => va_D A (bMO k q th ea fa ch tn he en ln sv wr dg ++ bI83 k (q 1) v ++ bI83 k (q 2) be ++ bF10 k (q 6) fl ++ bF10 k (q 7) fb ++ bI664 k (q 4) (s83 pa 581) ++ bF80 k (q 9) z9)) e_18) hD
        exact loop_72 ((70 - 0) + 1) 0 (by omega) ht0 h8 (Nat.lt_succ_self _) ls _ _ hP hD hS (lv_one hl 1 rfl rfl (lv_one hl 2 rfl rfl (lv_one hl 0 rfl rfl (lv_nil hl))))
      · skip
        have c_16 : ¬ 581 ≤ i := fun h => c_16 ((nI_leI (a := 581) (b := i) (by omega) (by omega)).mpr h)
        refine lv_aload_n hx hb dX13_ends_49 rfl (lv_at hl 0 rfl) ?_
        refine va_get (D := D) (ci := 11) (v := .ref (q 4)) (C := RX13) (T := TX13) (N := 29) hx hb hts kc_RX13 hown hK hP 0 rfl rfl 8 (by decide) k_fieldLink_26 (fun _ h9 => h9) rfl dX13_ends_50 ?_
        refine lv_iload_n hx hb dX13_ends_53 rfl (lv_at hl 2 rfl) ?_
        refine lv_aload_n hx hb dX13_ends_54 rfl (lv_at hl 0 rfl) ?_
        refine va_get (D := D) (ci := 11) (v := .ref (q 4)) (C := RX13) (T := TX13) (N := 29) hx hb hts kc_RX13 hown hK hP 0 rfl rfl 8 (by decide) k_fieldLink_26 (fun _ h9 => h9) rfl dX13_ends_55 ?_
        refine lv_iload_n hx hb dX13_ends_58 rfl (lv_at hl 2 rfl) ?_
        refine lv_bipush (v := 83) hx hb dX13_ends_59 (by decide) ?_
        refine ni_add hx hb i 83 dX13_ends_61 ?_
        refine ia_ld hx hb hK hP 5 rfl (i + 83) (by omega) (by decide) dX13_ends_62 ?_
        refine ia_st hx hb hK hP hD hS 5 rfl i (by omega) (by decide) (bMO k q th ea fa ch tn he en ln sv wr dg ++ bI83 k (q 1) v ++ bI83 k (q 2) be ++ bF10 k (q 6) fl ++ bF10 k (q 7) fb ++ bI664 k (q 4) (upd (s83 pa i) i ((s83 pa i) (i + 83))) ++ bF80 k (q 9) fp) rfl dX13_ends_63 (fun H locs hP hD hS => ?_)
        refine lv_iinc (v := nI (i + 1)) (lv' := [(2, .int (nI (i + 1))), (0, .ref (q 0)), (1, .int x)]) hx hb dX13_ends_64 hl (k := 2) rfl (nI_inc i) (by decide) rfl (fun ls hl => ?_)
        refine lv_goto (tgt := 42) hx hb dX13_ends_67 (by decide) ?_
        have e_19 : (upd (s83 pa i) i ((s83 pa i) (i + 83)) : Nat → Int32) = s83 pa (i + 1) := by first | (with_reducible rfl) | (exact s83_u pa i)
        have hP := Eq.mp (congrArg (fun z9 => va_P D vwCl (bMO k q th ea fa ch tn he en ln sv wr dg ++ bI83 k (q 1) v ++ bI83 k (q 2) be ++ bF10 k (q 6) fl ++ bF10 k (q 7) fb ++ bI664 k (q 4) z9 ++ bF80 k (q 9) fp) H) e_19) hP
        have hD := Eq.mp (congrArg (fun z9 => va_D A (bMO k q th ea fa ch tn he en ln sv wr dg ++ bI83 k (q 1) v ++ bI83 k (q 2) be ++ bF10 k (q 6) fl ++ bF10 k (q 7) fb ++ bI664 k (q 4) z9 ++ bF80 k (q 9) fp)) e_19) hD
        exact ih_42 (i + 1) (by omega) ht0 h8 (by omega) ls _ _ hP hD hS (lv_one hl 1 rfl rfl (lv_one hl 2 rfl rfl (lv_one hl 0 rfl rfl (lv_nil hl))))
  refine lv_aload_n hx hb dX13_ends_0 rfl (lv_at hl 0 rfl) ?_
  refine va_get (D := D) (ci := 11) (v := .int th) (C := RX13) (T := TX13) (N := 29) hx hb hts kc_RX13 hown hK hP 0 rfl rfl 0 (by decide) k_fieldLink_77 (fun _ h9 => h9) rfl dX13_ends_1 ?_
  refine lv_if_eq (tgt := 31) hx hb dX13_ends_4 (by decide) (fun c_20 => ?_) (fun c_20 => ?_)
  · skip
    refine lv_aload_n hx hb dX13_ends_31 rfl (lv_at hl 0 rfl) ?_
    refine va_get (D := D) (ci := 11) (v := .int (nI ch)) (C := RX13) (T := TX13) (N := 29) hx hb hts kc_RX13 hown hK hP 0 rfl rfl 1 (by decide) k_fieldLink_88 (fun _ h9 => h9) rfl dX13_ends_32 ?_
    refine lv_bipush (v := 8) hx hb dX13_ends_35 (by decide) ?_
    refine lv_icmp_ne (tgt := 109) hx hb dX13_ends_37 (by decide) (fun c_21 => ?_) (fun c_21 => ?_)
    · skip
      have c_21 : ¬ ch = 8 := fun h => c_21 ((nI_eq (a := ch) (b := 8) (by omega) (by omega)).mpr h)
      refine lv_iconst (v := 0) hx hb dX13_ends_109 (by decide) ?_
      refine lv_istore_n (lv' := [(2, .int 0), (0, .ref (q 0)), (1, .int x)]) hx hb dX13_ends_110 rfl hl (by decide) rfl (fun ls hl => ?_)
      have e_22 : (pa : Nat → Int32) = pt pa (ch * 83) be 0 := by first | (with_reducible rfl) | (exact pt_0 _ _ _)
      have hP := Eq.mp (congrArg (fun z9 => va_P D vwCl (bMO k q th ea fa ch tn he en ln sv wr dg ++ bI83 k (q 1) v ++ bI83 k (q 2) be ++ bF10 k (q 6) fl ++ bF10 k (q 7) fb ++ bI664 k (q 4) z9 ++ bF80 k (q 9) fp) H) e_22) hP
      have hD := Eq.mp (congrArg (fun z9 => va_D A (bMO k q th ea fa ch tn he en ln sv wr dg ++ bI83 k (q 1) v ++ bI83 k (q 2) be ++ bF10 k (q 6) fl ++ bF10 k (q 7) fb ++ bI664 k (q 4) z9 ++ bF80 k (q 9) fp)) e_22) hD
      exact loop_111 ((83 - 0) + 1) 0 ch pa fp (by omega) (by assumption) (by unfold c1E; rw [if_neg (by assumption)]) (by omega) (by rw [if_neg (by assumption)]) (by rw [if_neg (by assumption)]) (Nat.lt_succ_self _) ls _ _ hP hD hS (lv_one hl 1 rfl rfl (lv_one hl 2 rfl rfl (lv_one hl 0 rfl rfl (lv_nil hl))))
    · skip
      have c_21 : ch = 8 := (nI_eq (a := ch) (b := 8) (by omega) (by omega)).mp c_21
      refine lv_iconst (v := 0) hx hb dX13_ends_40 (by decide) ?_
      refine lv_istore_n (lv' := [(2, .int 0), (0, .ref (q 0)), (1, .int x)]) hx hb dX13_ends_41 rfl hl (by decide) rfl (fun ls hl => ?_)
      have e_23 : (pa : Nat → Int32) = s83 pa 0 := by first | (with_reducible rfl) | (exact s83_0 pa)
      have hP := Eq.mp (congrArg (fun z9 => va_P D vwCl (bMO k q th ea fa ch tn he en ln sv wr dg ++ bI83 k (q 1) v ++ bI83 k (q 2) be ++ bF10 k (q 6) fl ++ bF10 k (q 7) fb ++ bI664 k (q 4) z9 ++ bF80 k (q 9) fp) H) e_23) hP
      have hD := Eq.mp (congrArg (fun z9 => va_D A (bMO k q th ea fa ch tn he en ln sv wr dg ++ bI83 k (q 1) v ++ bI83 k (q 2) be ++ bF10 k (q 6) fl ++ bF10 k (q 7) fb ++ bI664 k (q 4) z9 ++ bF80 k (q 9) fp)) e_23) hD
      exact loop_42 ((581 - 0) + 1) 0 (by omega) (by assumption) (by omega) (Nat.lt_succ_self _) ls _ _ hP hD hS (lv_one hl 1 rfl rfl (lv_one hl 2 rfl rfl (lv_one hl 0 rfl rfl (lv_nil hl))))
  · skip
    refine lv_aload_n hx hb dX13_ends_7 rfl (lv_at hl 0 rfl) ?_
    refine va_get (D := D) (ci := 11) (v := .ref (q 1)) (C := RX13) (T := TX13) (N := 29) hx hb hts kc_RX13 hown hK hP 0 rfl rfl 5 (by decide) k_fieldLink_16 (fun _ h9 => h9) rfl dX13_ends_8 ?_
    refine lv_aload_n hx hb dX13_ends_11 rfl (lv_at hl 0 rfl) ?_
    refine va_get (D := D) (ci := 11) (v := .ref (q 2)) (C := RX13) (T := TX13) (N := 29) hx hb hts kc_RX13 hown hK hP 0 rfl rfl 6 (by decide) k_fieldLink_20 (fun _ h9 => h9) rfl dX13_ends_12 ?_
    have hFc := va_free (wc := bI83 k (q 1) v ++ bI83 k (q 2) be) hD hS hA [1, 2] rfl
    refine va_callv (va_runS (As := [.ref (q 1), .ref (q 2)]) (rest := []) hF (m_X13_lays l9 D k H.size (q 1) (q 2) v be ) (va_cwS 2 hts gX13_ends_X13_lays rfl rfl rfl (by decide +kernel) ⟨Nat.le_of_ble_eq_true rfl, Nat.le_of_ble_eq_true rfl⟩) (wPreS hK hN hP hD [1, 2] rfl (by decide) rfl) rfl rfl hl.1 rfl (lv_room (Nat.le_of_ble_eq_true rfl)) dX13_ends_15 ⟨Nat.zero_le _, Nat.zero_le _⟩) hS (fun q _ h => hFc q h) hFc (fun u9 t9 H1 locs ht hvm hw hB hz1 hk1 hS => ?_)
    obtain ⟨hP, hD⟩ := wjoin (wr := bMO k q th ea fa ch tn he en ln sv wr dg ++ bF10 k (q 6) fl ++ bF10 k (q 7) fb ++ bI664 k (q 4) pa ++ bF80 k (q 9) fp) (wf := bMO k q th ea fa ch tn he en ln sv wr dg ++ bI83 k (q 1) be ++ bI83 k (q 2) be ++ bF10 k (q 6) fl ++ bF10 k (q 7) fb ++ bI664 k (q 4) pa ++ bF80 k (q 9) fp) hP hD [1, 2] [0, 3, 4, 5, 6] [0, 5, 6, 1, 2, 3, 4] rfl rfl (by decide) (by decide) hk1 hFc hB ht rfl rfl (by decide)
    clear hB hk1 hz1 hvm hFc
    clear ht
    clear t9
    generalize H1 = H at hP hS ⊢
    refine lv_aload_n hx hb dX13_ends_18 rfl (lv_at hl 0 rfl) ?_
    refine va_get (D := D) (ci := 11) (v := .ref (q 6)) (C := RX13) (T := TX13) (N := 29) hx hb hts kc_RX13 hown hK hP 0 rfl rfl 10 (by decide) k_fieldLink_32 (fun _ h9 => h9) rfl dX13_ends_19 ?_
    refine lv_aload_n hx hb dX13_ends_22 rfl (lv_at hl 0 rfl) ?_
    refine va_get (D := D) (ci := 11) (v := .ref (q 7)) (C := RX13) (T := TX13) (N := 29) hx hb hts kc_RX13 hown hK hP 0 rfl rfl 11 (by decide) k_fieldLink_36 (fun _ h9 => h9) rfl dX13_ends_23 ?_
    have hFc := va_free (wc := bF10 k (q 6) fl ++ bF10 k (q 7) fb) hD hS hA [3, 4] rfl
    refine va_callv (va_runS (As := [.ref (q 6), .ref (q 7)]) (rest := []) hF (m_X13_flows l9 D k H.size (q 6) (q 7) fl fb ) (va_cwS 2 hts gX13_ends_X13_flows rfl rfl rfl (by decide +kernel) ⟨Nat.le_of_ble_eq_true rfl, Nat.le_of_ble_eq_true rfl⟩) (wPreS hK hN hP hD [3, 4] rfl (by decide) rfl) rfl rfl hl.1 rfl (lv_room (Nat.le_of_ble_eq_true rfl)) dX13_ends_26 ⟨Nat.zero_le _, Nat.zero_le _⟩) hS (fun q _ h => hFc q h) hFc (fun u9 t9 H1 locs ht hvm hw hB hz1 hk1 hS => ?_)
    obtain ⟨hP, hD⟩ := wjoin (wr := bMO k q th ea fa ch tn he en ln sv wr dg ++ bI83 k (q 1) be ++ bI83 k (q 2) be ++ bI664 k (q 4) pa ++ bF80 k (q 9) fp) (wf := bMO k q th ea fa ch tn he en ln sv wr dg ++ bI83 k (q 1) be ++ bI83 k (q 2) be ++ bF10 k (q 6) fb ++ bF10 k (q 7) fb ++ bI664 k (q 4) pa ++ bF80 k (q 9) fp) hP hD [3, 4] [0, 1, 2, 5, 6] [0, 1, 2, 5, 6, 3, 4] rfl rfl (by decide) (by decide) hk1 hFc hB ht rfl rfl (by decide)
    clear hB hk1 hz1 hvm hFc
    clear ht
    clear t9
    generalize H1 = H at hP hS ⊢
    refine lv_iconst (v := 0) hx hb dX13_ends_29 (by decide) ?_
    have e_24 : (ch : Nat) = if th = 0 then chE ch else ch := by first | (with_reducible rfl) | ((try simp only []); (repeat (first | rw [if_pos (by first | assumption | exact Eq.trans (b := false) (by assumption) (Eq.symm (by assumption)) | exact Eq.trans (b := true) (by assumption) (Eq.symm (by assumption)) | exact ⟨by assumption, by assumption⟩ | exact Or.inl (by assumption) | exact Or.inr (by assumption) | exact Or.inr (Or.inl (by assumption)) | exact Or.inr (Or.inr (by assumption)) | (simp only [Int32.lt_iff_toInt_lt, Int32.le_iff_toInt_le, i32_0, i32_1, i32_2, i32_3, i32_4, i32_9, i32_10, i32_99, i32_100, i32_1000, i32_9999] at *; omega))] | rw [if_neg (by first | assumption | (rintro (h9 | h9 | h9) <;> contradiction) | (rintro (h9 | h9) <;> contradiction) | (intro h9; exact Bool.noConfusion (Eq.trans (c := false) h9.symm (by assumption))) | (rintro ⟨h8, h9⟩; exact Bool.noConfusion (Eq.trans (c := false) h8.symm (by assumption))) | (rintro ⟨h8, h9⟩; exact Bool.noConfusion (Eq.trans (c := false) h9.symm (by assumption))) | (simp only [Int32.lt_iff_toInt_lt, Int32.le_iff_toInt_le, i32_0, i32_1, i32_2, i32_3, i32_4, i32_9, i32_10, i32_99, i32_100, i32_1000, i32_9999] at *; omega))])); (try rfl))
    have hP := Eq.mp (congrArg (fun z9 => va_P D vwCl (bMO k q th ea fa z9 tn he en ln sv wr dg ++ bI83 k (q 1) be ++ bI83 k (q 2) be ++ bF10 k (q 6) fb ++ bF10 k (q 7) fb ++ bI664 k (q 4) pa ++ bF80 k (q 9) fp) H) e_24) hP
    have hD := Eq.mp (congrArg (fun z9 => va_D A (bMO k q th ea fa z9 tn he en ln sv wr dg ++ bI83 k (q 1) be ++ bI83 k (q 2) be ++ bF10 k (q 6) fb ++ bF10 k (q 7) fb ++ bI664 k (q 4) pa ++ bF80 k (q 9) fp)) e_24) hD
    have e_25 : (be : Nat → Int32) = if th = 0 then v else be := by first | (with_reducible rfl) | ((try simp only []); (repeat (first | rw [if_pos (by first | assumption | exact Eq.trans (b := false) (by assumption) (Eq.symm (by assumption)) | exact Eq.trans (b := true) (by assumption) (Eq.symm (by assumption)) | exact ⟨by assumption, by assumption⟩ | exact Or.inl (by assumption) | exact Or.inr (by assumption) | exact Or.inr (Or.inl (by assumption)) | exact Or.inr (Or.inr (by assumption)) | (simp only [Int32.lt_iff_toInt_lt, Int32.le_iff_toInt_le, i32_0, i32_1, i32_2, i32_3, i32_4, i32_9, i32_10, i32_99, i32_100, i32_1000, i32_9999] at *; omega))] | rw [if_neg (by first | assumption | (rintro (h9 | h9 | h9) <;> contradiction) | (rintro (h9 | h9) <;> contradiction) | (intro h9; exact Bool.noConfusion (Eq.trans (c := false) h9.symm (by assumption))) | (rintro ⟨h8, h9⟩; exact Bool.noConfusion (Eq.trans (c := false) h8.symm (by assumption))) | (rintro ⟨h8, h9⟩; exact Bool.noConfusion (Eq.trans (c := false) h9.symm (by assumption))) | (simp only [Int32.lt_iff_toInt_lt, Int32.le_iff_toInt_le, i32_0, i32_1, i32_2, i32_3, i32_4, i32_9, i32_10, i32_99, i32_100, i32_1000, i32_9999] at *; omega))])); (try rfl))
    have hP := Eq.mp (congrArg (fun z9 => va_P D vwCl (bMO k q th ea fa (if th = 0 then chE ch else ch) tn he en ln sv wr dg ++ bI83 k (q 1) z9 ++ bI83 k (q 2) be ++ bF10 k (q 6) fb ++ bF10 k (q 7) fb ++ bI664 k (q 4) pa ++ bF80 k (q 9) fp) H) e_25) hP
    have hD := Eq.mp (congrArg (fun z9 => va_D A (bMO k q th ea fa (if th = 0 then chE ch else ch) tn he en ln sv wr dg ++ bI83 k (q 1) z9 ++ bI83 k (q 2) be ++ bF10 k (q 6) fb ++ bF10 k (q 7) fb ++ bI664 k (q 4) pa ++ bF80 k (q 9) fp)) e_25) hD
    have e_26 : (fb : Nat → UInt32) = if th = 0 then fl else fb := by first | (with_reducible rfl) | ((try simp only []); (repeat (first | rw [if_pos (by first | assumption | exact Eq.trans (b := false) (by assumption) (Eq.symm (by assumption)) | exact Eq.trans (b := true) (by assumption) (Eq.symm (by assumption)) | exact ⟨by assumption, by assumption⟩ | exact Or.inl (by assumption) | exact Or.inr (by assumption) | exact Or.inr (Or.inl (by assumption)) | exact Or.inr (Or.inr (by assumption)) | (simp only [Int32.lt_iff_toInt_lt, Int32.le_iff_toInt_le, i32_0, i32_1, i32_2, i32_3, i32_4, i32_9, i32_10, i32_99, i32_100, i32_1000, i32_9999] at *; omega))] | rw [if_neg (by first | assumption | (rintro (h9 | h9 | h9) <;> contradiction) | (rintro (h9 | h9) <;> contradiction) | (intro h9; exact Bool.noConfusion (Eq.trans (c := false) h9.symm (by assumption))) | (rintro ⟨h8, h9⟩; exact Bool.noConfusion (Eq.trans (c := false) h8.symm (by assumption))) | (rintro ⟨h8, h9⟩; exact Bool.noConfusion (Eq.trans (c := false) h9.symm (by assumption))) | (simp only [Int32.lt_iff_toInt_lt, Int32.le_iff_toInt_le, i32_0, i32_1, i32_2, i32_3, i32_4, i32_9, i32_10, i32_99, i32_100, i32_1000, i32_9999] at *; omega))])); (try rfl))
    have hP := Eq.mp (congrArg (fun z9 => va_P D vwCl (bMO k q th ea fa (if th = 0 then chE ch else ch) tn he en ln sv wr dg ++ bI83 k (q 1) (if th = 0 then v else be) ++ bI83 k (q 2) be ++ bF10 k (q 6) z9 ++ bF10 k (q 7) fb ++ bI664 k (q 4) pa ++ bF80 k (q 9) fp) H) e_26) hP
    have hD := Eq.mp (congrArg (fun z9 => va_D A (bMO k q th ea fa (if th = 0 then chE ch else ch) tn he en ln sv wr dg ++ bI83 k (q 1) (if th = 0 then v else be) ++ bI83 k (q 2) be ++ bF10 k (q 6) z9 ++ bF10 k (q 7) fb ++ bI664 k (q 4) pa ++ bF80 k (q 9) fp)) e_26) hD
    have e_27 : (pa : Nat → Int32) = if th = 0 then paE ch pa be else pa := by first | (with_reducible rfl) | ((try simp only []); (repeat (first | rw [if_pos (by first | assumption | exact Eq.trans (b := false) (by assumption) (Eq.symm (by assumption)) | exact Eq.trans (b := true) (by assumption) (Eq.symm (by assumption)) | exact ⟨by assumption, by assumption⟩ | exact Or.inl (by assumption) | exact Or.inr (by assumption) | exact Or.inr (Or.inl (by assumption)) | exact Or.inr (Or.inr (by assumption)) | (simp only [Int32.lt_iff_toInt_lt, Int32.le_iff_toInt_le, i32_0, i32_1, i32_2, i32_3, i32_4, i32_9, i32_10, i32_99, i32_100, i32_1000, i32_9999] at *; omega))] | rw [if_neg (by first | assumption | (rintro (h9 | h9 | h9) <;> contradiction) | (rintro (h9 | h9) <;> contradiction) | (intro h9; exact Bool.noConfusion (Eq.trans (c := false) h9.symm (by assumption))) | (rintro ⟨h8, h9⟩; exact Bool.noConfusion (Eq.trans (c := false) h8.symm (by assumption))) | (rintro ⟨h8, h9⟩; exact Bool.noConfusion (Eq.trans (c := false) h9.symm (by assumption))) | (simp only [Int32.lt_iff_toInt_lt, Int32.le_iff_toInt_le, i32_0, i32_1, i32_2, i32_3, i32_4, i32_9, i32_10, i32_99, i32_100, i32_1000, i32_9999] at *; omega))])); (try rfl))
    have hP := Eq.mp (congrArg (fun z9 => va_P D vwCl (bMO k q th ea fa (if th = 0 then chE ch else ch) tn he en ln sv wr dg ++ bI83 k (q 1) (if th = 0 then v else be) ++ bI83 k (q 2) be ++ bF10 k (q 6) (if th = 0 then fl else fb) ++ bF10 k (q 7) fb ++ bI664 k (q 4) z9 ++ bF80 k (q 9) fp) H) e_27) hP
    have hD := Eq.mp (congrArg (fun z9 => va_D A (bMO k q th ea fa (if th = 0 then chE ch else ch) tn he en ln sv wr dg ++ bI83 k (q 1) (if th = 0 then v else be) ++ bI83 k (q 2) be ++ bF10 k (q 6) (if th = 0 then fl else fb) ++ bF10 k (q 7) fb ++ bI664 k (q 4) z9 ++ bF80 k (q 9) fp)) e_27) hD
    have e_28 : (fp : Nat → UInt32) = if th = 0 then fpE ch fp fb else fp := by first | (with_reducible rfl) | ((try simp only []); (repeat (first | rw [if_pos (by first | assumption | exact Eq.trans (b := false) (by assumption) (Eq.symm (by assumption)) | exact Eq.trans (b := true) (by assumption) (Eq.symm (by assumption)) | exact ⟨by assumption, by assumption⟩ | exact Or.inl (by assumption) | exact Or.inr (by assumption) | exact Or.inr (Or.inl (by assumption)) | exact Or.inr (Or.inr (by assumption)) | (simp only [Int32.lt_iff_toInt_lt, Int32.le_iff_toInt_le, i32_0, i32_1, i32_2, i32_3, i32_4, i32_9, i32_10, i32_99, i32_100, i32_1000, i32_9999] at *; omega))] | rw [if_neg (by first | assumption | (rintro (h9 | h9 | h9) <;> contradiction) | (rintro (h9 | h9) <;> contradiction) | (intro h9; exact Bool.noConfusion (Eq.trans (c := false) h9.symm (by assumption))) | (rintro ⟨h8, h9⟩; exact Bool.noConfusion (Eq.trans (c := false) h8.symm (by assumption))) | (rintro ⟨h8, h9⟩; exact Bool.noConfusion (Eq.trans (c := false) h9.symm (by assumption))) | (simp only [Int32.lt_iff_toInt_lt, Int32.le_iff_toInt_le, i32_0, i32_1, i32_2, i32_3, i32_4, i32_9, i32_10, i32_99, i32_100, i32_1000, i32_9999] at *; omega))])); (try rfl))
    have hP := Eq.mp (congrArg (fun z9 => va_P D vwCl (bMO k q th ea fa (if th = 0 then chE ch else ch) tn he en ln sv wr dg ++ bI83 k (q 1) (if th = 0 then v else be) ++ bI83 k (q 2) be ++ bF10 k (q 6) (if th = 0 then fl else fb) ++ bF10 k (q 7) fb ++ bI664 k (q 4) (if th = 0 then paE ch pa be else pa) ++ bF80 k (q 9) z9) H) e_28) hP
    have hD := Eq.mp (congrArg (fun z9 => va_D A (bMO k q th ea fa (if th = 0 then chE ch else ch) tn he en ln sv wr dg ++ bI83 k (q 1) (if th = 0 then v else be) ++ bI83 k (q 2) be ++ bF10 k (q 6) (if th = 0 then fl else fb) ++ bF10 k (q 7) fb ++ bI664 k (q 4) (if th = 0 then paE ch pa be else pa) ++ bF80 k (q 9) z9)) e_28) hD
    exact W.iret (v := 0) hx hb hr (fun t9 ht hW => ⟨⟨_, (), rfl, (by (try simp only []); (repeat (first | rw [if_pos (by first | assumption | exact Eq.trans (b := false) (by assumption) (Eq.symm (by assumption)) | exact Eq.trans (b := true) (by assumption) (Eq.symm (by assumption)) | exact ⟨by assumption, by assumption⟩ | exact Or.inl (by assumption) | exact Or.inr (by assumption) | exact Or.inr (Or.inl (by assumption)) | exact Or.inr (Or.inr (by assumption)) | (simp only [Int32.lt_iff_toInt_lt, Int32.le_iff_toInt_le, i32_0, i32_1, i32_2, i32_3, i32_4, i32_9, i32_10, i32_99, i32_100, i32_1000, i32_9999] at *; omega))] | rw [if_neg (by first | assumption | (rintro (h9 | h9 | h9) <;> contradiction) | (rintro (h9 | h9) <;> contradiction) | (intro h9; exact Bool.noConfusion (Eq.trans (c := false) h9.symm (by assumption))) | (rintro ⟨h8, h9⟩; exact Bool.noConfusion (Eq.trans (c := false) h8.symm (by assumption))) | (rintro ⟨h8, h9⟩; exact Bool.noConfusion (Eq.trans (c := false) h9.symm (by assumption))) | (simp only [Int32.lt_iff_toInt_lt, Int32.le_iff_toInt_le, i32_0, i32_1, i32_2, i32_3, i32_4, i32_9, i32_10, i32_99, i32_100, i32_1000, i32_9999] at *; omega))])); (try rfl)), ⟨by rw [ht]; exact hP, va_K.moved hW.alike hK, hD⟩⟩, hS.F ht⟩) hS.2.2 dX13_ends_30 hlocks

set_option maxHeartbeats 4000000 in
set_option maxRecDepth 100000 in
theorem m_X13_addClaim (l9 : Launch) (D : va_G) (k : Nat → ClassId) (sz : Nat) (q : Nat → Nat) (th ea fa : Int32) (ch tn he en ln : Nat) (sv wr dg : Bool) (v be pa : Nat → Int32) (fl fb fp : Nat → UInt32) (n : Nat) (x : Int32) (hn : n ≤ 10) (hv0 : v 0 = nI n) (hch : ch ≤ 8) : Met l9 yX13_addClaim wsX13_addClaim ({ frames := 2, cells := 0, slots := 0, locals := 44 }) (WPc D k [.ref (q 0), .int x] (bMO k q th ea fa ch tn he en ln sv wr dg ++ bI83 k (q 1) v ++ bI83 k (q 2) be ++ bF10 k (q 6) fl ++ bF10 k (q 7) fb ++ bI664 k (q 4) pa ++ bF80 k (q 9) fp) sz) (WI D k (bMO k q ((opAdds v fl n 0 x).2.1) ea fa (if (opAdds v fl n 0 x).2.1 = 0 then chE ch else ch) tn he en ln sv wr dg ++ bI83 k (q 1) (if (opAdds v fl n 0 x).2.1 = 0 then (opAdds v fl n 0 x).2.2.1 else v) ++ bI83 k (q 2) v ++ bF10 k (q 6) (if (opAdds v fl n 0 x).2.1 = 0 then (opAdds v fl n 0 x).2.2.2 else fl) ++ bF10 k (q 7) fl ++ bI664 k (q 4) (if (opAdds v fl n 0 x).2.1 = 0 then paE ch pa v else pa) ++ bF80 k (q 9) (if (opAdds v fl n 0 x).2.1 = 0 then fpE ch fp fl else fp)) (if (opAdds v fl n 0 x).2.1 = 0 then (opAdds v fl n 0 x).1 else 0) (va_A (bMO k q th ea fa ch tn he en ln sv wr dg ++ bI83 k (q 1) v ++ bI83 k (q 2) be ++ bF10 k (q 6) fl ++ bF10 k (q 7) fb ++ bI664 k (q 4) pa ++ bF80 k (q 9) fp) sz)) 0 0 (va_A (bMO k q th ea fa ch tn he en ln sv wr dg ++ bI83 k (q 1) v ++ bI83 k (q 2) be ++ bF10 k (q 6) fl ++ bF10 k (q 7) fb ++ bI664 k (q 4) pa ++ bF80 k (q 9) fp) sz) := by
  refine wMet (y := yX13_addClaim) (cc := cX13_addClaim) (maxL := 2) (ret := (some .int)) (Qc := fun A => WI D k (bMO k q ((opAdds v fl n 0 x).2.1) ea fa (if (opAdds v fl n 0 x).2.1 = 0 then chE ch else ch) tn he en ln sv wr dg ++ bI83 k (q 1) (if (opAdds v fl n 0 x).2.1 = 0 then (opAdds v fl n 0 x).2.2.1 else v) ++ bI83 k (q 2) v ++ bF10 k (q 6) (if (opAdds v fl n 0 x).2.1 = 0 then (opAdds v fl n 0 x).2.2.2 else fl) ++ bF10 k (q 7) fl ++ bI664 k (q 4) (if (opAdds v fl n 0 x).2.1 = 0 then paE ch pa v else pa) ++ bF80 k (q 9) (if (opAdds v fl n 0 x).2.1 = 0 then fpE ch fp fl else fp)) (if (opAdds v fl n 0 x).2.1 = 0 then (opAdds v fl n 0 x).1 else 0) A) [.ref (q 0), .int x] (by decide) rfl (Nat.le_of_ble_eq_true rfl) ?_
  intro p9 e9 s9 m9 bl9 me9 c9 ls A H hF hr hlocks hP hK hN hD hA hS hl hin
  have hl : lv_has ls 2 [(0, .ref (q 0)), (1, .int x)] := hl
  obtain ⟨hx, hb, hml, hown, hts⟩ := id hF
  refine lv_aload_n hx hb dX13_addClaim_0 rfl (lv_at hl 0 rfl) ?_
  have hFc := va_free (wc := bMO k q th ea fa ch tn he en ln sv wr dg ++ bI83 k (q 1) v ++ bI83 k (q 2) be ++ bF10 k (q 6) fl ++ bF10 k (q 7) fb) hD hS hA [0, 1, 2, 3, 4] rfl
  refine va_callv (va_runV (As := []) (rest := []) hF (m_X13_begins l9 D k H.size q th ea fa ch tn he en ln sv wr dg v be fl fb ) (cwV 0 hts gX13_addClaim_X13_begins rfl rfl rfl (by decide +kernel) ⟨Nat.le_of_ble_eq_true rfl, Nat.le_of_ble_eq_true rfl⟩) (wPreV hK hN hP hD [0, 1, 2, 3, 4] rfl (by decide) rfl 0 11 rfl rfl) rfl rfl hl.1 rfl (lv_room (Nat.le_of_ble_eq_true rfl)) dX13_addClaim_1 ⟨Nat.zero_le _, Nat.zero_le _⟩) hS (fun q _ h => hFc q h) hFc (fun u9 t9 H1 locs ht hvm hw hB hz1 hk1 hS => ?_)
  obtain ⟨hP, hD⟩ := wjoin (wr := bI664 k (q 4) pa ++ bF80 k (q 9) fp) (wf := bMO k q 0 ea fa ch tn he en ln sv wr dg ++ bI83 k (q 1) v ++ bI83 k (q 2) v ++ bF10 k (q 6) fl ++ bF10 k (q 7) fl ++ bI664 k (q 4) pa ++ bF80 k (q 9) fp) hP hD [0, 1, 2, 3, 4] [5, 6] [2, 3, 4, 5, 6, 0, 1] rfl rfl (by decide) (by decide) hk1 hFc hB ht rfl rfl (by decide)
  clear hB hk1 hz1 hvm hFc
  clear ht
  clear t9
  generalize H1 = H at hP hS ⊢
  refine lv_aload_n hx hb dX13_addClaim_4 rfl (lv_at hl 0 rfl) ?_
  refine lv_aload_n hx hb dX13_addClaim_5 rfl (lv_at hl 0 rfl) ?_
  refine lv_iload_n hx hb dX13_addClaim_6 rfl (lv_at hl 1 rfl) ?_
  have hFc := va_free (wc := bMO k q 0 ea fa ch tn he en ln sv wr dg ++ bI83 k (q 1) v ++ bF10 k (q 6) fl) hD hS hA [0, 1, 3] rfl
  refine va_calli (va_runV (As := [.int x]) (rest := [.ref (q 0)]) hF (m_X13_adds l9 D k H.size q 0 ea fa ch tn he en ln sv wr dg v fl n x hn hv0) (cwV 1 hts gX13_addClaim_X13_adds rfl rfl rfl (by decide +kernel) ⟨Nat.le_of_ble_eq_true rfl, Nat.le_of_ble_eq_true rfl⟩) (wPreV hK hN hP hD [0, 1, 3] rfl (by decide) rfl 0 11 rfl rfl) rfl rfl hl.1 rfl (lv_room (Nat.le_of_ble_eq_true rfl)) dX13_addClaim_7 ⟨Nat.zero_le _, Nat.zero_le _⟩) hS (fun q _ h => hFc q h) hFc (fun r u9 t9 H1 locs ht hvm hw hB hz1 hk1 hS => ?_)
  obtain ⟨hP, hD⟩ := wjoin (wr := bI83 k (q 2) v ++ bF10 k (q 7) fl ++ bI664 k (q 4) pa ++ bF80 k (q 9) fp) (wf := bMO k q ((opAdds v fl n 0 x).2.1) ea fa ch tn he en ln sv wr dg ++ bI83 k (q 1) ((opAdds v fl n 0 x).2.2.1) ++ bI83 k (q 2) v ++ bF10 k (q 6) ((opAdds v fl n 0 x).2.2.2) ++ bF10 k (q 7) fl ++ bI664 k (q 4) pa ++ bF80 k (q 9) fp) hP hD [0, 1, 3] [2, 4, 5, 6] [4, 5, 0, 6, 1, 2, 3] rfl rfl (by decide) (by decide) hk1 hFc hB ht rfl rfl (by decide)
  subst hw
  clear hB hk1 hz1 hvm hFc
  clear ht
  clear t9
  generalize H1 = H at hP hS ⊢
  have hFc := va_free (wc := bMO k q ((opAdds v fl n 0 x).2.1) ea fa ch tn he en ln sv wr dg ++ bI83 k (q 1) ((opAdds v fl n 0 x).2.2.1) ++ bI83 k (q 2) v ++ bF10 k (q 6) ((opAdds v fl n 0 x).2.2.2) ++ bF10 k (q 7) fl ++ bI664 k (q 4) pa ++ bF80 k (q 9) fp) hD hS hA [0, 1, 2, 3, 4, 5, 6] rfl
  refine va_calli (va_runV (As := [.int ((opAdds v fl n 0 x).1)]) (rest := []) hF (m_X13_ends l9 D k H.size q ((opAdds v fl n 0 x).2.1) ea fa ch tn he en ln sv wr dg ((opAdds v fl n 0 x).2.2.1) v pa ((opAdds v fl n 0 x).2.2.2) fl fp ((opAdds v fl n 0 x).1) hch) (cwV 1 hts gX13_addClaim_X13_ends rfl rfl rfl (by decide +kernel) ⟨Nat.le_of_ble_eq_true rfl, Nat.le_of_ble_eq_true rfl⟩) (wPreV hK hN hP hD [0, 1, 2, 3, 4, 5, 6] rfl (by decide) rfl 0 11 rfl rfl) rfl rfl hl.1 rfl (lv_room (Nat.le_of_ble_eq_true rfl)) dX13_addClaim_10 ⟨Nat.zero_le _, Nat.zero_le _⟩) hS (fun q _ h => hFc q h) hFc (fun r u9 t9 H1 locs ht hvm hw hB hz1 hk1 hS => ?_)
  obtain ⟨hP, hD⟩ := wjoin (wr := []) (wf := bMO k q ((opAdds v fl n 0 x).2.1) ea fa (if ((opAdds v fl n 0 x).2.1) = 0 then chE ch else ch) tn he en ln sv wr dg ++ bI83 k (q 1) (if ((opAdds v fl n 0 x).2.1) = 0 then ((opAdds v fl n 0 x).2.2.1) else v) ++ bI83 k (q 2) v ++ bF10 k (q 6) (if ((opAdds v fl n 0 x).2.1) = 0 then ((opAdds v fl n 0 x).2.2.2) else fl) ++ bF10 k (q 7) fl ++ bI664 k (q 4) (if ((opAdds v fl n 0 x).2.1) = 0 then paE ch pa v else pa) ++ bF80 k (q 9) (if ((opAdds v fl n 0 x).2.1) = 0 then fpE ch fp fl else fp)) hP hD [0, 1, 2, 3, 4, 5, 6] [] [0, 1, 2, 3, 4, 5, 6] rfl rfl (by decide) (by decide) hk1 hFc hB ht rfl rfl (by decide)
  subst hw
  clear hB hk1 hz1 hvm hFc
  clear ht
  clear t9
  generalize H1 = H at hP hS ⊢
  have e_1 : (if ((opAdds v fl n 0 x).2.1) = 0 then chE ch else ch : Nat) = if (opAdds v fl n 0 x).2.1 = 0 then chE ch else ch := by first | (with_reducible rfl) | (rfl)
  have hP := Eq.mp (congrArg (fun z9 => va_P D vwCl (bMO k q ((opAdds v fl n 0 x).2.1) ea fa z9 tn he en ln sv wr dg ++ bI83 k (q 1) (if ((opAdds v fl n 0 x).2.1) = 0 then ((opAdds v fl n 0 x).2.2.1) else v) ++ bI83 k (q 2) v ++ bF10 k (q 6) (if ((opAdds v fl n 0 x).2.1) = 0 then ((opAdds v fl n 0 x).2.2.2) else fl) ++ bF10 k (q 7) fl ++ bI664 k (q 4) (if ((opAdds v fl n 0 x).2.1) = 0 then paE ch pa v else pa) ++ bF80 k (q 9) (if ((opAdds v fl n 0 x).2.1) = 0 then fpE ch fp fl else fp)) H) e_1) hP
  have hD := Eq.mp (congrArg (fun z9 => va_D A (bMO k q ((opAdds v fl n 0 x).2.1) ea fa z9 tn he en ln sv wr dg ++ bI83 k (q 1) (if ((opAdds v fl n 0 x).2.1) = 0 then ((opAdds v fl n 0 x).2.2.1) else v) ++ bI83 k (q 2) v ++ bF10 k (q 6) (if ((opAdds v fl n 0 x).2.1) = 0 then ((opAdds v fl n 0 x).2.2.2) else fl) ++ bF10 k (q 7) fl ++ bI664 k (q 4) (if ((opAdds v fl n 0 x).2.1) = 0 then paE ch pa v else pa) ++ bF80 k (q 9) (if ((opAdds v fl n 0 x).2.1) = 0 then fpE ch fp fl else fp))) e_1) hD
  have e_2 : (if ((opAdds v fl n 0 x).2.1) = 0 then ((opAdds v fl n 0 x).2.2.1) else v : Nat → Int32) = if (opAdds v fl n 0 x).2.1 = 0 then (opAdds v fl n 0 x).2.2.1 else v := by first | (with_reducible rfl) | (rfl)
  have hP := Eq.mp (congrArg (fun z9 => va_P D vwCl (bMO k q ((opAdds v fl n 0 x).2.1) ea fa (if (opAdds v fl n 0 x).2.1 = 0 then chE ch else ch) tn he en ln sv wr dg ++ bI83 k (q 1) z9 ++ bI83 k (q 2) v ++ bF10 k (q 6) (if ((opAdds v fl n 0 x).2.1) = 0 then ((opAdds v fl n 0 x).2.2.2) else fl) ++ bF10 k (q 7) fl ++ bI664 k (q 4) (if ((opAdds v fl n 0 x).2.1) = 0 then paE ch pa v else pa) ++ bF80 k (q 9) (if ((opAdds v fl n 0 x).2.1) = 0 then fpE ch fp fl else fp)) H) e_2) hP
  have hD := Eq.mp (congrArg (fun z9 => va_D A (bMO k q ((opAdds v fl n 0 x).2.1) ea fa (if (opAdds v fl n 0 x).2.1 = 0 then chE ch else ch) tn he en ln sv wr dg ++ bI83 k (q 1) z9 ++ bI83 k (q 2) v ++ bF10 k (q 6) (if ((opAdds v fl n 0 x).2.1) = 0 then ((opAdds v fl n 0 x).2.2.2) else fl) ++ bF10 k (q 7) fl ++ bI664 k (q 4) (if ((opAdds v fl n 0 x).2.1) = 0 then paE ch pa v else pa) ++ bF80 k (q 9) (if ((opAdds v fl n 0 x).2.1) = 0 then fpE ch fp fl else fp))) e_2) hD
  have e_3 : (if ((opAdds v fl n 0 x).2.1) = 0 then ((opAdds v fl n 0 x).2.2.2) else fl : Nat → UInt32) = if (opAdds v fl n 0 x).2.1 = 0 then (opAdds v fl n 0 x).2.2.2 else fl := by first | (with_reducible rfl) | (rfl)
  have hP := Eq.mp (congrArg (fun z9 => va_P D vwCl (bMO k q ((opAdds v fl n 0 x).2.1) ea fa (if (opAdds v fl n 0 x).2.1 = 0 then chE ch else ch) tn he en ln sv wr dg ++ bI83 k (q 1) (if (opAdds v fl n 0 x).2.1 = 0 then (opAdds v fl n 0 x).2.2.1 else v) ++ bI83 k (q 2) v ++ bF10 k (q 6) z9 ++ bF10 k (q 7) fl ++ bI664 k (q 4) (if ((opAdds v fl n 0 x).2.1) = 0 then paE ch pa v else pa) ++ bF80 k (q 9) (if ((opAdds v fl n 0 x).2.1) = 0 then fpE ch fp fl else fp)) H) e_3) hP
  have hD := Eq.mp (congrArg (fun z9 => va_D A (bMO k q ((opAdds v fl n 0 x).2.1) ea fa (if (opAdds v fl n 0 x).2.1 = 0 then chE ch else ch) tn he en ln sv wr dg ++ bI83 k (q 1) (if (opAdds v fl n 0 x).2.1 = 0 then (opAdds v fl n 0 x).2.2.1 else v) ++ bI83 k (q 2) v ++ bF10 k (q 6) z9 ++ bF10 k (q 7) fl ++ bI664 k (q 4) (if ((opAdds v fl n 0 x).2.1) = 0 then paE ch pa v else pa) ++ bF80 k (q 9) (if ((opAdds v fl n 0 x).2.1) = 0 then fpE ch fp fl else fp))) e_3) hD
  have e_4 : (if ((opAdds v fl n 0 x).2.1) = 0 then paE ch pa v else pa : Nat → Int32) = if (opAdds v fl n 0 x).2.1 = 0 then paE ch pa v else pa := by first | (with_reducible rfl) | (rfl)
  have hP := Eq.mp (congrArg (fun z9 => va_P D vwCl (bMO k q ((opAdds v fl n 0 x).2.1) ea fa (if (opAdds v fl n 0 x).2.1 = 0 then chE ch else ch) tn he en ln sv wr dg ++ bI83 k (q 1) (if (opAdds v fl n 0 x).2.1 = 0 then (opAdds v fl n 0 x).2.2.1 else v) ++ bI83 k (q 2) v ++ bF10 k (q 6) (if (opAdds v fl n 0 x).2.1 = 0 then (opAdds v fl n 0 x).2.2.2 else fl) ++ bF10 k (q 7) fl ++ bI664 k (q 4) z9 ++ bF80 k (q 9) (if ((opAdds v fl n 0 x).2.1) = 0 then fpE ch fp fl else fp)) H) e_4) hP
  have hD := Eq.mp (congrArg (fun z9 => va_D A (bMO k q ((opAdds v fl n 0 x).2.1) ea fa (if (opAdds v fl n 0 x).2.1 = 0 then chE ch else ch) tn he en ln sv wr dg ++ bI83 k (q 1) (if (opAdds v fl n 0 x).2.1 = 0 then (opAdds v fl n 0 x).2.2.1 else v) ++ bI83 k (q 2) v ++ bF10 k (q 6) (if (opAdds v fl n 0 x).2.1 = 0 then (opAdds v fl n 0 x).2.2.2 else fl) ++ bF10 k (q 7) fl ++ bI664 k (q 4) z9 ++ bF80 k (q 9) (if ((opAdds v fl n 0 x).2.1) = 0 then fpE ch fp fl else fp))) e_4) hD
  have e_5 : (if ((opAdds v fl n 0 x).2.1) = 0 then fpE ch fp fl else fp : Nat → UInt32) = if (opAdds v fl n 0 x).2.1 = 0 then fpE ch fp fl else fp := by first | (with_reducible rfl) | (rfl)
  have hP := Eq.mp (congrArg (fun z9 => va_P D vwCl (bMO k q ((opAdds v fl n 0 x).2.1) ea fa (if (opAdds v fl n 0 x).2.1 = 0 then chE ch else ch) tn he en ln sv wr dg ++ bI83 k (q 1) (if (opAdds v fl n 0 x).2.1 = 0 then (opAdds v fl n 0 x).2.2.1 else v) ++ bI83 k (q 2) v ++ bF10 k (q 6) (if (opAdds v fl n 0 x).2.1 = 0 then (opAdds v fl n 0 x).2.2.2 else fl) ++ bF10 k (q 7) fl ++ bI664 k (q 4) (if (opAdds v fl n 0 x).2.1 = 0 then paE ch pa v else pa) ++ bF80 k (q 9) z9) H) e_5) hP
  have hD := Eq.mp (congrArg (fun z9 => va_D A (bMO k q ((opAdds v fl n 0 x).2.1) ea fa (if (opAdds v fl n 0 x).2.1 = 0 then chE ch else ch) tn he en ln sv wr dg ++ bI83 k (q 1) (if (opAdds v fl n 0 x).2.1 = 0 then (opAdds v fl n 0 x).2.2.1 else v) ++ bI83 k (q 2) v ++ bF10 k (q 6) (if (opAdds v fl n 0 x).2.1 = 0 then (opAdds v fl n 0 x).2.2.2 else fl) ++ bF10 k (q 7) fl ++ bI664 k (q 4) (if (opAdds v fl n 0 x).2.1 = 0 then paE ch pa v else pa) ++ bF80 k (q 9) z9)) e_5) hD
  exact W.iret (v := if ((opAdds v fl n 0 x).2.1) = 0 then ((opAdds v fl n 0 x).1) else 0) hx hb hr (fun t9 ht hW => ⟨⟨_, (), rfl, (by rfl), ⟨by rw [ht]; exact hP, va_K.moved hW.alike hK, hD⟩⟩, hS.F ht⟩) hS.2.2 dX13_addClaim_13 hlocks

set_option maxHeartbeats 4000000 in
set_option maxRecDepth 100000 in
theorem m_X13_setAttack (l9 : Launch) (D : va_G) (k : Nat → ClassId) (sz : Nat) (q : Nat → Nat) (th ea fa : Int32) (ch tn he en ln : Nat) (sv wr dg : Bool) (v be pa : Nat → Int32) (fl fb fp : Nat → UInt32) (n : Nat) (x y : Int32) (b : Bool) (hn : n ≤ 10) (hv0 : v 0 = nI n) (hch : ch ≤ 8) : Met l9 yX13_setAttack wsX13_setAttack ({ frames := 3, cells := 0, slots := 0, locals := 67 }) (WPc D k [.ref (q 0), .int x, .int y, .int (bI b)] (bMO k q th ea fa ch tn he en ln sv wr dg ++ bI83 k (q 1) v ++ bI83 k (q 2) be ++ bF10 k (q 6) fl ++ bF10 k (q 7) fb ++ bI664 k (q 4) pa ++ bF80 k (q 9) fp) sz) (WI D k (bMO k q ((opSets v n 0 x y b).2.1) ea fa (if (opSets v n 0 x y b).2.1 = 0 then chE ch else ch) tn he en ln sv wr dg ++ bI83 k (q 1) (if (opSets v n 0 x y b).2.1 = 0 then (opSets v n 0 x y b).2.2 else v) ++ bI83 k (q 2) v ++ bF10 k (q 6) (if (opSets v n 0 x y b).2.1 = 0 then fl else fl) ++ bF10 k (q 7) fl ++ bI664 k (q 4) (if (opSets v n 0 x y b).2.1 = 0 then paE ch pa v else pa) ++ bF80 k (q 9) (if (opSets v n 0 x y b).2.1 = 0 then fpE ch fp fl else fp)) (bI (decide ((if (opSets v n 0 x y b).2.1 = 0 then (opSets v n 0 x y b).1 else 0) = 1))) (va_A (bMO k q th ea fa ch tn he en ln sv wr dg ++ bI83 k (q 1) v ++ bI83 k (q 2) be ++ bF10 k (q 6) fl ++ bF10 k (q 7) fb ++ bI664 k (q 4) pa ++ bF80 k (q 9) fp) sz)) 0 0 (va_A (bMO k q th ea fa ch tn he en ln sv wr dg ++ bI83 k (q 1) v ++ bI83 k (q 2) be ++ bF10 k (q 6) fl ++ bF10 k (q 7) fb ++ bI664 k (q 4) pa ++ bF80 k (q 9) fp) sz) := by
  refine wMet (y := yX13_setAttack) (cc := cX13_setAttack) (maxL := 4) (ret := (some .boolean)) (Qc := fun A => WI D k (bMO k q ((opSets v n 0 x y b).2.1) ea fa (if (opSets v n 0 x y b).2.1 = 0 then chE ch else ch) tn he en ln sv wr dg ++ bI83 k (q 1) (if (opSets v n 0 x y b).2.1 = 0 then (opSets v n 0 x y b).2.2 else v) ++ bI83 k (q 2) v ++ bF10 k (q 6) (if (opSets v n 0 x y b).2.1 = 0 then fl else fl) ++ bF10 k (q 7) fl ++ bI664 k (q 4) (if (opSets v n 0 x y b).2.1 = 0 then paE ch pa v else pa) ++ bF80 k (q 9) (if (opSets v n 0 x y b).2.1 = 0 then fpE ch fp fl else fp)) (bI (decide ((if (opSets v n 0 x y b).2.1 = 0 then (opSets v n 0 x y b).1 else 0) = 1))) A) [.ref (q 0), .int x, .int y, .int (bI b)] (by decide) rfl (Nat.le_of_ble_eq_true rfl) ?_
  intro p9 e9 s9 m9 bl9 me9 c9 ls A H hF hr hlocks hP hK hN hD hA hS hl hin
  have hl : lv_has ls 4 [(0, .ref (q 0)), (1, .int x), (2, .int y), (3, .int (bI b))] := hl
  obtain ⟨hx, hb, hml, hown, hts⟩ := id hF
  refine lv_aload_n hx hb dX13_setAttack_0 rfl (lv_at hl 0 rfl) ?_
  have hFc := va_free (wc := bMO k q th ea fa ch tn he en ln sv wr dg ++ bI83 k (q 1) v ++ bI83 k (q 2) be ++ bF10 k (q 6) fl ++ bF10 k (q 7) fb) hD hS hA [0, 1, 2, 3, 4] rfl
  refine va_callv (va_runV (As := []) (rest := []) hF (m_X13_begins l9 D k H.size q th ea fa ch tn he en ln sv wr dg v be fl fb ) (cwV 0 hts gX13_setAttack_X13_begins rfl rfl rfl (by decide +kernel) ⟨Nat.le_of_ble_eq_true rfl, Nat.le_of_ble_eq_true rfl⟩) (wPreV hK hN hP hD [0, 1, 2, 3, 4] rfl (by decide) rfl 0 11 rfl rfl) rfl rfl hl.1 rfl (lv_room (Nat.le_of_ble_eq_true rfl)) dX13_setAttack_1 ⟨Nat.zero_le _, Nat.zero_le _⟩) hS (fun q _ h => hFc q h) hFc (fun u9 t9 H1 locs ht hvm hw hB hz1 hk1 hS => ?_)
  obtain ⟨hP, hD⟩ := wjoin (wr := bI664 k (q 4) pa ++ bF80 k (q 9) fp) (wf := bMO k q 0 ea fa ch tn he en ln sv wr dg ++ bI83 k (q 1) v ++ bI83 k (q 2) v ++ bF10 k (q 6) fl ++ bF10 k (q 7) fl ++ bI664 k (q 4) pa ++ bF80 k (q 9) fp) hP hD [0, 1, 2, 3, 4] [5, 6] [2, 3, 4, 5, 6, 0, 1] rfl rfl (by decide) (by decide) hk1 hFc hB ht rfl rfl (by decide)
  clear hB hk1 hz1 hvm hFc
  clear ht
  clear t9
  generalize H1 = H at hP hS ⊢
  refine lv_aload_n hx hb dX13_setAttack_4 rfl (lv_at hl 0 rfl) ?_
  refine lv_aload_n hx hb dX13_setAttack_5 rfl (lv_at hl 0 rfl) ?_
  refine lv_iload_n hx hb dX13_setAttack_6 rfl (lv_at hl 1 rfl) ?_
  refine lv_iload_n hx hb dX13_setAttack_7 rfl (lv_at hl 2 rfl) ?_
  refine lv_iload_n hx hb dX13_setAttack_8 rfl (lv_at hl 3 rfl) ?_
  have hFc := va_free (wc := bMO k q 0 ea fa ch tn he en ln sv wr dg ++ bI83 k (q 1) v) hD hS hA [0, 1] rfl
  refine va_calli (va_runV (As := [.int x, .int y, .int (bI b)]) (rest := [.ref (q 0)]) hF (m_X13_sets l9 D k H.size q 0 ea fa ch tn he en ln sv wr dg v n x y b hn hv0) (cwV 3 hts gX13_setAttack_X13_sets rfl rfl rfl (by decide +kernel) ⟨Nat.le_of_ble_eq_true rfl, Nat.le_of_ble_eq_true rfl⟩) (wPreV hK hN hP hD [0, 1] rfl (by decide) rfl 0 11 rfl rfl) rfl rfl hl.1 rfl (lv_room (Nat.le_of_ble_eq_true rfl)) dX13_setAttack_9 ⟨Nat.zero_le _, Nat.zero_le _⟩) hS (fun q _ h => hFc q h) hFc (fun r u9 t9 H1 locs ht hvm hw hB hz1 hk1 hS => ?_)
  obtain ⟨hP, hD⟩ := wjoin (wr := bI83 k (q 2) v ++ bF10 k (q 6) fl ++ bF10 k (q 7) fl ++ bI664 k (q 4) pa ++ bF80 k (q 9) fp) (wf := bMO k q ((opSets v n 0 x y b).2.1) ea fa ch tn he en ln sv wr dg ++ bI83 k (q 1) ((opSets v n 0 x y b).2.2) ++ bI83 k (q 2) v ++ bF10 k (q 6) fl ++ bF10 k (q 7) fl ++ bI664 k (q 4) pa ++ bF80 k (q 9) fp) hP hD [0, 1] [2, 3, 4, 5, 6] [5, 6, 0, 1, 2, 3, 4] rfl rfl (by decide) (by decide) hk1 hFc hB ht rfl rfl (by decide)
  subst hw
  clear hB hk1 hz1 hvm hFc
  clear ht
  clear t9
  generalize H1 = H at hP hS ⊢
  have hFc := va_free (wc := bMO k q ((opSets v n 0 x y b).2.1) ea fa ch tn he en ln sv wr dg ++ bI83 k (q 1) ((opSets v n 0 x y b).2.2) ++ bI83 k (q 2) v ++ bF10 k (q 6) fl ++ bF10 k (q 7) fl ++ bI664 k (q 4) pa ++ bF80 k (q 9) fp) hD hS hA [0, 1, 2, 3, 4, 5, 6] rfl
  refine va_calli (va_runV (As := [.int ((opSets v n 0 x y b).1)]) (rest := []) hF (m_X13_ends l9 D k H.size q ((opSets v n 0 x y b).2.1) ea fa ch tn he en ln sv wr dg ((opSets v n 0 x y b).2.2) v pa fl fl fp ((opSets v n 0 x y b).1) hch) (cwV 1 hts gX13_setAttack_X13_ends rfl rfl rfl (by decide +kernel) ⟨Nat.le_of_ble_eq_true rfl, Nat.le_of_ble_eq_true rfl⟩) (wPreV hK hN hP hD [0, 1, 2, 3, 4, 5, 6] rfl (by decide) rfl 0 11 rfl rfl) rfl rfl hl.1 rfl (lv_room (Nat.le_of_ble_eq_true rfl)) dX13_setAttack_12 ⟨Nat.zero_le _, Nat.zero_le _⟩) hS (fun q _ h => hFc q h) hFc (fun r u9 t9 H1 locs ht hvm hw hB hz1 hk1 hS => ?_)
  obtain ⟨hP, hD⟩ := wjoin (wr := []) (wf := bMO k q ((opSets v n 0 x y b).2.1) ea fa (if ((opSets v n 0 x y b).2.1) = 0 then chE ch else ch) tn he en ln sv wr dg ++ bI83 k (q 1) (if ((opSets v n 0 x y b).2.1) = 0 then ((opSets v n 0 x y b).2.2) else v) ++ bI83 k (q 2) v ++ bF10 k (q 6) (if ((opSets v n 0 x y b).2.1) = 0 then fl else fl) ++ bF10 k (q 7) fl ++ bI664 k (q 4) (if ((opSets v n 0 x y b).2.1) = 0 then paE ch pa v else pa) ++ bF80 k (q 9) (if ((opSets v n 0 x y b).2.1) = 0 then fpE ch fp fl else fp)) hP hD [0, 1, 2, 3, 4, 5, 6] [] [0, 1, 2, 3, 4, 5, 6] rfl rfl (by decide) (by decide) hk1 hFc hB ht rfl rfl (by decide)
  subst hw
  clear hB hk1 hz1 hvm hFc
  clear ht
  clear t9
  generalize H1 = H at hP hS ⊢
  refine lv_iconst (v := 1) hx hb dX13_setAttack_15 (by decide) ?_
  refine lv_icmp_ne (tgt := 23) hx hb dX13_setAttack_16 (by decide) (fun c_1 => ?_) (fun c_1 => ?_)
  · skip
    refine lv_iconst (v := 0) hx hb dX13_setAttack_23 (by decide) ?_
    have e_2 : (if ((opSets v n 0 x y b).2.1) = 0 then chE ch else ch : Nat) = if (opSets v n 0 x y b).2.1 = 0 then chE ch else ch := by first | (with_reducible rfl) | (rw [decide_eq_false c_1]; rfl)
    have hP := Eq.mp (congrArg (fun z9 => va_P D vwCl (bMO k q ((opSets v n 0 x y b).2.1) ea fa z9 tn he en ln sv wr dg ++ bI83 k (q 1) (if ((opSets v n 0 x y b).2.1) = 0 then ((opSets v n 0 x y b).2.2) else v) ++ bI83 k (q 2) v ++ bF10 k (q 6) (if ((opSets v n 0 x y b).2.1) = 0 then fl else fl) ++ bF10 k (q 7) fl ++ bI664 k (q 4) (if ((opSets v n 0 x y b).2.1) = 0 then paE ch pa v else pa) ++ bF80 k (q 9) (if ((opSets v n 0 x y b).2.1) = 0 then fpE ch fp fl else fp)) H) e_2) hP
    have hD := Eq.mp (congrArg (fun z9 => va_D A (bMO k q ((opSets v n 0 x y b).2.1) ea fa z9 tn he en ln sv wr dg ++ bI83 k (q 1) (if ((opSets v n 0 x y b).2.1) = 0 then ((opSets v n 0 x y b).2.2) else v) ++ bI83 k (q 2) v ++ bF10 k (q 6) (if ((opSets v n 0 x y b).2.1) = 0 then fl else fl) ++ bF10 k (q 7) fl ++ bI664 k (q 4) (if ((opSets v n 0 x y b).2.1) = 0 then paE ch pa v else pa) ++ bF80 k (q 9) (if ((opSets v n 0 x y b).2.1) = 0 then fpE ch fp fl else fp))) e_2) hD
    have e_3 : (if ((opSets v n 0 x y b).2.1) = 0 then ((opSets v n 0 x y b).2.2) else v : Nat → Int32) = if (opSets v n 0 x y b).2.1 = 0 then (opSets v n 0 x y b).2.2 else v := by first | (with_reducible rfl) | (rw [decide_eq_false c_1]; rfl)
    have hP := Eq.mp (congrArg (fun z9 => va_P D vwCl (bMO k q ((opSets v n 0 x y b).2.1) ea fa (if (opSets v n 0 x y b).2.1 = 0 then chE ch else ch) tn he en ln sv wr dg ++ bI83 k (q 1) z9 ++ bI83 k (q 2) v ++ bF10 k (q 6) (if ((opSets v n 0 x y b).2.1) = 0 then fl else fl) ++ bF10 k (q 7) fl ++ bI664 k (q 4) (if ((opSets v n 0 x y b).2.1) = 0 then paE ch pa v else pa) ++ bF80 k (q 9) (if ((opSets v n 0 x y b).2.1) = 0 then fpE ch fp fl else fp)) H) e_3) hP
    have hD := Eq.mp (congrArg (fun z9 => va_D A (bMO k q ((opSets v n 0 x y b).2.1) ea fa (if (opSets v n 0 x y b).2.1 = 0 then chE ch else ch) tn he en ln sv wr dg ++ bI83 k (q 1) z9 ++ bI83 k (q 2) v ++ bF10 k (q 6) (if ((opSets v n 0 x y b).2.1) = 0 then fl else fl) ++ bF10 k (q 7) fl ++ bI664 k (q 4) (if ((opSets v n 0 x y b).2.1) = 0 then paE ch pa v else pa) ++ bF80 k (q 9) (if ((opSets v n 0 x y b).2.1) = 0 then fpE ch fp fl else fp))) e_3) hD
    have e_4 : (if ((opSets v n 0 x y b).2.1) = 0 then fl else fl : Nat → UInt32) = if (opSets v n 0 x y b).2.1 = 0 then fl else fl := by first | (with_reducible rfl) | (rw [decide_eq_false c_1]; rfl)
    have hP := Eq.mp (congrArg (fun z9 => va_P D vwCl (bMO k q ((opSets v n 0 x y b).2.1) ea fa (if (opSets v n 0 x y b).2.1 = 0 then chE ch else ch) tn he en ln sv wr dg ++ bI83 k (q 1) (if (opSets v n 0 x y b).2.1 = 0 then (opSets v n 0 x y b).2.2 else v) ++ bI83 k (q 2) v ++ bF10 k (q 6) z9 ++ bF10 k (q 7) fl ++ bI664 k (q 4) (if ((opSets v n 0 x y b).2.1) = 0 then paE ch pa v else pa) ++ bF80 k (q 9) (if ((opSets v n 0 x y b).2.1) = 0 then fpE ch fp fl else fp)) H) e_4) hP
    have hD := Eq.mp (congrArg (fun z9 => va_D A (bMO k q ((opSets v n 0 x y b).2.1) ea fa (if (opSets v n 0 x y b).2.1 = 0 then chE ch else ch) tn he en ln sv wr dg ++ bI83 k (q 1) (if (opSets v n 0 x y b).2.1 = 0 then (opSets v n 0 x y b).2.2 else v) ++ bI83 k (q 2) v ++ bF10 k (q 6) z9 ++ bF10 k (q 7) fl ++ bI664 k (q 4) (if ((opSets v n 0 x y b).2.1) = 0 then paE ch pa v else pa) ++ bF80 k (q 9) (if ((opSets v n 0 x y b).2.1) = 0 then fpE ch fp fl else fp))) e_4) hD
    have e_5 : (if ((opSets v n 0 x y b).2.1) = 0 then paE ch pa v else pa : Nat → Int32) = if (opSets v n 0 x y b).2.1 = 0 then paE ch pa v else pa := by first | (with_reducible rfl) | (rw [decide_eq_false c_1]; rfl)
    have hP := Eq.mp (congrArg (fun z9 => va_P D vwCl (bMO k q ((opSets v n 0 x y b).2.1) ea fa (if (opSets v n 0 x y b).2.1 = 0 then chE ch else ch) tn he en ln sv wr dg ++ bI83 k (q 1) (if (opSets v n 0 x y b).2.1 = 0 then (opSets v n 0 x y b).2.2 else v) ++ bI83 k (q 2) v ++ bF10 k (q 6) (if (opSets v n 0 x y b).2.1 = 0 then fl else fl) ++ bF10 k (q 7) fl ++ bI664 k (q 4) z9 ++ bF80 k (q 9) (if ((opSets v n 0 x y b).2.1) = 0 then fpE ch fp fl else fp)) H) e_5) hP
    have hD := Eq.mp (congrArg (fun z9 => va_D A (bMO k q ((opSets v n 0 x y b).2.1) ea fa (if (opSets v n 0 x y b).2.1 = 0 then chE ch else ch) tn he en ln sv wr dg ++ bI83 k (q 1) (if (opSets v n 0 x y b).2.1 = 0 then (opSets v n 0 x y b).2.2 else v) ++ bI83 k (q 2) v ++ bF10 k (q 6) (if (opSets v n 0 x y b).2.1 = 0 then fl else fl) ++ bF10 k (q 7) fl ++ bI664 k (q 4) z9 ++ bF80 k (q 9) (if ((opSets v n 0 x y b).2.1) = 0 then fpE ch fp fl else fp))) e_5) hD
    have e_6 : (if ((opSets v n 0 x y b).2.1) = 0 then fpE ch fp fl else fp : Nat → UInt32) = if (opSets v n 0 x y b).2.1 = 0 then fpE ch fp fl else fp := by first | (with_reducible rfl) | (rw [decide_eq_false c_1]; rfl)
    have hP := Eq.mp (congrArg (fun z9 => va_P D vwCl (bMO k q ((opSets v n 0 x y b).2.1) ea fa (if (opSets v n 0 x y b).2.1 = 0 then chE ch else ch) tn he en ln sv wr dg ++ bI83 k (q 1) (if (opSets v n 0 x y b).2.1 = 0 then (opSets v n 0 x y b).2.2 else v) ++ bI83 k (q 2) v ++ bF10 k (q 6) (if (opSets v n 0 x y b).2.1 = 0 then fl else fl) ++ bF10 k (q 7) fl ++ bI664 k (q 4) (if (opSets v n 0 x y b).2.1 = 0 then paE ch pa v else pa) ++ bF80 k (q 9) z9) H) e_6) hP
    have hD := Eq.mp (congrArg (fun z9 => va_D A (bMO k q ((opSets v n 0 x y b).2.1) ea fa (if (opSets v n 0 x y b).2.1 = 0 then chE ch else ch) tn he en ln sv wr dg ++ bI83 k (q 1) (if (opSets v n 0 x y b).2.1 = 0 then (opSets v n 0 x y b).2.2 else v) ++ bI83 k (q 2) v ++ bF10 k (q 6) (if (opSets v n 0 x y b).2.1 = 0 then fl else fl) ++ bF10 k (q 7) fl ++ bI664 k (q 4) (if (opSets v n 0 x y b).2.1 = 0 then paE ch pa v else pa) ++ bF80 k (q 9) z9)) e_6) hD
    exact W.zret (v := 0) hx hb hr (rfl) (fun t9 ht hW => ⟨⟨_, (), rfl, (by rw [decide_eq_false c_1]; rfl), ⟨by rw [ht]; exact hP, va_K.moved hW.alike hK, hD⟩⟩, hS.F ht⟩) hS.2.2 dX13_setAttack_24 hlocks
  · skip
    refine lv_iconst (v := 1) hx hb dX13_setAttack_19 (by decide) ?_
    refine lv_goto (tgt := 24) hx hb dX13_setAttack_20 (by decide) ?_
    have e_7 : (if ((opSets v n 0 x y b).2.1) = 0 then chE ch else ch : Nat) = if (opSets v n 0 x y b).2.1 = 0 then chE ch else ch := by first | (with_reducible rfl) | (rw [decide_eq_true c_1]; rfl)
    have hP := Eq.mp (congrArg (fun z9 => va_P D vwCl (bMO k q ((opSets v n 0 x y b).2.1) ea fa z9 tn he en ln sv wr dg ++ bI83 k (q 1) (if ((opSets v n 0 x y b).2.1) = 0 then ((opSets v n 0 x y b).2.2) else v) ++ bI83 k (q 2) v ++ bF10 k (q 6) (if ((opSets v n 0 x y b).2.1) = 0 then fl else fl) ++ bF10 k (q 7) fl ++ bI664 k (q 4) (if ((opSets v n 0 x y b).2.1) = 0 then paE ch pa v else pa) ++ bF80 k (q 9) (if ((opSets v n 0 x y b).2.1) = 0 then fpE ch fp fl else fp)) H) e_7) hP
    have hD := Eq.mp (congrArg (fun z9 => va_D A (bMO k q ((opSets v n 0 x y b).2.1) ea fa z9 tn he en ln sv wr dg ++ bI83 k (q 1) (if ((opSets v n 0 x y b).2.1) = 0 then ((opSets v n 0 x y b).2.2) else v) ++ bI83 k (q 2) v ++ bF10 k (q 6) (if ((opSets v n 0 x y b).2.1) = 0 then fl else fl) ++ bF10 k (q 7) fl ++ bI664 k (q 4) (if ((opSets v n 0 x y b).2.1) = 0 then paE ch pa v else pa) ++ bF80 k (q 9) (if ((opSets v n 0 x y b).2.1) = 0 then fpE ch fp fl else fp))) e_7) hD
    have e_8 : (if ((opSets v n 0 x y b).2.1) = 0 then ((opSets v n 0 x y b).2.2) else v : Nat → Int32) = if (opSets v n 0 x y b).2.1 = 0 then (opSets v n 0 x y b).2.2 else v := by first | (with_reducible rfl) | (rw [decide_eq_true c_1]; rfl)
    have hP := Eq.mp (congrArg (fun z9 => va_P D vwCl (bMO k q ((opSets v n 0 x y b).2.1) ea fa (if (opSets v n 0 x y b).2.1 = 0 then chE ch else ch) tn he en ln sv wr dg ++ bI83 k (q 1) z9 ++ bI83 k (q 2) v ++ bF10 k (q 6) (if ((opSets v n 0 x y b).2.1) = 0 then fl else fl) ++ bF10 k (q 7) fl ++ bI664 k (q 4) (if ((opSets v n 0 x y b).2.1) = 0 then paE ch pa v else pa) ++ bF80 k (q 9) (if ((opSets v n 0 x y b).2.1) = 0 then fpE ch fp fl else fp)) H) e_8) hP
    have hD := Eq.mp (congrArg (fun z9 => va_D A (bMO k q ((opSets v n 0 x y b).2.1) ea fa (if (opSets v n 0 x y b).2.1 = 0 then chE ch else ch) tn he en ln sv wr dg ++ bI83 k (q 1) z9 ++ bI83 k (q 2) v ++ bF10 k (q 6) (if ((opSets v n 0 x y b).2.1) = 0 then fl else fl) ++ bF10 k (q 7) fl ++ bI664 k (q 4) (if ((opSets v n 0 x y b).2.1) = 0 then paE ch pa v else pa) ++ bF80 k (q 9) (if ((opSets v n 0 x y b).2.1) = 0 then fpE ch fp fl else fp))) e_8) hD
    have e_9 : (if ((opSets v n 0 x y b).2.1) = 0 then fl else fl : Nat → UInt32) = if (opSets v n 0 x y b).2.1 = 0 then fl else fl := by first | (with_reducible rfl) | (rw [decide_eq_true c_1]; rfl)
    have hP := Eq.mp (congrArg (fun z9 => va_P D vwCl (bMO k q ((opSets v n 0 x y b).2.1) ea fa (if (opSets v n 0 x y b).2.1 = 0 then chE ch else ch) tn he en ln sv wr dg ++ bI83 k (q 1) (if (opSets v n 0 x y b).2.1 = 0 then (opSets v n 0 x y b).2.2 else v) ++ bI83 k (q 2) v ++ bF10 k (q 6) z9 ++ bF10 k (q 7) fl ++ bI664 k (q 4) (if ((opSets v n 0 x y b).2.1) = 0 then paE ch pa v else pa) ++ bF80 k (q 9) (if ((opSets v n 0 x y b).2.1) = 0 then fpE ch fp fl else fp)) H) e_9) hP
    have hD := Eq.mp (congrArg (fun z9 => va_D A (bMO k q ((opSets v n 0 x y b).2.1) ea fa (if (opSets v n 0 x y b).2.1 = 0 then chE ch else ch) tn he en ln sv wr dg ++ bI83 k (q 1) (if (opSets v n 0 x y b).2.1 = 0 then (opSets v n 0 x y b).2.2 else v) ++ bI83 k (q 2) v ++ bF10 k (q 6) z9 ++ bF10 k (q 7) fl ++ bI664 k (q 4) (if ((opSets v n 0 x y b).2.1) = 0 then paE ch pa v else pa) ++ bF80 k (q 9) (if ((opSets v n 0 x y b).2.1) = 0 then fpE ch fp fl else fp))) e_9) hD
    have e_10 : (if ((opSets v n 0 x y b).2.1) = 0 then paE ch pa v else pa : Nat → Int32) = if (opSets v n 0 x y b).2.1 = 0 then paE ch pa v else pa := by first | (with_reducible rfl) | (rw [decide_eq_true c_1]; rfl)
    have hP := Eq.mp (congrArg (fun z9 => va_P D vwCl (bMO k q ((opSets v n 0 x y b).2.1) ea fa (if (opSets v n 0 x y b).2.1 = 0 then chE ch else ch) tn he en ln sv wr dg ++ bI83 k (q 1) (if (opSets v n 0 x y b).2.1 = 0 then (opSets v n 0 x y b).2.2 else v) ++ bI83 k (q 2) v ++ bF10 k (q 6) (if (opSets v n 0 x y b).2.1 = 0 then fl else fl) ++ bF10 k (q 7) fl ++ bI664 k (q 4) z9 ++ bF80 k (q 9) (if ((opSets v n 0 x y b).2.1) = 0 then fpE ch fp fl else fp)) H) e_10) hP
    have hD := Eq.mp (congrArg (fun z9 => va_D A (bMO k q ((opSets v n 0 x y b).2.1) ea fa (if (opSets v n 0 x y b).2.1 = 0 then chE ch else ch) tn he en ln sv wr dg ++ bI83 k (q 1) (if (opSets v n 0 x y b).2.1 = 0 then (opSets v n 0 x y b).2.2 else v) ++ bI83 k (q 2) v ++ bF10 k (q 6) (if (opSets v n 0 x y b).2.1 = 0 then fl else fl) ++ bF10 k (q 7) fl ++ bI664 k (q 4) z9 ++ bF80 k (q 9) (if ((opSets v n 0 x y b).2.1) = 0 then fpE ch fp fl else fp))) e_10) hD
    have e_11 : (if ((opSets v n 0 x y b).2.1) = 0 then fpE ch fp fl else fp : Nat → UInt32) = if (opSets v n 0 x y b).2.1 = 0 then fpE ch fp fl else fp := by first | (with_reducible rfl) | (rw [decide_eq_true c_1]; rfl)
    have hP := Eq.mp (congrArg (fun z9 => va_P D vwCl (bMO k q ((opSets v n 0 x y b).2.1) ea fa (if (opSets v n 0 x y b).2.1 = 0 then chE ch else ch) tn he en ln sv wr dg ++ bI83 k (q 1) (if (opSets v n 0 x y b).2.1 = 0 then (opSets v n 0 x y b).2.2 else v) ++ bI83 k (q 2) v ++ bF10 k (q 6) (if (opSets v n 0 x y b).2.1 = 0 then fl else fl) ++ bF10 k (q 7) fl ++ bI664 k (q 4) (if (opSets v n 0 x y b).2.1 = 0 then paE ch pa v else pa) ++ bF80 k (q 9) z9) H) e_11) hP
    have hD := Eq.mp (congrArg (fun z9 => va_D A (bMO k q ((opSets v n 0 x y b).2.1) ea fa (if (opSets v n 0 x y b).2.1 = 0 then chE ch else ch) tn he en ln sv wr dg ++ bI83 k (q 1) (if (opSets v n 0 x y b).2.1 = 0 then (opSets v n 0 x y b).2.2 else v) ++ bI83 k (q 2) v ++ bF10 k (q 6) (if (opSets v n 0 x y b).2.1 = 0 then fl else fl) ++ bF10 k (q 7) fl ++ bI664 k (q 4) (if (opSets v n 0 x y b).2.1 = 0 then paE ch pa v else pa) ++ bF80 k (q 9) z9)) e_11) hD
    exact W.zret (v := 1) hx hb hr (rfl) (fun t9 ht hW => ⟨⟨_, (), rfl, (by rw [decide_eq_true c_1]; rfl), ⟨by rw [ht]; exact hP, va_K.moved hW.alike hK, hD⟩⟩, hS.F ht⟩) hS.2.2 dX13_setAttack_24 hlocks

set_option maxHeartbeats 4000000 in
set_option maxRecDepth 100000 in
theorem m_X13_setLayer (l9 : Launch) (D : va_G) (k : Nat → ClassId) (sz : Nat) (q : Nat → Nat) (th ea fa : Int32) (ch tn he en ln : Nat) (sv wr dg : Bool) (v be pa : Nat → Int32) (fl fb fp : Nat → UInt32) (n : Nat) (x y : Int32) (hn : n ≤ 10) (hv0 : v 0 = nI n) (hch : ch ≤ 8) : Met l9 yX13_setLayer wsX13_setLayer ({ frames := 3, cells := 0, slots := 0, locals := 66 }) (WPc D k [.ref (q 0), .int x, .int y] (bMO k q th ea fa ch tn he en ln sv wr dg ++ bI83 k (q 1) v ++ bI83 k (q 2) be ++ bF10 k (q 6) fl ++ bF10 k (q 7) fb ++ bI664 k (q 4) pa ++ bF80 k (q 9) fp) sz) (WI D k (bMO k q ((opMoves v n 0 x y).2.1) ea fa (if (opMoves v n 0 x y).2.1 = 0 then chE ch else ch) tn he en ln sv wr dg ++ bI83 k (q 1) (if (opMoves v n 0 x y).2.1 = 0 then (opMoves v n 0 x y).2.2 else v) ++ bI83 k (q 2) v ++ bF10 k (q 6) (if (opMoves v n 0 x y).2.1 = 0 then fl else fl) ++ bF10 k (q 7) fl ++ bI664 k (q 4) (if (opMoves v n 0 x y).2.1 = 0 then paE ch pa v else pa) ++ bF80 k (q 9) (if (opMoves v n 0 x y).2.1 = 0 then fpE ch fp fl else fp)) (if (opMoves v n 0 x y).2.1 = 0 then (opMoves v n 0 x y).1 else 0) (va_A (bMO k q th ea fa ch tn he en ln sv wr dg ++ bI83 k (q 1) v ++ bI83 k (q 2) be ++ bF10 k (q 6) fl ++ bF10 k (q 7) fb ++ bI664 k (q 4) pa ++ bF80 k (q 9) fp) sz)) 0 0 (va_A (bMO k q th ea fa ch tn he en ln sv wr dg ++ bI83 k (q 1) v ++ bI83 k (q 2) be ++ bF10 k (q 6) fl ++ bF10 k (q 7) fb ++ bI664 k (q 4) pa ++ bF80 k (q 9) fp) sz) := by
  refine wMet (y := yX13_setLayer) (cc := cX13_setLayer) (maxL := 3) (ret := (some .int)) (Qc := fun A => WI D k (bMO k q ((opMoves v n 0 x y).2.1) ea fa (if (opMoves v n 0 x y).2.1 = 0 then chE ch else ch) tn he en ln sv wr dg ++ bI83 k (q 1) (if (opMoves v n 0 x y).2.1 = 0 then (opMoves v n 0 x y).2.2 else v) ++ bI83 k (q 2) v ++ bF10 k (q 6) (if (opMoves v n 0 x y).2.1 = 0 then fl else fl) ++ bF10 k (q 7) fl ++ bI664 k (q 4) (if (opMoves v n 0 x y).2.1 = 0 then paE ch pa v else pa) ++ bF80 k (q 9) (if (opMoves v n 0 x y).2.1 = 0 then fpE ch fp fl else fp)) (if (opMoves v n 0 x y).2.1 = 0 then (opMoves v n 0 x y).1 else 0) A) [.ref (q 0), .int x, .int y] (by decide) rfl (Nat.le_of_ble_eq_true rfl) ?_
  intro p9 e9 s9 m9 bl9 me9 c9 ls A H hF hr hlocks hP hK hN hD hA hS hl hin
  have hl : lv_has ls 3 [(0, .ref (q 0)), (1, .int x), (2, .int y)] := hl
  obtain ⟨hx, hb, hml, hown, hts⟩ := id hF
  refine lv_aload_n hx hb dX13_setLayer_0 rfl (lv_at hl 0 rfl) ?_
  have hFc := va_free (wc := bMO k q th ea fa ch tn he en ln sv wr dg ++ bI83 k (q 1) v ++ bI83 k (q 2) be ++ bF10 k (q 6) fl ++ bF10 k (q 7) fb) hD hS hA [0, 1, 2, 3, 4] rfl
  refine va_callv (va_runV (As := []) (rest := []) hF (m_X13_begins l9 D k H.size q th ea fa ch tn he en ln sv wr dg v be fl fb ) (cwV 0 hts gX13_setLayer_X13_begins rfl rfl rfl (by decide +kernel) ⟨Nat.le_of_ble_eq_true rfl, Nat.le_of_ble_eq_true rfl⟩) (wPreV hK hN hP hD [0, 1, 2, 3, 4] rfl (by decide) rfl 0 11 rfl rfl) rfl rfl hl.1 rfl (lv_room (Nat.le_of_ble_eq_true rfl)) dX13_setLayer_1 ⟨Nat.zero_le _, Nat.zero_le _⟩) hS (fun q _ h => hFc q h) hFc (fun u9 t9 H1 locs ht hvm hw hB hz1 hk1 hS => ?_)
  obtain ⟨hP, hD⟩ := wjoin (wr := bI664 k (q 4) pa ++ bF80 k (q 9) fp) (wf := bMO k q 0 ea fa ch tn he en ln sv wr dg ++ bI83 k (q 1) v ++ bI83 k (q 2) v ++ bF10 k (q 6) fl ++ bF10 k (q 7) fl ++ bI664 k (q 4) pa ++ bF80 k (q 9) fp) hP hD [0, 1, 2, 3, 4] [5, 6] [2, 3, 4, 5, 6, 0, 1] rfl rfl (by decide) (by decide) hk1 hFc hB ht rfl rfl (by decide)
  clear hB hk1 hz1 hvm hFc
  clear ht
  clear t9
  generalize H1 = H at hP hS ⊢
  refine lv_aload_n hx hb dX13_setLayer_4 rfl (lv_at hl 0 rfl) ?_
  refine lv_aload_n hx hb dX13_setLayer_5 rfl (lv_at hl 0 rfl) ?_
  refine lv_iload_n hx hb dX13_setLayer_6 rfl (lv_at hl 1 rfl) ?_
  refine lv_iload_n hx hb dX13_setLayer_7 rfl (lv_at hl 2 rfl) ?_
  have hFc := va_free (wc := bMO k q 0 ea fa ch tn he en ln sv wr dg ++ bI83 k (q 1) v) hD hS hA [0, 1] rfl
  refine va_calli (va_runV (As := [.int x, .int y]) (rest := [.ref (q 0)]) hF (m_X13_moves l9 D k H.size q 0 ea fa ch tn he en ln sv wr dg v n x y hn hv0) (cwV 2 hts gX13_setLayer_X13_moves rfl rfl rfl (by decide +kernel) ⟨Nat.le_of_ble_eq_true rfl, Nat.le_of_ble_eq_true rfl⟩) (wPreV hK hN hP hD [0, 1] rfl (by decide) rfl 0 11 rfl rfl) rfl rfl hl.1 rfl (lv_room (Nat.le_of_ble_eq_true rfl)) dX13_setLayer_8 ⟨Nat.zero_le _, Nat.zero_le _⟩) hS (fun q _ h => hFc q h) hFc (fun r u9 t9 H1 locs ht hvm hw hB hz1 hk1 hS => ?_)
  obtain ⟨hP, hD⟩ := wjoin (wr := bI83 k (q 2) v ++ bF10 k (q 6) fl ++ bF10 k (q 7) fl ++ bI664 k (q 4) pa ++ bF80 k (q 9) fp) (wf := bMO k q ((opMoves v n 0 x y).2.1) ea fa ch tn he en ln sv wr dg ++ bI83 k (q 1) ((opMoves v n 0 x y).2.2) ++ bI83 k (q 2) v ++ bF10 k (q 6) fl ++ bF10 k (q 7) fl ++ bI664 k (q 4) pa ++ bF80 k (q 9) fp) hP hD [0, 1] [2, 3, 4, 5, 6] [5, 6, 0, 1, 2, 3, 4] rfl rfl (by decide) (by decide) hk1 hFc hB ht rfl rfl (by decide)
  subst hw
  clear hB hk1 hz1 hvm hFc
  clear ht
  clear t9
  generalize H1 = H at hP hS ⊢
  have hFc := va_free (wc := bMO k q ((opMoves v n 0 x y).2.1) ea fa ch tn he en ln sv wr dg ++ bI83 k (q 1) ((opMoves v n 0 x y).2.2) ++ bI83 k (q 2) v ++ bF10 k (q 6) fl ++ bF10 k (q 7) fl ++ bI664 k (q 4) pa ++ bF80 k (q 9) fp) hD hS hA [0, 1, 2, 3, 4, 5, 6] rfl
  refine va_calli (va_runV (As := [.int ((opMoves v n 0 x y).1)]) (rest := []) hF (m_X13_ends l9 D k H.size q ((opMoves v n 0 x y).2.1) ea fa ch tn he en ln sv wr dg ((opMoves v n 0 x y).2.2) v pa fl fl fp ((opMoves v n 0 x y).1) hch) (cwV 1 hts gX13_setLayer_X13_ends rfl rfl rfl (by decide +kernel) ⟨Nat.le_of_ble_eq_true rfl, Nat.le_of_ble_eq_true rfl⟩) (wPreV hK hN hP hD [0, 1, 2, 3, 4, 5, 6] rfl (by decide) rfl 0 11 rfl rfl) rfl rfl hl.1 rfl (lv_room (Nat.le_of_ble_eq_true rfl)) dX13_setLayer_11 ⟨Nat.zero_le _, Nat.zero_le _⟩) hS (fun q _ h => hFc q h) hFc (fun r u9 t9 H1 locs ht hvm hw hB hz1 hk1 hS => ?_)
  obtain ⟨hP, hD⟩ := wjoin (wr := []) (wf := bMO k q ((opMoves v n 0 x y).2.1) ea fa (if ((opMoves v n 0 x y).2.1) = 0 then chE ch else ch) tn he en ln sv wr dg ++ bI83 k (q 1) (if ((opMoves v n 0 x y).2.1) = 0 then ((opMoves v n 0 x y).2.2) else v) ++ bI83 k (q 2) v ++ bF10 k (q 6) (if ((opMoves v n 0 x y).2.1) = 0 then fl else fl) ++ bF10 k (q 7) fl ++ bI664 k (q 4) (if ((opMoves v n 0 x y).2.1) = 0 then paE ch pa v else pa) ++ bF80 k (q 9) (if ((opMoves v n 0 x y).2.1) = 0 then fpE ch fp fl else fp)) hP hD [0, 1, 2, 3, 4, 5, 6] [] [0, 1, 2, 3, 4, 5, 6] rfl rfl (by decide) (by decide) hk1 hFc hB ht rfl rfl (by decide)
  subst hw
  clear hB hk1 hz1 hvm hFc
  clear ht
  clear t9
  generalize H1 = H at hP hS ⊢
  have e_1 : (if ((opMoves v n 0 x y).2.1) = 0 then chE ch else ch : Nat) = if (opMoves v n 0 x y).2.1 = 0 then chE ch else ch := by first | (with_reducible rfl) | (rfl)
  have hP := Eq.mp (congrArg (fun z9 => va_P D vwCl (bMO k q ((opMoves v n 0 x y).2.1) ea fa z9 tn he en ln sv wr dg ++ bI83 k (q 1) (if ((opMoves v n 0 x y).2.1) = 0 then ((opMoves v n 0 x y).2.2) else v) ++ bI83 k (q 2) v ++ bF10 k (q 6) (if ((opMoves v n 0 x y).2.1) = 0 then fl else fl) ++ bF10 k (q 7) fl ++ bI664 k (q 4) (if ((opMoves v n 0 x y).2.1) = 0 then paE ch pa v else pa) ++ bF80 k (q 9) (if ((opMoves v n 0 x y).2.1) = 0 then fpE ch fp fl else fp)) H) e_1) hP
  have hD := Eq.mp (congrArg (fun z9 => va_D A (bMO k q ((opMoves v n 0 x y).2.1) ea fa z9 tn he en ln sv wr dg ++ bI83 k (q 1) (if ((opMoves v n 0 x y).2.1) = 0 then ((opMoves v n 0 x y).2.2) else v) ++ bI83 k (q 2) v ++ bF10 k (q 6) (if ((opMoves v n 0 x y).2.1) = 0 then fl else fl) ++ bF10 k (q 7) fl ++ bI664 k (q 4) (if ((opMoves v n 0 x y).2.1) = 0 then paE ch pa v else pa) ++ bF80 k (q 9) (if ((opMoves v n 0 x y).2.1) = 0 then fpE ch fp fl else fp))) e_1) hD
  have e_2 : (if ((opMoves v n 0 x y).2.1) = 0 then ((opMoves v n 0 x y).2.2) else v : Nat → Int32) = if (opMoves v n 0 x y).2.1 = 0 then (opMoves v n 0 x y).2.2 else v := by first | (with_reducible rfl) | (rfl)
  have hP := Eq.mp (congrArg (fun z9 => va_P D vwCl (bMO k q ((opMoves v n 0 x y).2.1) ea fa (if (opMoves v n 0 x y).2.1 = 0 then chE ch else ch) tn he en ln sv wr dg ++ bI83 k (q 1) z9 ++ bI83 k (q 2) v ++ bF10 k (q 6) (if ((opMoves v n 0 x y).2.1) = 0 then fl else fl) ++ bF10 k (q 7) fl ++ bI664 k (q 4) (if ((opMoves v n 0 x y).2.1) = 0 then paE ch pa v else pa) ++ bF80 k (q 9) (if ((opMoves v n 0 x y).2.1) = 0 then fpE ch fp fl else fp)) H) e_2) hP
  have hD := Eq.mp (congrArg (fun z9 => va_D A (bMO k q ((opMoves v n 0 x y).2.1) ea fa (if (opMoves v n 0 x y).2.1 = 0 then chE ch else ch) tn he en ln sv wr dg ++ bI83 k (q 1) z9 ++ bI83 k (q 2) v ++ bF10 k (q 6) (if ((opMoves v n 0 x y).2.1) = 0 then fl else fl) ++ bF10 k (q 7) fl ++ bI664 k (q 4) (if ((opMoves v n 0 x y).2.1) = 0 then paE ch pa v else pa) ++ bF80 k (q 9) (if ((opMoves v n 0 x y).2.1) = 0 then fpE ch fp fl else fp))) e_2) hD
  have e_3 : (if ((opMoves v n 0 x y).2.1) = 0 then fl else fl : Nat → UInt32) = if (opMoves v n 0 x y).2.1 = 0 then fl else fl := by first | (with_reducible rfl) | (rfl)
  have hP := Eq.mp (congrArg (fun z9 => va_P D vwCl (bMO k q ((opMoves v n 0 x y).2.1) ea fa (if (opMoves v n 0 x y).2.1 = 0 then chE ch else ch) tn he en ln sv wr dg ++ bI83 k (q 1) (if (opMoves v n 0 x y).2.1 = 0 then (opMoves v n 0 x y).2.2 else v) ++ bI83 k (q 2) v ++ bF10 k (q 6) z9 ++ bF10 k (q 7) fl ++ bI664 k (q 4) (if ((opMoves v n 0 x y).2.1) = 0 then paE ch pa v else pa) ++ bF80 k (q 9) (if ((opMoves v n 0 x y).2.1) = 0 then fpE ch fp fl else fp)) H) e_3) hP
  have hD := Eq.mp (congrArg (fun z9 => va_D A (bMO k q ((opMoves v n 0 x y).2.1) ea fa (if (opMoves v n 0 x y).2.1 = 0 then chE ch else ch) tn he en ln sv wr dg ++ bI83 k (q 1) (if (opMoves v n 0 x y).2.1 = 0 then (opMoves v n 0 x y).2.2 else v) ++ bI83 k (q 2) v ++ bF10 k (q 6) z9 ++ bF10 k (q 7) fl ++ bI664 k (q 4) (if ((opMoves v n 0 x y).2.1) = 0 then paE ch pa v else pa) ++ bF80 k (q 9) (if ((opMoves v n 0 x y).2.1) = 0 then fpE ch fp fl else fp))) e_3) hD
  have e_4 : (if ((opMoves v n 0 x y).2.1) = 0 then paE ch pa v else pa : Nat → Int32) = if (opMoves v n 0 x y).2.1 = 0 then paE ch pa v else pa := by first | (with_reducible rfl) | (rfl)
  have hP := Eq.mp (congrArg (fun z9 => va_P D vwCl (bMO k q ((opMoves v n 0 x y).2.1) ea fa (if (opMoves v n 0 x y).2.1 = 0 then chE ch else ch) tn he en ln sv wr dg ++ bI83 k (q 1) (if (opMoves v n 0 x y).2.1 = 0 then (opMoves v n 0 x y).2.2 else v) ++ bI83 k (q 2) v ++ bF10 k (q 6) (if (opMoves v n 0 x y).2.1 = 0 then fl else fl) ++ bF10 k (q 7) fl ++ bI664 k (q 4) z9 ++ bF80 k (q 9) (if ((opMoves v n 0 x y).2.1) = 0 then fpE ch fp fl else fp)) H) e_4) hP
  have hD := Eq.mp (congrArg (fun z9 => va_D A (bMO k q ((opMoves v n 0 x y).2.1) ea fa (if (opMoves v n 0 x y).2.1 = 0 then chE ch else ch) tn he en ln sv wr dg ++ bI83 k (q 1) (if (opMoves v n 0 x y).2.1 = 0 then (opMoves v n 0 x y).2.2 else v) ++ bI83 k (q 2) v ++ bF10 k (q 6) (if (opMoves v n 0 x y).2.1 = 0 then fl else fl) ++ bF10 k (q 7) fl ++ bI664 k (q 4) z9 ++ bF80 k (q 9) (if ((opMoves v n 0 x y).2.1) = 0 then fpE ch fp fl else fp))) e_4) hD
  have e_5 : (if ((opMoves v n 0 x y).2.1) = 0 then fpE ch fp fl else fp : Nat → UInt32) = if (opMoves v n 0 x y).2.1 = 0 then fpE ch fp fl else fp := by first | (with_reducible rfl) | (rfl)
  have hP := Eq.mp (congrArg (fun z9 => va_P D vwCl (bMO k q ((opMoves v n 0 x y).2.1) ea fa (if (opMoves v n 0 x y).2.1 = 0 then chE ch else ch) tn he en ln sv wr dg ++ bI83 k (q 1) (if (opMoves v n 0 x y).2.1 = 0 then (opMoves v n 0 x y).2.2 else v) ++ bI83 k (q 2) v ++ bF10 k (q 6) (if (opMoves v n 0 x y).2.1 = 0 then fl else fl) ++ bF10 k (q 7) fl ++ bI664 k (q 4) (if (opMoves v n 0 x y).2.1 = 0 then paE ch pa v else pa) ++ bF80 k (q 9) z9) H) e_5) hP
  have hD := Eq.mp (congrArg (fun z9 => va_D A (bMO k q ((opMoves v n 0 x y).2.1) ea fa (if (opMoves v n 0 x y).2.1 = 0 then chE ch else ch) tn he en ln sv wr dg ++ bI83 k (q 1) (if (opMoves v n 0 x y).2.1 = 0 then (opMoves v n 0 x y).2.2 else v) ++ bI83 k (q 2) v ++ bF10 k (q 6) (if (opMoves v n 0 x y).2.1 = 0 then fl else fl) ++ bF10 k (q 7) fl ++ bI664 k (q 4) (if (opMoves v n 0 x y).2.1 = 0 then paE ch pa v else pa) ++ bF80 k (q 9) z9)) e_5) hD
  exact W.iret (v := if ((opMoves v n 0 x y).2.1) = 0 then ((opMoves v n 0 x y).1) else 0) hx hb hr (fun t9 ht hW => ⟨⟨_, (), rfl, (by rfl), ⟨by rw [ht]; exact hP, va_K.moved hW.alike hK, hD⟩⟩, hS.F ht⟩) hS.2.2 dX13_setLayer_14 hlocks

set_option maxHeartbeats 4000000 in
set_option maxRecDepth 100000 in
theorem m_X13_setRack (l9 : Launch) (D : va_G) (k : Nat → ClassId) (sz : Nat) (q : Nat → Nat) (th ea fa : Int32) (ch tn he en ln : Nat) (sv wr dg : Bool) (v be pa : Nat → Int32) (fl fb fp : Nat → UInt32) (x z : Int32) (hch : ch ≤ 8) : Met l9 yX13_setRack wsX13_setRack ({ frames := 3, cells := 0, slots := 0, locals := 67 }) (WPc D k [.ref (q 0), .int x, .int z] (bMO k q th ea fa ch tn he en ln sv wr dg ++ bI83 k (q 1) v ++ bI83 k (q 2) be ++ bF10 k (q 6) fl ++ bF10 k (q 7) fb ++ bI664 k (q 4) pa ++ bF80 k (q 9) fp) sz) (WI D k (bMO k q ((opRacks v 0 x z).2.1) ea fa (if (opRacks v 0 x z).2.1 = 0 then chE ch else ch) tn he en ln sv wr dg ++ bI83 k (q 1) (if (opRacks v 0 x z).2.1 = 0 then (opRacks v 0 x z).2.2 else v) ++ bI83 k (q 2) v ++ bF10 k (q 6) (if (opRacks v 0 x z).2.1 = 0 then fl else fl) ++ bF10 k (q 7) fl ++ bI664 k (q 4) (if (opRacks v 0 x z).2.1 = 0 then paE ch pa v else pa) ++ bF80 k (q 9) (if (opRacks v 0 x z).2.1 = 0 then fpE ch fp fl else fp)) ((Int32.toUInt32 (if (opRacks v 0 x z).2.1 = 0 then (opRacks v 0 x z).1 else 0) % 65536).toInt32) (va_A (bMO k q th ea fa ch tn he en ln sv wr dg ++ bI83 k (q 1) v ++ bI83 k (q 2) be ++ bF10 k (q 6) fl ++ bF10 k (q 7) fb ++ bI664 k (q 4) pa ++ bF80 k (q 9) fp) sz)) 0 0 (va_A (bMO k q th ea fa ch tn he en ln sv wr dg ++ bI83 k (q 1) v ++ bI83 k (q 2) be ++ bF10 k (q 6) fl ++ bF10 k (q 7) fb ++ bI664 k (q 4) pa ++ bF80 k (q 9) fp) sz) := by
  refine wMet (y := yX13_setRack) (cc := cX13_setRack) (maxL := 3) (ret := (some .char)) (Qc := fun A => WI D k (bMO k q ((opRacks v 0 x z).2.1) ea fa (if (opRacks v 0 x z).2.1 = 0 then chE ch else ch) tn he en ln sv wr dg ++ bI83 k (q 1) (if (opRacks v 0 x z).2.1 = 0 then (opRacks v 0 x z).2.2 else v) ++ bI83 k (q 2) v ++ bF10 k (q 6) (if (opRacks v 0 x z).2.1 = 0 then fl else fl) ++ bF10 k (q 7) fl ++ bI664 k (q 4) (if (opRacks v 0 x z).2.1 = 0 then paE ch pa v else pa) ++ bF80 k (q 9) (if (opRacks v 0 x z).2.1 = 0 then fpE ch fp fl else fp)) ((Int32.toUInt32 (if (opRacks v 0 x z).2.1 = 0 then (opRacks v 0 x z).1 else 0) % 65536).toInt32) A) [.ref (q 0), .int x, .int z] (by decide) rfl (Nat.le_of_ble_eq_true rfl) ?_
  intro p9 e9 s9 m9 bl9 me9 c9 ls A H hF hr hlocks hP hK hN hD hA hS hl hin
  have hl : lv_has ls 3 [(0, .ref (q 0)), (1, .int x), (2, .int z)] := hl
  obtain ⟨hx, hb, hml, hown, hts⟩ := id hF
  refine lv_aload_n hx hb dX13_setRack_0 rfl (lv_at hl 0 rfl) ?_
  have hFc := va_free (wc := bMO k q th ea fa ch tn he en ln sv wr dg ++ bI83 k (q 1) v ++ bI83 k (q 2) be ++ bF10 k (q 6) fl ++ bF10 k (q 7) fb) hD hS hA [0, 1, 2, 3, 4] rfl
  refine va_callv (va_runV (As := []) (rest := []) hF (m_X13_begins l9 D k H.size q th ea fa ch tn he en ln sv wr dg v be fl fb ) (cwV 0 hts gX13_setRack_X13_begins rfl rfl rfl (by decide +kernel) ⟨Nat.le_of_ble_eq_true rfl, Nat.le_of_ble_eq_true rfl⟩) (wPreV hK hN hP hD [0, 1, 2, 3, 4] rfl (by decide) rfl 0 11 rfl rfl) rfl rfl hl.1 rfl (lv_room (Nat.le_of_ble_eq_true rfl)) dX13_setRack_1 ⟨Nat.zero_le _, Nat.zero_le _⟩) hS (fun q _ h => hFc q h) hFc (fun u9 t9 H1 locs ht hvm hw hB hz1 hk1 hS => ?_)
  obtain ⟨hP, hD⟩ := wjoin (wr := bI664 k (q 4) pa ++ bF80 k (q 9) fp) (wf := bMO k q 0 ea fa ch tn he en ln sv wr dg ++ bI83 k (q 1) v ++ bI83 k (q 2) v ++ bF10 k (q 6) fl ++ bF10 k (q 7) fl ++ bI664 k (q 4) pa ++ bF80 k (q 9) fp) hP hD [0, 1, 2, 3, 4] [5, 6] [2, 3, 4, 5, 6, 0, 1] rfl rfl (by decide) (by decide) hk1 hFc hB ht rfl rfl (by decide)
  clear hB hk1 hz1 hvm hFc
  clear ht
  clear t9
  generalize H1 = H at hP hS ⊢
  refine lv_aload_n hx hb dX13_setRack_4 rfl (lv_at hl 0 rfl) ?_
  refine lv_aload_n hx hb dX13_setRack_5 rfl (lv_at hl 0 rfl) ?_
  refine lv_iload_n hx hb dX13_setRack_6 rfl (lv_at hl 1 rfl) ?_
  refine lv_iload_n hx hb dX13_setRack_7 rfl (lv_at hl 2 rfl) ?_
  have hFc := va_free (wc := bMO k q 0 ea fa ch tn he en ln sv wr dg ++ bI83 k (q 1) v) hD hS hA [0, 1] rfl
  refine va_calli (va_runV (As := [.int x, .int z]) (rest := [.ref (q 0)]) hF (m_X13_racks l9 D k H.size q 0 ea fa ch tn he en ln sv wr dg v x z ) (cwV 2 hts gX13_setRack_X13_racks rfl rfl rfl (by decide +kernel) ⟨Nat.le_of_ble_eq_true rfl, Nat.le_of_ble_eq_true rfl⟩) (wPreV hK hN hP hD [0, 1] rfl (by decide) rfl 0 11 rfl rfl) rfl rfl hl.1 rfl (lv_room (Nat.le_of_ble_eq_true rfl)) dX13_setRack_8 ⟨Nat.zero_le _, Nat.zero_le _⟩) hS (fun q _ h => hFc q h) hFc (fun r u9 t9 H1 locs ht hvm hw hB hz1 hk1 hS => ?_)
  obtain ⟨hP, hD⟩ := wjoin (wr := bI83 k (q 2) v ++ bF10 k (q 6) fl ++ bF10 k (q 7) fl ++ bI664 k (q 4) pa ++ bF80 k (q 9) fp) (wf := bMO k q ((opRacks v 0 x z).2.1) ea fa ch tn he en ln sv wr dg ++ bI83 k (q 1) ((opRacks v 0 x z).2.2) ++ bI83 k (q 2) v ++ bF10 k (q 6) fl ++ bF10 k (q 7) fl ++ bI664 k (q 4) pa ++ bF80 k (q 9) fp) hP hD [0, 1] [2, 3, 4, 5, 6] [5, 6, 0, 1, 2, 3, 4] rfl rfl (by decide) (by decide) hk1 hFc hB ht rfl rfl (by decide)
  subst hw
  clear hB hk1 hz1 hvm hFc
  clear ht
  clear t9
  generalize H1 = H at hP hS ⊢
  have hFc := va_free (wc := bMO k q ((opRacks v 0 x z).2.1) ea fa ch tn he en ln sv wr dg ++ bI83 k (q 1) ((opRacks v 0 x z).2.2) ++ bI83 k (q 2) v ++ bF10 k (q 6) fl ++ bF10 k (q 7) fl ++ bI664 k (q 4) pa ++ bF80 k (q 9) fp) hD hS hA [0, 1, 2, 3, 4, 5, 6] rfl
  refine va_calli (va_runV (As := [.int ((opRacks v 0 x z).1)]) (rest := []) hF (m_X13_ends l9 D k H.size q ((opRacks v 0 x z).2.1) ea fa ch tn he en ln sv wr dg ((opRacks v 0 x z).2.2) v pa fl fl fp ((opRacks v 0 x z).1) hch) (cwV 1 hts gX13_setRack_X13_ends rfl rfl rfl (by decide +kernel) ⟨Nat.le_of_ble_eq_true rfl, Nat.le_of_ble_eq_true rfl⟩) (wPreV hK hN hP hD [0, 1, 2, 3, 4, 5, 6] rfl (by decide) rfl 0 11 rfl rfl) rfl rfl hl.1 rfl (lv_room (Nat.le_of_ble_eq_true rfl)) dX13_setRack_11 ⟨Nat.zero_le _, Nat.zero_le _⟩) hS (fun q _ h => hFc q h) hFc (fun r u9 t9 H1 locs ht hvm hw hB hz1 hk1 hS => ?_)
  obtain ⟨hP, hD⟩ := wjoin (wr := []) (wf := bMO k q ((opRacks v 0 x z).2.1) ea fa (if ((opRacks v 0 x z).2.1) = 0 then chE ch else ch) tn he en ln sv wr dg ++ bI83 k (q 1) (if ((opRacks v 0 x z).2.1) = 0 then ((opRacks v 0 x z).2.2) else v) ++ bI83 k (q 2) v ++ bF10 k (q 6) (if ((opRacks v 0 x z).2.1) = 0 then fl else fl) ++ bF10 k (q 7) fl ++ bI664 k (q 4) (if ((opRacks v 0 x z).2.1) = 0 then paE ch pa v else pa) ++ bF80 k (q 9) (if ((opRacks v 0 x z).2.1) = 0 then fpE ch fp fl else fp)) hP hD [0, 1, 2, 3, 4, 5, 6] [] [0, 1, 2, 3, 4, 5, 6] rfl rfl (by decide) (by decide) hk1 hFc hB ht rfl rfl (by decide)
  subst hw
  clear hB hk1 hz1 hvm hFc
  clear ht
  clear t9
  generalize H1 = H at hP hS ⊢
  refine lv_i2c hx hb dX13_setRack_14 rfl ?_
  have e_1 : (if ((opRacks v 0 x z).2.1) = 0 then chE ch else ch : Nat) = if (opRacks v 0 x z).2.1 = 0 then chE ch else ch := by first | (with_reducible rfl) | (rfl)
  have hP := Eq.mp (congrArg (fun z9 => va_P D vwCl (bMO k q ((opRacks v 0 x z).2.1) ea fa z9 tn he en ln sv wr dg ++ bI83 k (q 1) (if ((opRacks v 0 x z).2.1) = 0 then ((opRacks v 0 x z).2.2) else v) ++ bI83 k (q 2) v ++ bF10 k (q 6) (if ((opRacks v 0 x z).2.1) = 0 then fl else fl) ++ bF10 k (q 7) fl ++ bI664 k (q 4) (if ((opRacks v 0 x z).2.1) = 0 then paE ch pa v else pa) ++ bF80 k (q 9) (if ((opRacks v 0 x z).2.1) = 0 then fpE ch fp fl else fp)) H) e_1) hP
  have hD := Eq.mp (congrArg (fun z9 => va_D A (bMO k q ((opRacks v 0 x z).2.1) ea fa z9 tn he en ln sv wr dg ++ bI83 k (q 1) (if ((opRacks v 0 x z).2.1) = 0 then ((opRacks v 0 x z).2.2) else v) ++ bI83 k (q 2) v ++ bF10 k (q 6) (if ((opRacks v 0 x z).2.1) = 0 then fl else fl) ++ bF10 k (q 7) fl ++ bI664 k (q 4) (if ((opRacks v 0 x z).2.1) = 0 then paE ch pa v else pa) ++ bF80 k (q 9) (if ((opRacks v 0 x z).2.1) = 0 then fpE ch fp fl else fp))) e_1) hD
  have e_2 : (if ((opRacks v 0 x z).2.1) = 0 then ((opRacks v 0 x z).2.2) else v : Nat → Int32) = if (opRacks v 0 x z).2.1 = 0 then (opRacks v 0 x z).2.2 else v := by first | (with_reducible rfl) | (rfl)
  have hP := Eq.mp (congrArg (fun z9 => va_P D vwCl (bMO k q ((opRacks v 0 x z).2.1) ea fa (if (opRacks v 0 x z).2.1 = 0 then chE ch else ch) tn he en ln sv wr dg ++ bI83 k (q 1) z9 ++ bI83 k (q 2) v ++ bF10 k (q 6) (if ((opRacks v 0 x z).2.1) = 0 then fl else fl) ++ bF10 k (q 7) fl ++ bI664 k (q 4) (if ((opRacks v 0 x z).2.1) = 0 then paE ch pa v else pa) ++ bF80 k (q 9) (if ((opRacks v 0 x z).2.1) = 0 then fpE ch fp fl else fp)) H) e_2) hP
  have hD := Eq.mp (congrArg (fun z9 => va_D A (bMO k q ((opRacks v 0 x z).2.1) ea fa (if (opRacks v 0 x z).2.1 = 0 then chE ch else ch) tn he en ln sv wr dg ++ bI83 k (q 1) z9 ++ bI83 k (q 2) v ++ bF10 k (q 6) (if ((opRacks v 0 x z).2.1) = 0 then fl else fl) ++ bF10 k (q 7) fl ++ bI664 k (q 4) (if ((opRacks v 0 x z).2.1) = 0 then paE ch pa v else pa) ++ bF80 k (q 9) (if ((opRacks v 0 x z).2.1) = 0 then fpE ch fp fl else fp))) e_2) hD
  have e_3 : (if ((opRacks v 0 x z).2.1) = 0 then fl else fl : Nat → UInt32) = if (opRacks v 0 x z).2.1 = 0 then fl else fl := by first | (with_reducible rfl) | (rfl)
  have hP := Eq.mp (congrArg (fun z9 => va_P D vwCl (bMO k q ((opRacks v 0 x z).2.1) ea fa (if (opRacks v 0 x z).2.1 = 0 then chE ch else ch) tn he en ln sv wr dg ++ bI83 k (q 1) (if (opRacks v 0 x z).2.1 = 0 then (opRacks v 0 x z).2.2 else v) ++ bI83 k (q 2) v ++ bF10 k (q 6) z9 ++ bF10 k (q 7) fl ++ bI664 k (q 4) (if ((opRacks v 0 x z).2.1) = 0 then paE ch pa v else pa) ++ bF80 k (q 9) (if ((opRacks v 0 x z).2.1) = 0 then fpE ch fp fl else fp)) H) e_3) hP
  have hD := Eq.mp (congrArg (fun z9 => va_D A (bMO k q ((opRacks v 0 x z).2.1) ea fa (if (opRacks v 0 x z).2.1 = 0 then chE ch else ch) tn he en ln sv wr dg ++ bI83 k (q 1) (if (opRacks v 0 x z).2.1 = 0 then (opRacks v 0 x z).2.2 else v) ++ bI83 k (q 2) v ++ bF10 k (q 6) z9 ++ bF10 k (q 7) fl ++ bI664 k (q 4) (if ((opRacks v 0 x z).2.1) = 0 then paE ch pa v else pa) ++ bF80 k (q 9) (if ((opRacks v 0 x z).2.1) = 0 then fpE ch fp fl else fp))) e_3) hD
  have e_4 : (if ((opRacks v 0 x z).2.1) = 0 then paE ch pa v else pa : Nat → Int32) = if (opRacks v 0 x z).2.1 = 0 then paE ch pa v else pa := by first | (with_reducible rfl) | (rfl)
  have hP := Eq.mp (congrArg (fun z9 => va_P D vwCl (bMO k q ((opRacks v 0 x z).2.1) ea fa (if (opRacks v 0 x z).2.1 = 0 then chE ch else ch) tn he en ln sv wr dg ++ bI83 k (q 1) (if (opRacks v 0 x z).2.1 = 0 then (opRacks v 0 x z).2.2 else v) ++ bI83 k (q 2) v ++ bF10 k (q 6) (if (opRacks v 0 x z).2.1 = 0 then fl else fl) ++ bF10 k (q 7) fl ++ bI664 k (q 4) z9 ++ bF80 k (q 9) (if ((opRacks v 0 x z).2.1) = 0 then fpE ch fp fl else fp)) H) e_4) hP
  have hD := Eq.mp (congrArg (fun z9 => va_D A (bMO k q ((opRacks v 0 x z).2.1) ea fa (if (opRacks v 0 x z).2.1 = 0 then chE ch else ch) tn he en ln sv wr dg ++ bI83 k (q 1) (if (opRacks v 0 x z).2.1 = 0 then (opRacks v 0 x z).2.2 else v) ++ bI83 k (q 2) v ++ bF10 k (q 6) (if (opRacks v 0 x z).2.1 = 0 then fl else fl) ++ bF10 k (q 7) fl ++ bI664 k (q 4) z9 ++ bF80 k (q 9) (if ((opRacks v 0 x z).2.1) = 0 then fpE ch fp fl else fp))) e_4) hD
  have e_5 : (if ((opRacks v 0 x z).2.1) = 0 then fpE ch fp fl else fp : Nat → UInt32) = if (opRacks v 0 x z).2.1 = 0 then fpE ch fp fl else fp := by first | (with_reducible rfl) | (rfl)
  have hP := Eq.mp (congrArg (fun z9 => va_P D vwCl (bMO k q ((opRacks v 0 x z).2.1) ea fa (if (opRacks v 0 x z).2.1 = 0 then chE ch else ch) tn he en ln sv wr dg ++ bI83 k (q 1) (if (opRacks v 0 x z).2.1 = 0 then (opRacks v 0 x z).2.2 else v) ++ bI83 k (q 2) v ++ bF10 k (q 6) (if (opRacks v 0 x z).2.1 = 0 then fl else fl) ++ bF10 k (q 7) fl ++ bI664 k (q 4) (if (opRacks v 0 x z).2.1 = 0 then paE ch pa v else pa) ++ bF80 k (q 9) z9) H) e_5) hP
  have hD := Eq.mp (congrArg (fun z9 => va_D A (bMO k q ((opRacks v 0 x z).2.1) ea fa (if (opRacks v 0 x z).2.1 = 0 then chE ch else ch) tn he en ln sv wr dg ++ bI83 k (q 1) (if (opRacks v 0 x z).2.1 = 0 then (opRacks v 0 x z).2.2 else v) ++ bI83 k (q 2) v ++ bF10 k (q 6) (if (opRacks v 0 x z).2.1 = 0 then fl else fl) ++ bF10 k (q 7) fl ++ bI664 k (q 4) (if (opRacks v 0 x z).2.1 = 0 then paE ch pa v else pa) ++ bF80 k (q 9) z9)) e_5) hD
  exact W.zret (v := ((if ((opRacks v 0 x z).2.1) = 0 then ((opRacks v 0 x z).1) else 0).toUInt32 % 65536).toInt32) hx hb hr (pk_nc _) (fun t9 ht hW => ⟨⟨_, (), rfl, (by rfl), ⟨by rw [ht]; exact hP, va_K.moved hW.alike hK, hD⟩⟩, hS.F ht⟩) hS.2.2 dX13_setRack_15 hlocks

set_option maxHeartbeats 4000000 in
set_option maxRecDepth 100000 in
theorem m_X13_insert (l9 : Launch) (D : va_G) (k : Nat → ClassId) (sz : Nat) (q : Nat → Nat) (th ea fa : Int32) (ch tn he en ln : Nat) (sv wr dg : Bool) (v be pa : Nat → Int32) (fl fb fp : Nat → UInt32) (nl : Nat) (x y z : Int32) (hnl : nl ≤ 16) (hv4 : v 4 = nI nl) (hch : ch ≤ 8) : Met l9 yX13_insert wsX13_insert ({ frames := 3, cells := 0, slots := 0, locals := 67 }) (WPc D k [.ref (q 0), .int x, .int y, .int z] (bMO k q th ea fa ch tn he en ln sv wr dg ++ bI83 k (q 1) v ++ bI83 k (q 2) be ++ bF10 k (q 6) fl ++ bF10 k (q 7) fb ++ bI664 k (q 4) pa ++ bF80 k (q 9) fp) sz) (WI D k (bMO k q ((opIns v nl 0 x y z).2.1) ea fa (if (opIns v nl 0 x y z).2.1 = 0 then chE ch else ch) tn he en ln sv wr dg ++ bI83 k (q 1) (if (opIns v nl 0 x y z).2.1 = 0 then (opIns v nl 0 x y z).2.2 else v) ++ bI83 k (q 2) v ++ bF10 k (q 6) (if (opIns v nl 0 x y z).2.1 = 0 then fl else fl) ++ bF10 k (q 7) fl ++ bI664 k (q 4) (if (opIns v nl 0 x y z).2.1 = 0 then paE ch pa v else pa) ++ bF80 k (q 9) (if (opIns v nl 0 x y z).2.1 = 0 then fpE ch fp fl else fp)) (if (opIns v nl 0 x y z).2.1 = 0 then (opIns v nl 0 x y z).1 else 0) (va_A (bMO k q th ea fa ch tn he en ln sv wr dg ++ bI83 k (q 1) v ++ bI83 k (q 2) be ++ bF10 k (q 6) fl ++ bF10 k (q 7) fb ++ bI664 k (q 4) pa ++ bF80 k (q 9) fp) sz)) 0 0 (va_A (bMO k q th ea fa ch tn he en ln sv wr dg ++ bI83 k (q 1) v ++ bI83 k (q 2) be ++ bF10 k (q 6) fl ++ bF10 k (q 7) fb ++ bI664 k (q 4) pa ++ bF80 k (q 9) fp) sz) := by
  refine wMet (y := yX13_insert) (cc := cX13_insert) (maxL := 4) (ret := (some .int)) (Qc := fun A => WI D k (bMO k q ((opIns v nl 0 x y z).2.1) ea fa (if (opIns v nl 0 x y z).2.1 = 0 then chE ch else ch) tn he en ln sv wr dg ++ bI83 k (q 1) (if (opIns v nl 0 x y z).2.1 = 0 then (opIns v nl 0 x y z).2.2 else v) ++ bI83 k (q 2) v ++ bF10 k (q 6) (if (opIns v nl 0 x y z).2.1 = 0 then fl else fl) ++ bF10 k (q 7) fl ++ bI664 k (q 4) (if (opIns v nl 0 x y z).2.1 = 0 then paE ch pa v else pa) ++ bF80 k (q 9) (if (opIns v nl 0 x y z).2.1 = 0 then fpE ch fp fl else fp)) (if (opIns v nl 0 x y z).2.1 = 0 then (opIns v nl 0 x y z).1 else 0) A) [.ref (q 0), .int x, .int y, .int z] (by decide) rfl (Nat.le_of_ble_eq_true rfl) ?_
  intro p9 e9 s9 m9 bl9 me9 c9 ls A H hF hr hlocks hP hK hN hD hA hS hl hin
  have hl : lv_has ls 4 [(0, .ref (q 0)), (1, .int x), (2, .int y), (3, .int z)] := hl
  obtain ⟨hx, hb, hml, hown, hts⟩ := id hF
  refine lv_aload_n hx hb dX13_insert_0 rfl (lv_at hl 0 rfl) ?_
  have hFc := va_free (wc := bMO k q th ea fa ch tn he en ln sv wr dg ++ bI83 k (q 1) v ++ bI83 k (q 2) be ++ bF10 k (q 6) fl ++ bF10 k (q 7) fb) hD hS hA [0, 1, 2, 3, 4] rfl
  refine va_callv (va_runV (As := []) (rest := []) hF (m_X13_begins l9 D k H.size q th ea fa ch tn he en ln sv wr dg v be fl fb ) (cwV 0 hts gX13_insert_X13_begins rfl rfl rfl (by decide +kernel) ⟨Nat.le_of_ble_eq_true rfl, Nat.le_of_ble_eq_true rfl⟩) (wPreV hK hN hP hD [0, 1, 2, 3, 4] rfl (by decide) rfl 0 11 rfl rfl) rfl rfl hl.1 rfl (lv_room (Nat.le_of_ble_eq_true rfl)) dX13_insert_1 ⟨Nat.zero_le _, Nat.zero_le _⟩) hS (fun q _ h => hFc q h) hFc (fun u9 t9 H1 locs ht hvm hw hB hz1 hk1 hS => ?_)
  obtain ⟨hP, hD⟩ := wjoin (wr := bI664 k (q 4) pa ++ bF80 k (q 9) fp) (wf := bMO k q 0 ea fa ch tn he en ln sv wr dg ++ bI83 k (q 1) v ++ bI83 k (q 2) v ++ bF10 k (q 6) fl ++ bF10 k (q 7) fl ++ bI664 k (q 4) pa ++ bF80 k (q 9) fp) hP hD [0, 1, 2, 3, 4] [5, 6] [2, 3, 4, 5, 6, 0, 1] rfl rfl (by decide) (by decide) hk1 hFc hB ht rfl rfl (by decide)
  clear hB hk1 hz1 hvm hFc
  clear ht
  clear t9
  generalize H1 = H at hP hS ⊢
  refine lv_aload_n hx hb dX13_insert_4 rfl (lv_at hl 0 rfl) ?_
  refine lv_aload_n hx hb dX13_insert_5 rfl (lv_at hl 0 rfl) ?_
  refine lv_iload_n hx hb dX13_insert_6 rfl (lv_at hl 1 rfl) ?_
  refine lv_iload_n hx hb dX13_insert_7 rfl (lv_at hl 2 rfl) ?_
  refine lv_iload_n hx hb dX13_insert_8 rfl (lv_at hl 3 rfl) ?_
  have hFc := va_free (wc := bMO k q 0 ea fa ch tn he en ln sv wr dg ++ bI83 k (q 1) v) hD hS hA [0, 1] rfl
  refine va_calli (va_runV (As := [.int x, .int y, .int z]) (rest := [.ref (q 0)]) hF (m_X13_inserts l9 D k H.size q 0 ea fa ch tn he en ln sv wr dg v nl x y z hnl hv4) (cwV 3 hts gX13_insert_X13_inserts rfl rfl rfl (by decide +kernel) ⟨Nat.le_of_ble_eq_true rfl, Nat.le_of_ble_eq_true rfl⟩) (wPreV hK hN hP hD [0, 1] rfl (by decide) rfl 0 11 rfl rfl) rfl rfl hl.1 rfl (lv_room (Nat.le_of_ble_eq_true rfl)) dX13_insert_9 ⟨Nat.zero_le _, Nat.zero_le _⟩) hS (fun q _ h => hFc q h) hFc (fun r u9 t9 H1 locs ht hvm hw hB hz1 hk1 hS => ?_)
  obtain ⟨hP, hD⟩ := wjoin (wr := bI83 k (q 2) v ++ bF10 k (q 6) fl ++ bF10 k (q 7) fl ++ bI664 k (q 4) pa ++ bF80 k (q 9) fp) (wf := bMO k q ((opIns v nl 0 x y z).2.1) ea fa ch tn he en ln sv wr dg ++ bI83 k (q 1) ((opIns v nl 0 x y z).2.2) ++ bI83 k (q 2) v ++ bF10 k (q 6) fl ++ bF10 k (q 7) fl ++ bI664 k (q 4) pa ++ bF80 k (q 9) fp) hP hD [0, 1] [2, 3, 4, 5, 6] [5, 6, 0, 1, 2, 3, 4] rfl rfl (by decide) (by decide) hk1 hFc hB ht rfl rfl (by decide)
  subst hw
  clear hB hk1 hz1 hvm hFc
  clear ht
  clear t9
  generalize H1 = H at hP hS ⊢
  have hFc := va_free (wc := bMO k q ((opIns v nl 0 x y z).2.1) ea fa ch tn he en ln sv wr dg ++ bI83 k (q 1) ((opIns v nl 0 x y z).2.2) ++ bI83 k (q 2) v ++ bF10 k (q 6) fl ++ bF10 k (q 7) fl ++ bI664 k (q 4) pa ++ bF80 k (q 9) fp) hD hS hA [0, 1, 2, 3, 4, 5, 6] rfl
  refine va_calli (va_runV (As := [.int ((opIns v nl 0 x y z).1)]) (rest := []) hF (m_X13_ends l9 D k H.size q ((opIns v nl 0 x y z).2.1) ea fa ch tn he en ln sv wr dg ((opIns v nl 0 x y z).2.2) v pa fl fl fp ((opIns v nl 0 x y z).1) hch) (cwV 1 hts gX13_insert_X13_ends rfl rfl rfl (by decide +kernel) ⟨Nat.le_of_ble_eq_true rfl, Nat.le_of_ble_eq_true rfl⟩) (wPreV hK hN hP hD [0, 1, 2, 3, 4, 5, 6] rfl (by decide) rfl 0 11 rfl rfl) rfl rfl hl.1 rfl (lv_room (Nat.le_of_ble_eq_true rfl)) dX13_insert_12 ⟨Nat.zero_le _, Nat.zero_le _⟩) hS (fun q _ h => hFc q h) hFc (fun r u9 t9 H1 locs ht hvm hw hB hz1 hk1 hS => ?_)
  obtain ⟨hP, hD⟩ := wjoin (wr := []) (wf := bMO k q ((opIns v nl 0 x y z).2.1) ea fa (if ((opIns v nl 0 x y z).2.1) = 0 then chE ch else ch) tn he en ln sv wr dg ++ bI83 k (q 1) (if ((opIns v nl 0 x y z).2.1) = 0 then ((opIns v nl 0 x y z).2.2) else v) ++ bI83 k (q 2) v ++ bF10 k (q 6) (if ((opIns v nl 0 x y z).2.1) = 0 then fl else fl) ++ bF10 k (q 7) fl ++ bI664 k (q 4) (if ((opIns v nl 0 x y z).2.1) = 0 then paE ch pa v else pa) ++ bF80 k (q 9) (if ((opIns v nl 0 x y z).2.1) = 0 then fpE ch fp fl else fp)) hP hD [0, 1, 2, 3, 4, 5, 6] [] [0, 1, 2, 3, 4, 5, 6] rfl rfl (by decide) (by decide) hk1 hFc hB ht rfl rfl (by decide)
  subst hw
  clear hB hk1 hz1 hvm hFc
  clear ht
  clear t9
  generalize H1 = H at hP hS ⊢
  have e_1 : (if ((opIns v nl 0 x y z).2.1) = 0 then chE ch else ch : Nat) = if (opIns v nl 0 x y z).2.1 = 0 then chE ch else ch := by first | (with_reducible rfl) | (rfl)
  have hP := Eq.mp (congrArg (fun z9 => va_P D vwCl (bMO k q ((opIns v nl 0 x y z).2.1) ea fa z9 tn he en ln sv wr dg ++ bI83 k (q 1) (if ((opIns v nl 0 x y z).2.1) = 0 then ((opIns v nl 0 x y z).2.2) else v) ++ bI83 k (q 2) v ++ bF10 k (q 6) (if ((opIns v nl 0 x y z).2.1) = 0 then fl else fl) ++ bF10 k (q 7) fl ++ bI664 k (q 4) (if ((opIns v nl 0 x y z).2.1) = 0 then paE ch pa v else pa) ++ bF80 k (q 9) (if ((opIns v nl 0 x y z).2.1) = 0 then fpE ch fp fl else fp)) H) e_1) hP
  have hD := Eq.mp (congrArg (fun z9 => va_D A (bMO k q ((opIns v nl 0 x y z).2.1) ea fa z9 tn he en ln sv wr dg ++ bI83 k (q 1) (if ((opIns v nl 0 x y z).2.1) = 0 then ((opIns v nl 0 x y z).2.2) else v) ++ bI83 k (q 2) v ++ bF10 k (q 6) (if ((opIns v nl 0 x y z).2.1) = 0 then fl else fl) ++ bF10 k (q 7) fl ++ bI664 k (q 4) (if ((opIns v nl 0 x y z).2.1) = 0 then paE ch pa v else pa) ++ bF80 k (q 9) (if ((opIns v nl 0 x y z).2.1) = 0 then fpE ch fp fl else fp))) e_1) hD
  have e_2 : (if ((opIns v nl 0 x y z).2.1) = 0 then ((opIns v nl 0 x y z).2.2) else v : Nat → Int32) = if (opIns v nl 0 x y z).2.1 = 0 then (opIns v nl 0 x y z).2.2 else v := by first | (with_reducible rfl) | (rfl)
  have hP := Eq.mp (congrArg (fun z9 => va_P D vwCl (bMO k q ((opIns v nl 0 x y z).2.1) ea fa (if (opIns v nl 0 x y z).2.1 = 0 then chE ch else ch) tn he en ln sv wr dg ++ bI83 k (q 1) z9 ++ bI83 k (q 2) v ++ bF10 k (q 6) (if ((opIns v nl 0 x y z).2.1) = 0 then fl else fl) ++ bF10 k (q 7) fl ++ bI664 k (q 4) (if ((opIns v nl 0 x y z).2.1) = 0 then paE ch pa v else pa) ++ bF80 k (q 9) (if ((opIns v nl 0 x y z).2.1) = 0 then fpE ch fp fl else fp)) H) e_2) hP
  have hD := Eq.mp (congrArg (fun z9 => va_D A (bMO k q ((opIns v nl 0 x y z).2.1) ea fa (if (opIns v nl 0 x y z).2.1 = 0 then chE ch else ch) tn he en ln sv wr dg ++ bI83 k (q 1) z9 ++ bI83 k (q 2) v ++ bF10 k (q 6) (if ((opIns v nl 0 x y z).2.1) = 0 then fl else fl) ++ bF10 k (q 7) fl ++ bI664 k (q 4) (if ((opIns v nl 0 x y z).2.1) = 0 then paE ch pa v else pa) ++ bF80 k (q 9) (if ((opIns v nl 0 x y z).2.1) = 0 then fpE ch fp fl else fp))) e_2) hD
  have e_3 : (if ((opIns v nl 0 x y z).2.1) = 0 then fl else fl : Nat → UInt32) = if (opIns v nl 0 x y z).2.1 = 0 then fl else fl := by first | (with_reducible rfl) | (rfl)
  have hP := Eq.mp (congrArg (fun z9 => va_P D vwCl (bMO k q ((opIns v nl 0 x y z).2.1) ea fa (if (opIns v nl 0 x y z).2.1 = 0 then chE ch else ch) tn he en ln sv wr dg ++ bI83 k (q 1) (if (opIns v nl 0 x y z).2.1 = 0 then (opIns v nl 0 x y z).2.2 else v) ++ bI83 k (q 2) v ++ bF10 k (q 6) z9 ++ bF10 k (q 7) fl ++ bI664 k (q 4) (if ((opIns v nl 0 x y z).2.1) = 0 then paE ch pa v else pa) ++ bF80 k (q 9) (if ((opIns v nl 0 x y z).2.1) = 0 then fpE ch fp fl else fp)) H) e_3) hP
  have hD := Eq.mp (congrArg (fun z9 => va_D A (bMO k q ((opIns v nl 0 x y z).2.1) ea fa (if (opIns v nl 0 x y z).2.1 = 0 then chE ch else ch) tn he en ln sv wr dg ++ bI83 k (q 1) (if (opIns v nl 0 x y z).2.1 = 0 then (opIns v nl 0 x y z).2.2 else v) ++ bI83 k (q 2) v ++ bF10 k (q 6) z9 ++ bF10 k (q 7) fl ++ bI664 k (q 4) (if ((opIns v nl 0 x y z).2.1) = 0 then paE ch pa v else pa) ++ bF80 k (q 9) (if ((opIns v nl 0 x y z).2.1) = 0 then fpE ch fp fl else fp))) e_3) hD
  have e_4 : (if ((opIns v nl 0 x y z).2.1) = 0 then paE ch pa v else pa : Nat → Int32) = if (opIns v nl 0 x y z).2.1 = 0 then paE ch pa v else pa := by first | (with_reducible rfl) | (rfl)
  have hP := Eq.mp (congrArg (fun z9 => va_P D vwCl (bMO k q ((opIns v nl 0 x y z).2.1) ea fa (if (opIns v nl 0 x y z).2.1 = 0 then chE ch else ch) tn he en ln sv wr dg ++ bI83 k (q 1) (if (opIns v nl 0 x y z).2.1 = 0 then (opIns v nl 0 x y z).2.2 else v) ++ bI83 k (q 2) v ++ bF10 k (q 6) (if (opIns v nl 0 x y z).2.1 = 0 then fl else fl) ++ bF10 k (q 7) fl ++ bI664 k (q 4) z9 ++ bF80 k (q 9) (if ((opIns v nl 0 x y z).2.1) = 0 then fpE ch fp fl else fp)) H) e_4) hP
  have hD := Eq.mp (congrArg (fun z9 => va_D A (bMO k q ((opIns v nl 0 x y z).2.1) ea fa (if (opIns v nl 0 x y z).2.1 = 0 then chE ch else ch) tn he en ln sv wr dg ++ bI83 k (q 1) (if (opIns v nl 0 x y z).2.1 = 0 then (opIns v nl 0 x y z).2.2 else v) ++ bI83 k (q 2) v ++ bF10 k (q 6) (if (opIns v nl 0 x y z).2.1 = 0 then fl else fl) ++ bF10 k (q 7) fl ++ bI664 k (q 4) z9 ++ bF80 k (q 9) (if ((opIns v nl 0 x y z).2.1) = 0 then fpE ch fp fl else fp))) e_4) hD
  have e_5 : (if ((opIns v nl 0 x y z).2.1) = 0 then fpE ch fp fl else fp : Nat → UInt32) = if (opIns v nl 0 x y z).2.1 = 0 then fpE ch fp fl else fp := by first | (with_reducible rfl) | (rfl)
  have hP := Eq.mp (congrArg (fun z9 => va_P D vwCl (bMO k q ((opIns v nl 0 x y z).2.1) ea fa (if (opIns v nl 0 x y z).2.1 = 0 then chE ch else ch) tn he en ln sv wr dg ++ bI83 k (q 1) (if (opIns v nl 0 x y z).2.1 = 0 then (opIns v nl 0 x y z).2.2 else v) ++ bI83 k (q 2) v ++ bF10 k (q 6) (if (opIns v nl 0 x y z).2.1 = 0 then fl else fl) ++ bF10 k (q 7) fl ++ bI664 k (q 4) (if (opIns v nl 0 x y z).2.1 = 0 then paE ch pa v else pa) ++ bF80 k (q 9) z9) H) e_5) hP
  have hD := Eq.mp (congrArg (fun z9 => va_D A (bMO k q ((opIns v nl 0 x y z).2.1) ea fa (if (opIns v nl 0 x y z).2.1 = 0 then chE ch else ch) tn he en ln sv wr dg ++ bI83 k (q 1) (if (opIns v nl 0 x y z).2.1 = 0 then (opIns v nl 0 x y z).2.2 else v) ++ bI83 k (q 2) v ++ bF10 k (q 6) (if (opIns v nl 0 x y z).2.1 = 0 then fl else fl) ++ bF10 k (q 7) fl ++ bI664 k (q 4) (if (opIns v nl 0 x y z).2.1 = 0 then paE ch pa v else pa) ++ bF80 k (q 9) z9)) e_5) hD
  exact W.iret (v := if ((opIns v nl 0 x y z).2.1) = 0 then ((opIns v nl 0 x y z).1) else 0) hx hb hr (fun t9 ht hW => ⟨⟨_, (), rfl, (by rfl), ⟨by rw [ht]; exact hP, va_K.moved hW.alike hK, hD⟩⟩, hS.F ht⟩) hS.2.2 dX13_insert_15 hlocks

set_option maxHeartbeats 4000000 in
set_option maxRecDepth 100000 in
theorem m_X13_withdraw (l9 : Launch) (D : va_G) (k : Nat → ClassId) (sz : Nat) (q : Nat → Nat) (th ea fa : Int32) (ch tn he en ln : Nat) (sv wr dg : Bool) (v be pa : Nat → Int32) (fl fb fp : Nat → UInt32) (nl : Nat) (x y : Int32) (hnl : nl ≤ 16) (hv4 : v 4 = nI nl) (hch : ch ≤ 8) : Met l9 yX13_withdraw wsX13_withdraw ({ frames := 3, cells := 0, slots := 0, locals := 65 }) (WPc D k [.ref (q 0), .int x, .int y] (bMO k q th ea fa ch tn he en ln sv wr dg ++ bI83 k (q 1) v ++ bI83 k (q 2) be ++ bF10 k (q 6) fl ++ bF10 k (q 7) fb ++ bI664 k (q 4) pa ++ bF80 k (q 9) fp) sz) (WI D k (bMO k q ((opDrw v nl 0 x y).2.1) ea fa (if (opDrw v nl 0 x y).2.1 = 0 then chE ch else ch) tn he en ln sv wr dg ++ bI83 k (q 1) (if (opDrw v nl 0 x y).2.1 = 0 then (opDrw v nl 0 x y).2.2 else v) ++ bI83 k (q 2) v ++ bF10 k (q 6) (if (opDrw v nl 0 x y).2.1 = 0 then fl else fl) ++ bF10 k (q 7) fl ++ bI664 k (q 4) (if (opDrw v nl 0 x y).2.1 = 0 then paE ch pa v else pa) ++ bF80 k (q 9) (if (opDrw v nl 0 x y).2.1 = 0 then fpE ch fp fl else fp)) ((Int32.toUInt32 (if (opDrw v nl 0 x y).2.1 = 0 then (opDrw v nl 0 x y).1 else 0) % 65536).toInt32) (va_A (bMO k q th ea fa ch tn he en ln sv wr dg ++ bI83 k (q 1) v ++ bI83 k (q 2) be ++ bF10 k (q 6) fl ++ bF10 k (q 7) fb ++ bI664 k (q 4) pa ++ bF80 k (q 9) fp) sz)) 0 0 (va_A (bMO k q th ea fa ch tn he en ln sv wr dg ++ bI83 k (q 1) v ++ bI83 k (q 2) be ++ bF10 k (q 6) fl ++ bF10 k (q 7) fb ++ bI664 k (q 4) pa ++ bF80 k (q 9) fp) sz) := by
  refine wMet (y := yX13_withdraw) (cc := cX13_withdraw) (maxL := 3) (ret := (some .char)) (Qc := fun A => WI D k (bMO k q ((opDrw v nl 0 x y).2.1) ea fa (if (opDrw v nl 0 x y).2.1 = 0 then chE ch else ch) tn he en ln sv wr dg ++ bI83 k (q 1) (if (opDrw v nl 0 x y).2.1 = 0 then (opDrw v nl 0 x y).2.2 else v) ++ bI83 k (q 2) v ++ bF10 k (q 6) (if (opDrw v nl 0 x y).2.1 = 0 then fl else fl) ++ bF10 k (q 7) fl ++ bI664 k (q 4) (if (opDrw v nl 0 x y).2.1 = 0 then paE ch pa v else pa) ++ bF80 k (q 9) (if (opDrw v nl 0 x y).2.1 = 0 then fpE ch fp fl else fp)) ((Int32.toUInt32 (if (opDrw v nl 0 x y).2.1 = 0 then (opDrw v nl 0 x y).1 else 0) % 65536).toInt32) A) [.ref (q 0), .int x, .int y] (by decide) rfl (Nat.le_of_ble_eq_true rfl) ?_
  intro p9 e9 s9 m9 bl9 me9 c9 ls A H hF hr hlocks hP hK hN hD hA hS hl hin
  have hl : lv_has ls 3 [(0, .ref (q 0)), (1, .int x), (2, .int y)] := hl
  obtain ⟨hx, hb, hml, hown, hts⟩ := id hF
  refine lv_aload_n hx hb dX13_withdraw_0 rfl (lv_at hl 0 rfl) ?_
  have hFc := va_free (wc := bMO k q th ea fa ch tn he en ln sv wr dg ++ bI83 k (q 1) v ++ bI83 k (q 2) be ++ bF10 k (q 6) fl ++ bF10 k (q 7) fb) hD hS hA [0, 1, 2, 3, 4] rfl
  refine va_callv (va_runV (As := []) (rest := []) hF (m_X13_begins l9 D k H.size q th ea fa ch tn he en ln sv wr dg v be fl fb ) (cwV 0 hts gX13_withdraw_X13_begins rfl rfl rfl (by decide +kernel) ⟨Nat.le_of_ble_eq_true rfl, Nat.le_of_ble_eq_true rfl⟩) (wPreV hK hN hP hD [0, 1, 2, 3, 4] rfl (by decide) rfl 0 11 rfl rfl) rfl rfl hl.1 rfl (lv_room (Nat.le_of_ble_eq_true rfl)) dX13_withdraw_1 ⟨Nat.zero_le _, Nat.zero_le _⟩) hS (fun q _ h => hFc q h) hFc (fun u9 t9 H1 locs ht hvm hw hB hz1 hk1 hS => ?_)
  obtain ⟨hP, hD⟩ := wjoin (wr := bI664 k (q 4) pa ++ bF80 k (q 9) fp) (wf := bMO k q 0 ea fa ch tn he en ln sv wr dg ++ bI83 k (q 1) v ++ bI83 k (q 2) v ++ bF10 k (q 6) fl ++ bF10 k (q 7) fl ++ bI664 k (q 4) pa ++ bF80 k (q 9) fp) hP hD [0, 1, 2, 3, 4] [5, 6] [2, 3, 4, 5, 6, 0, 1] rfl rfl (by decide) (by decide) hk1 hFc hB ht rfl rfl (by decide)
  clear hB hk1 hz1 hvm hFc
  clear ht
  clear t9
  generalize H1 = H at hP hS ⊢
  refine lv_aload_n hx hb dX13_withdraw_4 rfl (lv_at hl 0 rfl) ?_
  refine lv_aload_n hx hb dX13_withdraw_5 rfl (lv_at hl 0 rfl) ?_
  refine lv_iload_n hx hb dX13_withdraw_6 rfl (lv_at hl 1 rfl) ?_
  refine lv_iload_n hx hb dX13_withdraw_7 rfl (lv_at hl 2 rfl) ?_
  have hFc := va_free (wc := bMO k q 0 ea fa ch tn he en ln sv wr dg ++ bI83 k (q 1) v) hD hS hA [0, 1] rfl
  refine va_calli (va_runV (As := [.int x, .int y]) (rest := [.ref (q 0)]) hF (m_X13_draws l9 D k H.size q 0 ea fa ch tn he en ln sv wr dg v nl x y hnl hv4) (cwV 2 hts gX13_withdraw_X13_draws rfl rfl rfl (by decide +kernel) ⟨Nat.le_of_ble_eq_true rfl, Nat.le_of_ble_eq_true rfl⟩) (wPreV hK hN hP hD [0, 1] rfl (by decide) rfl 0 11 rfl rfl) rfl rfl hl.1 rfl (lv_room (Nat.le_of_ble_eq_true rfl)) dX13_withdraw_8 ⟨Nat.zero_le _, Nat.zero_le _⟩) hS (fun q _ h => hFc q h) hFc (fun r u9 t9 H1 locs ht hvm hw hB hz1 hk1 hS => ?_)
  obtain ⟨hP, hD⟩ := wjoin (wr := bI83 k (q 2) v ++ bF10 k (q 6) fl ++ bF10 k (q 7) fl ++ bI664 k (q 4) pa ++ bF80 k (q 9) fp) (wf := bMO k q ((opDrw v nl 0 x y).2.1) ea fa ch tn he en ln sv wr dg ++ bI83 k (q 1) ((opDrw v nl 0 x y).2.2) ++ bI83 k (q 2) v ++ bF10 k (q 6) fl ++ bF10 k (q 7) fl ++ bI664 k (q 4) pa ++ bF80 k (q 9) fp) hP hD [0, 1] [2, 3, 4, 5, 6] [5, 6, 0, 1, 2, 3, 4] rfl rfl (by decide) (by decide) hk1 hFc hB ht rfl rfl (by decide)
  subst hw
  clear hB hk1 hz1 hvm hFc
  clear ht
  clear t9
  generalize H1 = H at hP hS ⊢
  have hFc := va_free (wc := bMO k q ((opDrw v nl 0 x y).2.1) ea fa ch tn he en ln sv wr dg ++ bI83 k (q 1) ((opDrw v nl 0 x y).2.2) ++ bI83 k (q 2) v ++ bF10 k (q 6) fl ++ bF10 k (q 7) fl ++ bI664 k (q 4) pa ++ bF80 k (q 9) fp) hD hS hA [0, 1, 2, 3, 4, 5, 6] rfl
  refine va_calli (va_runV (As := [.int ((opDrw v nl 0 x y).1)]) (rest := []) hF (m_X13_ends l9 D k H.size q ((opDrw v nl 0 x y).2.1) ea fa ch tn he en ln sv wr dg ((opDrw v nl 0 x y).2.2) v pa fl fl fp ((opDrw v nl 0 x y).1) hch) (cwV 1 hts gX13_withdraw_X13_ends rfl rfl rfl (by decide +kernel) ⟨Nat.le_of_ble_eq_true rfl, Nat.le_of_ble_eq_true rfl⟩) (wPreV hK hN hP hD [0, 1, 2, 3, 4, 5, 6] rfl (by decide) rfl 0 11 rfl rfl) rfl rfl hl.1 rfl (lv_room (Nat.le_of_ble_eq_true rfl)) dX13_withdraw_11 ⟨Nat.zero_le _, Nat.zero_le _⟩) hS (fun q _ h => hFc q h) hFc (fun r u9 t9 H1 locs ht hvm hw hB hz1 hk1 hS => ?_)
  obtain ⟨hP, hD⟩ := wjoin (wr := []) (wf := bMO k q ((opDrw v nl 0 x y).2.1) ea fa (if ((opDrw v nl 0 x y).2.1) = 0 then chE ch else ch) tn he en ln sv wr dg ++ bI83 k (q 1) (if ((opDrw v nl 0 x y).2.1) = 0 then ((opDrw v nl 0 x y).2.2) else v) ++ bI83 k (q 2) v ++ bF10 k (q 6) (if ((opDrw v nl 0 x y).2.1) = 0 then fl else fl) ++ bF10 k (q 7) fl ++ bI664 k (q 4) (if ((opDrw v nl 0 x y).2.1) = 0 then paE ch pa v else pa) ++ bF80 k (q 9) (if ((opDrw v nl 0 x y).2.1) = 0 then fpE ch fp fl else fp)) hP hD [0, 1, 2, 3, 4, 5, 6] [] [0, 1, 2, 3, 4, 5, 6] rfl rfl (by decide) (by decide) hk1 hFc hB ht rfl rfl (by decide)
  subst hw
  clear hB hk1 hz1 hvm hFc
  clear ht
  clear t9
  generalize H1 = H at hP hS ⊢
  refine lv_i2c hx hb dX13_withdraw_14 rfl ?_
  have e_1 : (if ((opDrw v nl 0 x y).2.1) = 0 then chE ch else ch : Nat) = if (opDrw v nl 0 x y).2.1 = 0 then chE ch else ch := by first | (with_reducible rfl) | (rfl)
  have hP := Eq.mp (congrArg (fun z9 => va_P D vwCl (bMO k q ((opDrw v nl 0 x y).2.1) ea fa z9 tn he en ln sv wr dg ++ bI83 k (q 1) (if ((opDrw v nl 0 x y).2.1) = 0 then ((opDrw v nl 0 x y).2.2) else v) ++ bI83 k (q 2) v ++ bF10 k (q 6) (if ((opDrw v nl 0 x y).2.1) = 0 then fl else fl) ++ bF10 k (q 7) fl ++ bI664 k (q 4) (if ((opDrw v nl 0 x y).2.1) = 0 then paE ch pa v else pa) ++ bF80 k (q 9) (if ((opDrw v nl 0 x y).2.1) = 0 then fpE ch fp fl else fp)) H) e_1) hP
  have hD := Eq.mp (congrArg (fun z9 => va_D A (bMO k q ((opDrw v nl 0 x y).2.1) ea fa z9 tn he en ln sv wr dg ++ bI83 k (q 1) (if ((opDrw v nl 0 x y).2.1) = 0 then ((opDrw v nl 0 x y).2.2) else v) ++ bI83 k (q 2) v ++ bF10 k (q 6) (if ((opDrw v nl 0 x y).2.1) = 0 then fl else fl) ++ bF10 k (q 7) fl ++ bI664 k (q 4) (if ((opDrw v nl 0 x y).2.1) = 0 then paE ch pa v else pa) ++ bF80 k (q 9) (if ((opDrw v nl 0 x y).2.1) = 0 then fpE ch fp fl else fp))) e_1) hD
  have e_2 : (if ((opDrw v nl 0 x y).2.1) = 0 then ((opDrw v nl 0 x y).2.2) else v : Nat → Int32) = if (opDrw v nl 0 x y).2.1 = 0 then (opDrw v nl 0 x y).2.2 else v := by first | (with_reducible rfl) | (rfl)
  have hP := Eq.mp (congrArg (fun z9 => va_P D vwCl (bMO k q ((opDrw v nl 0 x y).2.1) ea fa (if (opDrw v nl 0 x y).2.1 = 0 then chE ch else ch) tn he en ln sv wr dg ++ bI83 k (q 1) z9 ++ bI83 k (q 2) v ++ bF10 k (q 6) (if ((opDrw v nl 0 x y).2.1) = 0 then fl else fl) ++ bF10 k (q 7) fl ++ bI664 k (q 4) (if ((opDrw v nl 0 x y).2.1) = 0 then paE ch pa v else pa) ++ bF80 k (q 9) (if ((opDrw v nl 0 x y).2.1) = 0 then fpE ch fp fl else fp)) H) e_2) hP
  have hD := Eq.mp (congrArg (fun z9 => va_D A (bMO k q ((opDrw v nl 0 x y).2.1) ea fa (if (opDrw v nl 0 x y).2.1 = 0 then chE ch else ch) tn he en ln sv wr dg ++ bI83 k (q 1) z9 ++ bI83 k (q 2) v ++ bF10 k (q 6) (if ((opDrw v nl 0 x y).2.1) = 0 then fl else fl) ++ bF10 k (q 7) fl ++ bI664 k (q 4) (if ((opDrw v nl 0 x y).2.1) = 0 then paE ch pa v else pa) ++ bF80 k (q 9) (if ((opDrw v nl 0 x y).2.1) = 0 then fpE ch fp fl else fp))) e_2) hD
  have e_3 : (if ((opDrw v nl 0 x y).2.1) = 0 then fl else fl : Nat → UInt32) = if (opDrw v nl 0 x y).2.1 = 0 then fl else fl := by first | (with_reducible rfl) | (rfl)
  have hP := Eq.mp (congrArg (fun z9 => va_P D vwCl (bMO k q ((opDrw v nl 0 x y).2.1) ea fa (if (opDrw v nl 0 x y).2.1 = 0 then chE ch else ch) tn he en ln sv wr dg ++ bI83 k (q 1) (if (opDrw v nl 0 x y).2.1 = 0 then (opDrw v nl 0 x y).2.2 else v) ++ bI83 k (q 2) v ++ bF10 k (q 6) z9 ++ bF10 k (q 7) fl ++ bI664 k (q 4) (if ((opDrw v nl 0 x y).2.1) = 0 then paE ch pa v else pa) ++ bF80 k (q 9) (if ((opDrw v nl 0 x y).2.1) = 0 then fpE ch fp fl else fp)) H) e_3) hP
  have hD := Eq.mp (congrArg (fun z9 => va_D A (bMO k q ((opDrw v nl 0 x y).2.1) ea fa (if (opDrw v nl 0 x y).2.1 = 0 then chE ch else ch) tn he en ln sv wr dg ++ bI83 k (q 1) (if (opDrw v nl 0 x y).2.1 = 0 then (opDrw v nl 0 x y).2.2 else v) ++ bI83 k (q 2) v ++ bF10 k (q 6) z9 ++ bF10 k (q 7) fl ++ bI664 k (q 4) (if ((opDrw v nl 0 x y).2.1) = 0 then paE ch pa v else pa) ++ bF80 k (q 9) (if ((opDrw v nl 0 x y).2.1) = 0 then fpE ch fp fl else fp))) e_3) hD
  have e_4 : (if ((opDrw v nl 0 x y).2.1) = 0 then paE ch pa v else pa : Nat → Int32) = if (opDrw v nl 0 x y).2.1 = 0 then paE ch pa v else pa := by first | (with_reducible rfl) | (rfl)
  have hP := Eq.mp (congrArg (fun z9 => va_P D vwCl (bMO k q ((opDrw v nl 0 x y).2.1) ea fa (if (opDrw v nl 0 x y).2.1 = 0 then chE ch else ch) tn he en ln sv wr dg ++ bI83 k (q 1) (if (opDrw v nl 0 x y).2.1 = 0 then (opDrw v nl 0 x y).2.2 else v) ++ bI83 k (q 2) v ++ bF10 k (q 6) (if (opDrw v nl 0 x y).2.1 = 0 then fl else fl) ++ bF10 k (q 7) fl ++ bI664 k (q 4) z9 ++ bF80 k (q 9) (if ((opDrw v nl 0 x y).2.1) = 0 then fpE ch fp fl else fp)) H) e_4) hP
  have hD := Eq.mp (congrArg (fun z9 => va_D A (bMO k q ((opDrw v nl 0 x y).2.1) ea fa (if (opDrw v nl 0 x y).2.1 = 0 then chE ch else ch) tn he en ln sv wr dg ++ bI83 k (q 1) (if (opDrw v nl 0 x y).2.1 = 0 then (opDrw v nl 0 x y).2.2 else v) ++ bI83 k (q 2) v ++ bF10 k (q 6) (if (opDrw v nl 0 x y).2.1 = 0 then fl else fl) ++ bF10 k (q 7) fl ++ bI664 k (q 4) z9 ++ bF80 k (q 9) (if ((opDrw v nl 0 x y).2.1) = 0 then fpE ch fp fl else fp))) e_4) hD
  have e_5 : (if ((opDrw v nl 0 x y).2.1) = 0 then fpE ch fp fl else fp : Nat → UInt32) = if (opDrw v nl 0 x y).2.1 = 0 then fpE ch fp fl else fp := by first | (with_reducible rfl) | (rfl)
  have hP := Eq.mp (congrArg (fun z9 => va_P D vwCl (bMO k q ((opDrw v nl 0 x y).2.1) ea fa (if (opDrw v nl 0 x y).2.1 = 0 then chE ch else ch) tn he en ln sv wr dg ++ bI83 k (q 1) (if (opDrw v nl 0 x y).2.1 = 0 then (opDrw v nl 0 x y).2.2 else v) ++ bI83 k (q 2) v ++ bF10 k (q 6) (if (opDrw v nl 0 x y).2.1 = 0 then fl else fl) ++ bF10 k (q 7) fl ++ bI664 k (q 4) (if (opDrw v nl 0 x y).2.1 = 0 then paE ch pa v else pa) ++ bF80 k (q 9) z9) H) e_5) hP
  have hD := Eq.mp (congrArg (fun z9 => va_D A (bMO k q ((opDrw v nl 0 x y).2.1) ea fa (if (opDrw v nl 0 x y).2.1 = 0 then chE ch else ch) tn he en ln sv wr dg ++ bI83 k (q 1) (if (opDrw v nl 0 x y).2.1 = 0 then (opDrw v nl 0 x y).2.2 else v) ++ bI83 k (q 2) v ++ bF10 k (q 6) (if (opDrw v nl 0 x y).2.1 = 0 then fl else fl) ++ bF10 k (q 7) fl ++ bI664 k (q 4) (if (opDrw v nl 0 x y).2.1 = 0 then paE ch pa v else pa) ++ bF80 k (q 9) z9)) e_5) hD
  exact W.zret (v := ((if ((opDrw v nl 0 x y).2.1) = 0 then ((opDrw v nl 0 x y).1) else 0).toUInt32 % 65536).toInt32) hx hb hr (pk_nc _) (fun t9 ht hW => ⟨⟨_, (), rfl, (by rfl), ⟨by rw [ht]; exact hP, va_K.moved hW.alike hK, hD⟩⟩, hS.F ht⟩) hS.2.2 dX13_withdraw_15 hlocks

set_option maxHeartbeats 4000000 in
set_option maxRecDepth 100000 in
theorem m_X13_setLimit (l9 : Launch) (D : va_G) (k : Nat → ClassId) (sz : Nat) (q : Nat → Nat) (th ea fa : Int32) (ch tn he en ln : Nat) (sv wr dg : Bool) (v be pa : Nat → Int32) (fl fb fp : Nat → UInt32) (x : Int32) (hch : ch ≤ 8) : Met l9 yX13_setLimit wsX13_setLimit ({ frames := 2, cells := 0, slots := 0, locals := 44 }) (WPc D k [.ref (q 0), .int x] (bMO k q th ea fa ch tn he en ln sv wr dg ++ bI83 k (q 1) v ++ bI83 k (q 2) be ++ bF10 k (q 6) fl ++ bF10 k (q 7) fb ++ bI664 k (q 4) pa ++ bF80 k (q 9) fp) sz) (WI D k (bMO k q ((opLimits v 0 x).2.1) ea fa (if (opLimits v 0 x).2.1 = 0 then chE ch else ch) tn he en ln sv wr dg ++ bI83 k (q 1) (if (opLimits v 0 x).2.1 = 0 then (opLimits v 0 x).2.2 else v) ++ bI83 k (q 2) v ++ bF10 k (q 6) (if (opLimits v 0 x).2.1 = 0 then fl else fl) ++ bF10 k (q 7) fl ++ bI664 k (q 4) (if (opLimits v 0 x).2.1 = 0 then paE ch pa v else pa) ++ bF80 k (q 9) (if (opLimits v 0 x).2.1 = 0 then fpE ch fp fl else fp)) (if (opLimits v 0 x).2.1 = 0 then (opLimits v 0 x).1 else 0) (va_A (bMO k q th ea fa ch tn he en ln sv wr dg ++ bI83 k (q 1) v ++ bI83 k (q 2) be ++ bF10 k (q 6) fl ++ bF10 k (q 7) fb ++ bI664 k (q 4) pa ++ bF80 k (q 9) fp) sz)) 0 0 (va_A (bMO k q th ea fa ch tn he en ln sv wr dg ++ bI83 k (q 1) v ++ bI83 k (q 2) be ++ bF10 k (q 6) fl ++ bF10 k (q 7) fb ++ bI664 k (q 4) pa ++ bF80 k (q 9) fp) sz) := by
  refine wMet (y := yX13_setLimit) (cc := cX13_setLimit) (maxL := 2) (ret := (some .int)) (Qc := fun A => WI D k (bMO k q ((opLimits v 0 x).2.1) ea fa (if (opLimits v 0 x).2.1 = 0 then chE ch else ch) tn he en ln sv wr dg ++ bI83 k (q 1) (if (opLimits v 0 x).2.1 = 0 then (opLimits v 0 x).2.2 else v) ++ bI83 k (q 2) v ++ bF10 k (q 6) (if (opLimits v 0 x).2.1 = 0 then fl else fl) ++ bF10 k (q 7) fl ++ bI664 k (q 4) (if (opLimits v 0 x).2.1 = 0 then paE ch pa v else pa) ++ bF80 k (q 9) (if (opLimits v 0 x).2.1 = 0 then fpE ch fp fl else fp)) (if (opLimits v 0 x).2.1 = 0 then (opLimits v 0 x).1 else 0) A) [.ref (q 0), .int x] (by decide) rfl (Nat.le_of_ble_eq_true rfl) ?_
  intro p9 e9 s9 m9 bl9 me9 c9 ls A H hF hr hlocks hP hK hN hD hA hS hl hin
  have hl : lv_has ls 2 [(0, .ref (q 0)), (1, .int x)] := hl
  obtain ⟨hx, hb, hml, hown, hts⟩ := id hF
  refine lv_aload_n hx hb dX13_setLimit_0 rfl (lv_at hl 0 rfl) ?_
  have hFc := va_free (wc := bMO k q th ea fa ch tn he en ln sv wr dg ++ bI83 k (q 1) v ++ bI83 k (q 2) be ++ bF10 k (q 6) fl ++ bF10 k (q 7) fb) hD hS hA [0, 1, 2, 3, 4] rfl
  refine va_callv (va_runV (As := []) (rest := []) hF (m_X13_begins l9 D k H.size q th ea fa ch tn he en ln sv wr dg v be fl fb ) (cwV 0 hts gX13_setLimit_X13_begins rfl rfl rfl (by decide +kernel) ⟨Nat.le_of_ble_eq_true rfl, Nat.le_of_ble_eq_true rfl⟩) (wPreV hK hN hP hD [0, 1, 2, 3, 4] rfl (by decide) rfl 0 11 rfl rfl) rfl rfl hl.1 rfl (lv_room (Nat.le_of_ble_eq_true rfl)) dX13_setLimit_1 ⟨Nat.zero_le _, Nat.zero_le _⟩) hS (fun q _ h => hFc q h) hFc (fun u9 t9 H1 locs ht hvm hw hB hz1 hk1 hS => ?_)
  obtain ⟨hP, hD⟩ := wjoin (wr := bI664 k (q 4) pa ++ bF80 k (q 9) fp) (wf := bMO k q 0 ea fa ch tn he en ln sv wr dg ++ bI83 k (q 1) v ++ bI83 k (q 2) v ++ bF10 k (q 6) fl ++ bF10 k (q 7) fl ++ bI664 k (q 4) pa ++ bF80 k (q 9) fp) hP hD [0, 1, 2, 3, 4] [5, 6] [2, 3, 4, 5, 6, 0, 1] rfl rfl (by decide) (by decide) hk1 hFc hB ht rfl rfl (by decide)
  clear hB hk1 hz1 hvm hFc
  clear ht
  clear t9
  generalize H1 = H at hP hS ⊢
  refine lv_aload_n hx hb dX13_setLimit_4 rfl (lv_at hl 0 rfl) ?_
  refine lv_aload_n hx hb dX13_setLimit_5 rfl (lv_at hl 0 rfl) ?_
  refine lv_iload_n hx hb dX13_setLimit_6 rfl (lv_at hl 1 rfl) ?_
  have hFc := va_free (wc := bMO k q 0 ea fa ch tn he en ln sv wr dg ++ bI83 k (q 1) v) hD hS hA [0, 1] rfl
  refine va_calli (va_runV (As := [.int x]) (rest := [.ref (q 0)]) hF (m_X13_limits l9 D k H.size q 0 ea fa ch tn he en ln sv wr dg v x ) (cwV 1 hts gX13_setLimit_X13_limits rfl rfl rfl (by decide +kernel) ⟨Nat.le_of_ble_eq_true rfl, Nat.le_of_ble_eq_true rfl⟩) (wPreV hK hN hP hD [0, 1] rfl (by decide) rfl 0 11 rfl rfl) rfl rfl hl.1 rfl (lv_room (Nat.le_of_ble_eq_true rfl)) dX13_setLimit_7 ⟨Nat.zero_le _, Nat.zero_le _⟩) hS (fun q _ h => hFc q h) hFc (fun r u9 t9 H1 locs ht hvm hw hB hz1 hk1 hS => ?_)
  obtain ⟨hP, hD⟩ := wjoin (wr := bI83 k (q 2) v ++ bF10 k (q 6) fl ++ bF10 k (q 7) fl ++ bI664 k (q 4) pa ++ bF80 k (q 9) fp) (wf := bMO k q ((opLimits v 0 x).2.1) ea fa ch tn he en ln sv wr dg ++ bI83 k (q 1) ((opLimits v 0 x).2.2) ++ bI83 k (q 2) v ++ bF10 k (q 6) fl ++ bF10 k (q 7) fl ++ bI664 k (q 4) pa ++ bF80 k (q 9) fp) hP hD [0, 1] [2, 3, 4, 5, 6] [5, 6, 0, 1, 2, 3, 4] rfl rfl (by decide) (by decide) hk1 hFc hB ht rfl rfl (by decide)
  subst hw
  clear hB hk1 hz1 hvm hFc
  clear ht
  clear t9
  generalize H1 = H at hP hS ⊢
  have hFc := va_free (wc := bMO k q ((opLimits v 0 x).2.1) ea fa ch tn he en ln sv wr dg ++ bI83 k (q 1) ((opLimits v 0 x).2.2) ++ bI83 k (q 2) v ++ bF10 k (q 6) fl ++ bF10 k (q 7) fl ++ bI664 k (q 4) pa ++ bF80 k (q 9) fp) hD hS hA [0, 1, 2, 3, 4, 5, 6] rfl
  refine va_calli (va_runV (As := [.int ((opLimits v 0 x).1)]) (rest := []) hF (m_X13_ends l9 D k H.size q ((opLimits v 0 x).2.1) ea fa ch tn he en ln sv wr dg ((opLimits v 0 x).2.2) v pa fl fl fp ((opLimits v 0 x).1) hch) (cwV 1 hts gX13_setLimit_X13_ends rfl rfl rfl (by decide +kernel) ⟨Nat.le_of_ble_eq_true rfl, Nat.le_of_ble_eq_true rfl⟩) (wPreV hK hN hP hD [0, 1, 2, 3, 4, 5, 6] rfl (by decide) rfl 0 11 rfl rfl) rfl rfl hl.1 rfl (lv_room (Nat.le_of_ble_eq_true rfl)) dX13_setLimit_10 ⟨Nat.zero_le _, Nat.zero_le _⟩) hS (fun q _ h => hFc q h) hFc (fun r u9 t9 H1 locs ht hvm hw hB hz1 hk1 hS => ?_)
  obtain ⟨hP, hD⟩ := wjoin (wr := []) (wf := bMO k q ((opLimits v 0 x).2.1) ea fa (if ((opLimits v 0 x).2.1) = 0 then chE ch else ch) tn he en ln sv wr dg ++ bI83 k (q 1) (if ((opLimits v 0 x).2.1) = 0 then ((opLimits v 0 x).2.2) else v) ++ bI83 k (q 2) v ++ bF10 k (q 6) (if ((opLimits v 0 x).2.1) = 0 then fl else fl) ++ bF10 k (q 7) fl ++ bI664 k (q 4) (if ((opLimits v 0 x).2.1) = 0 then paE ch pa v else pa) ++ bF80 k (q 9) (if ((opLimits v 0 x).2.1) = 0 then fpE ch fp fl else fp)) hP hD [0, 1, 2, 3, 4, 5, 6] [] [0, 1, 2, 3, 4, 5, 6] rfl rfl (by decide) (by decide) hk1 hFc hB ht rfl rfl (by decide)
  subst hw
  clear hB hk1 hz1 hvm hFc
  clear ht
  clear t9
  generalize H1 = H at hP hS ⊢
  have e_1 : (if ((opLimits v 0 x).2.1) = 0 then chE ch else ch : Nat) = if (opLimits v 0 x).2.1 = 0 then chE ch else ch := by first | (with_reducible rfl) | (rfl)
  have hP := Eq.mp (congrArg (fun z9 => va_P D vwCl (bMO k q ((opLimits v 0 x).2.1) ea fa z9 tn he en ln sv wr dg ++ bI83 k (q 1) (if ((opLimits v 0 x).2.1) = 0 then ((opLimits v 0 x).2.2) else v) ++ bI83 k (q 2) v ++ bF10 k (q 6) (if ((opLimits v 0 x).2.1) = 0 then fl else fl) ++ bF10 k (q 7) fl ++ bI664 k (q 4) (if ((opLimits v 0 x).2.1) = 0 then paE ch pa v else pa) ++ bF80 k (q 9) (if ((opLimits v 0 x).2.1) = 0 then fpE ch fp fl else fp)) H) e_1) hP
  have hD := Eq.mp (congrArg (fun z9 => va_D A (bMO k q ((opLimits v 0 x).2.1) ea fa z9 tn he en ln sv wr dg ++ bI83 k (q 1) (if ((opLimits v 0 x).2.1) = 0 then ((opLimits v 0 x).2.2) else v) ++ bI83 k (q 2) v ++ bF10 k (q 6) (if ((opLimits v 0 x).2.1) = 0 then fl else fl) ++ bF10 k (q 7) fl ++ bI664 k (q 4) (if ((opLimits v 0 x).2.1) = 0 then paE ch pa v else pa) ++ bF80 k (q 9) (if ((opLimits v 0 x).2.1) = 0 then fpE ch fp fl else fp))) e_1) hD
  have e_2 : (if ((opLimits v 0 x).2.1) = 0 then ((opLimits v 0 x).2.2) else v : Nat → Int32) = if (opLimits v 0 x).2.1 = 0 then (opLimits v 0 x).2.2 else v := by first | (with_reducible rfl) | (rfl)
  have hP := Eq.mp (congrArg (fun z9 => va_P D vwCl (bMO k q ((opLimits v 0 x).2.1) ea fa (if (opLimits v 0 x).2.1 = 0 then chE ch else ch) tn he en ln sv wr dg ++ bI83 k (q 1) z9 ++ bI83 k (q 2) v ++ bF10 k (q 6) (if ((opLimits v 0 x).2.1) = 0 then fl else fl) ++ bF10 k (q 7) fl ++ bI664 k (q 4) (if ((opLimits v 0 x).2.1) = 0 then paE ch pa v else pa) ++ bF80 k (q 9) (if ((opLimits v 0 x).2.1) = 0 then fpE ch fp fl else fp)) H) e_2) hP
  have hD := Eq.mp (congrArg (fun z9 => va_D A (bMO k q ((opLimits v 0 x).2.1) ea fa (if (opLimits v 0 x).2.1 = 0 then chE ch else ch) tn he en ln sv wr dg ++ bI83 k (q 1) z9 ++ bI83 k (q 2) v ++ bF10 k (q 6) (if ((opLimits v 0 x).2.1) = 0 then fl else fl) ++ bF10 k (q 7) fl ++ bI664 k (q 4) (if ((opLimits v 0 x).2.1) = 0 then paE ch pa v else pa) ++ bF80 k (q 9) (if ((opLimits v 0 x).2.1) = 0 then fpE ch fp fl else fp))) e_2) hD
  have e_3 : (if ((opLimits v 0 x).2.1) = 0 then fl else fl : Nat → UInt32) = if (opLimits v 0 x).2.1 = 0 then fl else fl := by first | (with_reducible rfl) | (rfl)
  have hP := Eq.mp (congrArg (fun z9 => va_P D vwCl (bMO k q ((opLimits v 0 x).2.1) ea fa (if (opLimits v 0 x).2.1 = 0 then chE ch else ch) tn he en ln sv wr dg ++ bI83 k (q 1) (if (opLimits v 0 x).2.1 = 0 then (opLimits v 0 x).2.2 else v) ++ bI83 k (q 2) v ++ bF10 k (q 6) z9 ++ bF10 k (q 7) fl ++ bI664 k (q 4) (if ((opLimits v 0 x).2.1) = 0 then paE ch pa v else pa) ++ bF80 k (q 9) (if ((opLimits v 0 x).2.1) = 0 then fpE ch fp fl else fp)) H) e_3) hP
  have hD := Eq.mp (congrArg (fun z9 => va_D A (bMO k q ((opLimits v 0 x).2.1) ea fa (if (opLimits v 0 x).2.1 = 0 then chE ch else ch) tn he en ln sv wr dg ++ bI83 k (q 1) (if (opLimits v 0 x).2.1 = 0 then (opLimits v 0 x).2.2 else v) ++ bI83 k (q 2) v ++ bF10 k (q 6) z9 ++ bF10 k (q 7) fl ++ bI664 k (q 4) (if ((opLimits v 0 x).2.1) = 0 then paE ch pa v else pa) ++ bF80 k (q 9) (if ((opLimits v 0 x).2.1) = 0 then fpE ch fp fl else fp))) e_3) hD
  have e_4 : (if ((opLimits v 0 x).2.1) = 0 then paE ch pa v else pa : Nat → Int32) = if (opLimits v 0 x).2.1 = 0 then paE ch pa v else pa := by first | (with_reducible rfl) | (rfl)
  have hP := Eq.mp (congrArg (fun z9 => va_P D vwCl (bMO k q ((opLimits v 0 x).2.1) ea fa (if (opLimits v 0 x).2.1 = 0 then chE ch else ch) tn he en ln sv wr dg ++ bI83 k (q 1) (if (opLimits v 0 x).2.1 = 0 then (opLimits v 0 x).2.2 else v) ++ bI83 k (q 2) v ++ bF10 k (q 6) (if (opLimits v 0 x).2.1 = 0 then fl else fl) ++ bF10 k (q 7) fl ++ bI664 k (q 4) z9 ++ bF80 k (q 9) (if ((opLimits v 0 x).2.1) = 0 then fpE ch fp fl else fp)) H) e_4) hP
  have hD := Eq.mp (congrArg (fun z9 => va_D A (bMO k q ((opLimits v 0 x).2.1) ea fa (if (opLimits v 0 x).2.1 = 0 then chE ch else ch) tn he en ln sv wr dg ++ bI83 k (q 1) (if (opLimits v 0 x).2.1 = 0 then (opLimits v 0 x).2.2 else v) ++ bI83 k (q 2) v ++ bF10 k (q 6) (if (opLimits v 0 x).2.1 = 0 then fl else fl) ++ bF10 k (q 7) fl ++ bI664 k (q 4) z9 ++ bF80 k (q 9) (if ((opLimits v 0 x).2.1) = 0 then fpE ch fp fl else fp))) e_4) hD
  have e_5 : (if ((opLimits v 0 x).2.1) = 0 then fpE ch fp fl else fp : Nat → UInt32) = if (opLimits v 0 x).2.1 = 0 then fpE ch fp fl else fp := by first | (with_reducible rfl) | (rfl)
  have hP := Eq.mp (congrArg (fun z9 => va_P D vwCl (bMO k q ((opLimits v 0 x).2.1) ea fa (if (opLimits v 0 x).2.1 = 0 then chE ch else ch) tn he en ln sv wr dg ++ bI83 k (q 1) (if (opLimits v 0 x).2.1 = 0 then (opLimits v 0 x).2.2 else v) ++ bI83 k (q 2) v ++ bF10 k (q 6) (if (opLimits v 0 x).2.1 = 0 then fl else fl) ++ bF10 k (q 7) fl ++ bI664 k (q 4) (if (opLimits v 0 x).2.1 = 0 then paE ch pa v else pa) ++ bF80 k (q 9) z9) H) e_5) hP
  have hD := Eq.mp (congrArg (fun z9 => va_D A (bMO k q ((opLimits v 0 x).2.1) ea fa (if (opLimits v 0 x).2.1 = 0 then chE ch else ch) tn he en ln sv wr dg ++ bI83 k (q 1) (if (opLimits v 0 x).2.1 = 0 then (opLimits v 0 x).2.2 else v) ++ bI83 k (q 2) v ++ bF10 k (q 6) (if (opLimits v 0 x).2.1 = 0 then fl else fl) ++ bF10 k (q 7) fl ++ bI664 k (q 4) (if (opLimits v 0 x).2.1 = 0 then paE ch pa v else pa) ++ bF80 k (q 9) z9)) e_5) hD
  exact W.iret (v := if ((opLimits v 0 x).2.1) = 0 then ((opLimits v 0 x).1) else 0) hx hb hr (fun t9 ht hW => ⟨⟨_, (), rfl, (by rfl), ⟨by rw [ht]; exact hP, va_K.moved hW.alike hK, hD⟩⟩, hS.F ht⟩) hS.2.2 dX13_setLimit_13 hlocks

set_option maxHeartbeats 4000000 in
set_option maxRecDepth 100000 in
theorem m_X13_excite (l9 : Launch) (D : va_G) (k : Nat → ClassId) (sz : Nat) (q : Nat → Nat) (th ea fa : Int32) (ch tn he en ln : Nat) (sv wr dg : Bool) (v be pa : Nat → Int32) (fl fb fp : Nat → UInt32) (n nl : Nat) (x am : Int32) (hn : n ≤ 10) (hv0 : v 0 = nI n) (hnl : nl ≤ 16) (hv4 : v 4 = nI nl) (hf : ∀ c, c < n → okF (fl c)) (hch : ch ≤ 8) : Met l9 yX13_excite wsX13_excite ({ frames := 3, cells := 0, slots := 0, locals := 66 }) (WPc D k [.ref (q 0), .int x, .int am] (bMO k q th ea fa ch tn he en ln sv wr dg ++ bI83 k (q 1) v ++ bI83 k (q 2) be ++ bF10 k (q 6) fl ++ bF10 k (q 7) fb ++ bI664 k (q 4) pa ++ bF80 k (q 9) fp) sz) (WF D k (bMO k q ((opExc v fl n nl 0 x am).2.1) ea fa (if (opExc v fl n nl 0 x am).2.1 = 0 then chE ch else ch) tn he en ln sv wr dg ++ bI83 k (q 1) (if (opExc v fl n nl 0 x am).2.1 = 0 then (opExc v fl n nl 0 x am).2.2.1 else v) ++ bI83 k (q 2) v ++ bF10 k (q 6) (if (opExc v fl n nl 0 x am).2.1 = 0 then (opExc v fl n nl 0 x am).2.2.2 else fl) ++ bF10 k (q 7) fl ++ bI664 k (q 4) (if (opExc v fl n nl 0 x am).2.1 = 0 then paE ch pa v else pa) ++ bF80 k (q 9) (if (opExc v fl n nl 0 x am).2.1 = 0 then fpE ch fp fl else fp)) (if (opExc v fl n nl 0 x am).2.1 = 0 then (opExc v fl n nl 0 x am).2.2.2 x.toNatClampNeg else FP.fconst0) (va_A (bMO k q th ea fa ch tn he en ln sv wr dg ++ bI83 k (q 1) v ++ bI83 k (q 2) be ++ bF10 k (q 6) fl ++ bF10 k (q 7) fb ++ bI664 k (q 4) pa ++ bF80 k (q 9) fp) sz)) 0 0 (va_A (bMO k q th ea fa ch tn he en ln sv wr dg ++ bI83 k (q 1) v ++ bI83 k (q 2) be ++ bF10 k (q 6) fl ++ bF10 k (q 7) fb ++ bI664 k (q 4) pa ++ bF80 k (q 9) fp) sz) := by
  refine wMet (y := yX13_excite) (cc := cX13_excite) (maxL := 4) (ret := (some .float)) (Qc := fun A => WF D k (bMO k q ((opExc v fl n nl 0 x am).2.1) ea fa (if (opExc v fl n nl 0 x am).2.1 = 0 then chE ch else ch) tn he en ln sv wr dg ++ bI83 k (q 1) (if (opExc v fl n nl 0 x am).2.1 = 0 then (opExc v fl n nl 0 x am).2.2.1 else v) ++ bI83 k (q 2) v ++ bF10 k (q 6) (if (opExc v fl n nl 0 x am).2.1 = 0 then (opExc v fl n nl 0 x am).2.2.2 else fl) ++ bF10 k (q 7) fl ++ bI664 k (q 4) (if (opExc v fl n nl 0 x am).2.1 = 0 then paE ch pa v else pa) ++ bF80 k (q 9) (if (opExc v fl n nl 0 x am).2.1 = 0 then fpE ch fp fl else fp)) (if (opExc v fl n nl 0 x am).2.1 = 0 then (opExc v fl n nl 0 x am).2.2.2 x.toNatClampNeg else FP.fconst0) A) [.ref (q 0), .int x, .int am] (by decide) rfl (Nat.le_of_ble_eq_true rfl) ?_
  intro p9 e9 s9 m9 bl9 me9 c9 ls A H hF hr hlocks hP hK hN hD hA hS hl hin
  have hl : lv_has ls 4 [(0, .ref (q 0)), (1, .int x), (2, .int am)] := hl
  obtain ⟨hx, hb, hml, hown, hts⟩ := id hF
  have k_fieldLink_77 : (Cond.fieldLink RX13 77 "OpinionReactorModel" "thrown" "I").before _ s9 = true := hts (.fieldLink RX13 77 "OpinionReactorModel" "thrown" "I") (by decide +kernel)
  have kc_RX13 : ∀ w ∈ u_ws RX13 TX13 29, w ∈ wsX13_excite := by decide +kernel
  have k_fieldLink_32 : (Cond.fieldLink RX13 32 "OpinionReactorModel" "flux" "[F").before _ s9 = true := hts (.fieldLink RX13 32 "OpinionReactorModel" "flux" "[F") (by decide +kernel)
  refine lv_aload_n hx hb dX13_excite_0 rfl (lv_at hl 0 rfl) ?_
  have hFc := va_free (wc := bMO k q th ea fa ch tn he en ln sv wr dg ++ bI83 k (q 1) v ++ bI83 k (q 2) be ++ bF10 k (q 6) fl ++ bF10 k (q 7) fb) hD hS hA [0, 1, 2, 3, 4] rfl
  refine va_callv (va_runV (As := []) (rest := []) hF (m_X13_begins l9 D k H.size q th ea fa ch tn he en ln sv wr dg v be fl fb ) (cwV 0 hts gX13_excite_X13_begins rfl rfl rfl (by decide +kernel) ⟨Nat.le_of_ble_eq_true rfl, Nat.le_of_ble_eq_true rfl⟩) (wPreV hK hN hP hD [0, 1, 2, 3, 4] rfl (by decide) rfl 0 11 rfl rfl) rfl rfl hl.1 rfl (lv_room (Nat.le_of_ble_eq_true rfl)) dX13_excite_1 ⟨Nat.zero_le _, Nat.zero_le _⟩) hS (fun q _ h => hFc q h) hFc (fun u9 t9 H1 locs ht hvm hw hB hz1 hk1 hS => ?_)
  obtain ⟨hP, hD⟩ := wjoin (wr := bI664 k (q 4) pa ++ bF80 k (q 9) fp) (wf := bMO k q 0 ea fa ch tn he en ln sv wr dg ++ bI83 k (q 1) v ++ bI83 k (q 2) v ++ bF10 k (q 6) fl ++ bF10 k (q 7) fl ++ bI664 k (q 4) pa ++ bF80 k (q 9) fp) hP hD [0, 1, 2, 3, 4] [5, 6] [2, 3, 4, 5, 6, 0, 1] rfl rfl (by decide) (by decide) hk1 hFc hB ht rfl rfl (by decide)
  clear hB hk1 hz1 hvm hFc
  clear ht
  clear t9
  generalize H1 = H at hP hS ⊢
  refine lv_aload_n hx hb dX13_excite_4 rfl (lv_at hl 0 rfl) ?_
  refine lv_aload_n hx hb dX13_excite_5 rfl (lv_at hl 0 rfl) ?_
  refine lv_iload_n hx hb dX13_excite_6 rfl (lv_at hl 1 rfl) ?_
  refine lv_iload_n hx hb dX13_excite_7 rfl (lv_at hl 2 rfl) ?_
  have hFc := va_free (wc := bMO k q 0 ea fa ch tn he en ln sv wr dg ++ bI83 k (q 1) v ++ bF10 k (q 6) fl) hD hS hA [0, 1, 3] rfl
  refine va_calli (va_runV (As := [.int x, .int am]) (rest := [.ref (q 0)]) hF (m_X13_excites l9 D k H.size q 0 ea fa ch tn he en ln sv wr dg v fl n nl x am hn hv0 hnl hv4 hf) (cwV 2 hts gX13_excite_X13_excites rfl rfl rfl (by decide +kernel) ⟨Nat.le_of_ble_eq_true rfl, Nat.le_of_ble_eq_true rfl⟩) (wPreV hK hN hP hD [0, 1, 3] rfl (by decide) rfl 0 11 rfl rfl) rfl rfl hl.1 rfl (lv_room (Nat.le_of_ble_eq_true rfl)) dX13_excite_8 ⟨Nat.zero_le _, Nat.zero_le _⟩) hS (fun q _ h => hFc q h) hFc (fun r u9 t9 H1 locs ht hvm hw hB hz1 hk1 hS => ?_)
  obtain ⟨hP, hD⟩ := wjoin (wr := bI83 k (q 2) v ++ bF10 k (q 7) fl ++ bI664 k (q 4) pa ++ bF80 k (q 9) fp) (wf := bMO k q ((opExc v fl n nl 0 x am).2.1) ea fa ch tn he en ln sv wr dg ++ bI83 k (q 1) ((opExc v fl n nl 0 x am).2.2.1) ++ bI83 k (q 2) v ++ bF10 k (q 6) ((opExc v fl n nl 0 x am).2.2.2) ++ bF10 k (q 7) fl ++ bI664 k (q 4) pa ++ bF80 k (q 9) fp) hP hD [0, 1, 3] [2, 4, 5, 6] [4, 5, 0, 6, 1, 2, 3] rfl rfl (by decide) (by decide) hk1 hFc hB ht rfl rfl (by decide)
  subst hw
  clear hB hk1 hz1 hvm hFc
  clear ht
  clear t9
  generalize H1 = H at hP hS ⊢
  have hFc := va_free (wc := bMO k q ((opExc v fl n nl 0 x am).2.1) ea fa ch tn he en ln sv wr dg ++ bI83 k (q 1) ((opExc v fl n nl 0 x am).2.2.1) ++ bI83 k (q 2) v ++ bF10 k (q 6) ((opExc v fl n nl 0 x am).2.2.2) ++ bF10 k (q 7) fl ++ bI664 k (q 4) pa ++ bF80 k (q 9) fp) hD hS hA [0, 1, 2, 3, 4, 5, 6] rfl
  refine va_calli (va_runV (As := [.int ((opExc v fl n nl 0 x am).1)]) (rest := []) hF (m_X13_ends l9 D k H.size q ((opExc v fl n nl 0 x am).2.1) ea fa ch tn he en ln sv wr dg ((opExc v fl n nl 0 x am).2.2.1) v pa ((opExc v fl n nl 0 x am).2.2.2) fl fp ((opExc v fl n nl 0 x am).1) hch) (cwV 1 hts gX13_excite_X13_ends rfl rfl rfl (by decide +kernel) ⟨Nat.le_of_ble_eq_true rfl, Nat.le_of_ble_eq_true rfl⟩) (wPreV hK hN hP hD [0, 1, 2, 3, 4, 5, 6] rfl (by decide) rfl 0 11 rfl rfl) rfl rfl hl.1 rfl (lv_room (Nat.le_of_ble_eq_true rfl)) dX13_excite_11 ⟨Nat.zero_le _, Nat.zero_le _⟩) hS (fun q _ h => hFc q h) hFc (fun r u9 t9 H1 locs ht hvm hw hB hz1 hk1 hS => ?_)
  obtain ⟨hP, hD⟩ := wjoin (wr := []) (wf := bMO k q ((opExc v fl n nl 0 x am).2.1) ea fa (if ((opExc v fl n nl 0 x am).2.1) = 0 then chE ch else ch) tn he en ln sv wr dg ++ bI83 k (q 1) (if ((opExc v fl n nl 0 x am).2.1) = 0 then ((opExc v fl n nl 0 x am).2.2.1) else v) ++ bI83 k (q 2) v ++ bF10 k (q 6) (if ((opExc v fl n nl 0 x am).2.1) = 0 then ((opExc v fl n nl 0 x am).2.2.2) else fl) ++ bF10 k (q 7) fl ++ bI664 k (q 4) (if ((opExc v fl n nl 0 x am).2.1) = 0 then paE ch pa v else pa) ++ bF80 k (q 9) (if ((opExc v fl n nl 0 x am).2.1) = 0 then fpE ch fp fl else fp)) hP hD [0, 1, 2, 3, 4, 5, 6] [] [0, 1, 2, 3, 4, 5, 6] rfl rfl (by decide) (by decide) hk1 hFc hB ht rfl rfl (by decide)
  subst hw
  clear hB hk1 hz1 hvm hFc
  clear ht
  clear t9
  generalize H1 = H at hP hS ⊢
  refine lv_istore_n (lv' := [(3, .int (if ((opExc v fl n nl 0 x am).2.1) = 0 then ((opExc v fl n nl 0 x am).1) else 0)), (0, .ref (q 0)), (1, .int x), (2, .int am)]) hx hb dX13_excite_14 rfl hl (by decide) rfl (fun ls hl => ?_)
  refine lv_aload_n hx hb dX13_excite_15 rfl (lv_at hl 1 rfl) ?_
  refine va_get (D := D) (ci := 11) (v := .int ((opExc v fl n nl 0 x am).2.1)) (C := RX13) (T := TX13) (N := 29) hx hb hts kc_RX13 hown hK hP 0 rfl rfl 0 (by decide) k_fieldLink_77 (fun _ h9 => h9) rfl dX13_excite_16 ?_
  refine lv_if_ne (tgt := 31) hx hb dX13_excite_19 (by decide) (fun c_1 => ?_) (fun c_1 => ?_)
  · skip
    refine lv_fconst0 hx hb dX13_excite_31 ?_
    have e_2 : (if ((opExc v fl n nl 0 x am).2.1) = 0 then chE ch else ch : Nat) = if (opExc v fl n nl 0 x am).2.1 = 0 then chE ch else ch := by first | (with_reducible rfl) | (show FP.fconst0 = _; rw [if_neg c_1])
    have hP := Eq.mp (congrArg (fun z9 => va_P D vwCl (bMO k q ((opExc v fl n nl 0 x am).2.1) ea fa z9 tn he en ln sv wr dg ++ bI83 k (q 1) (if ((opExc v fl n nl 0 x am).2.1) = 0 then ((opExc v fl n nl 0 x am).2.2.1) else v) ++ bI83 k (q 2) v ++ bF10 k (q 6) (if ((opExc v fl n nl 0 x am).2.1) = 0 then ((opExc v fl n nl 0 x am).2.2.2) else fl) ++ bF10 k (q 7) fl ++ bI664 k (q 4) (if ((opExc v fl n nl 0 x am).2.1) = 0 then paE ch pa v else pa) ++ bF80 k (q 9) (if ((opExc v fl n nl 0 x am).2.1) = 0 then fpE ch fp fl else fp)) H) e_2) hP
    have hD := Eq.mp (congrArg (fun z9 => va_D A (bMO k q ((opExc v fl n nl 0 x am).2.1) ea fa z9 tn he en ln sv wr dg ++ bI83 k (q 1) (if ((opExc v fl n nl 0 x am).2.1) = 0 then ((opExc v fl n nl 0 x am).2.2.1) else v) ++ bI83 k (q 2) v ++ bF10 k (q 6) (if ((opExc v fl n nl 0 x am).2.1) = 0 then ((opExc v fl n nl 0 x am).2.2.2) else fl) ++ bF10 k (q 7) fl ++ bI664 k (q 4) (if ((opExc v fl n nl 0 x am).2.1) = 0 then paE ch pa v else pa) ++ bF80 k (q 9) (if ((opExc v fl n nl 0 x am).2.1) = 0 then fpE ch fp fl else fp))) e_2) hD
    have e_3 : (if ((opExc v fl n nl 0 x am).2.1) = 0 then ((opExc v fl n nl 0 x am).2.2.1) else v : Nat → Int32) = if (opExc v fl n nl 0 x am).2.1 = 0 then (opExc v fl n nl 0 x am).2.2.1 else v := by first | (with_reducible rfl) | (show FP.fconst0 = _; rw [if_neg c_1])
    have hP := Eq.mp (congrArg (fun z9 => va_P D vwCl (bMO k q ((opExc v fl n nl 0 x am).2.1) ea fa (if (opExc v fl n nl 0 x am).2.1 = 0 then chE ch else ch) tn he en ln sv wr dg ++ bI83 k (q 1) z9 ++ bI83 k (q 2) v ++ bF10 k (q 6) (if ((opExc v fl n nl 0 x am).2.1) = 0 then ((opExc v fl n nl 0 x am).2.2.2) else fl) ++ bF10 k (q 7) fl ++ bI664 k (q 4) (if ((opExc v fl n nl 0 x am).2.1) = 0 then paE ch pa v else pa) ++ bF80 k (q 9) (if ((opExc v fl n nl 0 x am).2.1) = 0 then fpE ch fp fl else fp)) H) e_3) hP
    have hD := Eq.mp (congrArg (fun z9 => va_D A (bMO k q ((opExc v fl n nl 0 x am).2.1) ea fa (if (opExc v fl n nl 0 x am).2.1 = 0 then chE ch else ch) tn he en ln sv wr dg ++ bI83 k (q 1) z9 ++ bI83 k (q 2) v ++ bF10 k (q 6) (if ((opExc v fl n nl 0 x am).2.1) = 0 then ((opExc v fl n nl 0 x am).2.2.2) else fl) ++ bF10 k (q 7) fl ++ bI664 k (q 4) (if ((opExc v fl n nl 0 x am).2.1) = 0 then paE ch pa v else pa) ++ bF80 k (q 9) (if ((opExc v fl n nl 0 x am).2.1) = 0 then fpE ch fp fl else fp))) e_3) hD
    have e_4 : (if ((opExc v fl n nl 0 x am).2.1) = 0 then ((opExc v fl n nl 0 x am).2.2.2) else fl : Nat → UInt32) = if (opExc v fl n nl 0 x am).2.1 = 0 then (opExc v fl n nl 0 x am).2.2.2 else fl := by first | (with_reducible rfl) | (show FP.fconst0 = _; rw [if_neg c_1])
    have hP := Eq.mp (congrArg (fun z9 => va_P D vwCl (bMO k q ((opExc v fl n nl 0 x am).2.1) ea fa (if (opExc v fl n nl 0 x am).2.1 = 0 then chE ch else ch) tn he en ln sv wr dg ++ bI83 k (q 1) (if (opExc v fl n nl 0 x am).2.1 = 0 then (opExc v fl n nl 0 x am).2.2.1 else v) ++ bI83 k (q 2) v ++ bF10 k (q 6) z9 ++ bF10 k (q 7) fl ++ bI664 k (q 4) (if ((opExc v fl n nl 0 x am).2.1) = 0 then paE ch pa v else pa) ++ bF80 k (q 9) (if ((opExc v fl n nl 0 x am).2.1) = 0 then fpE ch fp fl else fp)) H) e_4) hP
    have hD := Eq.mp (congrArg (fun z9 => va_D A (bMO k q ((opExc v fl n nl 0 x am).2.1) ea fa (if (opExc v fl n nl 0 x am).2.1 = 0 then chE ch else ch) tn he en ln sv wr dg ++ bI83 k (q 1) (if (opExc v fl n nl 0 x am).2.1 = 0 then (opExc v fl n nl 0 x am).2.2.1 else v) ++ bI83 k (q 2) v ++ bF10 k (q 6) z9 ++ bF10 k (q 7) fl ++ bI664 k (q 4) (if ((opExc v fl n nl 0 x am).2.1) = 0 then paE ch pa v else pa) ++ bF80 k (q 9) (if ((opExc v fl n nl 0 x am).2.1) = 0 then fpE ch fp fl else fp))) e_4) hD
    have e_5 : (if ((opExc v fl n nl 0 x am).2.1) = 0 then paE ch pa v else pa : Nat → Int32) = if (opExc v fl n nl 0 x am).2.1 = 0 then paE ch pa v else pa := by first | (with_reducible rfl) | (show FP.fconst0 = _; rw [if_neg c_1])
    have hP := Eq.mp (congrArg (fun z9 => va_P D vwCl (bMO k q ((opExc v fl n nl 0 x am).2.1) ea fa (if (opExc v fl n nl 0 x am).2.1 = 0 then chE ch else ch) tn he en ln sv wr dg ++ bI83 k (q 1) (if (opExc v fl n nl 0 x am).2.1 = 0 then (opExc v fl n nl 0 x am).2.2.1 else v) ++ bI83 k (q 2) v ++ bF10 k (q 6) (if (opExc v fl n nl 0 x am).2.1 = 0 then (opExc v fl n nl 0 x am).2.2.2 else fl) ++ bF10 k (q 7) fl ++ bI664 k (q 4) z9 ++ bF80 k (q 9) (if ((opExc v fl n nl 0 x am).2.1) = 0 then fpE ch fp fl else fp)) H) e_5) hP
    have hD := Eq.mp (congrArg (fun z9 => va_D A (bMO k q ((opExc v fl n nl 0 x am).2.1) ea fa (if (opExc v fl n nl 0 x am).2.1 = 0 then chE ch else ch) tn he en ln sv wr dg ++ bI83 k (q 1) (if (opExc v fl n nl 0 x am).2.1 = 0 then (opExc v fl n nl 0 x am).2.2.1 else v) ++ bI83 k (q 2) v ++ bF10 k (q 6) (if (opExc v fl n nl 0 x am).2.1 = 0 then (opExc v fl n nl 0 x am).2.2.2 else fl) ++ bF10 k (q 7) fl ++ bI664 k (q 4) z9 ++ bF80 k (q 9) (if ((opExc v fl n nl 0 x am).2.1) = 0 then fpE ch fp fl else fp))) e_5) hD
    have e_6 : (if ((opExc v fl n nl 0 x am).2.1) = 0 then fpE ch fp fl else fp : Nat → UInt32) = if (opExc v fl n nl 0 x am).2.1 = 0 then fpE ch fp fl else fp := by first | (with_reducible rfl) | (show FP.fconst0 = _; rw [if_neg c_1])
    have hP := Eq.mp (congrArg (fun z9 => va_P D vwCl (bMO k q ((opExc v fl n nl 0 x am).2.1) ea fa (if (opExc v fl n nl 0 x am).2.1 = 0 then chE ch else ch) tn he en ln sv wr dg ++ bI83 k (q 1) (if (opExc v fl n nl 0 x am).2.1 = 0 then (opExc v fl n nl 0 x am).2.2.1 else v) ++ bI83 k (q 2) v ++ bF10 k (q 6) (if (opExc v fl n nl 0 x am).2.1 = 0 then (opExc v fl n nl 0 x am).2.2.2 else fl) ++ bF10 k (q 7) fl ++ bI664 k (q 4) (if (opExc v fl n nl 0 x am).2.1 = 0 then paE ch pa v else pa) ++ bF80 k (q 9) z9) H) e_6) hP
    have hD := Eq.mp (congrArg (fun z9 => va_D A (bMO k q ((opExc v fl n nl 0 x am).2.1) ea fa (if (opExc v fl n nl 0 x am).2.1 = 0 then chE ch else ch) tn he en ln sv wr dg ++ bI83 k (q 1) (if (opExc v fl n nl 0 x am).2.1 = 0 then (opExc v fl n nl 0 x am).2.2.1 else v) ++ bI83 k (q 2) v ++ bF10 k (q 6) (if (opExc v fl n nl 0 x am).2.1 = 0 then (opExc v fl n nl 0 x am).2.2.2 else fl) ++ bF10 k (q 7) fl ++ bI664 k (q 4) (if (opExc v fl n nl 0 x am).2.1 = 0 then paE ch pa v else pa) ++ bF80 k (q 9) z9)) e_6) hD
    exact W.fret (v := FP.fconst0) hx hb hr (fun t9 ht hW => ⟨⟨_, (), rfl, (by show FP.fconst0 = _; rw [if_neg c_1]), ⟨by rw [ht]; exact hP, va_K.moved hW.alike hK, hD⟩⟩, hS.F ht⟩) hS.2.2 dX13_excite_32 hlocks
  · skip
    obtain ⟨j, hj, rfl⟩ := inC_of hn <| opExc_ok c_1
    have clj : (nI j).toNatClampNeg = j := clN (by omega)
    refine lv_aload_n hx hb dX13_excite_22 rfl (lv_at hl 1 rfl) ?_
    refine va_get (D := D) (ci := 11) (v := .ref (q 6)) (C := RX13) (T := TX13) (N := 29) hx hb hts kc_RX13 hown hK hP 0 rfl rfl 10 (by decide) k_fieldLink_32 (fun _ h9 => h9) rfl dX13_excite_23 ?_
    refine lv_iload_n hx hb dX13_excite_26 rfl (lv_at hl 2 rfl) ?_
    refine fa_ld hx hb hK hP 3 rfl j (by omega) (by decide) dX13_excite_27 ?_
    refine lv_goto (tgt := 32) hx hb dX13_excite_28 (by decide) ?_
    have e_7 : (if ((opExc v fl n nl 0 (nI j) am).2.1) = 0 then chE ch else ch : Nat) = if (opExc v fl n nl 0 (nI j) am).2.1 = 0 then chE ch else ch := by first | (with_reducible rfl) | (show (if _ then _ else _ : Nat → UInt32) _ = _; rw [if_pos c_1, if_pos c_1, clj])
    have hP := Eq.mp (congrArg (fun z9 => va_P D vwCl (bMO k q ((opExc v fl n nl 0 (nI j) am).2.1) ea fa z9 tn he en ln sv wr dg ++ bI83 k (q 1) (if ((opExc v fl n nl 0 (nI j) am).2.1) = 0 then ((opExc v fl n nl 0 (nI j) am).2.2.1) else v) ++ bI83 k (q 2) v ++ bF10 k (q 6) (if ((opExc v fl n nl 0 (nI j) am).2.1) = 0 then ((opExc v fl n nl 0 (nI j) am).2.2.2) else fl) ++ bF10 k (q 7) fl ++ bI664 k (q 4) (if ((opExc v fl n nl 0 (nI j) am).2.1) = 0 then paE ch pa v else pa) ++ bF80 k (q 9) (if ((opExc v fl n nl 0 (nI j) am).2.1) = 0 then fpE ch fp fl else fp)) H) e_7) hP
    have hD := Eq.mp (congrArg (fun z9 => va_D A (bMO k q ((opExc v fl n nl 0 (nI j) am).2.1) ea fa z9 tn he en ln sv wr dg ++ bI83 k (q 1) (if ((opExc v fl n nl 0 (nI j) am).2.1) = 0 then ((opExc v fl n nl 0 (nI j) am).2.2.1) else v) ++ bI83 k (q 2) v ++ bF10 k (q 6) (if ((opExc v fl n nl 0 (nI j) am).2.1) = 0 then ((opExc v fl n nl 0 (nI j) am).2.2.2) else fl) ++ bF10 k (q 7) fl ++ bI664 k (q 4) (if ((opExc v fl n nl 0 (nI j) am).2.1) = 0 then paE ch pa v else pa) ++ bF80 k (q 9) (if ((opExc v fl n nl 0 (nI j) am).2.1) = 0 then fpE ch fp fl else fp))) e_7) hD
    have e_8 : (if ((opExc v fl n nl 0 (nI j) am).2.1) = 0 then ((opExc v fl n nl 0 (nI j) am).2.2.1) else v : Nat → Int32) = if (opExc v fl n nl 0 (nI j) am).2.1 = 0 then (opExc v fl n nl 0 (nI j) am).2.2.1 else v := by first | (with_reducible rfl) | (show (if _ then _ else _ : Nat → UInt32) _ = _; rw [if_pos c_1, if_pos c_1, clj])
    have hP := Eq.mp (congrArg (fun z9 => va_P D vwCl (bMO k q ((opExc v fl n nl 0 (nI j) am).2.1) ea fa (if (opExc v fl n nl 0 (nI j) am).2.1 = 0 then chE ch else ch) tn he en ln sv wr dg ++ bI83 k (q 1) z9 ++ bI83 k (q 2) v ++ bF10 k (q 6) (if ((opExc v fl n nl 0 (nI j) am).2.1) = 0 then ((opExc v fl n nl 0 (nI j) am).2.2.2) else fl) ++ bF10 k (q 7) fl ++ bI664 k (q 4) (if ((opExc v fl n nl 0 (nI j) am).2.1) = 0 then paE ch pa v else pa) ++ bF80 k (q 9) (if ((opExc v fl n nl 0 (nI j) am).2.1) = 0 then fpE ch fp fl else fp)) H) e_8) hP
    have hD := Eq.mp (congrArg (fun z9 => va_D A (bMO k q ((opExc v fl n nl 0 (nI j) am).2.1) ea fa (if (opExc v fl n nl 0 (nI j) am).2.1 = 0 then chE ch else ch) tn he en ln sv wr dg ++ bI83 k (q 1) z9 ++ bI83 k (q 2) v ++ bF10 k (q 6) (if ((opExc v fl n nl 0 (nI j) am).2.1) = 0 then ((opExc v fl n nl 0 (nI j) am).2.2.2) else fl) ++ bF10 k (q 7) fl ++ bI664 k (q 4) (if ((opExc v fl n nl 0 (nI j) am).2.1) = 0 then paE ch pa v else pa) ++ bF80 k (q 9) (if ((opExc v fl n nl 0 (nI j) am).2.1) = 0 then fpE ch fp fl else fp))) e_8) hD
    have e_9 : (if ((opExc v fl n nl 0 (nI j) am).2.1) = 0 then ((opExc v fl n nl 0 (nI j) am).2.2.2) else fl : Nat → UInt32) = if (opExc v fl n nl 0 (nI j) am).2.1 = 0 then (opExc v fl n nl 0 (nI j) am).2.2.2 else fl := by first | (with_reducible rfl) | (show (if _ then _ else _ : Nat → UInt32) _ = _; rw [if_pos c_1, if_pos c_1, clj])
    have hP := Eq.mp (congrArg (fun z9 => va_P D vwCl (bMO k q ((opExc v fl n nl 0 (nI j) am).2.1) ea fa (if (opExc v fl n nl 0 (nI j) am).2.1 = 0 then chE ch else ch) tn he en ln sv wr dg ++ bI83 k (q 1) (if (opExc v fl n nl 0 (nI j) am).2.1 = 0 then (opExc v fl n nl 0 (nI j) am).2.2.1 else v) ++ bI83 k (q 2) v ++ bF10 k (q 6) z9 ++ bF10 k (q 7) fl ++ bI664 k (q 4) (if ((opExc v fl n nl 0 (nI j) am).2.1) = 0 then paE ch pa v else pa) ++ bF80 k (q 9) (if ((opExc v fl n nl 0 (nI j) am).2.1) = 0 then fpE ch fp fl else fp)) H) e_9) hP
    have hD := Eq.mp (congrArg (fun z9 => va_D A (bMO k q ((opExc v fl n nl 0 (nI j) am).2.1) ea fa (if (opExc v fl n nl 0 (nI j) am).2.1 = 0 then chE ch else ch) tn he en ln sv wr dg ++ bI83 k (q 1) (if (opExc v fl n nl 0 (nI j) am).2.1 = 0 then (opExc v fl n nl 0 (nI j) am).2.2.1 else v) ++ bI83 k (q 2) v ++ bF10 k (q 6) z9 ++ bF10 k (q 7) fl ++ bI664 k (q 4) (if ((opExc v fl n nl 0 (nI j) am).2.1) = 0 then paE ch pa v else pa) ++ bF80 k (q 9) (if ((opExc v fl n nl 0 (nI j) am).2.1) = 0 then fpE ch fp fl else fp))) e_9) hD
    have e_10 : (if ((opExc v fl n nl 0 (nI j) am).2.1) = 0 then paE ch pa v else pa : Nat → Int32) = if (opExc v fl n nl 0 (nI j) am).2.1 = 0 then paE ch pa v else pa := by first | (with_reducible rfl) | (show (if _ then _ else _ : Nat → UInt32) _ = _; rw [if_pos c_1, if_pos c_1, clj])
    have hP := Eq.mp (congrArg (fun z9 => va_P D vwCl (bMO k q ((opExc v fl n nl 0 (nI j) am).2.1) ea fa (if (opExc v fl n nl 0 (nI j) am).2.1 = 0 then chE ch else ch) tn he en ln sv wr dg ++ bI83 k (q 1) (if (opExc v fl n nl 0 (nI j) am).2.1 = 0 then (opExc v fl n nl 0 (nI j) am).2.2.1 else v) ++ bI83 k (q 2) v ++ bF10 k (q 6) (if (opExc v fl n nl 0 (nI j) am).2.1 = 0 then (opExc v fl n nl 0 (nI j) am).2.2.2 else fl) ++ bF10 k (q 7) fl ++ bI664 k (q 4) z9 ++ bF80 k (q 9) (if ((opExc v fl n nl 0 (nI j) am).2.1) = 0 then fpE ch fp fl else fp)) H) e_10) hP
    have hD := Eq.mp (congrArg (fun z9 => va_D A (bMO k q ((opExc v fl n nl 0 (nI j) am).2.1) ea fa (if (opExc v fl n nl 0 (nI j) am).2.1 = 0 then chE ch else ch) tn he en ln sv wr dg ++ bI83 k (q 1) (if (opExc v fl n nl 0 (nI j) am).2.1 = 0 then (opExc v fl n nl 0 (nI j) am).2.2.1 else v) ++ bI83 k (q 2) v ++ bF10 k (q 6) (if (opExc v fl n nl 0 (nI j) am).2.1 = 0 then (opExc v fl n nl 0 (nI j) am).2.2.2 else fl) ++ bF10 k (q 7) fl ++ bI664 k (q 4) z9 ++ bF80 k (q 9) (if ((opExc v fl n nl 0 (nI j) am).2.1) = 0 then fpE ch fp fl else fp))) e_10) hD
    have e_11 : (if ((opExc v fl n nl 0 (nI j) am).2.1) = 0 then fpE ch fp fl else fp : Nat → UInt32) = if (opExc v fl n nl 0 (nI j) am).2.1 = 0 then fpE ch fp fl else fp := by first | (with_reducible rfl) | (show (if _ then _ else _ : Nat → UInt32) _ = _; rw [if_pos c_1, if_pos c_1, clj])
    have hP := Eq.mp (congrArg (fun z9 => va_P D vwCl (bMO k q ((opExc v fl n nl 0 (nI j) am).2.1) ea fa (if (opExc v fl n nl 0 (nI j) am).2.1 = 0 then chE ch else ch) tn he en ln sv wr dg ++ bI83 k (q 1) (if (opExc v fl n nl 0 (nI j) am).2.1 = 0 then (opExc v fl n nl 0 (nI j) am).2.2.1 else v) ++ bI83 k (q 2) v ++ bF10 k (q 6) (if (opExc v fl n nl 0 (nI j) am).2.1 = 0 then (opExc v fl n nl 0 (nI j) am).2.2.2 else fl) ++ bF10 k (q 7) fl ++ bI664 k (q 4) (if (opExc v fl n nl 0 (nI j) am).2.1 = 0 then paE ch pa v else pa) ++ bF80 k (q 9) z9) H) e_11) hP
    have hD := Eq.mp (congrArg (fun z9 => va_D A (bMO k q ((opExc v fl n nl 0 (nI j) am).2.1) ea fa (if (opExc v fl n nl 0 (nI j) am).2.1 = 0 then chE ch else ch) tn he en ln sv wr dg ++ bI83 k (q 1) (if (opExc v fl n nl 0 (nI j) am).2.1 = 0 then (opExc v fl n nl 0 (nI j) am).2.2.1 else v) ++ bI83 k (q 2) v ++ bF10 k (q 6) (if (opExc v fl n nl 0 (nI j) am).2.1 = 0 then (opExc v fl n nl 0 (nI j) am).2.2.2 else fl) ++ bF10 k (q 7) fl ++ bI664 k (q 4) (if (opExc v fl n nl 0 (nI j) am).2.1 = 0 then paE ch pa v else pa) ++ bF80 k (q 9) z9)) e_11) hD
    exact W.fret (v := (if ((opExc v fl n nl 0 (nI j) am).2.1) = 0 then ((opExc v fl n nl 0 (nI j) am).2.2.2) else fl) j) hx hb hr (fun t9 ht hW => ⟨⟨_, (), rfl, (by show (if _ then _ else _ : Nat → UInt32) _ = _; rw [if_pos c_1, if_pos c_1, clj]), ⟨by rw [ht]; exact hP, va_K.moved hW.alike hK, hD⟩⟩, hS.F ht⟩) hS.2.2 dX13_excite_32 hlocks

set_option maxHeartbeats 4000000 in
set_option maxRecDepth 100000 in
theorem m_X13_pass (l9 : Launch) (D : va_G) (k : Nat → ClassId) (sz : Nat) (q : Nat → Nat) (th ea fa : Int32) (ch tn he en ln : Nat) (sv wr dg : Bool) (v be pa : Nat → Int32) (fl fb fp : Nat → UInt32) (nx : Nat → UInt32) (n nl : Nat) (x : Int32) (hn : n ≤ 10) (hv0 : v 0 = nI n) (hf : ∀ c, c < n → okF (fl c)) (hly : lyOk n (vl v)) (hnl : nl ≤ 16) (hv4 : v 4 = nI nl) (hch : ch ≤ 8) : Met l9 yX13_pass wsX13_pass ({ frames := 4, cells := 0, slots := 0, locals := 90 }) (WPc D k [.ref (q 0), .int x] (bMO k q th ea fa ch tn he en ln sv wr dg ++ bI83 k (q 1) v ++ bI83 k (q 2) be ++ bF10 k (q 6) fl ++ bF10 k (q 7) fb ++ bI664 k (q 4) pa ++ bF80 k (q 9) fp ++ bF10 k (q 10) nx) sz) (WI D k (bMO k q (if rg 1 x 20 = true then 0 else (1 : Int32)) ea fa (if (if rg 1 x 20 = true then 0 else (1 : Int32)) = 0 then chE ch else ch) tn he en ln sv wr dg ++ bI83 k (q 1) (if (if rg 1 x 20 = true then 0 else (1 : Int32)) = 0 then (if rg 1 x 20 = true then itP n (v, fl, nx, nl) x.toNatClampNeg else (v, fl, nx, nl)).1 else v) ++ bI83 k (q 2) v ++ bF10 k (q 6) (if (if rg 1 x 20 = true then 0 else (1 : Int32)) = 0 then (if rg 1 x 20 = true then itP n (v, fl, nx, nl) x.toNatClampNeg else (v, fl, nx, nl)).2.1 else fl) ++ bF10 k (q 7) fl ++ bI664 k (q 4) (if (if rg 1 x 20 = true then 0 else (1 : Int32)) = 0 then paE ch pa v else pa) ++ bF80 k (q 9) (if (if rg 1 x 20 = true then 0 else (1 : Int32)) = 0 then fpE ch fp fl else fp) ++ bF10 k (q 10) ((if rg 1 x 20 = true then itP n (v, fl, nx, nl) x.toNatClampNeg else (v, fl, nx, nl)).2.2.1)) (if (if rg 1 x 20 = true then 0 else (1 : Int32)) = 0 then (if rg 1 x 20 = true then (itP n (v, fl, nx, nl) x.toNatClampNeg).1 3 - v 3 else 0) else 0) (va_A (bMO k q th ea fa ch tn he en ln sv wr dg ++ bI83 k (q 1) v ++ bI83 k (q 2) be ++ bF10 k (q 6) fl ++ bF10 k (q 7) fb ++ bI664 k (q 4) pa ++ bF80 k (q 9) fp ++ bF10 k (q 10) nx) sz)) 0 0 (va_A (bMO k q th ea fa ch tn he en ln sv wr dg ++ bI83 k (q 1) v ++ bI83 k (q 2) be ++ bF10 k (q 6) fl ++ bF10 k (q 7) fb ++ bI664 k (q 4) pa ++ bF80 k (q 9) fp ++ bF10 k (q 10) nx) sz) := by
  refine wMet (y := yX13_pass) (cc := cX13_pass) (maxL := 2) (ret := (some .int)) (Qc := fun A => WI D k (bMO k q (if rg 1 x 20 = true then 0 else (1 : Int32)) ea fa (if (if rg 1 x 20 = true then 0 else (1 : Int32)) = 0 then chE ch else ch) tn he en ln sv wr dg ++ bI83 k (q 1) (if (if rg 1 x 20 = true then 0 else (1 : Int32)) = 0 then (if rg 1 x 20 = true then itP n (v, fl, nx, nl) x.toNatClampNeg else (v, fl, nx, nl)).1 else v) ++ bI83 k (q 2) v ++ bF10 k (q 6) (if (if rg 1 x 20 = true then 0 else (1 : Int32)) = 0 then (if rg 1 x 20 = true then itP n (v, fl, nx, nl) x.toNatClampNeg else (v, fl, nx, nl)).2.1 else fl) ++ bF10 k (q 7) fl ++ bI664 k (q 4) (if (if rg 1 x 20 = true then 0 else (1 : Int32)) = 0 then paE ch pa v else pa) ++ bF80 k (q 9) (if (if rg 1 x 20 = true then 0 else (1 : Int32)) = 0 then fpE ch fp fl else fp) ++ bF10 k (q 10) ((if rg 1 x 20 = true then itP n (v, fl, nx, nl) x.toNatClampNeg else (v, fl, nx, nl)).2.2.1)) (if (if rg 1 x 20 = true then 0 else (1 : Int32)) = 0 then (if rg 1 x 20 = true then (itP n (v, fl, nx, nl) x.toNatClampNeg).1 3 - v 3 else 0) else 0) A) [.ref (q 0), .int x] (by decide) rfl (Nat.le_of_ble_eq_true rfl) ?_
  intro p9 e9 s9 m9 bl9 me9 c9 ls A H hF hr hlocks hP hK hN hD hA hS hl hin
  have hl : lv_has ls 2 [(0, .ref (q 0)), (1, .int x)] := hl
  obtain ⟨hx, hb, hml, hown, hts⟩ := id hF
  refine lv_aload_n hx hb dX13_pass_0 rfl (lv_at hl 0 rfl) ?_
  have hFc := va_free (wc := bMO k q th ea fa ch tn he en ln sv wr dg ++ bI83 k (q 1) v ++ bI83 k (q 2) be ++ bF10 k (q 6) fl ++ bF10 k (q 7) fb) hD hS hA [0, 1, 2, 3, 4] rfl
  refine va_callv (va_runV (As := []) (rest := []) hF (m_X13_begins l9 D k H.size q th ea fa ch tn he en ln sv wr dg v be fl fb ) (cwV 0 hts gX13_pass_X13_begins rfl rfl rfl (by decide +kernel) ⟨Nat.le_of_ble_eq_true rfl, Nat.le_of_ble_eq_true rfl⟩) (wPreV hK hN hP hD [0, 1, 2, 3, 4] rfl (by decide) rfl 0 11 rfl rfl) rfl rfl hl.1 rfl (lv_room (Nat.le_of_ble_eq_true rfl)) dX13_pass_1 ⟨Nat.zero_le _, Nat.zero_le _⟩) hS (fun q _ h => hFc q h) hFc (fun u9 t9 H1 locs ht hvm hw hB hz1 hk1 hS => ?_)
  obtain ⟨hP, hD⟩ := wjoin (wr := bI664 k (q 4) pa ++ bF80 k (q 9) fp ++ bF10 k (q 10) nx) (wf := bMO k q 0 ea fa ch tn he en ln sv wr dg ++ bI83 k (q 1) v ++ bI83 k (q 2) v ++ bF10 k (q 6) fl ++ bF10 k (q 7) fl ++ bI664 k (q 4) pa ++ bF80 k (q 9) fp ++ bF10 k (q 10) nx) hP hD [0, 1, 2, 3, 4] [5, 6, 7] [3, 4, 5, 6, 7, 0, 1, 2] rfl rfl (by decide) (by decide) hk1 hFc hB ht rfl rfl (by decide)
  clear hB hk1 hz1 hvm hFc
  clear ht
  clear t9
  generalize H1 = H at hP hS ⊢
  refine lv_aload_n hx hb dX13_pass_4 rfl (lv_at hl 0 rfl) ?_
  refine lv_aload_n hx hb dX13_pass_5 rfl (lv_at hl 0 rfl) ?_
  refine lv_iload_n hx hb dX13_pass_6 rfl (lv_at hl 1 rfl) ?_
  have hFc := va_free (wc := bMO k q 0 ea fa ch tn he en ln sv wr dg ++ bI83 k (q 1) v ++ bF10 k (q 6) fl ++ bF10 k (q 10) nx) hD hS hA [0, 1, 3, 7] rfl
  refine va_calli (va_runV (As := [.int x]) (rest := [.ref (q 0)]) hF (m_X13_passes l9 D k H.size q 0 ea fa ch tn he en ln sv wr dg v fl nx n nl x hn hv0 hf hly hnl hv4) (cwV 1 hts gX13_pass_X13_passes rfl rfl rfl (by decide +kernel) ⟨Nat.le_of_ble_eq_true rfl, Nat.le_of_ble_eq_true rfl⟩) (wPreV hK hN hP hD [0, 1, 3, 7] rfl (by decide) rfl 0 11 rfl rfl) rfl rfl hl.1 rfl (lv_room (Nat.le_of_ble_eq_true rfl)) dX13_pass_7 ⟨Nat.zero_le _, Nat.zero_le _⟩) hS (fun q _ h => hFc q h) hFc (fun r u9 t9 H1 locs ht hvm hw hB hz1 hk1 hS => ?_)
  obtain ⟨hP, hD⟩ := wjoin (wr := bI83 k (q 2) v ++ bF10 k (q 7) fl ++ bI664 k (q 4) pa ++ bF80 k (q 9) fp) (wf := bMO k q (if rg 1 x 20 = true then 0 else (1 : Int32)) ea fa ch tn he en ln sv wr dg ++ bI83 k (q 1) ((if rg 1 x 20 = true then itP n (v, fl, nx, nl) x.toNatClampNeg else (v, fl, nx, nl)).1) ++ bI83 k (q 2) v ++ bF10 k (q 6) ((if rg 1 x 20 = true then itP n (v, fl, nx, nl) x.toNatClampNeg else (v, fl, nx, nl)).2.1) ++ bF10 k (q 7) fl ++ bI664 k (q 4) pa ++ bF80 k (q 9) fp ++ bF10 k (q 10) ((if rg 1 x 20 = true then itP n (v, fl, nx, nl) x.toNatClampNeg else (v, fl, nx, nl)).2.2.1)) hP hD [0, 1, 3, 7] [2, 4, 5, 6] [4, 5, 0, 6, 1, 2, 3, 7] rfl rfl (by decide) (by decide) hk1 hFc hB ht rfl rfl (by decide)
  subst hw
  clear hB hk1 hz1 hvm hFc
  clear ht
  clear t9
  generalize H1 = H at hP hS ⊢
  have hFc := va_free (wc := bMO k q (if rg 1 x 20 = true then 0 else (1 : Int32)) ea fa ch tn he en ln sv wr dg ++ bI83 k (q 1) ((if rg 1 x 20 = true then itP n (v, fl, nx, nl) x.toNatClampNeg else (v, fl, nx, nl)).1) ++ bI83 k (q 2) v ++ bF10 k (q 6) ((if rg 1 x 20 = true then itP n (v, fl, nx, nl) x.toNatClampNeg else (v, fl, nx, nl)).2.1) ++ bF10 k (q 7) fl ++ bI664 k (q 4) pa ++ bF80 k (q 9) fp) hD hS hA [0, 1, 2, 3, 4, 5, 6] rfl
  refine va_calli (va_runV (As := [.int (if rg 1 x 20 = true then (itP n (v, fl, nx, nl) x.toNatClampNeg).1 3 - v 3 else 0)]) (rest := []) hF (m_X13_ends l9 D k H.size q (if rg 1 x 20 = true then 0 else (1 : Int32)) ea fa ch tn he en ln sv wr dg ((if rg 1 x 20 = true then itP n (v, fl, nx, nl) x.toNatClampNeg else (v, fl, nx, nl)).1) v pa ((if rg 1 x 20 = true then itP n (v, fl, nx, nl) x.toNatClampNeg else (v, fl, nx, nl)).2.1) fl fp (if rg 1 x 20 = true then (itP n (v, fl, nx, nl) x.toNatClampNeg).1 3 - v 3 else 0) hch) (cwV 1 hts gX13_pass_X13_ends rfl rfl rfl (by decide +kernel) ⟨Nat.le_of_ble_eq_true rfl, Nat.le_of_ble_eq_true rfl⟩) (wPreV hK hN hP hD [0, 1, 2, 3, 4, 5, 6] rfl (by decide) rfl 0 11 rfl rfl) rfl rfl hl.1 rfl (lv_room (Nat.le_of_ble_eq_true rfl)) dX13_pass_10 ⟨Nat.zero_le _, Nat.zero_le _⟩) hS (fun q _ h => hFc q h) hFc (fun r u9 t9 H1 locs ht hvm hw hB hz1 hk1 hS => ?_)
  obtain ⟨hP, hD⟩ := wjoin (wr := bF10 k (q 10) ((if rg 1 x 20 = true then itP n (v, fl, nx, nl) x.toNatClampNeg else (v, fl, nx, nl)).2.2.1)) (wf := bMO k q (if rg 1 x 20 = true then 0 else (1 : Int32)) ea fa (if (if rg 1 x 20 = true then 0 else (1 : Int32)) = 0 then chE ch else ch) tn he en ln sv wr dg ++ bI83 k (q 1) (if (if rg 1 x 20 = true then 0 else (1 : Int32)) = 0 then ((if rg 1 x 20 = true then itP n (v, fl, nx, nl) x.toNatClampNeg else (v, fl, nx, nl)).1) else v) ++ bI83 k (q 2) v ++ bF10 k (q 6) (if (if rg 1 x 20 = true then 0 else (1 : Int32)) = 0 then ((if rg 1 x 20 = true then itP n (v, fl, nx, nl) x.toNatClampNeg else (v, fl, nx, nl)).2.1) else fl) ++ bF10 k (q 7) fl ++ bI664 k (q 4) (if (if rg 1 x 20 = true then 0 else (1 : Int32)) = 0 then paE ch pa v else pa) ++ bF80 k (q 9) (if (if rg 1 x 20 = true then 0 else (1 : Int32)) = 0 then fpE ch fp fl else fp) ++ bF10 k (q 10) ((if rg 1 x 20 = true then itP n (v, fl, nx, nl) x.toNatClampNeg else (v, fl, nx, nl)).2.2.1)) hP hD [0, 1, 2, 3, 4, 5, 6] [7] [1, 2, 3, 4, 5, 6, 7, 0] rfl rfl (by decide) (by decide) hk1 hFc hB ht rfl rfl (by decide)
  subst hw
  clear hB hk1 hz1 hvm hFc
  clear ht
  clear t9
  generalize H1 = H at hP hS ⊢
  have e_1 : (if (if rg 1 x 20 = true then 0 else (1 : Int32)) = 0 then ((if rg 1 x 20 = true then itP n (v, fl, nx, nl) x.toNatClampNeg else (v, fl, nx, nl)).1) else v : Nat → Int32) = if (if rg 1 x 20 = true then 0 else (1 : Int32)) = 0 then (if rg 1 x 20 = true then itP n (v, fl, nx, nl) x.toNatClampNeg else (v, fl, nx, nl)).1 else v := by first | (with_reducible rfl) | (rfl)
  have hP := Eq.mp (congrArg (fun z9 => va_P D vwCl (bMO k q (if rg 1 x 20 = true then 0 else (1 : Int32)) ea fa (if (if rg 1 x 20 = true then 0 else (1 : Int32)) = 0 then chE ch else ch) tn he en ln sv wr dg ++ bI83 k (q 1) z9 ++ bI83 k (q 2) v ++ bF10 k (q 6) (if (if rg 1 x 20 = true then 0 else (1 : Int32)) = 0 then ((if rg 1 x 20 = true then itP n (v, fl, nx, nl) x.toNatClampNeg else (v, fl, nx, nl)).2.1) else fl) ++ bF10 k (q 7) fl ++ bI664 k (q 4) (if (if rg 1 x 20 = true then 0 else (1 : Int32)) = 0 then paE ch pa v else pa) ++ bF80 k (q 9) (if (if rg 1 x 20 = true then 0 else (1 : Int32)) = 0 then fpE ch fp fl else fp) ++ bF10 k (q 10) ((if rg 1 x 20 = true then itP n (v, fl, nx, nl) x.toNatClampNeg else (v, fl, nx, nl)).2.2.1)) H) e_1) hP
  have hD := Eq.mp (congrArg (fun z9 => va_D A (bMO k q (if rg 1 x 20 = true then 0 else (1 : Int32)) ea fa (if (if rg 1 x 20 = true then 0 else (1 : Int32)) = 0 then chE ch else ch) tn he en ln sv wr dg ++ bI83 k (q 1) z9 ++ bI83 k (q 2) v ++ bF10 k (q 6) (if (if rg 1 x 20 = true then 0 else (1 : Int32)) = 0 then ((if rg 1 x 20 = true then itP n (v, fl, nx, nl) x.toNatClampNeg else (v, fl, nx, nl)).2.1) else fl) ++ bF10 k (q 7) fl ++ bI664 k (q 4) (if (if rg 1 x 20 = true then 0 else (1 : Int32)) = 0 then paE ch pa v else pa) ++ bF80 k (q 9) (if (if rg 1 x 20 = true then 0 else (1 : Int32)) = 0 then fpE ch fp fl else fp) ++ bF10 k (q 10) ((if rg 1 x 20 = true then itP n (v, fl, nx, nl) x.toNatClampNeg else (v, fl, nx, nl)).2.2.1))) e_1) hD
  have e_2 : (if (if rg 1 x 20 = true then 0 else (1 : Int32)) = 0 then ((if rg 1 x 20 = true then itP n (v, fl, nx, nl) x.toNatClampNeg else (v, fl, nx, nl)).2.1) else fl : Nat → UInt32) = if (if rg 1 x 20 = true then 0 else (1 : Int32)) = 0 then (if rg 1 x 20 = true then itP n (v, fl, nx, nl) x.toNatClampNeg else (v, fl, nx, nl)).2.1 else fl := by first | (with_reducible rfl) | (rfl)
  have hP := Eq.mp (congrArg (fun z9 => va_P D vwCl (bMO k q (if rg 1 x 20 = true then 0 else (1 : Int32)) ea fa (if (if rg 1 x 20 = true then 0 else (1 : Int32)) = 0 then chE ch else ch) tn he en ln sv wr dg ++ bI83 k (q 1) (if (if rg 1 x 20 = true then 0 else (1 : Int32)) = 0 then (if rg 1 x 20 = true then itP n (v, fl, nx, nl) x.toNatClampNeg else (v, fl, nx, nl)).1 else v) ++ bI83 k (q 2) v ++ bF10 k (q 6) z9 ++ bF10 k (q 7) fl ++ bI664 k (q 4) (if (if rg 1 x 20 = true then 0 else (1 : Int32)) = 0 then paE ch pa v else pa) ++ bF80 k (q 9) (if (if rg 1 x 20 = true then 0 else (1 : Int32)) = 0 then fpE ch fp fl else fp) ++ bF10 k (q 10) ((if rg 1 x 20 = true then itP n (v, fl, nx, nl) x.toNatClampNeg else (v, fl, nx, nl)).2.2.1)) H) e_2) hP
  have hD := Eq.mp (congrArg (fun z9 => va_D A (bMO k q (if rg 1 x 20 = true then 0 else (1 : Int32)) ea fa (if (if rg 1 x 20 = true then 0 else (1 : Int32)) = 0 then chE ch else ch) tn he en ln sv wr dg ++ bI83 k (q 1) (if (if rg 1 x 20 = true then 0 else (1 : Int32)) = 0 then (if rg 1 x 20 = true then itP n (v, fl, nx, nl) x.toNatClampNeg else (v, fl, nx, nl)).1 else v) ++ bI83 k (q 2) v ++ bF10 k (q 6) z9 ++ bF10 k (q 7) fl ++ bI664 k (q 4) (if (if rg 1 x 20 = true then 0 else (1 : Int32)) = 0 then paE ch pa v else pa) ++ bF80 k (q 9) (if (if rg 1 x 20 = true then 0 else (1 : Int32)) = 0 then fpE ch fp fl else fp) ++ bF10 k (q 10) ((if rg 1 x 20 = true then itP n (v, fl, nx, nl) x.toNatClampNeg else (v, fl, nx, nl)).2.2.1))) e_2) hD
  exact W.iret (v := if (if rg 1 x 20 = true then 0 else (1 : Int32)) = 0 then (if rg 1 x 20 = true then (itP n (v, fl, nx, nl) x.toNatClampNeg).1 3 - v 3 else 0) else 0) hx hb hr (fun t9 ht hW => ⟨⟨_, (), rfl, (by rfl), ⟨by rw [ht]; exact hP, va_K.moved hW.alike hK, hD⟩⟩, hS.F ht⟩) hS.2.2 dX13_pass_13 hlocks

set_option maxHeartbeats 4000000 in
set_option maxRecDepth 100000 in
theorem m_X13_claimCount (l9 : Launch) (D : va_G) (k : Nat → ClassId) (sz : Nat) (q : Nat → Nat) (th ea fa : Int32) (ch tn he en ln : Nat) (sv wr dg : Bool) (v : Nat → Int32) : Met l9 yX13_claimCount wsX13_claimCount ({ frames := 1, cells := 0, slots := 0, locals := 21 }) (WPc D k [.ref (q 0)] (bMO k q th ea fa ch tn he en ln sv wr dg ++ bI83 k (q 1) v) sz) (WI D k (bMO k q 0 ea fa ch tn he en ln sv wr dg ++ bI83 k (q 1) v) (v 0) (va_A (bMO k q th ea fa ch tn he en ln sv wr dg ++ bI83 k (q 1) v) sz)) 0 0 (va_A (bMO k q th ea fa ch tn he en ln sv wr dg ++ bI83 k (q 1) v) sz) := by
  refine wMet (y := yX13_claimCount) (cc := cX13_claimCount) (maxL := 1) (ret := (some .int)) (Qc := fun A => WI D k (bMO k q 0 ea fa ch tn he en ln sv wr dg ++ bI83 k (q 1) v) (v 0) A) [.ref (q 0)] (by decide) rfl (Nat.le_of_ble_eq_true rfl) ?_
  intro p9 e9 s9 m9 bl9 me9 c9 ls A H hF hr hlocks hP hK hN hD hA hS hl hin
  have hl : lv_has ls 1 [(0, .ref (q 0))] := hl
  obtain ⟨hx, hb, hml, hown, hts⟩ := id hF
  refine lv_aload_n hx hb dX13_claimCount_0 rfl (lv_at hl 0 rfl) ?_
  refine lv_iconst (v := 0) hx hb dX13_claimCount_1 (by decide) ?_
  have hFc := va_free (wc := bMO k q th ea fa ch tn he en ln sv wr dg ++ bI83 k (q 1) v) hD hS hA [0, 1] rfl
  refine va_calli (va_runV (As := [.int 0]) (rest := []) hF (m_X13_tells l9 D k H.size q th ea fa ch tn he en ln sv wr dg v 0 (by omega)) (cwV 1 hts gX13_claimCount_X13_tells rfl rfl rfl (by decide +kernel) ⟨Nat.le_of_ble_eq_true rfl, Nat.le_of_ble_eq_true rfl⟩) (wPreV hK hN hP hD [0, 1] rfl (by decide) rfl 0 11 rfl rfl) rfl rfl hl.1 rfl (lv_room (Nat.le_of_ble_eq_true rfl)) dX13_claimCount_2 ⟨Nat.zero_le _, Nat.zero_le _⟩) hS (fun q _ h => hFc q h) hFc (fun r u9 t9 H1 locs ht hvm hw hB hz1 hk1 hS => ?_)
  obtain ⟨hP, hD⟩ := wjoin (wr := []) (wf := bMO k q 0 ea fa ch tn he en ln sv wr dg ++ bI83 k (q 1) v) hP hD [0, 1] [] [0, 1] rfl rfl (by decide) (by decide) hk1 hFc hB ht rfl rfl (by decide)
  subst hw
  clear hB hk1 hz1 hvm hFc
  clear ht
  clear t9
  generalize H1 = H at hP hS ⊢
  exact W.iret (v := v 0) hx hb hr (fun t9 ht hW => ⟨⟨_, (), rfl, (by rfl), ⟨by rw [ht]; exact hP, va_K.moved hW.alike hK, hD⟩⟩, hS.F ht⟩) hS.2.2 dX13_claimCount_5 hlocks

set_option maxHeartbeats 4000000 in
set_option maxRecDepth 100000 in
theorem m_X13_shiftCount (l9 : Launch) (D : va_G) (k : Nat → ClassId) (sz : Nat) (q : Nat → Nat) (th ea fa : Int32) (ch tn he en ln : Nat) (sv wr dg : Bool) (v : Nat → Int32) : Met l9 yX13_shiftCount wsX13_shiftCount ({ frames := 1, cells := 0, slots := 0, locals := 21 }) (WPc D k [.ref (q 0)] (bMO k q th ea fa ch tn he en ln sv wr dg ++ bI83 k (q 1) v) sz) (WI D k (bMO k q 0 ea fa ch tn he en ln sv wr dg ++ bI83 k (q 1) v) (v 2) (va_A (bMO k q th ea fa ch tn he en ln sv wr dg ++ bI83 k (q 1) v) sz)) 0 0 (va_A (bMO k q th ea fa ch tn he en ln sv wr dg ++ bI83 k (q 1) v) sz) := by
  refine wMet (y := yX13_shiftCount) (cc := cX13_shiftCount) (maxL := 1) (ret := (some .int)) (Qc := fun A => WI D k (bMO k q 0 ea fa ch tn he en ln sv wr dg ++ bI83 k (q 1) v) (v 2) A) [.ref (q 0)] (by decide) rfl (Nat.le_of_ble_eq_true rfl) ?_
  intro p9 e9 s9 m9 bl9 me9 c9 ls A H hF hr hlocks hP hK hN hD hA hS hl hin
  have hl : lv_has ls 1 [(0, .ref (q 0))] := hl
  obtain ⟨hx, hb, hml, hown, hts⟩ := id hF
  refine lv_aload_n hx hb dX13_shiftCount_0 rfl (lv_at hl 0 rfl) ?_
  refine lv_iconst (v := 2) hx hb dX13_shiftCount_1 (by decide) ?_
  have hFc := va_free (wc := bMO k q th ea fa ch tn he en ln sv wr dg ++ bI83 k (q 1) v) hD hS hA [0, 1] rfl
  refine va_calli (va_runV (As := [.int 2]) (rest := []) hF (m_X13_tells l9 D k H.size q th ea fa ch tn he en ln sv wr dg v 2 (by omega)) (cwV 1 hts gX13_shiftCount_X13_tells rfl rfl rfl (by decide +kernel) ⟨Nat.le_of_ble_eq_true rfl, Nat.le_of_ble_eq_true rfl⟩) (wPreV hK hN hP hD [0, 1] rfl (by decide) rfl 0 11 rfl rfl) rfl rfl hl.1 rfl (lv_room (Nat.le_of_ble_eq_true rfl)) dX13_shiftCount_2 ⟨Nat.zero_le _, Nat.zero_le _⟩) hS (fun q _ h => hFc q h) hFc (fun r u9 t9 H1 locs ht hvm hw hB hz1 hk1 hS => ?_)
  obtain ⟨hP, hD⟩ := wjoin (wr := []) (wf := bMO k q 0 ea fa ch tn he en ln sv wr dg ++ bI83 k (q 1) v) hP hD [0, 1] [] [0, 1] rfl rfl (by decide) (by decide) hk1 hFc hB ht rfl rfl (by decide)
  subst hw
  clear hB hk1 hz1 hvm hFc
  clear ht
  clear t9
  generalize H1 = H at hP hS ⊢
  exact W.iret (v := v 2) hx hb hr (fun t9 ht hW => ⟨⟨_, (), rfl, (by rfl), ⟨by rw [ht]; exact hP, va_K.moved hW.alike hK, hD⟩⟩, hS.F ht⟩) hS.2.2 dX13_shiftCount_5 hlocks

set_option maxHeartbeats 4000000 in
set_option maxRecDepth 100000 in
theorem m_X13_scrams (l9 : Launch) (D : va_G) (k : Nat → ClassId) (sz : Nat) (q : Nat → Nat) (th ea fa : Int32) (ch tn he en ln : Nat) (sv wr dg : Bool) (v : Nat → Int32) : Met l9 yX13_scrams wsX13_scrams ({ frames := 1, cells := 0, slots := 0, locals := 21 }) (WPc D k [.ref (q 0)] (bMO k q th ea fa ch tn he en ln sv wr dg ++ bI83 k (q 1) v) sz) (WI D k (bMO k q 0 ea fa ch tn he en ln sv wr dg ++ bI83 k (q 1) v) (v 3) (va_A (bMO k q th ea fa ch tn he en ln sv wr dg ++ bI83 k (q 1) v) sz)) 0 0 (va_A (bMO k q th ea fa ch tn he en ln sv wr dg ++ bI83 k (q 1) v) sz) := by
  refine wMet (y := yX13_scrams) (cc := cX13_scrams) (maxL := 1) (ret := (some .int)) (Qc := fun A => WI D k (bMO k q 0 ea fa ch tn he en ln sv wr dg ++ bI83 k (q 1) v) (v 3) A) [.ref (q 0)] (by decide) rfl (Nat.le_of_ble_eq_true rfl) ?_
  intro p9 e9 s9 m9 bl9 me9 c9 ls A H hF hr hlocks hP hK hN hD hA hS hl hin
  have hl : lv_has ls 1 [(0, .ref (q 0))] := hl
  obtain ⟨hx, hb, hml, hown, hts⟩ := id hF
  refine lv_aload_n hx hb dX13_scrams_0 rfl (lv_at hl 0 rfl) ?_
  refine lv_iconst (v := 3) hx hb dX13_scrams_1 (by decide) ?_
  have hFc := va_free (wc := bMO k q th ea fa ch tn he en ln sv wr dg ++ bI83 k (q 1) v) hD hS hA [0, 1] rfl
  refine va_calli (va_runV (As := [.int 3]) (rest := []) hF (m_X13_tells l9 D k H.size q th ea fa ch tn he en ln sv wr dg v 3 (by omega)) (cwV 1 hts gX13_scrams_X13_tells rfl rfl rfl (by decide +kernel) ⟨Nat.le_of_ble_eq_true rfl, Nat.le_of_ble_eq_true rfl⟩) (wPreV hK hN hP hD [0, 1] rfl (by decide) rfl 0 11 rfl rfl) rfl rfl hl.1 rfl (lv_room (Nat.le_of_ble_eq_true rfl)) dX13_scrams_2 ⟨Nat.zero_le _, Nat.zero_le _⟩) hS (fun q _ h => hFc q h) hFc (fun r u9 t9 H1 locs ht hvm hw hB hz1 hk1 hS => ?_)
  obtain ⟨hP, hD⟩ := wjoin (wr := []) (wf := bMO k q 0 ea fa ch tn he en ln sv wr dg ++ bI83 k (q 1) v) hP hD [0, 1] [] [0, 1] rfl rfl (by decide) (by decide) hk1 hFc hB ht rfl rfl (by decide)
  subst hw
  clear hB hk1 hz1 hvm hFc
  clear ht
  clear t9
  generalize H1 = H at hP hS ⊢
  exact W.iret (v := v 3) hx hb hr (fun t9 ht hW => ⟨⟨_, (), rfl, (by rfl), ⟨by rw [ht]; exact hP, va_K.moved hW.alike hK, hD⟩⟩, hS.F ht⟩) hS.2.2 dX13_scrams_5 hlocks

set_option maxHeartbeats 4000000 in
set_option maxRecDepth 100000 in
theorem m_X13_logCount (l9 : Launch) (D : va_G) (k : Nat → ClassId) (sz : Nat) (q : Nat → Nat) (th ea fa : Int32) (ch tn he en ln : Nat) (sv wr dg : Bool) (v : Nat → Int32) : Met l9 yX13_logCount wsX13_logCount ({ frames := 1, cells := 0, slots := 0, locals := 21 }) (WPc D k [.ref (q 0)] (bMO k q th ea fa ch tn he en ln sv wr dg ++ bI83 k (q 1) v) sz) (WI D k (bMO k q 0 ea fa ch tn he en ln sv wr dg ++ bI83 k (q 1) v) (v 4) (va_A (bMO k q th ea fa ch tn he en ln sv wr dg ++ bI83 k (q 1) v) sz)) 0 0 (va_A (bMO k q th ea fa ch tn he en ln sv wr dg ++ bI83 k (q 1) v) sz) := by
  refine wMet (y := yX13_logCount) (cc := cX13_logCount) (maxL := 1) (ret := (some .int)) (Qc := fun A => WI D k (bMO k q 0 ea fa ch tn he en ln sv wr dg ++ bI83 k (q 1) v) (v 4) A) [.ref (q 0)] (by decide) rfl (Nat.le_of_ble_eq_true rfl) ?_
  intro p9 e9 s9 m9 bl9 me9 c9 ls A H hF hr hlocks hP hK hN hD hA hS hl hin
  have hl : lv_has ls 1 [(0, .ref (q 0))] := hl
  obtain ⟨hx, hb, hml, hown, hts⟩ := id hF
  refine lv_aload_n hx hb dX13_logCount_0 rfl (lv_at hl 0 rfl) ?_
  refine lv_iconst (v := 4) hx hb dX13_logCount_1 (by decide) ?_
  have hFc := va_free (wc := bMO k q th ea fa ch tn he en ln sv wr dg ++ bI83 k (q 1) v) hD hS hA [0, 1] rfl
  refine va_calli (va_runV (As := [.int 4]) (rest := []) hF (m_X13_tells l9 D k H.size q th ea fa ch tn he en ln sv wr dg v 4 (by omega)) (cwV 1 hts gX13_logCount_X13_tells rfl rfl rfl (by decide +kernel) ⟨Nat.le_of_ble_eq_true rfl, Nat.le_of_ble_eq_true rfl⟩) (wPreV hK hN hP hD [0, 1] rfl (by decide) rfl 0 11 rfl rfl) rfl rfl hl.1 rfl (lv_room (Nat.le_of_ble_eq_true rfl)) dX13_logCount_2 ⟨Nat.zero_le _, Nat.zero_le _⟩) hS (fun q _ h => hFc q h) hFc (fun r u9 t9 H1 locs ht hvm hw hB hz1 hk1 hS => ?_)
  obtain ⟨hP, hD⟩ := wjoin (wr := []) (wf := bMO k q 0 ea fa ch tn he en ln sv wr dg ++ bI83 k (q 1) v) hP hD [0, 1] [] [0, 1] rfl rfl (by decide) (by decide) hk1 hFc hB ht rfl rfl (by decide)
  subst hw
  clear hB hk1 hz1 hvm hFc
  clear ht
  clear t9
  generalize H1 = H at hP hS ⊢
  exact W.iret (v := v 4) hx hb hr (fun t9 ht hW => ⟨⟨_, (), rfl, (by rfl), ⟨by rw [ht]; exact hP, va_K.moved hW.alike hK, hD⟩⟩, hS.F ht⟩) hS.2.2 dX13_logCount_5 hlocks

set_option maxHeartbeats 4000000 in
set_option maxRecDepth 100000 in
theorem m_X13_weightOf (l9 : Launch) (D : va_G) (k : Nat → ClassId) (sz : Nat) (q : Nat → Nat) (th ea fa : Int32) (ch tn he en ln : Nat) (sv wr dg : Bool) (v : Nat → Int32) (n : Nat) (x : Int32) (hn : n ≤ 10) (hv0 : v 0 = nI n) : Met l9 yX13_weightOf wsX13_weightOf ({ frames := 3, cells := 0, slots := 0, locals := 64 }) (WPc D k [.ref (q 0), .int x] (bMO k q th ea fa ch tn he en ln sv wr dg ++ bI83 k (q 1) v) sz) (WI D k (bMO k q (if inC n x = true then 0 else 1) ea fa ch tn he en ln sv wr dg ++ bI83 k (q 1) v) (if inC n x = true then vw v x.toNatClampNeg else 0) (va_A (bMO k q th ea fa ch tn he en ln sv wr dg ++ bI83 k (q 1) v) sz)) 0 0 (va_A (bMO k q th ea fa ch tn he en ln sv wr dg ++ bI83 k (q 1) v) sz) := by
  refine wMet (y := yX13_weightOf) (cc := cX13_weightOf) (maxL := 2) (ret := (some .int)) (Qc := fun A => WI D k (bMO k q (if inC n x = true then 0 else 1) ea fa ch tn he en ln sv wr dg ++ bI83 k (q 1) v) (if inC n x = true then vw v x.toNatClampNeg else 0) A) [.ref (q 0), .int x] (by decide) rfl (Nat.le_of_ble_eq_true rfl) ?_
  intro p9 e9 s9 m9 bl9 me9 c9 ls A H hF hr hlocks hP hK hN hD hA hS hl hin
  have hl : lv_has ls 2 [(0, .ref (q 0)), (1, .int x)] := hl
  obtain ⟨hx, hb, hml, hown, hts⟩ := id hF
  have k_fieldLink_16 : (Cond.fieldLink RX13 16 "OpinionReactorModel" "v" "[I").before _ s9 = true := hts (.fieldLink RX13 16 "OpinionReactorModel" "v" "[I") (by decide +kernel)
  have kc_RX13 : ∀ w ∈ u_ws RX13 TX13 29, w ∈ wsX13_weightOf := by decide +kernel
  refine lv_aload_n hx hb dX13_weightOf_0 rfl (lv_at hl 0 rfl) ?_
  refine lv_iload_n hx hb dX13_weightOf_1 rfl (lv_at hl 1 rfl) ?_
  have hFc := va_free (wc := bMO k q th ea fa ch tn he en ln sv wr dg ++ bI83 k (q 1) v) hD hS hA [0, 1] rfl
  refine va_calli (va_runV (As := [.int x]) (rest := []) hF (m_X13_looks l9 D k H.size q th ea fa ch tn he en ln sv wr dg v n x hn hv0) (cwV 1 hts gX13_weightOf_X13_looks rfl rfl rfl (by decide +kernel) ⟨Nat.le_of_ble_eq_true rfl, Nat.le_of_ble_eq_true rfl⟩) (wPreV hK hN hP hD [0, 1] rfl (by decide) rfl 0 11 rfl rfl) rfl rfl hl.1 rfl (lv_room (Nat.le_of_ble_eq_true rfl)) dX13_weightOf_2 ⟨Nat.zero_le _, Nat.zero_le _⟩) hS (fun q _ h => hFc q h) hFc (fun r u9 t9 H1 locs ht hvm hw hB hz1 hk1 hS => ?_)
  obtain ⟨hP, hD⟩ := wjoin (wr := []) (wf := bMO k q (if inC n x = true then 0 else 1) ea fa ch tn he en ln sv wr dg ++ bI83 k (q 1) v) hP hD [0, 1] [] [0, 1] rfl rfl (by decide) (by decide) hk1 hFc hB ht rfl rfl (by decide)
  subst hw
  clear hB hk1 hz1 hvm hFc
  clear ht
  clear t9
  generalize H1 = H at hP hS ⊢
  refine lv_if_eq (tgt := 21) hx hb dX13_weightOf_5 (by decide) (fun c_1 => ?_) (fun c_1 => ?_)
  · skip
    have c_1 : (inC n x) = false := bI_0 c_1
    refine lv_iconst (v := 0) hx hb dX13_weightOf_21 (by decide) ?_
    exact W.iret (v := 0) hx hb hr (fun t9 ht hW => ⟨⟨_, (), rfl, (by (try simp only [vw]); (repeat (first | rw [if_pos (by first | assumption | exact Eq.trans (b := false) (by assumption) (Eq.symm (by assumption)) | exact Eq.trans (b := true) (by assumption) (Eq.symm (by assumption)) | exact ⟨by assumption, by assumption⟩ | exact Or.inl (by assumption) | exact Or.inr (by assumption) | exact Or.inr (Or.inl (by assumption)) | exact Or.inr (Or.inr (by assumption)) | (simp only [Int32.lt_iff_toInt_lt, Int32.le_iff_toInt_le, i32_0, i32_1, i32_2, i32_3, i32_4, i32_9, i32_10, i32_99, i32_100, i32_1000, i32_9999] at *; omega))] | rw [if_neg (by first | assumption | (rintro (h9 | h9 | h9) <;> contradiction) | (rintro (h9 | h9) <;> contradiction) | (intro h9; exact Bool.noConfusion (Eq.trans (c := false) h9.symm (by assumption))) | (rintro ⟨h8, h9⟩; exact Bool.noConfusion (Eq.trans (c := false) h8.symm (by assumption))) | (rintro ⟨h8, h9⟩; exact Bool.noConfusion (Eq.trans (c := false) h9.symm (by assumption))) | (simp only [Int32.lt_iff_toInt_lt, Int32.le_iff_toInt_le, i32_0, i32_1, i32_2, i32_3, i32_4, i32_9, i32_10, i32_99, i32_100, i32_1000, i32_9999] at *; omega))])); (try rfl)), ⟨by rw [ht]; exact hP, va_K.moved hW.alike hK, hD⟩⟩, hS.F ht⟩) hS.2.2 dX13_weightOf_22 hlocks
  · skip
    have c_1 : (inC n x) = true := bI_1 c_1
    obtain ⟨j, hj, rfl⟩ := inC_of hn c_1
    have clj : (nI j).toNatClampNeg = j := clN (by omega)
    refine lv_aload_n hx hb dX13_weightOf_8 rfl (lv_at hl 0 rfl) ?_
    refine va_get (D := D) (ci := 11) (v := .ref (q 1)) (C := RX13) (T := TX13) (N := 29) hx hb hts kc_RX13 hown hK hP 0 rfl rfl 5 (by decide) k_fieldLink_16 (fun _ h9 => h9) rfl dX13_weightOf_9 ?_
    refine lv_iload_n hx hb dX13_weightOf_12 rfl (lv_at hl 1 rfl) ?_
    refine lv_iconst (v := 0) hx hb dX13_weightOf_13 (by decide) ?_
    refine vp_callSi (W.runS (As := [.int (nI j), .int 0]) (rest := [.ref (q 1)]) hF (m_X13_of l9 D k j 0 ) (va_cwS 2 hts gX13_weightOf_X13_of rfl rfl rfl (by decide +kernel) ⟨Nat.le_of_ble_eq_true rfl, Nat.le_of_ble_eq_true rfl⟩) (rPreS hK hN hP [] rfl) rfl rfl hl.1 rfl (lv_room (Nat.le_of_ble_eq_true rfl)) dX13_weightOf_14 ⟨Nat.zero_le _, Nat.zero_le _⟩) (fun r_2 hr_2 => ?_)
    subst hr_2
    refine ia_ld hx hb hK hP 1 rfl (5 + 3 * j + 0) (by omega) (by decide) dX13_weightOf_17 ?_
    refine lv_goto (tgt := 22) hx hb dX13_weightOf_18 (by decide) ?_
    exact W.iret (v := v (5 + 3 * j + 0)) hx hb hr (fun t9 ht hW => ⟨⟨_, (), rfl, (by (try simp only [vw, clj]); (repeat (first | rw [if_pos (by first | assumption | exact Eq.trans (b := false) (by assumption) (Eq.symm (by assumption)) | exact Eq.trans (b := true) (by assumption) (Eq.symm (by assumption)) | exact ⟨by assumption, by assumption⟩ | exact Or.inl (by assumption) | exact Or.inr (by assumption) | exact Or.inr (Or.inl (by assumption)) | exact Or.inr (Or.inr (by assumption)) | (simp only [Int32.lt_iff_toInt_lt, Int32.le_iff_toInt_le, i32_0, i32_1, i32_2, i32_3, i32_4, i32_9, i32_10, i32_99, i32_100, i32_1000, i32_9999] at *; omega))] | rw [if_neg (by first | assumption | (rintro (h9 | h9 | h9) <;> contradiction) | (rintro (h9 | h9) <;> contradiction) | (intro h9; exact Bool.noConfusion (Eq.trans (c := false) h9.symm (by assumption))) | (rintro ⟨h8, h9⟩; exact Bool.noConfusion (Eq.trans (c := false) h8.symm (by assumption))) | (rintro ⟨h8, h9⟩; exact Bool.noConfusion (Eq.trans (c := false) h9.symm (by assumption))) | (simp only [Int32.lt_iff_toInt_lt, Int32.le_iff_toInt_le, i32_0, i32_1, i32_2, i32_3, i32_4, i32_9, i32_10, i32_99, i32_100, i32_1000, i32_9999] at *; omega))])); (try rfl)), ⟨by rw [ht]; exact hP, va_K.moved hW.alike hK, hD⟩⟩, hS.F ht⟩) hS.2.2 dX13_weightOf_22 hlocks

set_option maxHeartbeats 4000000 in
set_option maxRecDepth 100000 in
theorem m_X13_layerOf (l9 : Launch) (D : va_G) (k : Nat → ClassId) (sz : Nat) (q : Nat → Nat) (th ea fa : Int32) (ch tn he en ln : Nat) (sv wr dg : Bool) (v : Nat → Int32) (n : Nat) (x : Int32) (hn : n ≤ 10) (hv0 : v 0 = nI n) : Met l9 yX13_layerOf wsX13_layerOf ({ frames := 3, cells := 0, slots := 0, locals := 64 }) (WPc D k [.ref (q 0), .int x] (bMO k q th ea fa ch tn he en ln sv wr dg ++ bI83 k (q 1) v) sz) (WI D k (bMO k q (if inC n x = true then 0 else 1) ea fa ch tn he en ln sv wr dg ++ bI83 k (q 1) v) (if inC n x = true then vl v x.toNatClampNeg else 0) (va_A (bMO k q th ea fa ch tn he en ln sv wr dg ++ bI83 k (q 1) v) sz)) 0 0 (va_A (bMO k q th ea fa ch tn he en ln sv wr dg ++ bI83 k (q 1) v) sz) := by
  refine wMet (y := yX13_layerOf) (cc := cX13_layerOf) (maxL := 2) (ret := (some .int)) (Qc := fun A => WI D k (bMO k q (if inC n x = true then 0 else 1) ea fa ch tn he en ln sv wr dg ++ bI83 k (q 1) v) (if inC n x = true then vl v x.toNatClampNeg else 0) A) [.ref (q 0), .int x] (by decide) rfl (Nat.le_of_ble_eq_true rfl) ?_
  intro p9 e9 s9 m9 bl9 me9 c9 ls A H hF hr hlocks hP hK hN hD hA hS hl hin
  have hl : lv_has ls 2 [(0, .ref (q 0)), (1, .int x)] := hl
  obtain ⟨hx, hb, hml, hown, hts⟩ := id hF
  have k_fieldLink_16 : (Cond.fieldLink RX13 16 "OpinionReactorModel" "v" "[I").before _ s9 = true := hts (.fieldLink RX13 16 "OpinionReactorModel" "v" "[I") (by decide +kernel)
  have kc_RX13 : ∀ w ∈ u_ws RX13 TX13 29, w ∈ wsX13_layerOf := by decide +kernel
  refine lv_aload_n hx hb dX13_layerOf_0 rfl (lv_at hl 0 rfl) ?_
  refine lv_iload_n hx hb dX13_layerOf_1 rfl (lv_at hl 1 rfl) ?_
  have hFc := va_free (wc := bMO k q th ea fa ch tn he en ln sv wr dg ++ bI83 k (q 1) v) hD hS hA [0, 1] rfl
  refine va_calli (va_runV (As := [.int x]) (rest := []) hF (m_X13_looks l9 D k H.size q th ea fa ch tn he en ln sv wr dg v n x hn hv0) (cwV 1 hts gX13_layerOf_X13_looks rfl rfl rfl (by decide +kernel) ⟨Nat.le_of_ble_eq_true rfl, Nat.le_of_ble_eq_true rfl⟩) (wPreV hK hN hP hD [0, 1] rfl (by decide) rfl 0 11 rfl rfl) rfl rfl hl.1 rfl (lv_room (Nat.le_of_ble_eq_true rfl)) dX13_layerOf_2 ⟨Nat.zero_le _, Nat.zero_le _⟩) hS (fun q _ h => hFc q h) hFc (fun r u9 t9 H1 locs ht hvm hw hB hz1 hk1 hS => ?_)
  obtain ⟨hP, hD⟩ := wjoin (wr := []) (wf := bMO k q (if inC n x = true then 0 else 1) ea fa ch tn he en ln sv wr dg ++ bI83 k (q 1) v) hP hD [0, 1] [] [0, 1] rfl rfl (by decide) (by decide) hk1 hFc hB ht rfl rfl (by decide)
  subst hw
  clear hB hk1 hz1 hvm hFc
  clear ht
  clear t9
  generalize H1 = H at hP hS ⊢
  refine lv_if_eq (tgt := 21) hx hb dX13_layerOf_5 (by decide) (fun c_1 => ?_) (fun c_1 => ?_)
  · skip
    have c_1 : (inC n x) = false := bI_0 c_1
    refine lv_iconst (v := 0) hx hb dX13_layerOf_21 (by decide) ?_
    exact W.iret (v := 0) hx hb hr (fun t9 ht hW => ⟨⟨_, (), rfl, (by (try simp only [vl]); (repeat (first | rw [if_pos (by first | assumption | exact Eq.trans (b := false) (by assumption) (Eq.symm (by assumption)) | exact Eq.trans (b := true) (by assumption) (Eq.symm (by assumption)) | exact ⟨by assumption, by assumption⟩ | exact Or.inl (by assumption) | exact Or.inr (by assumption) | exact Or.inr (Or.inl (by assumption)) | exact Or.inr (Or.inr (by assumption)) | (simp only [Int32.lt_iff_toInt_lt, Int32.le_iff_toInt_le, i32_0, i32_1, i32_2, i32_3, i32_4, i32_9, i32_10, i32_99, i32_100, i32_1000, i32_9999] at *; omega))] | rw [if_neg (by first | assumption | (rintro (h9 | h9 | h9) <;> contradiction) | (rintro (h9 | h9) <;> contradiction) | (intro h9; exact Bool.noConfusion (Eq.trans (c := false) h9.symm (by assumption))) | (rintro ⟨h8, h9⟩; exact Bool.noConfusion (Eq.trans (c := false) h8.symm (by assumption))) | (rintro ⟨h8, h9⟩; exact Bool.noConfusion (Eq.trans (c := false) h9.symm (by assumption))) | (simp only [Int32.lt_iff_toInt_lt, Int32.le_iff_toInt_le, i32_0, i32_1, i32_2, i32_3, i32_4, i32_9, i32_10, i32_99, i32_100, i32_1000, i32_9999] at *; omega))])); (try rfl)), ⟨by rw [ht]; exact hP, va_K.moved hW.alike hK, hD⟩⟩, hS.F ht⟩) hS.2.2 dX13_layerOf_22 hlocks
  · skip
    have c_1 : (inC n x) = true := bI_1 c_1
    obtain ⟨j, hj, rfl⟩ := inC_of hn c_1
    have clj : (nI j).toNatClampNeg = j := clN (by omega)
    refine lv_aload_n hx hb dX13_layerOf_8 rfl (lv_at hl 0 rfl) ?_
    refine va_get (D := D) (ci := 11) (v := .ref (q 1)) (C := RX13) (T := TX13) (N := 29) hx hb hts kc_RX13 hown hK hP 0 rfl rfl 5 (by decide) k_fieldLink_16 (fun _ h9 => h9) rfl dX13_layerOf_9 ?_
    refine lv_iload_n hx hb dX13_layerOf_12 rfl (lv_at hl 1 rfl) ?_
    refine lv_iconst (v := 1) hx hb dX13_layerOf_13 (by decide) ?_
    refine vp_callSi (W.runS (As := [.int (nI j), .int 1]) (rest := [.ref (q 1)]) hF (m_X13_of l9 D k j 1 ) (va_cwS 2 hts gX13_layerOf_X13_of rfl rfl rfl (by decide +kernel) ⟨Nat.le_of_ble_eq_true rfl, Nat.le_of_ble_eq_true rfl⟩) (rPreS hK hN hP [] rfl) rfl rfl hl.1 rfl (lv_room (Nat.le_of_ble_eq_true rfl)) dX13_layerOf_14 ⟨Nat.zero_le _, Nat.zero_le _⟩) (fun r_2 hr_2 => ?_)
    subst hr_2
    refine ia_ld hx hb hK hP 1 rfl (5 + 3 * j + 1) (by omega) (by decide) dX13_layerOf_17 ?_
    refine lv_goto (tgt := 22) hx hb dX13_layerOf_18 (by decide) ?_
    exact W.iret (v := v (5 + 3 * j + 1)) hx hb hr (fun t9 ht hW => ⟨⟨_, (), rfl, (by (try simp only [vl, clj]); (repeat (first | rw [if_pos (by first | assumption | exact Eq.trans (b := false) (by assumption) (Eq.symm (by assumption)) | exact Eq.trans (b := true) (by assumption) (Eq.symm (by assumption)) | exact ⟨by assumption, by assumption⟩ | exact Or.inl (by assumption) | exact Or.inr (by assumption) | exact Or.inr (Or.inl (by assumption)) | exact Or.inr (Or.inr (by assumption)) | (simp only [Int32.lt_iff_toInt_lt, Int32.le_iff_toInt_le, i32_0, i32_1, i32_2, i32_3, i32_4, i32_9, i32_10, i32_99, i32_100, i32_1000, i32_9999] at *; omega))] | rw [if_neg (by first | assumption | (rintro (h9 | h9 | h9) <;> contradiction) | (rintro (h9 | h9) <;> contradiction) | (intro h9; exact Bool.noConfusion (Eq.trans (c := false) h9.symm (by assumption))) | (rintro ⟨h8, h9⟩; exact Bool.noConfusion (Eq.trans (c := false) h8.symm (by assumption))) | (rintro ⟨h8, h9⟩; exact Bool.noConfusion (Eq.trans (c := false) h9.symm (by assumption))) | (simp only [Int32.lt_iff_toInt_lt, Int32.le_iff_toInt_le, i32_0, i32_1, i32_2, i32_3, i32_4, i32_9, i32_10, i32_99, i32_100, i32_1000, i32_9999] at *; omega))])); (try rfl)), ⟨by rw [ht]; exact hP, va_K.moved hW.alike hK, hD⟩⟩, hS.F ht⟩) hS.2.2 dX13_layerOf_22 hlocks

set_option maxHeartbeats 4000000 in
set_option maxRecDepth 100000 in
theorem m_X13_attacks (l9 : Launch) (D : va_G) (k : Nat → ClassId) (sz : Nat) (q : Nat → Nat) (th ea fa : Int32) (ch tn he en ln : Nat) (sv wr dg : Bool) (v : Nat → Int32) (n : Nat) (x y : Int32) (hn : n ≤ 10) (hv0 : v 0 = nI n) : Met l9 yX13_attacks wsX13_attacks ({ frames := 2, cells := 0, slots := 0, locals := 43 }) (WPc D k [.ref (q 0), .int x, .int y] (bMO k q th ea fa ch tn he en ln sv wr dg ++ bI83 k (q 1) v) sz) (WI D k (bMO k q (if inC n x = true ∧ inC n y = true then 0 else 1) ea fa ch tn he en ln sv wr dg ++ bI83 k (q 1) v) (if inC n x = true ∧ inC n y = true then bI (tb (vt v x.toNatClampNeg) y.toNatClampNeg) else 0) (va_A (bMO k q th ea fa ch tn he en ln sv wr dg ++ bI83 k (q 1) v) sz)) 0 0 (va_A (bMO k q th ea fa ch tn he en ln sv wr dg ++ bI83 k (q 1) v) sz) := by
  refine wMet (y := yX13_attacks) (cc := cX13_attacks) (maxL := 3) (ret := (some .boolean)) (Qc := fun A => WI D k (bMO k q (if inC n x = true ∧ inC n y = true then 0 else 1) ea fa ch tn he en ln sv wr dg ++ bI83 k (q 1) v) (if inC n x = true ∧ inC n y = true then bI (tb (vt v x.toNatClampNeg) y.toNatClampNeg) else 0) A) [.ref (q 0), .int x, .int y] (by decide) rfl (Nat.le_of_ble_eq_true rfl) ?_
  intro p9 e9 s9 m9 bl9 me9 c9 ls A H hF hr hlocks hP hK hN hD hA hS hl hin
  have hl : lv_has ls 3 [(0, .ref (q 0)), (1, .int x), (2, .int y)] := hl
  obtain ⟨hx, hb, hml, hown, hts⟩ := id hF
  have k_fieldLink_77 : (Cond.fieldLink RX13 77 "OpinionReactorModel" "thrown" "I").before _ s9 = true := hts (.fieldLink RX13 77 "OpinionReactorModel" "thrown" "I") (by decide +kernel)
  have kc_RX13 : ∀ w ∈ u_ws RX13 TX13 29, w ∈ wsX13_attacks := by decide +kernel
  refine lv_aload_n hx hb dX13_attacks_0 rfl (lv_at hl 0 rfl) ?_
  refine lv_aload_n hx hb dX13_attacks_1 rfl (lv_at hl 0 rfl) ?_
  refine lv_iload_n hx hb dX13_attacks_2 rfl (lv_at hl 1 rfl) ?_
  refine vp_callSi (W.runV (As := [.int x]) (rest := [.ref (q 0)]) hF (m_X13_isClaim l9 D k q th ea fa ch tn he en ln sv wr dg v n x hn hv0) (cwV 1 hts gX13_attacks_X13_isClaim rfl rfl rfl (by decide +kernel) ⟨Nat.le_of_ble_eq_true rfl, Nat.le_of_ble_eq_true rfl⟩) (rPreV hK hN hP [0, 1] rfl 0 11 rfl rfl) rfl rfl hl.1 rfl (lv_room (Nat.le_of_ble_eq_true rfl)) dX13_attacks_3 ⟨Nat.zero_le _, Nat.zero_le _⟩) (fun r_1 hr_1 => ?_)
  subst hr_1
  refine lv_if_eq (tgt := 21) hx hb dX13_attacks_6 (by decide) (fun c_2 => ?_) (fun c_2 => ?_)
  · skip
    have c_2 : (inC n x) = false := bI_0 c_2
    refine lv_iconst (v := 1) hx hb dX13_attacks_21 (by decide) ?_
    refine va_put (D := D) (ci := 11) (v := .int 1) (ty := .int) (C := RX13) (T := TX13) (N := 29) hx hb hts kc_RX13 tyX13 tyX13_ok nmX13 hown hK hP hD hS 0 rfl rfl 0 (by decide) k_fieldLink_77 (fun _ h9 => h9) rfl (by decide +kernel) rfl rfl (Nat.le_of_ble_eq_true rfl) dX13_attacks_22 (fun H locs hP hD hS => ?_)
    have hP : va_P D vwCl (bMO k q 1 ea fa ch tn he en ln sv wr dg ++ bI83 k (q 1) v) H := hP
    have hD : va_D A (bMO k q 1 ea fa ch tn he en ln sv wr dg ++ bI83 k (q 1) v) := hD
    refine lv_aload_n hx hb dX13_attacks_25 rfl (lv_at hl 0 rfl) ?_
    refine va_get (D := D) (ci := 11) (v := .int 1) (C := RX13) (T := TX13) (N := 29) hx hb hts kc_RX13 hown hK hP 0 rfl rfl 0 (by decide) k_fieldLink_77 (fun _ h9 => h9) rfl dX13_attacks_26 ?_
    refine lv_if_ne (tgt := 45) hx hb dX13_attacks_29 (by decide) (fun c_3 => ?_) (fun c_3 => ?_)
    · skip
      refine lv_iconst (v := 0) hx hb dX13_attacks_45 (by decide) ?_
      have e_4 : (1 : Int32) = if inC n x = true ∧ inC n y = true then 0 else 1 := by first | (with_reducible rfl) | ((try simp only []); (repeat (first | rw [if_pos (by first | assumption | exact Eq.trans (b := false) (by assumption) (Eq.symm (by assumption)) | exact Eq.trans (b := true) (by assumption) (Eq.symm (by assumption)) | exact ⟨by assumption, by assumption⟩ | exact Or.inl (by assumption) | exact Or.inr (by assumption) | exact Or.inr (Or.inl (by assumption)) | exact Or.inr (Or.inr (by assumption)) | (simp only [Int32.lt_iff_toInt_lt, Int32.le_iff_toInt_le, i32_0, i32_1, i32_2, i32_3, i32_4, i32_9, i32_10, i32_99, i32_100, i32_1000, i32_9999] at *; omega))] | rw [if_neg (by first | assumption | (rintro (h9 | h9 | h9) <;> contradiction) | (rintro (h9 | h9) <;> contradiction) | (intro h9; exact Bool.noConfusion (Eq.trans (c := false) h9.symm (by assumption))) | (rintro ⟨h8, h9⟩; exact Bool.noConfusion (Eq.trans (c := false) h8.symm (by assumption))) | (rintro ⟨h8, h9⟩; exact Bool.noConfusion (Eq.trans (c := false) h9.symm (by assumption))) | (simp only [Int32.lt_iff_toInt_lt, Int32.le_iff_toInt_le, i32_0, i32_1, i32_2, i32_3, i32_4, i32_9, i32_10, i32_99, i32_100, i32_1000, i32_9999] at *; omega))])); (try rfl); (try (rw [c_2]; rfl)))
      have hP := Eq.mp (congrArg (fun z9 => va_P D vwCl (bMO k q z9 ea fa ch tn he en ln sv wr dg ++ bI83 k (q 1) v) H) e_4) hP
      have hD := Eq.mp (congrArg (fun z9 => va_D A (bMO k q z9 ea fa ch tn he en ln sv wr dg ++ bI83 k (q 1) v)) e_4) hD
      exact W.zret (v := 0) hx hb hr (rfl) (fun t9 ht hW => ⟨⟨_, (), rfl, (by (try simp only []); (repeat (first | rw [if_pos (by first | assumption | exact Eq.trans (b := false) (by assumption) (Eq.symm (by assumption)) | exact Eq.trans (b := true) (by assumption) (Eq.symm (by assumption)) | exact ⟨by assumption, by assumption⟩ | exact Or.inl (by assumption) | exact Or.inr (by assumption) | exact Or.inr (Or.inl (by assumption)) | exact Or.inr (Or.inr (by assumption)) | (simp only [Int32.lt_iff_toInt_lt, Int32.le_iff_toInt_le, i32_0, i32_1, i32_2, i32_3, i32_4, i32_9, i32_10, i32_99, i32_100, i32_1000, i32_9999] at *; omega))] | rw [if_neg (by first | assumption | (rintro (h9 | h9 | h9) <;> contradiction) | (rintro (h9 | h9) <;> contradiction) | (intro h9; exact Bool.noConfusion (Eq.trans (c := false) h9.symm (by assumption))) | (rintro ⟨h8, h9⟩; exact Bool.noConfusion (Eq.trans (c := false) h8.symm (by assumption))) | (rintro ⟨h8, h9⟩; exact Bool.noConfusion (Eq.trans (c := false) h9.symm (by assumption))) | (simp only [Int32.lt_iff_toInt_lt, Int32.le_iff_toInt_le, i32_0, i32_1, i32_2, i32_3, i32_4, i32_9, i32_10, i32_99, i32_100, i32_1000, i32_9999] at *; omega))])); (try rfl); (try (rw [c_2]; rfl))), ⟨by rw [ht]; exact hP, va_K.moved hW.alike hK, hD⟩⟩, hS.F ht⟩) hS.2.2 dX13_attacks_46 hlocks
    · first | exact absurd c_3 (by decide) | exact absurd (by decide) c_3
  · skip
    have c_2 : (inC n x) = true := bI_1 c_2
    obtain ⟨j, hj, rfl⟩ := inC_of hn c_2
    have clj : (nI j).toNatClampNeg = j := clN (by omega)
    refine lv_aload_n hx hb dX13_attacks_9 rfl (lv_at hl 0 rfl) ?_
    refine lv_iload_n hx hb dX13_attacks_10 rfl (lv_at hl 2 rfl) ?_
    refine vp_callSi (W.runV (As := [.int y]) (rest := [.ref (q 0)]) hF (m_X13_isClaim l9 D k q th ea fa ch tn he en ln sv wr dg v n y hn hv0) (cwV 1 hts gX13_attacks_X13_isClaim rfl rfl rfl (by decide +kernel) ⟨Nat.le_of_ble_eq_true rfl, Nat.le_of_ble_eq_true rfl⟩) (rPreV hK hN hP [0, 1] rfl 0 11 rfl rfl) rfl rfl hl.1 rfl (lv_room (Nat.le_of_ble_eq_true rfl)) dX13_attacks_11 ⟨Nat.zero_le _, Nat.zero_le _⟩) (fun r_5 hr_5 => ?_)
    subst hr_5
    refine lv_if_eq (tgt := 21) hx hb dX13_attacks_14 (by decide) (fun c_6 => ?_) (fun c_6 => ?_)
    · skip
      have c_6 : (inC n y) = false := bI_0 c_6
      refine lv_iconst (v := 1) hx hb dX13_attacks_21 (by decide) ?_
      refine va_put (D := D) (ci := 11) (v := .int 1) (ty := .int) (C := RX13) (T := TX13) (N := 29) hx hb hts kc_RX13 tyX13 tyX13_ok nmX13 hown hK hP hD hS 0 rfl rfl 0 (by decide) k_fieldLink_77 (fun _ h9 => h9) rfl (by decide +kernel) rfl rfl (Nat.le_of_ble_eq_true rfl) dX13_attacks_22 (fun H locs hP hD hS => ?_)
      have hP : va_P D vwCl (bMO k q 1 ea fa ch tn he en ln sv wr dg ++ bI83 k (q 1) v) H := hP
      have hD : va_D A (bMO k q 1 ea fa ch tn he en ln sv wr dg ++ bI83 k (q 1) v) := hD
      refine lv_aload_n hx hb dX13_attacks_25 rfl (lv_at hl 0 rfl) ?_
      refine va_get (D := D) (ci := 11) (v := .int 1) (C := RX13) (T := TX13) (N := 29) hx hb hts kc_RX13 hown hK hP 0 rfl rfl 0 (by decide) k_fieldLink_77 (fun _ h9 => h9) rfl dX13_attacks_26 ?_
      refine lv_if_ne (tgt := 45) hx hb dX13_attacks_29 (by decide) (fun c_7 => ?_) (fun c_7 => ?_)
      · skip
        refine lv_iconst (v := 0) hx hb dX13_attacks_45 (by decide) ?_
        have e_8 : (1 : Int32) = if inC n (nI j) = true ∧ inC n y = true then 0 else 1 := by first | (with_reducible rfl) | ((try simp only [clj]); (repeat (first | rw [if_pos (by first | assumption | exact Eq.trans (b := false) (by assumption) (Eq.symm (by assumption)) | exact Eq.trans (b := true) (by assumption) (Eq.symm (by assumption)) | exact ⟨by assumption, by assumption⟩ | exact Or.inl (by assumption) | exact Or.inr (by assumption) | exact Or.inr (Or.inl (by assumption)) | exact Or.inr (Or.inr (by assumption)) | (simp only [Int32.lt_iff_toInt_lt, Int32.le_iff_toInt_le, i32_0, i32_1, i32_2, i32_3, i32_4, i32_9, i32_10, i32_99, i32_100, i32_1000, i32_9999] at *; omega))] | rw [if_neg (by first | assumption | (rintro (h9 | h9 | h9) <;> contradiction) | (rintro (h9 | h9) <;> contradiction) | (intro h9; exact Bool.noConfusion (Eq.trans (c := false) h9.symm (by assumption))) | (rintro ⟨h8, h9⟩; exact Bool.noConfusion (Eq.trans (c := false) h8.symm (by assumption))) | (rintro ⟨h8, h9⟩; exact Bool.noConfusion (Eq.trans (c := false) h9.symm (by assumption))) | (simp only [Int32.lt_iff_toInt_lt, Int32.le_iff_toInt_le, i32_0, i32_1, i32_2, i32_3, i32_4, i32_9, i32_10, i32_99, i32_100, i32_1000, i32_9999] at *; omega))])); (try rfl); (try (rw [c_6]; rfl)))
        have hP := Eq.mp (congrArg (fun z9 => va_P D vwCl (bMO k q z9 ea fa ch tn he en ln sv wr dg ++ bI83 k (q 1) v) H) e_8) hP
        have hD := Eq.mp (congrArg (fun z9 => va_D A (bMO k q z9 ea fa ch tn he en ln sv wr dg ++ bI83 k (q 1) v)) e_8) hD
        exact W.zret (v := 0) hx hb hr (rfl) (fun t9 ht hW => ⟨⟨_, (), rfl, (by (try simp only [clj]); (repeat (first | rw [if_pos (by first | assumption | exact Eq.trans (b := false) (by assumption) (Eq.symm (by assumption)) | exact Eq.trans (b := true) (by assumption) (Eq.symm (by assumption)) | exact ⟨by assumption, by assumption⟩ | exact Or.inl (by assumption) | exact Or.inr (by assumption) | exact Or.inr (Or.inl (by assumption)) | exact Or.inr (Or.inr (by assumption)) | (simp only [Int32.lt_iff_toInt_lt, Int32.le_iff_toInt_le, i32_0, i32_1, i32_2, i32_3, i32_4, i32_9, i32_10, i32_99, i32_100, i32_1000, i32_9999] at *; omega))] | rw [if_neg (by first | assumption | (rintro (h9 | h9 | h9) <;> contradiction) | (rintro (h9 | h9) <;> contradiction) | (intro h9; exact Bool.noConfusion (Eq.trans (c := false) h9.symm (by assumption))) | (rintro ⟨h8, h9⟩; exact Bool.noConfusion (Eq.trans (c := false) h8.symm (by assumption))) | (rintro ⟨h8, h9⟩; exact Bool.noConfusion (Eq.trans (c := false) h9.symm (by assumption))) | (simp only [Int32.lt_iff_toInt_lt, Int32.le_iff_toInt_le, i32_0, i32_1, i32_2, i32_3, i32_4, i32_9, i32_10, i32_99, i32_100, i32_1000, i32_9999] at *; omega))])); (try rfl); (try (rw [c_6]; rfl))), ⟨by rw [ht]; exact hP, va_K.moved hW.alike hK, hD⟩⟩, hS.F ht⟩) hS.2.2 dX13_attacks_46 hlocks
      · first | exact absurd c_7 (by decide) | exact absurd (by decide) c_7
    · skip
      have c_6 : (inC n y) = true := bI_1 c_6
      obtain ⟨i, hi, rfl⟩ := inC_of hn c_6
      have cli : (nI i).toNatClampNeg = i := clN (by omega)
      refine lv_iconst (v := 0) hx hb dX13_attacks_17 (by decide) ?_
      refine lv_goto (tgt := 22) hx hb dX13_attacks_18 (by decide) ?_
      refine va_put (D := D) (ci := 11) (v := .int 0) (ty := .int) (C := RX13) (T := TX13) (N := 29) hx hb hts kc_RX13 tyX13 tyX13_ok nmX13 hown hK hP hD hS 0 rfl rfl 0 (by decide) k_fieldLink_77 (fun _ h9 => h9) rfl (by decide +kernel) rfl rfl (Nat.le_of_ble_eq_true rfl) dX13_attacks_22 (fun H locs hP hD hS => ?_)
      have hP : va_P D vwCl (bMO k q 0 ea fa ch tn he en ln sv wr dg ++ bI83 k (q 1) v) H := hP
      have hD : va_D A (bMO k q 0 ea fa ch tn he en ln sv wr dg ++ bI83 k (q 1) v) := hD
      refine lv_aload_n hx hb dX13_attacks_25 rfl (lv_at hl 0 rfl) ?_
      refine va_get (D := D) (ci := 11) (v := .int 0) (C := RX13) (T := TX13) (N := 29) hx hb hts kc_RX13 hown hK hP 0 rfl rfl 0 (by decide) k_fieldLink_77 (fun _ h9 => h9) rfl dX13_attacks_26 ?_
      refine lv_if_ne (tgt := 45) hx hb dX13_attacks_29 (by decide) (fun c_9 => ?_) (fun c_9 => ?_)
      · first | exact absurd c_9 (by decide) | exact absurd (by decide) c_9
      · skip
        refine lv_aload_n hx hb dX13_attacks_32 rfl (lv_at hl 0 rfl) ?_
        refine lv_iload_n hx hb dX13_attacks_33 rfl (lv_at hl 1 rfl) ?_
        refine lv_iload_n hx hb dX13_attacks_34 rfl (lv_at hl 2 rfl) ?_
        refine vp_callSi (W.runV (As := [.int (nI j), .int (nI i)]) (rest := []) hF (m_X13_hits l9 D k q 0 ea fa ch tn he en ln sv wr dg v n j i hn hv0 (by omega) (by omega)) (cwV 2 hts gX13_attacks_X13_hits rfl rfl rfl (by decide +kernel) ⟨Nat.le_of_ble_eq_true rfl, Nat.le_of_ble_eq_true rfl⟩) (rPreV hK hN hP [0, 1] rfl 0 11 rfl rfl) rfl rfl hl.1 rfl (lv_room (Nat.le_of_ble_eq_true rfl)) dX13_attacks_35 ⟨Nat.zero_le _, Nat.zero_le _⟩) (fun r_10 hr_10 => ?_)
        subst hr_10
        refine lv_if_eq (tgt := 45) hx hb dX13_attacks_38 (by decide) (fun c_11 => ?_) (fun c_11 => ?_)
        · skip
          have c_11 : (tb (vt v j) i) = false := bI_0 c_11
          refine lv_iconst (v := 0) hx hb dX13_attacks_45 (by decide) ?_
          have e_12 : (0 : Int32) = if inC n (nI j) = true ∧ inC n (nI i) = true then 0 else 1 := by first | (with_reducible rfl) | ((try simp only [clj, cli]); (repeat (first | rw [if_pos (by first | assumption | exact Eq.trans (b := false) (by assumption) (Eq.symm (by assumption)) | exact Eq.trans (b := true) (by assumption) (Eq.symm (by assumption)) | exact ⟨by assumption, by assumption⟩ | exact Or.inl (by assumption) | exact Or.inr (by assumption) | exact Or.inr (Or.inl (by assumption)) | exact Or.inr (Or.inr (by assumption)) | (simp only [Int32.lt_iff_toInt_lt, Int32.le_iff_toInt_le, i32_0, i32_1, i32_2, i32_3, i32_4, i32_9, i32_10, i32_99, i32_100, i32_1000, i32_9999] at *; omega))] | rw [if_neg (by first | assumption | (rintro (h9 | h9 | h9) <;> contradiction) | (rintro (h9 | h9) <;> contradiction) | (intro h9; exact Bool.noConfusion (Eq.trans (c := false) h9.symm (by assumption))) | (rintro ⟨h8, h9⟩; exact Bool.noConfusion (Eq.trans (c := false) h8.symm (by assumption))) | (rintro ⟨h8, h9⟩; exact Bool.noConfusion (Eq.trans (c := false) h9.symm (by assumption))) | (simp only [Int32.lt_iff_toInt_lt, Int32.le_iff_toInt_le, i32_0, i32_1, i32_2, i32_3, i32_4, i32_9, i32_10, i32_99, i32_100, i32_1000, i32_9999] at *; omega))])); (try rfl); (try (rw [c_11]; rfl)))
          have hP := Eq.mp (congrArg (fun z9 => va_P D vwCl (bMO k q z9 ea fa ch tn he en ln sv wr dg ++ bI83 k (q 1) v) H) e_12) hP
          have hD := Eq.mp (congrArg (fun z9 => va_D A (bMO k q z9 ea fa ch tn he en ln sv wr dg ++ bI83 k (q 1) v)) e_12) hD
          exact W.zret (v := 0) hx hb hr (rfl) (fun t9 ht hW => ⟨⟨_, (), rfl, (by (try simp only [clj, cli]); (repeat (first | rw [if_pos (by first | assumption | exact Eq.trans (b := false) (by assumption) (Eq.symm (by assumption)) | exact Eq.trans (b := true) (by assumption) (Eq.symm (by assumption)) | exact ⟨by assumption, by assumption⟩ | exact Or.inl (by assumption) | exact Or.inr (by assumption) | exact Or.inr (Or.inl (by assumption)) | exact Or.inr (Or.inr (by assumption)) | (simp only [Int32.lt_iff_toInt_lt, Int32.le_iff_toInt_le, i32_0, i32_1, i32_2, i32_3, i32_4, i32_9, i32_10, i32_99, i32_100, i32_1000, i32_9999] at *; omega))] | rw [if_neg (by first | assumption | (rintro (h9 | h9 | h9) <;> contradiction) | (rintro (h9 | h9) <;> contradiction) | (intro h9; exact Bool.noConfusion (Eq.trans (c := false) h9.symm (by assumption))) | (rintro ⟨h8, h9⟩; exact Bool.noConfusion (Eq.trans (c := false) h8.symm (by assumption))) | (rintro ⟨h8, h9⟩; exact Bool.noConfusion (Eq.trans (c := false) h9.symm (by assumption))) | (simp only [Int32.lt_iff_toInt_lt, Int32.le_iff_toInt_le, i32_0, i32_1, i32_2, i32_3, i32_4, i32_9, i32_10, i32_99, i32_100, i32_1000, i32_9999] at *; omega))])); (try rfl); (try (rw [c_11]; rfl))), ⟨by rw [ht]; exact hP, va_K.moved hW.alike hK, hD⟩⟩, hS.F ht⟩) hS.2.2 dX13_attacks_46 hlocks
        · skip
          have c_11 : (tb (vt v j) i) = true := bI_1 c_11
          refine lv_iconst (v := 1) hx hb dX13_attacks_41 (by decide) ?_
          refine lv_goto (tgt := 46) hx hb dX13_attacks_42 (by decide) ?_
          have e_13 : (0 : Int32) = if inC n (nI j) = true ∧ inC n (nI i) = true then 0 else 1 := by first | (with_reducible rfl) | ((try simp only [clj, cli]); (repeat (first | rw [if_pos (by first | assumption | exact Eq.trans (b := false) (by assumption) (Eq.symm (by assumption)) | exact Eq.trans (b := true) (by assumption) (Eq.symm (by assumption)) | exact ⟨by assumption, by assumption⟩ | exact Or.inl (by assumption) | exact Or.inr (by assumption) | exact Or.inr (Or.inl (by assumption)) | exact Or.inr (Or.inr (by assumption)) | (simp only [Int32.lt_iff_toInt_lt, Int32.le_iff_toInt_le, i32_0, i32_1, i32_2, i32_3, i32_4, i32_9, i32_10, i32_99, i32_100, i32_1000, i32_9999] at *; omega))] | rw [if_neg (by first | assumption | (rintro (h9 | h9 | h9) <;> contradiction) | (rintro (h9 | h9) <;> contradiction) | (intro h9; exact Bool.noConfusion (Eq.trans (c := false) h9.symm (by assumption))) | (rintro ⟨h8, h9⟩; exact Bool.noConfusion (Eq.trans (c := false) h8.symm (by assumption))) | (rintro ⟨h8, h9⟩; exact Bool.noConfusion (Eq.trans (c := false) h9.symm (by assumption))) | (simp only [Int32.lt_iff_toInt_lt, Int32.le_iff_toInt_le, i32_0, i32_1, i32_2, i32_3, i32_4, i32_9, i32_10, i32_99, i32_100, i32_1000, i32_9999] at *; omega))])); (try rfl); (try (rw [c_11]; rfl)))
          have hP := Eq.mp (congrArg (fun z9 => va_P D vwCl (bMO k q z9 ea fa ch tn he en ln sv wr dg ++ bI83 k (q 1) v) H) e_13) hP
          have hD := Eq.mp (congrArg (fun z9 => va_D A (bMO k q z9 ea fa ch tn he en ln sv wr dg ++ bI83 k (q 1) v)) e_13) hD
          exact W.zret (v := 1) hx hb hr (rfl) (fun t9 ht hW => ⟨⟨_, (), rfl, (by (try simp only [clj, cli]); (repeat (first | rw [if_pos (by first | assumption | exact Eq.trans (b := false) (by assumption) (Eq.symm (by assumption)) | exact Eq.trans (b := true) (by assumption) (Eq.symm (by assumption)) | exact ⟨by assumption, by assumption⟩ | exact Or.inl (by assumption) | exact Or.inr (by assumption) | exact Or.inr (Or.inl (by assumption)) | exact Or.inr (Or.inr (by assumption)) | (simp only [Int32.lt_iff_toInt_lt, Int32.le_iff_toInt_le, i32_0, i32_1, i32_2, i32_3, i32_4, i32_9, i32_10, i32_99, i32_100, i32_1000, i32_9999] at *; omega))] | rw [if_neg (by first | assumption | (rintro (h9 | h9 | h9) <;> contradiction) | (rintro (h9 | h9) <;> contradiction) | (intro h9; exact Bool.noConfusion (Eq.trans (c := false) h9.symm (by assumption))) | (rintro ⟨h8, h9⟩; exact Bool.noConfusion (Eq.trans (c := false) h8.symm (by assumption))) | (rintro ⟨h8, h9⟩; exact Bool.noConfusion (Eq.trans (c := false) h9.symm (by assumption))) | (simp only [Int32.lt_iff_toInt_lt, Int32.le_iff_toInt_le, i32_0, i32_1, i32_2, i32_3, i32_4, i32_9, i32_10, i32_99, i32_100, i32_1000, i32_9999] at *; omega))])); (try rfl); (try (rw [c_11]; rfl))), ⟨by rw [ht]; exact hP, va_K.moved hW.alike hK, hD⟩⟩, hS.F ht⟩) hS.2.2 dX13_attacks_46 hlocks

set_option maxHeartbeats 4000000 in
set_option maxRecDepth 100000 in
theorem m_X13_acceptedBits (l9 : Launch) (D : va_G) (k : Nat → ClassId) (sz : Nat) (q : Nat → Nat) (th ea fa : Int32) (ch tn he en ln : Nat) (sv wr dg : Bool) (v : Nat → Int32) (n : Nat) (hn : n ≤ 10) (hv0 : v 0 = nI n) : Met l9 yX13_acceptedBits wsX13_acceptedBits ({ frames := 4, cells := 0, slots := 0, locals := 91 }) (WPc D k [.ref (q 0)] (bMO k q th ea fa ch tn he en ln sv wr dg ++ bI83 k (q 1) v) sz) (WI D k (bMO k q 0 ea fa ch tn he en ln sv wr dg ++ bI83 k (q 1) v) (accM n (vt v)) (va_A (bMO k q th ea fa ch tn he en ln sv wr dg ++ bI83 k (q 1) v) sz)) 0 0 (va_A (bMO k q th ea fa ch tn he en ln sv wr dg ++ bI83 k (q 1) v) sz) := by
  refine wMet (y := yX13_acceptedBits) (cc := cX13_acceptedBits) (maxL := 1) (ret := (some .int)) (Qc := fun A => WI D k (bMO k q 0 ea fa ch tn he en ln sv wr dg ++ bI83 k (q 1) v) (accM n (vt v)) A) [.ref (q 0)] (by decide) rfl (Nat.le_of_ble_eq_true rfl) ?_
  intro p9 e9 s9 m9 bl9 me9 c9 ls A H hF hr hlocks hP hK hN hD hA hS hl hin
  have hl : lv_has ls 1 [(0, .ref (q 0))] := hl
  obtain ⟨hx, hb, hml, hown, hts⟩ := id hF
  have k_fieldLink_77 : (Cond.fieldLink RX13 77 "OpinionReactorModel" "thrown" "I").before _ s9 = true := hts (.fieldLink RX13 77 "OpinionReactorModel" "thrown" "I") (by decide +kernel)
  have kc_RX13 : ∀ w ∈ u_ws RX13 TX13 29, w ∈ wsX13_acceptedBits := by decide +kernel
  refine lv_aload_n hx hb dX13_acceptedBits_0 rfl (lv_at hl 0 rfl) ?_
  refine lv_iconst (v := 0) hx hb dX13_acceptedBits_1 (by decide) ?_
  refine va_put (D := D) (ci := 11) (v := .int 0) (ty := .int) (C := RX13) (T := TX13) (N := 29) hx hb hts kc_RX13 tyX13 tyX13_ok nmX13 hown hK hP hD hS 0 rfl rfl 0 (by decide) k_fieldLink_77 (fun _ h9 => h9) rfl (by decide +kernel) rfl rfl (Nat.le_of_ble_eq_true rfl) dX13_acceptedBits_2 (fun H locs hP hD hS => ?_)
  have hP : va_P D vwCl (bMO k q 0 ea fa ch tn he en ln sv wr dg ++ bI83 k (q 1) v) H := hP
  have hD : va_D A (bMO k q 0 ea fa ch tn he en ln sv wr dg ++ bI83 k (q 1) v) := hD
  refine lv_aload_n hx hb dX13_acceptedBits_5 rfl (lv_at hl 0 rfl) ?_
  refine vp_callSi (W.runV (As := []) (rest := []) hF (m_X13_accepted l9 D k q 0 ea fa ch tn he en ln sv wr dg v n hn hv0) (cwV 0 hts gX13_acceptedBits_X13_accepted rfl rfl rfl (by decide +kernel) ⟨Nat.le_of_ble_eq_true rfl, Nat.le_of_ble_eq_true rfl⟩) (rPreV hK hN hP [0, 1] rfl 0 11 rfl rfl) rfl rfl hl.1 rfl (lv_room (Nat.le_of_ble_eq_true rfl)) dX13_acceptedBits_6 ⟨Nat.zero_le _, Nat.zero_le _⟩) (fun r_1 hr_1 => ?_)
  subst hr_1
  exact W.iret (v := accM n (vt v)) hx hb hr (fun t9 ht hW => ⟨⟨_, (), rfl, (by rfl), ⟨by rw [ht]; exact hP, va_K.moved hW.alike hK, hD⟩⟩, hS.F ht⟩) hS.2.2 dX13_acceptedBits_9 hlocks

set_option maxHeartbeats 4000000 in
set_option maxRecDepth 100000 in
theorem m_X13_acceptedBitsByLabels (l9 : Launch) (D : va_G) (k : Nat → ClassId) (sz : Nat) (q : Nat → Nat) (th ea fa : Int32) (ch tn he en ln : Nat) (sv wr dg : Bool) (v : Nat → Int32) (n : Nat) (hn : n ≤ 10) (hv0 : v 0 = nI n) : Met l9 yX13_acceptedBitsByLabels wsX13_acceptedBitsByLabels ({ frames := 5, cells := 0, slots := 0, locals := 111 }) (WPc D k [.ref (q 0)] (bMO k q th ea fa ch tn he en ln sv wr dg ++ bI83 k (q 1) v) sz) (WI D k (bMO k q 0 ea fa ch tn he en ln sv wr dg ++ bI83 k (q 1) v) (accM n (vt v)) (va_A (bMO k q th ea fa ch tn he en ln sv wr dg ++ bI83 k (q 1) v) sz)) 0 0 (va_A (bMO k q th ea fa ch tn he en ln sv wr dg ++ bI83 k (q 1) v) sz) := by
  refine wMet (y := yX13_acceptedBitsByLabels) (cc := cX13_acceptedBitsByLabels) (maxL := 1) (ret := (some .int)) (Qc := fun A => WI D k (bMO k q 0 ea fa ch tn he en ln sv wr dg ++ bI83 k (q 1) v) (accM n (vt v)) A) [.ref (q 0)] (by decide) rfl (Nat.le_of_ble_eq_true rfl) ?_
  intro p9 e9 s9 m9 bl9 me9 c9 ls A H hF hr hlocks hP hK hN hD hA hS hl hin
  have hl : lv_has ls 1 [(0, .ref (q 0))] := hl
  obtain ⟨hx, hb, hml, hown, hts⟩ := id hF
  refine lv_aload_n hx hb dX13_acceptedBitsByLabels_0 rfl (lv_at hl 0 rfl) ?_
  have hFc := va_free (wc := bMO k q th ea fa ch tn he en ln sv wr dg ++ bI83 k (q 1) v) hD hS hA [0, 1] rfl
  refine va_calli (va_runV (As := []) (rest := []) hF (m_X13_acceptedBits l9 D k H.size q th ea fa ch tn he en ln sv wr dg v n hn hv0) (cwV 0 hts gX13_acceptedBitsByLabels_X13_acceptedBits rfl rfl rfl (by decide +kernel) ⟨Nat.le_of_ble_eq_true rfl, Nat.le_of_ble_eq_true rfl⟩) (wPreV hK hN hP hD [0, 1] rfl (by decide) rfl 0 11 rfl rfl) rfl rfl hl.1 rfl (lv_room (Nat.le_of_ble_eq_true rfl)) dX13_acceptedBitsByLabels_1 ⟨Nat.zero_le _, Nat.zero_le _⟩) hS (fun q _ h => hFc q h) hFc (fun r u9 t9 H1 locs ht hvm hw hB hz1 hk1 hS => ?_)
  obtain ⟨hP, hD⟩ := wjoin (wr := []) (wf := bMO k q 0 ea fa ch tn he en ln sv wr dg ++ bI83 k (q 1) v) hP hD [0, 1] [] [0, 1] rfl rfl (by decide) (by decide) hk1 hFc hB ht rfl rfl (by decide)
  subst hw
  clear hB hk1 hz1 hvm hFc
  clear ht
  clear t9
  generalize H1 = H at hP hS ⊢
  exact W.iret (v := accM n (vt v)) hx hb hr (fun t9 ht hW => ⟨⟨_, (), rfl, (by rfl), ⟨by rw [ht]; exact hP, va_K.moved hW.alike hK, hD⟩⟩, hS.F ht⟩) hS.2.2 dX13_acceptedBitsByLabels_4 hlocks

set_option maxHeartbeats 4000000 in
set_option maxRecDepth 100000 in
theorem m_X13_positionsByDeciding (l9 : Launch) (D : va_G) (k : Nat → ClassId) (sz : Nat) (q : Nat → Nat) (th ea fa : Int32) (ch tn he en ln : Nat) (sv wr dg : Bool) (v : Nat → Int32) (n : Nat) (hn : n ≤ 10) (hv0 : v 0 = nI n) : Met l9 yX13_positionsByDeciding wsX13_positionsByDeciding ({ frames := 5, cells := 0, slots := 0, locals := 112 }) (WPc D k [.ref (q 0)] (bMO k q th ea fa ch tn he en ln sv wr dg ++ bI83 k (q 1) v) sz) (WI D k (bMO k q 0 ea fa ch tn he en ln sv wr dg ++ bI83 k (q 1) v) (nI (cntM n (vt v) (pw n))) (va_A (bMO k q th ea fa ch tn he en ln sv wr dg ++ bI83 k (q 1) v) sz)) 0 0 (va_A (bMO k q th ea fa ch tn he en ln sv wr dg ++ bI83 k (q 1) v) sz) := by
  refine wMet (y := yX13_positionsByDeciding) (cc := cX13_positionsByDeciding) (maxL := 1) (ret := (some .int)) (Qc := fun A => WI D k (bMO k q 0 ea fa ch tn he en ln sv wr dg ++ bI83 k (q 1) v) (nI (cntM n (vt v) (pw n))) A) [.ref (q 0)] (by decide) rfl (Nat.le_of_ble_eq_true rfl) ?_
  intro p9 e9 s9 m9 bl9 me9 c9 ls A H hF hr hlocks hP hK hN hD hA hS hl hin
  have hl : lv_has ls 1 [(0, .ref (q 0))] := hl
  obtain ⟨hx, hb, hml, hown, hts⟩ := id hF
  refine lv_aload_n hx hb dX13_positionsByDeciding_0 rfl (lv_at hl 0 rfl) ?_
  have hFc := va_free (wc := bMO k q th ea fa ch tn he en ln sv wr dg ++ bI83 k (q 1) v) hD hS hA [0, 1] rfl
  refine va_calli (va_runV (As := []) (rest := []) hF (m_X13_positions l9 D k H.size q th ea fa ch tn he en ln sv wr dg v n hn hv0) (cwV 0 hts gX13_positionsByDeciding_X13_positions rfl rfl rfl (by decide +kernel) ⟨Nat.le_of_ble_eq_true rfl, Nat.le_of_ble_eq_true rfl⟩) (wPreV hK hN hP hD [0, 1] rfl (by decide) rfl 0 11 rfl rfl) rfl rfl hl.1 rfl (lv_room (Nat.le_of_ble_eq_true rfl)) dX13_positionsByDeciding_1 ⟨Nat.zero_le _, Nat.zero_le _⟩) hS (fun q _ h => hFc q h) hFc (fun r u9 t9 H1 locs ht hvm hw hB hz1 hk1 hS => ?_)
  obtain ⟨hP, hD⟩ := wjoin (wr := []) (wf := bMO k q 0 ea fa ch tn he en ln sv wr dg ++ bI83 k (q 1) v) hP hD [0, 1] [] [0, 1] rfl rfl (by decide) (by decide) hk1 hFc hB ht rfl rfl (by decide)
  subst hw
  clear hB hk1 hz1 hvm hFc
  clear ht
  clear t9
  generalize H1 = H at hP hS ⊢
  exact W.iret (v := nI (cntM n (vt v) (pw n))) hx hb hr (fun t9 ht hW => ⟨⟨_, (), rfl, (by rfl), ⟨by rw [ht]; exact hP, va_K.moved hW.alike hK, hD⟩⟩, hS.F ht⟩) hS.2.2 dX13_positionsByDeciding_4 hlocks

set_option maxHeartbeats 4000000 in
set_option maxRecDepth 100000 in
theorem m_X13_heaviestWeight (l9 : Launch) (D : va_G) (k : Nat → ClassId) (sz : Nat) (q : Nat → Nat) (th ea fa : Int32) (ch tn he en ln : Nat) (sv wr dg : Bool) (v : Nat → Int32) (n : Nat) (hn : n ≤ 10) (hv0 : v 0 = nI n) : Met l9 yX13_heaviestWeight wsX13_heaviestWeight ({ frames := 5, cells := 0, slots := 0, locals := 114 }) (WPc D k [.ref (q 0)] (bMO k q th ea fa ch tn he en ln sv wr dg ++ bI83 k (q 1) v) sz) (WI D k (bMO k q 0 ea fa ch tn he en ln sv wr dg ++ bI83 k (q 1) v) (adS n (vw v) (hvM n (vw v) (vt v) (pw n - 1))) (va_A (bMO k q th ea fa ch tn he en ln sv wr dg ++ bI83 k (q 1) v) sz)) 0 0 (va_A (bMO k q th ea fa ch tn he en ln sv wr dg ++ bI83 k (q 1) v) sz) := by
  refine wMet (y := yX13_heaviestWeight) (cc := cX13_heaviestWeight) (maxL := 1) (ret := (some .int)) (Qc := fun A => WI D k (bMO k q 0 ea fa ch tn he en ln sv wr dg ++ bI83 k (q 1) v) (adS n (vw v) (hvM n (vw v) (vt v) (pw n - 1))) A) [.ref (q 0)] (by decide) rfl (Nat.le_of_ble_eq_true rfl) ?_
  intro p9 e9 s9 m9 bl9 me9 c9 ls A H hF hr hlocks hP hK hN hD hA hS hl hin
  have hl : lv_has ls 1 [(0, .ref (q 0))] := hl
  obtain ⟨hx, hb, hml, hown, hts⟩ := id hF
  have k_fieldLink_77 : (Cond.fieldLink RX13 77 "OpinionReactorModel" "thrown" "I").before _ s9 = true := hts (.fieldLink RX13 77 "OpinionReactorModel" "thrown" "I") (by decide +kernel)
  have kc_RX13 : ∀ w ∈ u_ws RX13 TX13 29, w ∈ wsX13_heaviestWeight := by decide +kernel
  refine lv_aload_n hx hb dX13_heaviestWeight_0 rfl (lv_at hl 0 rfl) ?_
  refine lv_iconst (v := 0) hx hb dX13_heaviestWeight_1 (by decide) ?_
  refine va_put (D := D) (ci := 11) (v := .int 0) (ty := .int) (C := RX13) (T := TX13) (N := 29) hx hb hts kc_RX13 tyX13 tyX13_ok nmX13 hown hK hP hD hS 0 rfl rfl 0 (by decide) k_fieldLink_77 (fun _ h9 => h9) rfl (by decide +kernel) rfl rfl (Nat.le_of_ble_eq_true rfl) dX13_heaviestWeight_2 (fun H locs hP hD hS => ?_)
  have hP : va_P D vwCl (bMO k q 0 ea fa ch tn he en ln sv wr dg ++ bI83 k (q 1) v) H := hP
  have hD : va_D A (bMO k q 0 ea fa ch tn he en ln sv wr dg ++ bI83 k (q 1) v) := hD
  refine lv_aload_n hx hb dX13_heaviestWeight_5 rfl (lv_at hl 0 rfl) ?_
  refine lv_aload_n hx hb dX13_heaviestWeight_6 rfl (lv_at hl 0 rfl) ?_
  refine vp_callSi (W.runV (As := []) (rest := [.ref (q 0)]) hF (m_X13_heaviest l9 D k q 0 ea fa ch tn he en ln sv wr dg v n hn hv0) (cwV 0 hts gX13_heaviestWeight_X13_heaviest rfl rfl rfl (by decide +kernel) ⟨Nat.le_of_ble_eq_true rfl, Nat.le_of_ble_eq_true rfl⟩) (rPreV hK hN hP [0, 1] rfl 0 11 rfl rfl) rfl rfl hl.1 rfl (lv_room (Nat.le_of_ble_eq_true rfl)) dX13_heaviestWeight_7 ⟨Nat.zero_le _, Nat.zero_le _⟩) (fun r_1 hr_1 => ?_)
  subst hr_1
  refine vp_callSi (W.runV (As := [.int (hvM n (vw v) (vt v) (pw n - 1))]) (rest := []) hF (m_X13_weight l9 D k q 0 ea fa ch tn he en ln sv wr dg v n (hvM n (vw v) (vt v) (pw n - 1)) hn hv0) (cwV 1 hts gX13_heaviestWeight_X13_weight rfl rfl rfl (by decide +kernel) ⟨Nat.le_of_ble_eq_true rfl, Nat.le_of_ble_eq_true rfl⟩) (rPreV hK hN hP [0, 1] rfl 0 11 rfl rfl) rfl rfl hl.1 rfl (lv_room (Nat.le_of_ble_eq_true rfl)) dX13_heaviestWeight_10 ⟨Nat.zero_le _, Nat.zero_le _⟩) (fun r_2 hr_2 => ?_)
  subst hr_2
  exact W.iret (v := adS n (vw v) (hvM n (vw v) (vt v) (pw n - 1))) hx hb hr (fun t9 ht hW => ⟨⟨_, (), rfl, (by rfl), ⟨by rw [ht]; exact hP, va_K.moved hW.alike hK, hD⟩⟩, hS.F ht⟩) hS.2.2 dX13_heaviestWeight_13 hlocks

set_option maxHeartbeats 4000000 in
set_option maxRecDepth 100000 in
theorem m_X13_heaviestBits (l9 : Launch) (D : va_G) (k : Nat → ClassId) (sz : Nat) (q : Nat → Nat) (th ea fa : Int32) (ch tn he en ln : Nat) (sv wr dg : Bool) (v : Nat → Int32) (n : Nat) (hn : n ≤ 10) (hv0 : v 0 = nI n) : Met l9 yX13_heaviestBits wsX13_heaviestBits ({ frames := 5, cells := 0, slots := 0, locals := 114 }) (WPc D k [.ref (q 0)] (bMO k q th ea fa ch tn he en ln sv wr dg ++ bI83 k (q 1) v) sz) (WI D k (bMO k q 0 ea fa ch tn he en ln sv wr dg ++ bI83 k (q 1) v) (hvM n (vw v) (vt v) (pw n - 1)) (va_A (bMO k q th ea fa ch tn he en ln sv wr dg ++ bI83 k (q 1) v) sz)) 0 0 (va_A (bMO k q th ea fa ch tn he en ln sv wr dg ++ bI83 k (q 1) v) sz) := by
  refine wMet (y := yX13_heaviestBits) (cc := cX13_heaviestBits) (maxL := 1) (ret := (some .int)) (Qc := fun A => WI D k (bMO k q 0 ea fa ch tn he en ln sv wr dg ++ bI83 k (q 1) v) (hvM n (vw v) (vt v) (pw n - 1)) A) [.ref (q 0)] (by decide) rfl (Nat.le_of_ble_eq_true rfl) ?_
  intro p9 e9 s9 m9 bl9 me9 c9 ls A H hF hr hlocks hP hK hN hD hA hS hl hin
  have hl : lv_has ls 1 [(0, .ref (q 0))] := hl
  obtain ⟨hx, hb, hml, hown, hts⟩ := id hF
  have k_fieldLink_77 : (Cond.fieldLink RX13 77 "OpinionReactorModel" "thrown" "I").before _ s9 = true := hts (.fieldLink RX13 77 "OpinionReactorModel" "thrown" "I") (by decide +kernel)
  have kc_RX13 : ∀ w ∈ u_ws RX13 TX13 29, w ∈ wsX13_heaviestBits := by decide +kernel
  refine lv_aload_n hx hb dX13_heaviestBits_0 rfl (lv_at hl 0 rfl) ?_
  refine lv_iconst (v := 0) hx hb dX13_heaviestBits_1 (by decide) ?_
  refine va_put (D := D) (ci := 11) (v := .int 0) (ty := .int) (C := RX13) (T := TX13) (N := 29) hx hb hts kc_RX13 tyX13 tyX13_ok nmX13 hown hK hP hD hS 0 rfl rfl 0 (by decide) k_fieldLink_77 (fun _ h9 => h9) rfl (by decide +kernel) rfl rfl (Nat.le_of_ble_eq_true rfl) dX13_heaviestBits_2 (fun H locs hP hD hS => ?_)
  have hP : va_P D vwCl (bMO k q 0 ea fa ch tn he en ln sv wr dg ++ bI83 k (q 1) v) H := hP
  have hD : va_D A (bMO k q 0 ea fa ch tn he en ln sv wr dg ++ bI83 k (q 1) v) := hD
  refine lv_aload_n hx hb dX13_heaviestBits_5 rfl (lv_at hl 0 rfl) ?_
  refine vp_callSi (W.runV (As := []) (rest := []) hF (m_X13_heaviest l9 D k q 0 ea fa ch tn he en ln sv wr dg v n hn hv0) (cwV 0 hts gX13_heaviestBits_X13_heaviest rfl rfl rfl (by decide +kernel) ⟨Nat.le_of_ble_eq_true rfl, Nat.le_of_ble_eq_true rfl⟩) (rPreV hK hN hP [0, 1] rfl 0 11 rfl rfl) rfl rfl hl.1 rfl (lv_room (Nat.le_of_ble_eq_true rfl)) dX13_heaviestBits_6 ⟨Nat.zero_le _, Nat.zero_le _⟩) (fun r_1 hr_1 => ?_)
  subst hr_1
  exact W.iret (v := hvM n (vw v) (vt v) (pw n - 1)) hx hb hr (fun t9 ht hW => ⟨⟨_, (), rfl, (by rfl), ⟨by rw [ht]; exact hP, va_K.moved hW.alike hK, hD⟩⟩, hS.F ht⟩) hS.2.2 dX13_heaviestBits_9 hlocks

set_option maxHeartbeats 4000000 in
set_option maxRecDepth 100000 in
theorem m_X13_isRejected (l9 : Launch) (D : va_G) (k : Nat → ClassId) (sz : Nat) (q : Nat → Nat) (th ea fa : Int32) (ch tn he en ln : Nat) (sv wr dg : Bool) (v : Nat → Int32) (n : Nat) (x : Int32) (hn : n ≤ 10) (hv0 : v 0 = nI n) : Met l9 yX13_isRejected wsX13_isRejected ({ frames := 4, cells := 0, slots := 0, locals := 91 }) (WPc D k [.ref (q 0), .int x] (bMO k q th ea fa ch tn he en ln sv wr dg ++ bI83 k (q 1) v) sz) (WI D k (bMO k q (if inC n x = true then 0 else 1) ea fa ch tn he en ln sv wr dg ++ bI83 k (q 1) v) (if inC n x = true then bI (tb (orS n (vt v) (accM n (vt v))) x.toNatClampNeg) else 0) (va_A (bMO k q th ea fa ch tn he en ln sv wr dg ++ bI83 k (q 1) v) sz)) 0 0 (va_A (bMO k q th ea fa ch tn he en ln sv wr dg ++ bI83 k (q 1) v) sz) := by
  refine wMet (y := yX13_isRejected) (cc := cX13_isRejected) (maxL := 2) (ret := (some .boolean)) (Qc := fun A => WI D k (bMO k q (if inC n x = true then 0 else 1) ea fa ch tn he en ln sv wr dg ++ bI83 k (q 1) v) (if inC n x = true then bI (tb (orS n (vt v) (accM n (vt v))) x.toNatClampNeg) else 0) A) [.ref (q 0), .int x] (by decide) rfl (Nat.le_of_ble_eq_true rfl) ?_
  intro p9 e9 s9 m9 bl9 me9 c9 ls A H hF hr hlocks hP hK hN hD hA hS hl hin
  have hl : lv_has ls 2 [(0, .ref (q 0)), (1, .int x)] := hl
  obtain ⟨hx, hb, hml, hown, hts⟩ := id hF
  refine lv_aload_n hx hb dX13_isRejected_0 rfl (lv_at hl 0 rfl) ?_
  refine lv_iload_n hx hb dX13_isRejected_1 rfl (lv_at hl 1 rfl) ?_
  have hFc := va_free (wc := bMO k q th ea fa ch tn he en ln sv wr dg ++ bI83 k (q 1) v) hD hS hA [0, 1] rfl
  refine va_calli (va_runV (As := [.int x]) (rest := []) hF (m_X13_looks l9 D k H.size q th ea fa ch tn he en ln sv wr dg v n x hn hv0) (cwV 1 hts gX13_isRejected_X13_looks rfl rfl rfl (by decide +kernel) ⟨Nat.le_of_ble_eq_true rfl, Nat.le_of_ble_eq_true rfl⟩) (wPreV hK hN hP hD [0, 1] rfl (by decide) rfl 0 11 rfl rfl) rfl rfl hl.1 rfl (lv_room (Nat.le_of_ble_eq_true rfl)) dX13_isRejected_2 ⟨Nat.zero_le _, Nat.zero_le _⟩) hS (fun q _ h => hFc q h) hFc (fun r u9 t9 H1 locs ht hvm hw hB hz1 hk1 hS => ?_)
  obtain ⟨hP, hD⟩ := wjoin (wr := []) (wf := bMO k q (if inC n x = true then 0 else 1) ea fa ch tn he en ln sv wr dg ++ bI83 k (q 1) v) hP hD [0, 1] [] [0, 1] rfl rfl (by decide) (by decide) hk1 hFc hB ht rfl rfl (by decide)
  subst hw
  clear hB hk1 hz1 hvm hFc
  clear ht
  clear t9
  generalize H1 = H at hP hS ⊢
  refine lv_if_eq (tgt := 28) hx hb dX13_isRejected_5 (by decide) (fun c_1 => ?_) (fun c_1 => ?_)
  · skip
    have c_1 : (inC n x) = false := bI_0 c_1
    refine lv_iconst (v := 0) hx hb dX13_isRejected_28 (by decide) ?_
    exact W.zret (v := 0) hx hb hr (rfl) (fun t9 ht hW => ⟨⟨_, (), rfl, (by (try simp only []); (repeat (first | rw [if_pos (by first | assumption | exact Eq.trans (b := false) (by assumption) (Eq.symm (by assumption)) | exact Eq.trans (b := true) (by assumption) (Eq.symm (by assumption)) | exact ⟨by assumption, by assumption⟩ | exact Or.inl (by assumption) | exact Or.inr (by assumption) | exact Or.inr (Or.inl (by assumption)) | exact Or.inr (Or.inr (by assumption)) | (simp only [Int32.lt_iff_toInt_lt, Int32.le_iff_toInt_le, i32_0, i32_1, i32_2, i32_3, i32_4, i32_9, i32_10, i32_99, i32_100, i32_1000, i32_9999] at *; omega))] | rw [if_neg (by first | assumption | (rintro (h9 | h9 | h9) <;> contradiction) | (rintro (h9 | h9) <;> contradiction) | (intro h9; exact Bool.noConfusion (Eq.trans (c := false) h9.symm (by assumption))) | (rintro ⟨h8, h9⟩; exact Bool.noConfusion (Eq.trans (c := false) h8.symm (by assumption))) | (rintro ⟨h8, h9⟩; exact Bool.noConfusion (Eq.trans (c := false) h9.symm (by assumption))) | (simp only [Int32.lt_iff_toInt_lt, Int32.le_iff_toInt_le, i32_0, i32_1, i32_2, i32_3, i32_4, i32_9, i32_10, i32_99, i32_100, i32_1000, i32_9999] at *; omega))])); (try rfl); (try (rw [c_1]; rfl))), ⟨by rw [ht]; exact hP, va_K.moved hW.alike hK, hD⟩⟩, hS.F ht⟩) hS.2.2 dX13_isRejected_29 hlocks
  · skip
    have c_1 : (inC n x) = true := bI_1 c_1
    obtain ⟨j, hj, rfl⟩ := inC_of hn c_1
    have clj : (nI j).toNatClampNeg = j := clN (by omega)
    refine lv_aload_n hx hb dX13_isRejected_8 rfl (lv_at hl 0 rfl) ?_
    refine lv_aload_n hx hb dX13_isRejected_9 rfl (lv_at hl 0 rfl) ?_
    refine vp_callSi (W.runV (As := []) (rest := [.ref (q 0)]) hF (m_X13_accepted l9 D k q (if inC n (nI j) = true then 0 else 1) ea fa ch tn he en ln sv wr dg v n hn hv0) (cwV 0 hts gX13_isRejected_X13_accepted rfl rfl rfl (by decide +kernel) ⟨Nat.le_of_ble_eq_true rfl, Nat.le_of_ble_eq_true rfl⟩) (rPreV hK hN hP [0, 1] rfl 0 11 rfl rfl) rfl rfl hl.1 rfl (lv_room (Nat.le_of_ble_eq_true rfl)) dX13_isRejected_10 ⟨Nat.zero_le _, Nat.zero_le _⟩) (fun r_2 hr_2 => ?_)
    subst hr_2
    refine vp_callSi (W.runV (As := [.int (accM n (vt v))]) (rest := []) hF (m_X13_hitBy l9 D k q (if inC n (nI j) = true then 0 else 1) ea fa ch tn he en ln sv wr dg v n (accM n (vt v)) hn hv0) (cwV 1 hts gX13_isRejected_X13_hitBy rfl rfl rfl (by decide +kernel) ⟨Nat.le_of_ble_eq_true rfl, Nat.le_of_ble_eq_true rfl⟩) (rPreV hK hN hP [0, 1] rfl 0 11 rfl rfl) rfl rfl hl.1 rfl (lv_room (Nat.le_of_ble_eq_true rfl)) dX13_isRejected_13 ⟨Nat.zero_le _, Nat.zero_le _⟩) (fun r_3 hr_3 => ?_)
    subst hr_3
    refine lv_iload_n hx hb dX13_isRejected_16 rfl (lv_at hl 1 rfl) ?_
    refine lv_ishr hx hb dX13_isRejected_17 ?_
    refine lv_iconst (v := 1) hx hb dX13_isRejected_18 (by decide) ?_
    refine lv_iand hx hb dX13_isRejected_19 ?_
    refine lv_iconst (v := 1) hx hb dX13_isRejected_20 (by decide) ?_
    refine lv_icmp_ne (tgt := 28) hx hb dX13_isRejected_21 (by decide) (fun c_4 => ?_) (fun c_4 => ?_)
    · skip
      have c_4 : tb (orS n (vt v) (accM n (vt v))) j = false := (shr_tbf (orS n (vt v) (accM n (vt v))) (by omega)).mp c_4
      refine lv_iconst (v := 0) hx hb dX13_isRejected_28 (by decide) ?_
      exact W.zret (v := 0) hx hb hr (rfl) (fun t9 ht hW => ⟨⟨_, (), rfl, (by (try simp only [clj]); (repeat (first | rw [if_pos (by first | assumption | exact Eq.trans (b := false) (by assumption) (Eq.symm (by assumption)) | exact Eq.trans (b := true) (by assumption) (Eq.symm (by assumption)) | exact ⟨by assumption, by assumption⟩ | exact Or.inl (by assumption) | exact Or.inr (by assumption) | exact Or.inr (Or.inl (by assumption)) | exact Or.inr (Or.inr (by assumption)) | (simp only [Int32.lt_iff_toInt_lt, Int32.le_iff_toInt_le, i32_0, i32_1, i32_2, i32_3, i32_4, i32_9, i32_10, i32_99, i32_100, i32_1000, i32_9999] at *; omega))] | rw [if_neg (by first | assumption | (rintro (h9 | h9 | h9) <;> contradiction) | (rintro (h9 | h9) <;> contradiction) | (intro h9; exact Bool.noConfusion (Eq.trans (c := false) h9.symm (by assumption))) | (rintro ⟨h8, h9⟩; exact Bool.noConfusion (Eq.trans (c := false) h8.symm (by assumption))) | (rintro ⟨h8, h9⟩; exact Bool.noConfusion (Eq.trans (c := false) h9.symm (by assumption))) | (simp only [Int32.lt_iff_toInt_lt, Int32.le_iff_toInt_le, i32_0, i32_1, i32_2, i32_3, i32_4, i32_9, i32_10, i32_99, i32_100, i32_1000, i32_9999] at *; omega))])); (try rfl); (try (rw [c_4]; rfl))), ⟨by rw [ht]; exact hP, va_K.moved hW.alike hK, hD⟩⟩, hS.F ht⟩) hS.2.2 dX13_isRejected_29 hlocks
    · skip
      have c_4 : tb (orS n (vt v) (accM n (vt v))) j = true := (shr_tb1 (orS n (vt v) (accM n (vt v))) (by omega)).mp c_4
      refine lv_iconst (v := 1) hx hb dX13_isRejected_24 (by decide) ?_
      refine lv_goto (tgt := 29) hx hb dX13_isRejected_25 (by decide) ?_
      exact W.zret (v := 1) hx hb hr (rfl) (fun t9 ht hW => ⟨⟨_, (), rfl, (by (try simp only [clj]); (repeat (first | rw [if_pos (by first | assumption | exact Eq.trans (b := false) (by assumption) (Eq.symm (by assumption)) | exact Eq.trans (b := true) (by assumption) (Eq.symm (by assumption)) | exact ⟨by assumption, by assumption⟩ | exact Or.inl (by assumption) | exact Or.inr (by assumption) | exact Or.inr (Or.inl (by assumption)) | exact Or.inr (Or.inr (by assumption)) | (simp only [Int32.lt_iff_toInt_lt, Int32.le_iff_toInt_le, i32_0, i32_1, i32_2, i32_3, i32_4, i32_9, i32_10, i32_99, i32_100, i32_1000, i32_9999] at *; omega))] | rw [if_neg (by first | assumption | (rintro (h9 | h9 | h9) <;> contradiction) | (rintro (h9 | h9) <;> contradiction) | (intro h9; exact Bool.noConfusion (Eq.trans (c := false) h9.symm (by assumption))) | (rintro ⟨h8, h9⟩; exact Bool.noConfusion (Eq.trans (c := false) h8.symm (by assumption))) | (rintro ⟨h8, h9⟩; exact Bool.noConfusion (Eq.trans (c := false) h9.symm (by assumption))) | (simp only [Int32.lt_iff_toInt_lt, Int32.le_iff_toInt_le, i32_0, i32_1, i32_2, i32_3, i32_4, i32_9, i32_10, i32_99, i32_100, i32_1000, i32_9999] at *; omega))])); (try rfl); (try (rw [c_4]; rfl))), ⟨by rw [ht]; exact hP, va_K.moved hW.alike hK, hD⟩⟩, hS.F ht⟩) hS.2.2 dX13_isRejected_29 hlocks

set_option maxHeartbeats 4000000 in
set_option maxRecDepth 100000 in
theorem m_X13_count (l9 : Launch) (D : va_G) (k : Nat → ClassId) (x : Int32) (hlow : lowB x) : Met l9 yX13_count wsX13_count ({ frames := 0, cells := 0, slots := 0, locals := 0 }) (RPc D k [.int x] ([])) (EI (nI (cn 10 x))) 0 0 noA := by
  refine rMet (y := yX13_count) (cc := cX13_count) (maxL := 3) (ret := (some .int)) [.int x] (by decide) rfl (Nat.le_of_ble_eq_true rfl) ?_
  intro p9 e9 s9 m9 bl9 me9 c9 ls hF hr hlocks hP hK hN hl
  have hl : lv_has ls 3 [(0, .int x)] := hl
  obtain ⟨hx, hb, hml, hown, hts⟩ := id hF
  have loop_4 : ∀ (fuel : Nat) (i : Nat) (y : Int32), (lowB y) → (i + cn 10 y = cn 10 x) → cn 10 y < fuel → ∀ (ls : Array Slot), lv_has ls 3 [(0, .int x), (1, .int (nI i)), (2, .int y)] → W p9 l9 e9 ({ frames := 0, cells := 0, slots := 0, locals := 0 }) s9 m9 ([.int x] : List Value).toArray bl9 me9 c9 s9.heap [] 0 0 (MQ bl9 (EI (nI (cn 10 x))) ([.int x] : List Value).toArray s9 0 0 noA) (F0 m9 4 ls []) := by
    intro fuel
    induction fuel with
    | zero => intro i y hy hc hfuel_4; exact absurd hfuel_4 (Nat.not_lt_zero _)
    | succ fuel ih_4 =>
      intro i y hy hc hfuel_4 ls hl
      refine lv_iload_n hx hb dX13_count_4 rfl (lv_at hl 2 rfl) ?_
      refine lv_if_eq (tgt := 20) hx hb dX13_count_5 (by decide) (fun c_1 => ?_) (fun c_1 => ?_)
      · skip
        refine lv_iload_n hx hb dX13_count_20 rfl (lv_at hl 1 rfl) ?_
        exact W.iret (v := nI i) hx hb hr (fun t9 ht hW => ⟨_, rfl, (by rw [← hc, cn_0 (by assumption)]; rfl), ht⟩) (fun _ h => by cases h) dX13_count_21 hlocks
      · skip
        refine lv_iinc (v := nI (i + 1)) (lv' := [(1, .int (nI (i + 1))), (0, .int x), (2, .int y)]) hx hb dX13_count_8 hl (k := 1) rfl (nI_inc i) (by decide) rfl (fun ls hl => ?_)
        refine lv_iload_n hx hb dX13_count_11 rfl (lv_at hl 2 rfl) ?_
        refine lv_iload_n hx hb dX13_count_12 rfl (lv_at hl 2 rfl) ?_
        refine lv_iconst (v := 1) hx hb dX13_count_13 (by decide) ?_
        refine lv_isub hx hb dX13_count_14 ?_
        refine lv_iand hx hb dX13_count_15 ?_
        refine lv_istore_n (lv' := [(2, .int (y &&& (y - 1))), (1, .int (nI (i + 1))), (0, .int x)]) hx hb dX13_count_16 rfl hl (by decide) rfl (fun ls hl => ?_)
        refine lv_goto (tgt := 4) hx hb dX13_count_17 (by decide) ?_
        exact ih_4 (i + 1) (y &&& (y - 1)) (kc_step hy (by assumption)).1 (by have := (kc_step hy (by assumption)).2; omega) (by have := (kc_step hy (by assumption)).2; omega) ls (lv_one hl 2 rfl rfl (lv_one hl 1 rfl rfl (lv_one hl 0 rfl rfl (lv_nil hl))))
  refine lv_iconst (v := 0) hx hb dX13_count_0 (by decide) ?_
  refine lv_istore_n (lv' := [(1, .int 0), (0, .int x)]) hx hb dX13_count_1 rfl hl (by decide) rfl (fun ls hl => ?_)
  refine lv_iload_n hx hb dX13_count_2 rfl (lv_at hl 1 rfl) ?_
  refine lv_istore_n (lv' := [(2, .int x), (1, .int 0), (0, .int x)]) hx hb dX13_count_3 rfl hl (by decide) rfl (fun ls hl => ?_)
  exact loop_4 ((cn 10 x) + 1) 0 x hlow (Nat.zero_add _) (Nat.lt_succ_self _) ls (lv_one hl 2 rfl rfl (lv_one hl 1 rfl rfl (lv_one hl 0 rfl rfl (lv_nil hl))))

set_option maxHeartbeats 4000000 in
set_option maxRecDepth 100000 in
theorem m_X13_undecidedCount (l9 : Launch) (D : va_G) (k : Nat → ClassId) (sz : Nat) (q : Nat → Nat) (th ea fa : Int32) (ch tn he en ln : Nat) (sv wr dg : Bool) (v : Nat → Int32) (n : Nat) (hn : n ≤ 10) (hv0 : v 0 = nI n) (hlt : lowR n (vt v)) : Met l9 yX13_undecidedCount wsX13_undecidedCount ({ frames := 4, cells := 0, slots := 0, locals := 91 }) (WPc D k [.ref (q 0)] (bMO k q th ea fa ch tn he en ln sv wr dg ++ bI83 k (q 1) v) sz) (WI D k (bMO k q 0 ea fa ch tn he en ln sv wr dg ++ bI83 k (q 1) v) (nI n - nI (cn 10 (accM n (vt v) ||| orS n (vt v) (accM n (vt v))))) (va_A (bMO k q th ea fa ch tn he en ln sv wr dg ++ bI83 k (q 1) v) sz)) 0 0 (va_A (bMO k q th ea fa ch tn he en ln sv wr dg ++ bI83 k (q 1) v) sz) := by
  refine wMet (y := yX13_undecidedCount) (cc := cX13_undecidedCount) (maxL := 1) (ret := (some .int)) (Qc := fun A => WI D k (bMO k q 0 ea fa ch tn he en ln sv wr dg ++ bI83 k (q 1) v) (nI n - nI (cn 10 (accM n (vt v) ||| orS n (vt v) (accM n (vt v))))) A) [.ref (q 0)] (by decide) rfl (Nat.le_of_ble_eq_true rfl) ?_
  intro p9 e9 s9 m9 bl9 me9 c9 ls A H hF hr hlocks hP hK hN hD hA hS hl hin
  have hl : lv_has ls 1 [(0, .ref (q 0))] := hl
  obtain ⟨hx, hb, hml, hown, hts⟩ := id hF
  have k_fieldLink_77 : (Cond.fieldLink RX13 77 "OpinionReactorModel" "thrown" "I").before _ s9 = true := hts (.fieldLink RX13 77 "OpinionReactorModel" "thrown" "I") (by decide +kernel)
  have kc_RX13 : ∀ w ∈ u_ws RX13 TX13 29, w ∈ wsX13_undecidedCount := by decide +kernel
  have k_fieldLink_16 : (Cond.fieldLink RX13 16 "OpinionReactorModel" "v" "[I").before _ s9 = true := hts (.fieldLink RX13 16 "OpinionReactorModel" "v" "[I") (by decide +kernel)
  refine lv_aload_n hx hb dX13_undecidedCount_0 rfl (lv_at hl 0 rfl) ?_
  refine lv_iconst (v := 0) hx hb dX13_undecidedCount_1 (by decide) ?_
  refine va_put (D := D) (ci := 11) (v := .int 0) (ty := .int) (C := RX13) (T := TX13) (N := 29) hx hb hts kc_RX13 tyX13 tyX13_ok nmX13 hown hK hP hD hS 0 rfl rfl 0 (by decide) k_fieldLink_77 (fun _ h9 => h9) rfl (by decide +kernel) rfl rfl (Nat.le_of_ble_eq_true rfl) dX13_undecidedCount_2 (fun H locs hP hD hS => ?_)
  have hP : va_P D vwCl (bMO k q 0 ea fa ch tn he en ln sv wr dg ++ bI83 k (q 1) v) H := hP
  have hD : va_D A (bMO k q 0 ea fa ch tn he en ln sv wr dg ++ bI83 k (q 1) v) := hD
  refine lv_aload_n hx hb dX13_undecidedCount_5 rfl (lv_at hl 0 rfl) ?_
  refine va_get (D := D) (ci := 11) (v := .ref (q 1)) (C := RX13) (T := TX13) (N := 29) hx hb hts kc_RX13 hown hK hP 0 rfl rfl 5 (by decide) k_fieldLink_16 (fun _ h9 => h9) rfl dX13_undecidedCount_6 ?_
  refine lv_iconst (v := 0) hx hb dX13_undecidedCount_9 (by decide) ?_
  refine ia_ld hx hb hK hP 1 rfl 0 (by omega) (by decide) dX13_undecidedCount_10 ?_
  rw [hv0]
  refine lv_aload_n hx hb dX13_undecidedCount_11 rfl (lv_at hl 0 rfl) ?_
  refine vp_callSi (W.runV (As := []) (rest := [.int (nI n)]) hF (m_X13_accepted l9 D k q 0 ea fa ch tn he en ln sv wr dg v n hn hv0) (cwV 0 hts gX13_undecidedCount_X13_accepted rfl rfl rfl (by decide +kernel) ⟨Nat.le_of_ble_eq_true rfl, Nat.le_of_ble_eq_true rfl⟩) (rPreV hK hN hP [0, 1] rfl 0 11 rfl rfl) rfl rfl hl.1 rfl (lv_room (Nat.le_of_ble_eq_true rfl)) dX13_undecidedCount_12 ⟨Nat.zero_le _, Nat.zero_le _⟩) (fun r_1 hr_1 => ?_)
  subst hr_1
  refine lv_aload_n hx hb dX13_undecidedCount_15 rfl (lv_at hl 0 rfl) ?_
  refine lv_aload_n hx hb dX13_undecidedCount_16 rfl (lv_at hl 0 rfl) ?_
  refine vp_callSi (W.runV (As := []) (rest := [.ref (q 0), .int (accM n (vt v)), .int (nI n)]) hF (m_X13_accepted l9 D k q 0 ea fa ch tn he en ln sv wr dg v n hn hv0) (cwV 0 hts gX13_undecidedCount_X13_accepted rfl rfl rfl (by decide +kernel) ⟨Nat.le_of_ble_eq_true rfl, Nat.le_of_ble_eq_true rfl⟩) (rPreV hK hN hP [0, 1] rfl 0 11 rfl rfl) rfl rfl hl.1 rfl (lv_room (Nat.le_of_ble_eq_true rfl)) dX13_undecidedCount_17 ⟨Nat.zero_le _, Nat.zero_le _⟩) (fun r_2 hr_2 => ?_)
  subst hr_2
  refine vp_callSi (W.runV (As := [.int (accM n (vt v))]) (rest := [.int (accM n (vt v)), .int (nI n)]) hF (m_X13_hitBy l9 D k q 0 ea fa ch tn he en ln sv wr dg v n (accM n (vt v)) hn hv0) (cwV 1 hts gX13_undecidedCount_X13_hitBy rfl rfl rfl (by decide +kernel) ⟨Nat.le_of_ble_eq_true rfl, Nat.le_of_ble_eq_true rfl⟩) (rPreV hK hN hP [0, 1] rfl 0 11 rfl rfl) rfl rfl hl.1 rfl (lv_room (Nat.le_of_ble_eq_true rfl)) dX13_undecidedCount_20 ⟨Nat.zero_le _, Nat.zero_le _⟩) (fun r_3 hr_3 => ?_)
  subst hr_3
  refine lv_ior hx hb dX13_undecidedCount_23 ?_
  refine vp_callSi (W.runS (As := [.int ((accM n (vt v)) ||| (orS n (vt v) (accM n (vt v))))]) (rest := [.int (nI n)]) hF (m_X13_count l9 D k ((accM n (vt v)) ||| (orS n (vt v) (accM n (vt v)))) (low_or (low_accM hn _) (low_orS hlt _))) (va_cwS 1 hts gX13_undecidedCount_X13_count rfl rfl rfl (by decide +kernel) ⟨Nat.le_of_ble_eq_true rfl, Nat.le_of_ble_eq_true rfl⟩) (rPreS hK hN hP [] rfl) rfl rfl hl.1 rfl (lv_room (Nat.le_of_ble_eq_true rfl)) dX13_undecidedCount_24 ⟨Nat.zero_le _, Nat.zero_le _⟩) (fun r_4 hr_4 => ?_)
  subst hr_4
  refine lv_isub hx hb dX13_undecidedCount_27 ?_
  exact W.iret (v := (nI n) - (nI (cn 10 ((accM n (vt v)) ||| (orS n (vt v) (accM n (vt v))))))) hx hb hr (fun t9 ht hW => ⟨⟨_, (), rfl, (by rfl), ⟨by rw [ht]; exact hP, va_K.moved hW.alike hK, hD⟩⟩, hS.F ht⟩) hS.2.2 dX13_undecidedCount_28 hlocks

set_option maxHeartbeats 4000000 in
set_option maxRecDepth 100000 in
theorem m_X13_isPosition (l9 : Launch) (D : va_G) (k : Nat → ClassId) (sz : Nat) (q : Nat → Nat) (th ea fa : Int32) (ch tn he en ln : Nat) (sv wr dg : Bool) (v : Nat → Int32) (n : Nat) (x : Int32) (hn : n ≤ 10) (hv0 : v 0 = nI n) : Met l9 yX13_isPosition wsX13_isPosition ({ frames := 4, cells := 0, slots := 0, locals := 90 }) (WPc D k [.ref (q 0), .int x] (bMO k q th ea fa ch tn he en ln sv wr dg ++ bI83 k (q 1) v) sz) (WI D k (bMO k q (if inPM n x = true then 0 else 1) ea fa ch tn he en ln sv wr dg ++ bI83 k (q 1) v) (if inPM n x = true then bI (hldM n (vt v) x) else 0) (va_A (bMO k q th ea fa ch tn he en ln sv wr dg ++ bI83 k (q 1) v) sz)) 0 0 (va_A (bMO k q th ea fa ch tn he en ln sv wr dg ++ bI83 k (q 1) v) sz) := by
  refine wMet (y := yX13_isPosition) (cc := cX13_isPosition) (maxL := 2) (ret := (some .boolean)) (Qc := fun A => WI D k (bMO k q (if inPM n x = true then 0 else 1) ea fa ch tn he en ln sv wr dg ++ bI83 k (q 1) v) (if inPM n x = true then bI (hldM n (vt v) x) else 0) A) [.ref (q 0), .int x] (by decide) rfl (Nat.le_of_ble_eq_true rfl) ?_
  intro p9 e9 s9 m9 bl9 me9 c9 ls A H hF hr hlocks hP hK hN hD hA hS hl hin
  have hl : lv_has ls 2 [(0, .ref (q 0)), (1, .int x)] := hl
  obtain ⟨hx, hb, hml, hown, hts⟩ := id hF
  have k_fieldLink_77 : (Cond.fieldLink RX13 77 "OpinionReactorModel" "thrown" "I").before _ s9 = true := hts (.fieldLink RX13 77 "OpinionReactorModel" "thrown" "I") (by decide +kernel)
  have kc_RX13 : ∀ w ∈ u_ws RX13 TX13 29, w ∈ wsX13_isPosition := by decide +kernel
  have k_fieldLink_16 : (Cond.fieldLink RX13 16 "OpinionReactorModel" "v" "[I").before _ s9 = true := hts (.fieldLink RX13 16 "OpinionReactorModel" "v" "[I") (by decide +kernel)
  refine lv_aload_n hx hb dX13_isPosition_0 rfl (lv_at hl 0 rfl) ?_
  refine lv_iload_n hx hb dX13_isPosition_1 rfl (lv_at hl 1 rfl) ?_
  refine lv_if_lt (tgt := 16) hx hb dX13_isPosition_2 (by decide) (fun c_1 => ?_) (fun c_1 => ?_)
  · skip
    refine lv_iconst (v := 1) hx hb dX13_isPosition_16 (by decide) ?_
    refine lv_goto (tgt := 21) hx hb dX13_isPosition_17 (by decide) ?_
    refine va_put (D := D) (ci := 11) (v := .int 1) (ty := .int) (C := RX13) (T := TX13) (N := 29) hx hb hts kc_RX13 tyX13 tyX13_ok nmX13 hown hK hP hD hS 0 rfl rfl 0 (by decide) k_fieldLink_77 (fun _ h9 => h9) rfl (by decide +kernel) rfl rfl (Nat.le_of_ble_eq_true rfl) dX13_isPosition_21 (fun H locs hP hD hS => ?_)
    have hP : va_P D vwCl (bMO k q 1 ea fa ch tn he en ln sv wr dg ++ bI83 k (q 1) v) H := hP
    have hD : va_D A (bMO k q 1 ea fa ch tn he en ln sv wr dg ++ bI83 k (q 1) v) := hD
    refine lv_aload_n hx hb dX13_isPosition_24 rfl (lv_at hl 0 rfl) ?_
    refine va_get (D := D) (ci := 11) (v := .int 1) (C := RX13) (T := TX13) (N := 29) hx hb hts kc_RX13 hown hK hP 0 rfl rfl 0 (by decide) k_fieldLink_77 (fun _ h9 => h9) rfl dX13_isPosition_25 ?_
    refine lv_if_ne (tgt := 43) hx hb dX13_isPosition_28 (by decide) (fun c_2 => ?_) (fun c_2 => ?_)
    · skip
      refine lv_iconst (v := 0) hx hb dX13_isPosition_43 (by decide) ?_
      have e_3 : (1 : Int32) = if inPM n x = true then 0 else 1 := by first | (with_reducible rfl) | (simp [inPM, bI, c_1])
      have hP := Eq.mp (congrArg (fun z9 => va_P D vwCl (bMO k q z9 ea fa ch tn he en ln sv wr dg ++ bI83 k (q 1) v) H) e_3) hP
      have hD := Eq.mp (congrArg (fun z9 => va_D A (bMO k q z9 ea fa ch tn he en ln sv wr dg ++ bI83 k (q 1) v)) e_3) hD
      exact W.zret (v := 0) hx hb hr (rfl) (fun t9 ht hW => ⟨⟨_, (), rfl, (by simp [inPM, bI, c_1]), ⟨by rw [ht]; exact hP, va_K.moved hW.alike hK, hD⟩⟩, hS.F ht⟩) hS.2.2 dX13_isPosition_44 hlocks
    · first | exact absurd c_2 (by decide) | exact absurd (by decide) c_2
  · skip
    refine lv_iload_n hx hb dX13_isPosition_5 rfl (lv_at hl 1 rfl) ?_
    refine lv_aload_n hx hb dX13_isPosition_6 rfl (lv_at hl 0 rfl) ?_
    refine va_get (D := D) (ci := 11) (v := .ref (q 1)) (C := RX13) (T := TX13) (N := 29) hx hb hts kc_RX13 hown hK hP 0 rfl rfl 5 (by decide) k_fieldLink_16 (fun _ h9 => h9) rfl dX13_isPosition_7 ?_
    refine lv_iconst (v := 0) hx hb dX13_isPosition_10 (by decide) ?_
    refine ia_ld hx hb hK hP 1 rfl 0 (by omega) (by decide) dX13_isPosition_11 ?_
    rw [hv0]
    refine lv_ishr hx hb dX13_isPosition_12 ?_
    refine lv_if_eq (tgt := 20) hx hb dX13_isPosition_13 (by decide) (fun c_4 => ?_) (fun c_4 => ?_)
    · skip
      refine lv_iconst (v := 0) hx hb dX13_isPosition_20 (by decide) ?_
      refine va_put (D := D) (ci := 11) (v := .int 0) (ty := .int) (C := RX13) (T := TX13) (N := 29) hx hb hts kc_RX13 tyX13 tyX13_ok nmX13 hown hK hP hD hS 0 rfl rfl 0 (by decide) k_fieldLink_77 (fun _ h9 => h9) rfl (by decide +kernel) rfl rfl (Nat.le_of_ble_eq_true rfl) dX13_isPosition_21 (fun H locs hP hD hS => ?_)
      have hP : va_P D vwCl (bMO k q 0 ea fa ch tn he en ln sv wr dg ++ bI83 k (q 1) v) H := hP
      have hD : va_D A (bMO k q 0 ea fa ch tn he en ln sv wr dg ++ bI83 k (q 1) v) := hD
      refine lv_aload_n hx hb dX13_isPosition_24 rfl (lv_at hl 0 rfl) ?_
      refine va_get (D := D) (ci := 11) (v := .int 0) (C := RX13) (T := TX13) (N := 29) hx hb hts kc_RX13 hown hK hP 0 rfl rfl 0 (by decide) k_fieldLink_77 (fun _ h9 => h9) rfl dX13_isPosition_25 ?_
      refine lv_if_ne (tgt := 43) hx hb dX13_isPosition_28 (by decide) (fun c_5 => ?_) (fun c_5 => ?_)
      · first | exact absurd c_5 (by decide) | exact absurd (by decide) c_5
      · skip
        refine lv_aload_n hx hb dX13_isPosition_31 rfl (lv_at hl 0 rfl) ?_
        refine lv_iload_n hx hb dX13_isPosition_32 rfl (lv_at hl 1 rfl) ?_
        refine vp_callSi (W.runV (As := [.int x]) (rest := []) hF (m_X13_holds l9 D k q 0 ea fa ch tn he en ln sv wr dg v n x hn hv0) (cwV 1 hts gX13_isPosition_X13_holds rfl rfl rfl (by decide +kernel) ⟨Nat.le_of_ble_eq_true rfl, Nat.le_of_ble_eq_true rfl⟩) (rPreV hK hN hP [0, 1] rfl 0 11 rfl rfl) rfl rfl hl.1 rfl (lv_room (Nat.le_of_ble_eq_true rfl)) dX13_isPosition_33 ⟨Nat.zero_le _, Nat.zero_le _⟩) (fun r_6 hr_6 => ?_)
        subst hr_6
        refine lv_if_eq (tgt := 43) hx hb dX13_isPosition_36 (by decide) (fun c_7 => ?_) (fun c_7 => ?_)
        · skip
          have c_7 : (hldM n (vt v) x) = false := bI_0 c_7
          refine lv_iconst (v := 0) hx hb dX13_isPosition_43 (by decide) ?_
          have e_8 : (0 : Int32) = if inPM n x = true then 0 else 1 := by first | (with_reducible rfl) | (simp [inPM, bI, c_1, c_4, c_7])
          have hP := Eq.mp (congrArg (fun z9 => va_P D vwCl (bMO k q z9 ea fa ch tn he en ln sv wr dg ++ bI83 k (q 1) v) H) e_8) hP
          have hD := Eq.mp (congrArg (fun z9 => va_D A (bMO k q z9 ea fa ch tn he en ln sv wr dg ++ bI83 k (q 1) v)) e_8) hD
          exact W.zret (v := 0) hx hb hr (rfl) (fun t9 ht hW => ⟨⟨_, (), rfl, (by simp [inPM, bI, c_1, c_4, c_7]), ⟨by rw [ht]; exact hP, va_K.moved hW.alike hK, hD⟩⟩, hS.F ht⟩) hS.2.2 dX13_isPosition_44 hlocks
        · skip
          have c_7 : (hldM n (vt v) x) = true := bI_1 c_7
          refine lv_iconst (v := 1) hx hb dX13_isPosition_39 (by decide) ?_
          refine lv_goto (tgt := 44) hx hb dX13_isPosition_40 (by decide) ?_
          have e_9 : (0 : Int32) = if inPM n x = true then 0 else 1 := by first | (with_reducible rfl) | (simp [inPM, bI, c_1, c_4, c_7])
          have hP := Eq.mp (congrArg (fun z9 => va_P D vwCl (bMO k q z9 ea fa ch tn he en ln sv wr dg ++ bI83 k (q 1) v) H) e_9) hP
          have hD := Eq.mp (congrArg (fun z9 => va_D A (bMO k q z9 ea fa ch tn he en ln sv wr dg ++ bI83 k (q 1) v)) e_9) hD
          exact W.zret (v := 1) hx hb hr (rfl) (fun t9 ht hW => ⟨⟨_, (), rfl, (by simp [inPM, bI, c_1, c_4, c_7]), ⟨by rw [ht]; exact hP, va_K.moved hW.alike hK, hD⟩⟩, hS.F ht⟩) hS.2.2 dX13_isPosition_44 hlocks
    · skip
      refine lv_iconst (v := 1) hx hb dX13_isPosition_16 (by decide) ?_
      refine lv_goto (tgt := 21) hx hb dX13_isPosition_17 (by decide) ?_
      refine va_put (D := D) (ci := 11) (v := .int 1) (ty := .int) (C := RX13) (T := TX13) (N := 29) hx hb hts kc_RX13 tyX13 tyX13_ok nmX13 hown hK hP hD hS 0 rfl rfl 0 (by decide) k_fieldLink_77 (fun _ h9 => h9) rfl (by decide +kernel) rfl rfl (Nat.le_of_ble_eq_true rfl) dX13_isPosition_21 (fun H locs hP hD hS => ?_)
      have hP : va_P D vwCl (bMO k q 1 ea fa ch tn he en ln sv wr dg ++ bI83 k (q 1) v) H := hP
      have hD : va_D A (bMO k q 1 ea fa ch tn he en ln sv wr dg ++ bI83 k (q 1) v) := hD
      refine lv_aload_n hx hb dX13_isPosition_24 rfl (lv_at hl 0 rfl) ?_
      refine va_get (D := D) (ci := 11) (v := .int 1) (C := RX13) (T := TX13) (N := 29) hx hb hts kc_RX13 hown hK hP 0 rfl rfl 0 (by decide) k_fieldLink_77 (fun _ h9 => h9) rfl dX13_isPosition_25 ?_
      refine lv_if_ne (tgt := 43) hx hb dX13_isPosition_28 (by decide) (fun c_10 => ?_) (fun c_10 => ?_)
      · skip
        refine lv_iconst (v := 0) hx hb dX13_isPosition_43 (by decide) ?_
        have e_11 : (1 : Int32) = if inPM n x = true then 0 else 1 := by first | (with_reducible rfl) | (simp [inPM, bI, c_1, c_4])
        have hP := Eq.mp (congrArg (fun z9 => va_P D vwCl (bMO k q z9 ea fa ch tn he en ln sv wr dg ++ bI83 k (q 1) v) H) e_11) hP
        have hD := Eq.mp (congrArg (fun z9 => va_D A (bMO k q z9 ea fa ch tn he en ln sv wr dg ++ bI83 k (q 1) v)) e_11) hD
        exact W.zret (v := 0) hx hb hr (rfl) (fun t9 ht hW => ⟨⟨_, (), rfl, (by simp [inPM, bI, c_1, c_4]), ⟨by rw [ht]; exact hP, va_K.moved hW.alike hK, hD⟩⟩, hS.F ht⟩) hS.2.2 dX13_isPosition_44 hlocks
      · first | exact absurd c_10 (by decide) | exact absurd (by decide) c_10

set_option maxHeartbeats 4000000 in
set_option maxRecDepth 100000 in
theorem m_X13_circlesByReach (l9 : Launch) (D : va_G) (k : Nat → ClassId) (sz : Nat) (q : Nat → Nat) (th ea fa : Int32) (ch tn he en ln : Nat) (sv wr dg : Bool) (v : Nat → Int32) (rc : Nat → Int32) (n : Nat) (hn : n ≤ 10) (hv0 : v 0 = nI n) : Met l9 yX13_circlesByReach wsX13_circlesByReach ({ frames := 3, cells := 0, slots := 0, locals := 65 }) (WPc D k [.ref (q 0)] (bMO k q th ea fa ch tn he en ln sv wr dg ++ bI83 k (q 1) v ++ bI10 k (q 5) rc) sz) (WI D k (bMO k q 0 ea fa ch tn he en ln sv wr dg ++ bI83 k (q 1) v ++ bI10 k (q 5) (rchM n (vt v) rc)) (nI (cntC n (rchM n (vt v) rc) n)) (va_A (bMO k q th ea fa ch tn he en ln sv wr dg ++ bI83 k (q 1) v ++ bI10 k (q 5) rc) sz)) 0 0 (va_A (bMO k q th ea fa ch tn he en ln sv wr dg ++ bI83 k (q 1) v ++ bI10 k (q 5) rc) sz) := by
  refine wMet (y := yX13_circlesByReach) (cc := cX13_circlesByReach) (maxL := 1) (ret := (some .int)) (Qc := fun A => WI D k (bMO k q 0 ea fa ch tn he en ln sv wr dg ++ bI83 k (q 1) v ++ bI10 k (q 5) (rchM n (vt v) rc)) (nI (cntC n (rchM n (vt v) rc) n)) A) [.ref (q 0)] (by decide) rfl (Nat.le_of_ble_eq_true rfl) ?_
  intro p9 e9 s9 m9 bl9 me9 c9 ls A H hF hr hlocks hP hK hN hD hA hS hl hin
  have hl : lv_has ls 1 [(0, .ref (q 0))] := hl
  obtain ⟨hx, hb, hml, hown, hts⟩ := id hF
  refine lv_aload_n hx hb dX13_circlesByReach_0 rfl (lv_at hl 0 rfl) ?_
  have hFc := va_free (wc := bMO k q th ea fa ch tn he en ln sv wr dg ++ bI83 k (q 1) v ++ bI10 k (q 5) rc) hD hS hA [0, 1, 2] rfl
  refine va_calli (va_runV (As := []) (rest := []) hF (m_X13_circles l9 D k H.size q th ea fa ch tn he en ln sv wr dg v rc n hn hv0) (cwV 0 hts gX13_circlesByReach_X13_circles rfl rfl rfl (by decide +kernel) ⟨Nat.le_of_ble_eq_true rfl, Nat.le_of_ble_eq_true rfl⟩) (wPreV hK hN hP hD [0, 1, 2] rfl (by decide) rfl 0 11 rfl rfl) rfl rfl hl.1 rfl (lv_room (Nat.le_of_ble_eq_true rfl)) dX13_circlesByReach_1 ⟨Nat.zero_le _, Nat.zero_le _⟩) hS (fun q _ h => hFc q h) hFc (fun r u9 t9 H1 locs ht hvm hw hB hz1 hk1 hS => ?_)
  obtain ⟨hP, hD⟩ := wjoin (wr := []) (wf := bMO k q 0 ea fa ch tn he en ln sv wr dg ++ bI83 k (q 1) v ++ bI10 k (q 5) (rchM n (vt v) rc)) hP hD [0, 1, 2] [] [0, 1, 2] rfl rfl (by decide) (by decide) hk1 hFc hB ht rfl rfl (by decide)
  subst hw
  clear hB hk1 hz1 hvm hFc
  clear ht
  clear t9
  generalize H1 = H at hP hS ⊢
  exact W.iret (v := nI (cntC n (rchM n (vt v) rc) n)) hx hb hr (fun t9 ht hW => ⟨⟨_, (), rfl, (by rfl), ⟨by rw [ht]; exact hP, va_K.moved hW.alike hK, hD⟩⟩, hS.F ht⟩) hS.2.2 dX13_circlesByReach_4 hlocks

set_option maxHeartbeats 4000000 in
set_option maxRecDepth 100000 in
theorem m_X13_circleSize (l9 : Launch) (D : va_G) (k : Nat → ClassId) (sz : Nat) (q : Nat → Nat) (th ea fa : Int32) (ch tn he en ln : Nat) (sv wr dg : Bool) (v : Nat → Int32) (rc : Nat → Int32) (n : Nat) (x : Int32) (hn : n ≤ 10) (hv0 : v 0 = nI n) : Met l9 yX13_circleSize wsX13_circleSize ({ frames := 3, cells := 0, slots := 0, locals := 64 }) (WPc D k [.ref (q 0), .int x] (bMO k q th ea fa ch tn he en ln sv wr dg ++ bI83 k (q 1) v ++ bI10 k (q 5) rc) sz) (WI D k (bMO k q (if inC n x = true then 0 else 1) ea fa ch tn he en ln sv wr dg ++ bI83 k (q 1) v ++ bI10 k (q 5) (if inC n x = true then rchM n (vt v) rc else rc)) (if inC n x = true then nI (cn 10 (crM (rchM n (vt v) rc) x.toNatClampNeg n)) else 0) (va_A (bMO k q th ea fa ch tn he en ln sv wr dg ++ bI83 k (q 1) v ++ bI10 k (q 5) rc) sz)) 0 0 (va_A (bMO k q th ea fa ch tn he en ln sv wr dg ++ bI83 k (q 1) v ++ bI10 k (q 5) rc) sz) := by
  refine wMet (y := yX13_circleSize) (cc := cX13_circleSize) (maxL := 2) (ret := (some .int)) (Qc := fun A => WI D k (bMO k q (if inC n x = true then 0 else 1) ea fa ch tn he en ln sv wr dg ++ bI83 k (q 1) v ++ bI10 k (q 5) (if inC n x = true then rchM n (vt v) rc else rc)) (if inC n x = true then nI (cn 10 (crM (rchM n (vt v) rc) x.toNatClampNeg n)) else 0) A) [.ref (q 0), .int x] (by decide) rfl (Nat.le_of_ble_eq_true rfl) ?_
  intro p9 e9 s9 m9 bl9 me9 c9 ls A H hF hr hlocks hP hK hN hD hA hS hl hin
  have hl : lv_has ls 2 [(0, .ref (q 0)), (1, .int x)] := hl
  obtain ⟨hx, hb, hml, hown, hts⟩ := id hF
  refine lv_aload_n hx hb dX13_circleSize_0 rfl (lv_at hl 0 rfl) ?_
  refine lv_iload_n hx hb dX13_circleSize_1 rfl (lv_at hl 1 rfl) ?_
  have hFc := va_free (wc := bMO k q th ea fa ch tn he en ln sv wr dg ++ bI83 k (q 1) v) hD hS hA [0, 1] rfl
  refine va_calli (va_runV (As := [.int x]) (rest := []) hF (m_X13_looks l9 D k H.size q th ea fa ch tn he en ln sv wr dg v n x hn hv0) (cwV 1 hts gX13_circleSize_X13_looks rfl rfl rfl (by decide +kernel) ⟨Nat.le_of_ble_eq_true rfl, Nat.le_of_ble_eq_true rfl⟩) (wPreV hK hN hP hD [0, 1] rfl (by decide) rfl 0 11 rfl rfl) rfl rfl hl.1 rfl (lv_room (Nat.le_of_ble_eq_true rfl)) dX13_circleSize_2 ⟨Nat.zero_le _, Nat.zero_le _⟩) hS (fun q _ h => hFc q h) hFc (fun r u9 t9 H1 locs ht hvm hw hB hz1 hk1 hS => ?_)
  obtain ⟨hP, hD⟩ := wjoin (wr := bI10 k (q 5) rc) (wf := bMO k q (if inC n x = true then 0 else 1) ea fa ch tn he en ln sv wr dg ++ bI83 k (q 1) v ++ bI10 k (q 5) rc) hP hD [0, 1] [2] [1, 2, 0] rfl rfl (by decide) (by decide) hk1 hFc hB ht rfl rfl (by decide)
  subst hw
  clear hB hk1 hz1 hvm hFc
  clear ht
  clear t9
  generalize H1 = H at hP hS ⊢
  refine lv_if_ne (tgt := 10) hx hb dX13_circleSize_5 (by decide) (fun c_1 => ?_) (fun c_1 => ?_)
  · skip
    have c_1 : (inC n x) = true := bI_1 c_1
    obtain ⟨j, hj, rfl⟩ := inC_of hn c_1
    have clj : (nI j).toNatClampNeg = j := clN (by omega)
    refine lv_aload_n hx hb dX13_circleSize_10 rfl (lv_at hl 0 rfl) ?_
    have hFc := va_free (wc := bMO k q (if inC n (nI j) = true then 0 else 1) ea fa ch tn he en ln sv wr dg ++ bI83 k (q 1) v ++ bI10 k (q 5) rc) hD hS hA [0, 1, 2] rfl
    refine va_callv (va_runV (As := []) (rest := []) hF (m_X13_reaches l9 D k H.size q (if inC n (nI j) = true then 0 else 1) ea fa ch tn he en ln sv wr dg v rc n hn hv0) (cwV 0 hts gX13_circleSize_X13_reaches rfl rfl rfl (by decide +kernel) ⟨Nat.le_of_ble_eq_true rfl, Nat.le_of_ble_eq_true rfl⟩) (wPreV hK hN hP hD [0, 1, 2] rfl (by decide) rfl 0 11 rfl rfl) rfl rfl hl.1 rfl (lv_room (Nat.le_of_ble_eq_true rfl)) dX13_circleSize_11 ⟨Nat.zero_le _, Nat.zero_le _⟩) hS (fun q _ h => hFc q h) hFc (fun u9 t9 H1 locs ht hvm hw hB hz1 hk1 hS => ?_)
    obtain ⟨hP, hD⟩ := wjoin (wr := []) (wf := bMO k q (if inC n (nI j) = true then 0 else 1) ea fa ch tn he en ln sv wr dg ++ bI83 k (q 1) v ++ bI10 k (q 5) (rchM n (vt v) rc)) hP hD [0, 1, 2] [] [0, 1, 2] rfl rfl (by decide) (by decide) hk1 hFc hB ht rfl rfl (by decide)
    clear hB hk1 hz1 hvm hFc
    clear ht
    clear t9
    generalize H1 = H at hP hS ⊢
    refine lv_aload_n hx hb dX13_circleSize_14 rfl (lv_at hl 0 rfl) ?_
    refine lv_iload_n hx hb dX13_circleSize_15 rfl (lv_at hl 1 rfl) ?_
    refine vp_callSi (W.runV (As := [.int (nI j)]) (rest := []) hF (m_X13_circle l9 D k q (if inC n (nI j) = true then 0 else 1) ea fa ch tn he en ln sv wr dg v (rchM n (vt v) rc) n j hn hv0 hj) (cwV 1 hts gX13_circleSize_X13_circle rfl rfl rfl (by decide +kernel) ⟨Nat.le_of_ble_eq_true rfl, Nat.le_of_ble_eq_true rfl⟩) (rPreV hK hN hP [0, 1, 2] rfl 0 11 rfl rfl) rfl rfl hl.1 rfl (lv_room (Nat.le_of_ble_eq_true rfl)) dX13_circleSize_16 ⟨Nat.zero_le _, Nat.zero_le _⟩) (fun r_2 hr_2 => ?_)
    subst hr_2
    refine vp_callSi (W.runS (As := [.int (crM (rchM n (vt v) rc) j n)]) (rest := []) hF (m_X13_count l9 D k (crM (rchM n (vt v) rc) j n) (low_crM _ _ hn)) (va_cwS 1 hts gX13_circleSize_X13_count rfl rfl rfl (by decide +kernel) ⟨Nat.le_of_ble_eq_true rfl, Nat.le_of_ble_eq_true rfl⟩) (rPreS hK hN hP [] rfl) rfl rfl hl.1 rfl (lv_room (Nat.le_of_ble_eq_true rfl)) dX13_circleSize_19 ⟨Nat.zero_le _, Nat.zero_le _⟩) (fun r_3 hr_3 => ?_)
    subst hr_3
    have e_4 : (rchM n (vt v) rc : Nat → Int32) = if inC n (nI j) = true then rchM n (vt v) rc else rc := by first | (with_reducible rfl) | ((try simp only [clj]); (repeat (first | rw [if_pos (by first | assumption | exact Eq.trans (b := false) (by assumption) (Eq.symm (by assumption)) | exact Eq.trans (b := true) (by assumption) (Eq.symm (by assumption)) | exact ⟨by assumption, by assumption⟩ | exact Or.inl (by assumption) | exact Or.inr (by assumption) | exact Or.inr (Or.inl (by assumption)) | exact Or.inr (Or.inr (by assumption)) | (simp only [Int32.lt_iff_toInt_lt, Int32.le_iff_toInt_le, i32_0, i32_1, i32_2, i32_3, i32_4, i32_9, i32_10, i32_99, i32_100, i32_1000, i32_9999] at *; omega))] | rw [if_neg (by first | assumption | (rintro (h9 | h9 | h9) <;> contradiction) | (rintro (h9 | h9) <;> contradiction) | (intro h9; exact Bool.noConfusion (Eq.trans (c := false) h9.symm (by assumption))) | (rintro ⟨h8, h9⟩; exact Bool.noConfusion (Eq.trans (c := false) h8.symm (by assumption))) | (rintro ⟨h8, h9⟩; exact Bool.noConfusion (Eq.trans (c := false) h9.symm (by assumption))) | (simp only [Int32.lt_iff_toInt_lt, Int32.le_iff_toInt_le, i32_0, i32_1, i32_2, i32_3, i32_4, i32_9, i32_10, i32_99, i32_100, i32_1000, i32_9999] at *; omega))])); (try rfl))
    have hP := Eq.mp (congrArg (fun z9 => va_P D vwCl (bMO k q (if inC n (nI j) = true then 0 else 1) ea fa ch tn he en ln sv wr dg ++ bI83 k (q 1) v ++ bI10 k (q 5) z9) H) e_4) hP
    have hD := Eq.mp (congrArg (fun z9 => va_D A (bMO k q (if inC n (nI j) = true then 0 else 1) ea fa ch tn he en ln sv wr dg ++ bI83 k (q 1) v ++ bI10 k (q 5) z9)) e_4) hD
    exact W.iret (v := nI (cn 10 (crM (rchM n (vt v) rc) j n))) hx hb hr (fun t9 ht hW => ⟨⟨_, (), rfl, (by (try simp only [clj]); (repeat (first | rw [if_pos (by first | assumption | exact Eq.trans (b := false) (by assumption) (Eq.symm (by assumption)) | exact Eq.trans (b := true) (by assumption) (Eq.symm (by assumption)) | exact ⟨by assumption, by assumption⟩ | exact Or.inl (by assumption) | exact Or.inr (by assumption) | exact Or.inr (Or.inl (by assumption)) | exact Or.inr (Or.inr (by assumption)) | (simp only [Int32.lt_iff_toInt_lt, Int32.le_iff_toInt_le, i32_0, i32_1, i32_2, i32_3, i32_4, i32_9, i32_10, i32_99, i32_100, i32_1000, i32_9999] at *; omega))] | rw [if_neg (by first | assumption | (rintro (h9 | h9 | h9) <;> contradiction) | (rintro (h9 | h9) <;> contradiction) | (intro h9; exact Bool.noConfusion (Eq.trans (c := false) h9.symm (by assumption))) | (rintro ⟨h8, h9⟩; exact Bool.noConfusion (Eq.trans (c := false) h8.symm (by assumption))) | (rintro ⟨h8, h9⟩; exact Bool.noConfusion (Eq.trans (c := false) h9.symm (by assumption))) | (simp only [Int32.lt_iff_toInt_lt, Int32.le_iff_toInt_le, i32_0, i32_1, i32_2, i32_3, i32_4, i32_9, i32_10, i32_99, i32_100, i32_1000, i32_9999] at *; omega))])); (try rfl)), ⟨by rw [ht]; exact hP, va_K.moved hW.alike hK, hD⟩⟩, hS.F ht⟩) hS.2.2 dX13_circleSize_22 hlocks
  · skip
    have c_1 : (inC n x) = false := bI_0 c_1
    refine lv_iconst (v := 0) hx hb dX13_circleSize_8 (by decide) ?_
    have e_5 : (rc : Nat → Int32) = if inC n x = true then rchM n (vt v) rc else rc := by first | (with_reducible rfl) | ((try simp only []); (repeat (first | rw [if_pos (by first | assumption | exact Eq.trans (b := false) (by assumption) (Eq.symm (by assumption)) | exact Eq.trans (b := true) (by assumption) (Eq.symm (by assumption)) | exact ⟨by assumption, by assumption⟩ | exact Or.inl (by assumption) | exact Or.inr (by assumption) | exact Or.inr (Or.inl (by assumption)) | exact Or.inr (Or.inr (by assumption)) | (simp only [Int32.lt_iff_toInt_lt, Int32.le_iff_toInt_le, i32_0, i32_1, i32_2, i32_3, i32_4, i32_9, i32_10, i32_99, i32_100, i32_1000, i32_9999] at *; omega))] | rw [if_neg (by first | assumption | (rintro (h9 | h9 | h9) <;> contradiction) | (rintro (h9 | h9) <;> contradiction) | (intro h9; exact Bool.noConfusion (Eq.trans (c := false) h9.symm (by assumption))) | (rintro ⟨h8, h9⟩; exact Bool.noConfusion (Eq.trans (c := false) h8.symm (by assumption))) | (rintro ⟨h8, h9⟩; exact Bool.noConfusion (Eq.trans (c := false) h9.symm (by assumption))) | (simp only [Int32.lt_iff_toInt_lt, Int32.le_iff_toInt_le, i32_0, i32_1, i32_2, i32_3, i32_4, i32_9, i32_10, i32_99, i32_100, i32_1000, i32_9999] at *; omega))])); (try rfl))
    have hP := Eq.mp (congrArg (fun z9 => va_P D vwCl (bMO k q (if inC n x = true then 0 else 1) ea fa ch tn he en ln sv wr dg ++ bI83 k (q 1) v ++ bI10 k (q 5) z9) H) e_5) hP
    have hD := Eq.mp (congrArg (fun z9 => va_D A (bMO k q (if inC n x = true then 0 else 1) ea fa ch tn he en ln sv wr dg ++ bI83 k (q 1) v ++ bI10 k (q 5) z9)) e_5) hD
    exact W.iret (v := 0) hx hb hr (fun t9 ht hW => ⟨⟨_, (), rfl, (by (try simp only []); (repeat (first | rw [if_pos (by first | assumption | exact Eq.trans (b := false) (by assumption) (Eq.symm (by assumption)) | exact Eq.trans (b := true) (by assumption) (Eq.symm (by assumption)) | exact ⟨by assumption, by assumption⟩ | exact Or.inl (by assumption) | exact Or.inr (by assumption) | exact Or.inr (Or.inl (by assumption)) | exact Or.inr (Or.inr (by assumption)) | (simp only [Int32.lt_iff_toInt_lt, Int32.le_iff_toInt_le, i32_0, i32_1, i32_2, i32_3, i32_4, i32_9, i32_10, i32_99, i32_100, i32_1000, i32_9999] at *; omega))] | rw [if_neg (by first | assumption | (rintro (h9 | h9 | h9) <;> contradiction) | (rintro (h9 | h9) <;> contradiction) | (intro h9; exact Bool.noConfusion (Eq.trans (c := false) h9.symm (by assumption))) | (rintro ⟨h8, h9⟩; exact Bool.noConfusion (Eq.trans (c := false) h8.symm (by assumption))) | (rintro ⟨h8, h9⟩; exact Bool.noConfusion (Eq.trans (c := false) h9.symm (by assumption))) | (simp only [Int32.lt_iff_toInt_lt, Int32.le_iff_toInt_le, i32_0, i32_1, i32_2, i32_3, i32_4, i32_9, i32_10, i32_99, i32_100, i32_1000, i32_9999] at *; omega))])); (try rfl)), ⟨by rw [ht]; exact hP, va_K.moved hW.alike hK, hD⟩⟩, hS.F ht⟩) hS.2.2 dX13_circleSize_9 hlocks

set_option maxHeartbeats 4000000 in
set_option maxRecDepth 100000 in
theorem m_X13_remarkAt (l9 : Launch) (D : va_G) (k : Nat → ClassId) (sz : Nat) (q : Nat → Nat) (th ea fa : Int32) (ch tn he en ln : Nat) (sv wr dg : Bool) (v : Nat → Int32) (x y : Int32) : Met l9 yX13_remarkAt wsX13_remarkAt ({ frames := 2, cells := 0, slots := 0, locals := 42 }) (WPc D k [.ref (q 0), .int x, .int y] (bMO k q th ea fa ch tn he en ln sv wr dg ++ bI83 k (q 1) v) sz) (WI D k (bMO k q (if rg 0 x 3 = true ∧ rg 0 y 2 = true then 0 else 1) ea fa ch tn he en ln sv wr dg ++ bI83 k (q 1) v) (if rg 0 x 3 = true ∧ rg 0 y 2 = true then (if v (35 + 4 * x.toNatClampNeg + (y.toNatClampNeg + 1)) = 0 then 46 else (Int32.toUInt32 (v (35 + 4 * x.toNatClampNeg + (y.toNatClampNeg + 1))) % 65536).toInt32) else 97) (va_A (bMO k q th ea fa ch tn he en ln sv wr dg ++ bI83 k (q 1) v) sz)) 0 0 (va_A (bMO k q th ea fa ch tn he en ln sv wr dg ++ bI83 k (q 1) v) sz) := by
  refine wMet (y := yX13_remarkAt) (cc := cX13_remarkAt) (maxL := 3) (ret := (some .char)) (Qc := fun A => WI D k (bMO k q (if rg 0 x 3 = true ∧ rg 0 y 2 = true then 0 else 1) ea fa ch tn he en ln sv wr dg ++ bI83 k (q 1) v) (if rg 0 x 3 = true ∧ rg 0 y 2 = true then (if v (35 + 4 * x.toNatClampNeg + (y.toNatClampNeg + 1)) = 0 then 46 else (Int32.toUInt32 (v (35 + 4 * x.toNatClampNeg + (y.toNatClampNeg + 1))) % 65536).toInt32) else 97) A) [.ref (q 0), .int x, .int y] (by decide) rfl (Nat.le_of_ble_eq_true rfl) ?_
  intro p9 e9 s9 m9 bl9 me9 c9 ls A H hF hr hlocks hP hK hN hD hA hS hl hin
  have hl : lv_has ls 3 [(0, .ref (q 0)), (1, .int x), (2, .int y)] := hl
  obtain ⟨hx, hb, hml, hown, hts⟩ := id hF
  have k_fieldLink_77 : (Cond.fieldLink RX13 77 "OpinionReactorModel" "thrown" "I").before _ s9 = true := hts (.fieldLink RX13 77 "OpinionReactorModel" "thrown" "I") (by decide +kernel)
  have kc_RX13 : ∀ w ∈ u_ws RX13 TX13 29, w ∈ wsX13_remarkAt := by decide +kernel
  have k_fieldLink_16 : (Cond.fieldLink RX13 16 "OpinionReactorModel" "v" "[I").before _ s9 = true := hts (.fieldLink RX13 16 "OpinionReactorModel" "v" "[I") (by decide +kernel)
  refine lv_aload_n hx hb dX13_remarkAt_0 rfl (lv_at hl 0 rfl) ?_
  refine lv_iload_n hx hb dX13_remarkAt_1 rfl (lv_at hl 1 rfl) ?_
  refine vp_callSi (W.runS (As := [.int x]) (rest := [.ref (q 0)]) hF (m_X13_isLayer l9 D k x ) (va_cwS 1 hts gX13_remarkAt_X13_isLayer rfl rfl rfl (by decide +kernel) ⟨Nat.le_of_ble_eq_true rfl, Nat.le_of_ble_eq_true rfl⟩) (rPreS hK hN hP [] rfl) rfl rfl hl.1 rfl (lv_room (Nat.le_of_ble_eq_true rfl)) dX13_remarkAt_2 ⟨Nat.zero_le _, Nat.zero_le _⟩) (fun r_1 hr_1 => ?_)
  subst hr_1
  refine lv_if_eq (tgt := 21) hx hb dX13_remarkAt_5 (by decide) (fun c_2 => ?_) (fun c_2 => ?_)
  · skip
    have c_2 : (rg 0 x 3) = false := bI_0 c_2
    refine lv_iconst (v := 1) hx hb dX13_remarkAt_21 (by decide) ?_
    refine va_put (D := D) (ci := 11) (v := .int 1) (ty := .int) (C := RX13) (T := TX13) (N := 29) hx hb hts kc_RX13 tyX13 tyX13_ok nmX13 hown hK hP hD hS 0 rfl rfl 0 (by decide) k_fieldLink_77 (fun _ h9 => h9) rfl (by decide +kernel) rfl rfl (Nat.le_of_ble_eq_true rfl) dX13_remarkAt_22 (fun H locs hP hD hS => ?_)
    have hP : va_P D vwCl (bMO k q 1 ea fa ch tn he en ln sv wr dg ++ bI83 k (q 1) v) H := hP
    have hD : va_D A (bMO k q 1 ea fa ch tn he en ln sv wr dg ++ bI83 k (q 1) v) := hD
    refine lv_aload_n hx hb dX13_remarkAt_25 rfl (lv_at hl 0 rfl) ?_
    refine va_get (D := D) (ci := 11) (v := .int 1) (C := RX13) (T := TX13) (N := 29) hx hb hts kc_RX13 hown hK hP 0 rfl rfl 0 (by decide) k_fieldLink_77 (fun _ h9 => h9) rfl dX13_remarkAt_26 ?_
    refine lv_if_eq (tgt := 35) hx hb dX13_remarkAt_29 (by decide) (fun c_3 => ?_) (fun c_3 => ?_)
    · first | exact absurd c_3 (by decide) | exact absurd (by decide) c_3
    · skip
      refine lv_bipush (v := 97) hx hb dX13_remarkAt_32 (by decide) ?_
      have e_4 : (1 : Int32) = if rg 0 x 3 = true ∧ rg 0 y 2 = true then 0 else 1 := by first | (with_reducible rfl) | ((try simp only []); (repeat (first | rw [if_pos (by first | assumption | exact Eq.trans (b := false) (by assumption) (Eq.symm (by assumption)) | exact Eq.trans (b := true) (by assumption) (Eq.symm (by assumption)) | exact ⟨by assumption, by assumption⟩ | exact Or.inl (by assumption) | exact Or.inr (by assumption) | exact Or.inr (Or.inl (by assumption)) | exact Or.inr (Or.inr (by assumption)) | (simp only [Int32.lt_iff_toInt_lt, Int32.le_iff_toInt_le, i32_0, i32_1, i32_2, i32_3, i32_4, i32_9, i32_10, i32_99, i32_100, i32_1000, i32_9999] at *; omega))] | rw [if_neg (by first | assumption | (rintro (h9 | h9 | h9) <;> contradiction) | (rintro (h9 | h9) <;> contradiction) | (intro h9; exact Bool.noConfusion (Eq.trans (c := false) h9.symm (by assumption))) | (rintro ⟨h8, h9⟩; exact Bool.noConfusion (Eq.trans (c := false) h8.symm (by assumption))) | (rintro ⟨h8, h9⟩; exact Bool.noConfusion (Eq.trans (c := false) h9.symm (by assumption))) | (simp only [Int32.lt_iff_toInt_lt, Int32.le_iff_toInt_le, i32_0, i32_1, i32_2, i32_3, i32_4, i32_9, i32_10, i32_99, i32_100, i32_1000, i32_9999] at *; omega))])); (try rfl))
      have hP := Eq.mp (congrArg (fun z9 => va_P D vwCl (bMO k q z9 ea fa ch tn he en ln sv wr dg ++ bI83 k (q 1) v) H) e_4) hP
      have hD := Eq.mp (congrArg (fun z9 => va_D A (bMO k q z9 ea fa ch tn he en ln sv wr dg ++ bI83 k (q 1) v)) e_4) hD
      exact W.zret (v := 97) hx hb hr (rfl) (fun t9 ht hW => ⟨⟨_, (), rfl, (by (try simp only []); (repeat (first | rw [if_pos (by first | assumption | exact Eq.trans (b := false) (by assumption) (Eq.symm (by assumption)) | exact Eq.trans (b := true) (by assumption) (Eq.symm (by assumption)) | exact ⟨by assumption, by assumption⟩ | exact Or.inl (by assumption) | exact Or.inr (by assumption) | exact Or.inr (Or.inl (by assumption)) | exact Or.inr (Or.inr (by assumption)) | (simp only [Int32.lt_iff_toInt_lt, Int32.le_iff_toInt_le, i32_0, i32_1, i32_2, i32_3, i32_4, i32_9, i32_10, i32_99, i32_100, i32_1000, i32_9999] at *; omega))] | rw [if_neg (by first | assumption | (rintro (h9 | h9 | h9) <;> contradiction) | (rintro (h9 | h9) <;> contradiction) | (intro h9; exact Bool.noConfusion (Eq.trans (c := false) h9.symm (by assumption))) | (rintro ⟨h8, h9⟩; exact Bool.noConfusion (Eq.trans (c := false) h8.symm (by assumption))) | (rintro ⟨h8, h9⟩; exact Bool.noConfusion (Eq.trans (c := false) h9.symm (by assumption))) | (simp only [Int32.lt_iff_toInt_lt, Int32.le_iff_toInt_le, i32_0, i32_1, i32_2, i32_3, i32_4, i32_9, i32_10, i32_99, i32_100, i32_1000, i32_9999] at *; omega))])); (try rfl)), ⟨by rw [ht]; exact hP, va_K.moved hW.alike hK, hD⟩⟩, hS.F ht⟩) hS.2.2 dX13_remarkAt_34 hlocks
  · skip
    have c_2 : (rg 0 x 3) = true := bI_1 c_2
    obtain ⟨j, hj, rfl⟩ := rg_of (m := 3) (by decide) c_2
    have clj : (nI j).toNatClampNeg = j := clN (by omega)
    refine lv_iload_n hx hb dX13_remarkAt_8 rfl (lv_at hl 2 rfl) ?_
    refine lv_iconst (v := 0) hx hb dX13_remarkAt_9 (by decide) ?_
    refine lv_iconst (v := 2) hx hb dX13_remarkAt_10 (by decide) ?_
    refine vp_callSi (W.runS (As := [.int y, .int 0, .int 2]) (rest := [.ref (q 0)]) hF (m_X13_isIn l9 D k y 0 2 ) (va_cwS 3 hts gX13_remarkAt_X13_isIn rfl rfl rfl (by decide +kernel) ⟨Nat.le_of_ble_eq_true rfl, Nat.le_of_ble_eq_true rfl⟩) (rPreS hK hN hP [] rfl) rfl rfl hl.1 rfl (lv_room (Nat.le_of_ble_eq_true rfl)) dX13_remarkAt_11 ⟨Nat.zero_le _, Nat.zero_le _⟩) (fun r_5 hr_5 => ?_)
    subst hr_5
    refine lv_if_eq (tgt := 21) hx hb dX13_remarkAt_14 (by decide) (fun c_6 => ?_) (fun c_6 => ?_)
    · skip
      have c_6 : (rg 0 y 2) = false := bI_0 c_6
      refine lv_iconst (v := 1) hx hb dX13_remarkAt_21 (by decide) ?_
      refine va_put (D := D) (ci := 11) (v := .int 1) (ty := .int) (C := RX13) (T := TX13) (N := 29) hx hb hts kc_RX13 tyX13 tyX13_ok nmX13 hown hK hP hD hS 0 rfl rfl 0 (by decide) k_fieldLink_77 (fun _ h9 => h9) rfl (by decide +kernel) rfl rfl (Nat.le_of_ble_eq_true rfl) dX13_remarkAt_22 (fun H locs hP hD hS => ?_)
      have hP : va_P D vwCl (bMO k q 1 ea fa ch tn he en ln sv wr dg ++ bI83 k (q 1) v) H := hP
      have hD : va_D A (bMO k q 1 ea fa ch tn he en ln sv wr dg ++ bI83 k (q 1) v) := hD
      refine lv_aload_n hx hb dX13_remarkAt_25 rfl (lv_at hl 0 rfl) ?_
      refine va_get (D := D) (ci := 11) (v := .int 1) (C := RX13) (T := TX13) (N := 29) hx hb hts kc_RX13 hown hK hP 0 rfl rfl 0 (by decide) k_fieldLink_77 (fun _ h9 => h9) rfl dX13_remarkAt_26 ?_
      refine lv_if_eq (tgt := 35) hx hb dX13_remarkAt_29 (by decide) (fun c_7 => ?_) (fun c_7 => ?_)
      · first | exact absurd c_7 (by decide) | exact absurd (by decide) c_7
      · skip
        refine lv_bipush (v := 97) hx hb dX13_remarkAt_32 (by decide) ?_
        have e_8 : (1 : Int32) = if rg 0 (nI j) 3 = true ∧ rg 0 y 2 = true then 0 else 1 := by first | (with_reducible rfl) | ((try simp only [clj]); (repeat (first | rw [if_pos (by first | assumption | exact Eq.trans (b := false) (by assumption) (Eq.symm (by assumption)) | exact Eq.trans (b := true) (by assumption) (Eq.symm (by assumption)) | exact ⟨by assumption, by assumption⟩ | exact Or.inl (by assumption) | exact Or.inr (by assumption) | exact Or.inr (Or.inl (by assumption)) | exact Or.inr (Or.inr (by assumption)) | (simp only [Int32.lt_iff_toInt_lt, Int32.le_iff_toInt_le, i32_0, i32_1, i32_2, i32_3, i32_4, i32_9, i32_10, i32_99, i32_100, i32_1000, i32_9999] at *; omega))] | rw [if_neg (by first | assumption | (rintro (h9 | h9 | h9) <;> contradiction) | (rintro (h9 | h9) <;> contradiction) | (intro h9; exact Bool.noConfusion (Eq.trans (c := false) h9.symm (by assumption))) | (rintro ⟨h8, h9⟩; exact Bool.noConfusion (Eq.trans (c := false) h8.symm (by assumption))) | (rintro ⟨h8, h9⟩; exact Bool.noConfusion (Eq.trans (c := false) h9.symm (by assumption))) | (simp only [Int32.lt_iff_toInt_lt, Int32.le_iff_toInt_le, i32_0, i32_1, i32_2, i32_3, i32_4, i32_9, i32_10, i32_99, i32_100, i32_1000, i32_9999] at *; omega))])); (try rfl))
        have hP := Eq.mp (congrArg (fun z9 => va_P D vwCl (bMO k q z9 ea fa ch tn he en ln sv wr dg ++ bI83 k (q 1) v) H) e_8) hP
        have hD := Eq.mp (congrArg (fun z9 => va_D A (bMO k q z9 ea fa ch tn he en ln sv wr dg ++ bI83 k (q 1) v)) e_8) hD
        exact W.zret (v := 97) hx hb hr (rfl) (fun t9 ht hW => ⟨⟨_, (), rfl, (by (try simp only [clj]); (repeat (first | rw [if_pos (by first | assumption | exact Eq.trans (b := false) (by assumption) (Eq.symm (by assumption)) | exact Eq.trans (b := true) (by assumption) (Eq.symm (by assumption)) | exact ⟨by assumption, by assumption⟩ | exact Or.inl (by assumption) | exact Or.inr (by assumption) | exact Or.inr (Or.inl (by assumption)) | exact Or.inr (Or.inr (by assumption)) | (simp only [Int32.lt_iff_toInt_lt, Int32.le_iff_toInt_le, i32_0, i32_1, i32_2, i32_3, i32_4, i32_9, i32_10, i32_99, i32_100, i32_1000, i32_9999] at *; omega))] | rw [if_neg (by first | assumption | (rintro (h9 | h9 | h9) <;> contradiction) | (rintro (h9 | h9) <;> contradiction) | (intro h9; exact Bool.noConfusion (Eq.trans (c := false) h9.symm (by assumption))) | (rintro ⟨h8, h9⟩; exact Bool.noConfusion (Eq.trans (c := false) h8.symm (by assumption))) | (rintro ⟨h8, h9⟩; exact Bool.noConfusion (Eq.trans (c := false) h9.symm (by assumption))) | (simp only [Int32.lt_iff_toInt_lt, Int32.le_iff_toInt_le, i32_0, i32_1, i32_2, i32_3, i32_4, i32_9, i32_10, i32_99, i32_100, i32_1000, i32_9999] at *; omega))])); (try rfl)), ⟨by rw [ht]; exact hP, va_K.moved hW.alike hK, hD⟩⟩, hS.F ht⟩) hS.2.2 dX13_remarkAt_34 hlocks
    · skip
      have c_6 : (rg 0 y 2) = true := bI_1 c_6
      obtain ⟨i, hi, rfl⟩ := rg_of (m := 2) (by decide) c_6
      have cli : (nI i).toNatClampNeg = i := clN (by omega)
      refine lv_iconst (v := 0) hx hb dX13_remarkAt_17 (by decide) ?_
      refine lv_goto (tgt := 22) hx hb dX13_remarkAt_18 (by decide) ?_
      refine va_put (D := D) (ci := 11) (v := .int 0) (ty := .int) (C := RX13) (T := TX13) (N := 29) hx hb hts kc_RX13 tyX13 tyX13_ok nmX13 hown hK hP hD hS 0 rfl rfl 0 (by decide) k_fieldLink_77 (fun _ h9 => h9) rfl (by decide +kernel) rfl rfl (Nat.le_of_ble_eq_true rfl) dX13_remarkAt_22 (fun H locs hP hD hS => ?_)
      have hP : va_P D vwCl (bMO k q 0 ea fa ch tn he en ln sv wr dg ++ bI83 k (q 1) v) H := hP
      have hD : va_D A (bMO k q 0 ea fa ch tn he en ln sv wr dg ++ bI83 k (q 1) v) := hD
      refine lv_aload_n hx hb dX13_remarkAt_25 rfl (lv_at hl 0 rfl) ?_
      refine va_get (D := D) (ci := 11) (v := .int 0) (C := RX13) (T := TX13) (N := 29) hx hb hts kc_RX13 hown hK hP 0 rfl rfl 0 (by decide) k_fieldLink_77 (fun _ h9 => h9) rfl dX13_remarkAt_26 ?_
      refine lv_if_eq (tgt := 35) hx hb dX13_remarkAt_29 (by decide) (fun c_9 => ?_) (fun c_9 => ?_)
      · skip
        refine lv_aload_n hx hb dX13_remarkAt_35 rfl (lv_at hl 0 rfl) ?_
        refine va_get (D := D) (ci := 11) (v := .ref (q 1)) (C := RX13) (T := TX13) (N := 29) hx hb hts kc_RX13 hown hK hP 0 rfl rfl 5 (by decide) k_fieldLink_16 (fun _ h9 => h9) rfl dX13_remarkAt_36 ?_
        refine lv_iload_n hx hb dX13_remarkAt_39 rfl (lv_at hl 1 rfl) ?_
        refine lv_iload_n hx hb dX13_remarkAt_40 rfl (lv_at hl 2 rfl) ?_
        refine lv_iconst (v := 1) hx hb dX13_remarkAt_41 (by decide) ?_
        refine ni_add hx hb i 1 dX13_remarkAt_42 ?_
        refine vp_callSi (W.runS (As := [.int (nI j), .int (nI (i + 1))]) (rest := [.ref (q 1)]) hF (m_X13_rackAt l9 D k j (i + 1) ) (va_cwS 2 hts gX13_remarkAt_X13_rackAt rfl rfl rfl (by decide +kernel) ⟨Nat.le_of_ble_eq_true rfl, Nat.le_of_ble_eq_true rfl⟩) (rPreS hK hN hP [] rfl) rfl rfl hl.1 rfl (lv_room (Nat.le_of_ble_eq_true rfl)) dX13_remarkAt_43 ⟨Nat.zero_le _, Nat.zero_le _⟩) (fun r_10 hr_10 => ?_)
        subst hr_10
        refine ia_ld hx hb hK hP 1 rfl (35 + 4 * j + (i + 1)) (by omega) (by decide) dX13_remarkAt_46 ?_
        refine lv_if_ne (tgt := 55) hx hb dX13_remarkAt_47 (by decide) (fun c_11 => ?_) (fun c_11 => ?_)
        · skip
          refine lv_aload_n hx hb dX13_remarkAt_55 rfl (lv_at hl 0 rfl) ?_
          refine va_get (D := D) (ci := 11) (v := .ref (q 1)) (C := RX13) (T := TX13) (N := 29) hx hb hts kc_RX13 hown hK hP 0 rfl rfl 5 (by decide) k_fieldLink_16 (fun _ h9 => h9) rfl dX13_remarkAt_56 ?_
          refine lv_iload_n hx hb dX13_remarkAt_59 rfl (lv_at hl 1 rfl) ?_
          refine lv_iload_n hx hb dX13_remarkAt_60 rfl (lv_at hl 2 rfl) ?_
          refine lv_iconst (v := 1) hx hb dX13_remarkAt_61 (by decide) ?_
          refine ni_add hx hb i 1 dX13_remarkAt_62 ?_
          refine vp_callSi (W.runS (As := [.int (nI j), .int (nI (i + 1))]) (rest := [.ref (q 1)]) hF (m_X13_rackAt l9 D k j (i + 1) ) (va_cwS 2 hts gX13_remarkAt_X13_rackAt rfl rfl rfl (by decide +kernel) ⟨Nat.le_of_ble_eq_true rfl, Nat.le_of_ble_eq_true rfl⟩) (rPreS hK hN hP [] rfl) rfl rfl hl.1 rfl (lv_room (Nat.le_of_ble_eq_true rfl)) dX13_remarkAt_63 ⟨Nat.zero_le _, Nat.zero_le _⟩) (fun r_12 hr_12 => ?_)
          subst hr_12
          refine ia_ld hx hb hK hP 1 rfl (35 + 4 * j + (i + 1)) (by omega) (by decide) dX13_remarkAt_66 ?_
          refine lv_i2c hx hb dX13_remarkAt_67 rfl ?_
          have e_13 : (0 : Int32) = if rg 0 (nI j) 3 = true ∧ rg 0 (nI i) 2 = true then 0 else 1 := by first | (with_reducible rfl) | ((try simp only [clj, cli]); (repeat (first | rw [if_pos (by first | assumption | exact Eq.trans (b := false) (by assumption) (Eq.symm (by assumption)) | exact Eq.trans (b := true) (by assumption) (Eq.symm (by assumption)) | exact ⟨by assumption, by assumption⟩ | exact Or.inl (by assumption) | exact Or.inr (by assumption) | exact Or.inr (Or.inl (by assumption)) | exact Or.inr (Or.inr (by assumption)) | (simp only [Int32.lt_iff_toInt_lt, Int32.le_iff_toInt_le, i32_0, i32_1, i32_2, i32_3, i32_4, i32_9, i32_10, i32_99, i32_100, i32_1000, i32_9999] at *; omega))] | rw [if_neg (by first | assumption | (rintro (h9 | h9 | h9) <;> contradiction) | (rintro (h9 | h9) <;> contradiction) | (intro h9; exact Bool.noConfusion (Eq.trans (c := false) h9.symm (by assumption))) | (rintro ⟨h8, h9⟩; exact Bool.noConfusion (Eq.trans (c := false) h8.symm (by assumption))) | (rintro ⟨h8, h9⟩; exact Bool.noConfusion (Eq.trans (c := false) h9.symm (by assumption))) | (simp only [Int32.lt_iff_toInt_lt, Int32.le_iff_toInt_le, i32_0, i32_1, i32_2, i32_3, i32_4, i32_9, i32_10, i32_99, i32_100, i32_1000, i32_9999] at *; omega))])); (try rfl))
          have hP := Eq.mp (congrArg (fun z9 => va_P D vwCl (bMO k q z9 ea fa ch tn he en ln sv wr dg ++ bI83 k (q 1) v) H) e_13) hP
          have hD := Eq.mp (congrArg (fun z9 => va_D A (bMO k q z9 ea fa ch tn he en ln sv wr dg ++ bI83 k (q 1) v)) e_13) hD
          exact W.zret (v := ((v (35 + 4 * j + (i + 1))).toUInt32 % 65536).toInt32) hx hb hr (pk_nc _) (fun t9 ht hW => ⟨⟨_, (), rfl, (by (try simp only [clj, cli]); (repeat (first | rw [if_pos (by first | assumption | exact Eq.trans (b := false) (by assumption) (Eq.symm (by assumption)) | exact Eq.trans (b := true) (by assumption) (Eq.symm (by assumption)) | exact ⟨by assumption, by assumption⟩ | exact Or.inl (by assumption) | exact Or.inr (by assumption) | exact Or.inr (Or.inl (by assumption)) | exact Or.inr (Or.inr (by assumption)) | (simp only [Int32.lt_iff_toInt_lt, Int32.le_iff_toInt_le, i32_0, i32_1, i32_2, i32_3, i32_4, i32_9, i32_10, i32_99, i32_100, i32_1000, i32_9999] at *; omega))] | rw [if_neg (by first | assumption | (rintro (h9 | h9 | h9) <;> contradiction) | (rintro (h9 | h9) <;> contradiction) | (intro h9; exact Bool.noConfusion (Eq.trans (c := false) h9.symm (by assumption))) | (rintro ⟨h8, h9⟩; exact Bool.noConfusion (Eq.trans (c := false) h8.symm (by assumption))) | (rintro ⟨h8, h9⟩; exact Bool.noConfusion (Eq.trans (c := false) h9.symm (by assumption))) | (simp only [Int32.lt_iff_toInt_lt, Int32.le_iff_toInt_le, i32_0, i32_1, i32_2, i32_3, i32_4, i32_9, i32_10, i32_99, i32_100, i32_1000, i32_9999] at *; omega))])); (try rfl)), ⟨by rw [ht]; exact hP, va_K.moved hW.alike hK, hD⟩⟩, hS.F ht⟩) hS.2.2 dX13_remarkAt_68 hlocks
        · skip
          refine lv_bipush (v := 46) hx hb dX13_remarkAt_50 (by decide) ?_
          refine lv_goto (tgt := 68) hx hb dX13_remarkAt_52 (by decide) ?_
          have e_14 : (0 : Int32) = if rg 0 (nI j) 3 = true ∧ rg 0 (nI i) 2 = true then 0 else 1 := by first | (with_reducible rfl) | ((try simp only [clj, cli]); (repeat (first | rw [if_pos (by first | assumption | exact Eq.trans (b := false) (by assumption) (Eq.symm (by assumption)) | exact Eq.trans (b := true) (by assumption) (Eq.symm (by assumption)) | exact ⟨by assumption, by assumption⟩ | exact Or.inl (by assumption) | exact Or.inr (by assumption) | exact Or.inr (Or.inl (by assumption)) | exact Or.inr (Or.inr (by assumption)) | (simp only [Int32.lt_iff_toInt_lt, Int32.le_iff_toInt_le, i32_0, i32_1, i32_2, i32_3, i32_4, i32_9, i32_10, i32_99, i32_100, i32_1000, i32_9999] at *; omega))] | rw [if_neg (by first | assumption | (rintro (h9 | h9 | h9) <;> contradiction) | (rintro (h9 | h9) <;> contradiction) | (intro h9; exact Bool.noConfusion (Eq.trans (c := false) h9.symm (by assumption))) | (rintro ⟨h8, h9⟩; exact Bool.noConfusion (Eq.trans (c := false) h8.symm (by assumption))) | (rintro ⟨h8, h9⟩; exact Bool.noConfusion (Eq.trans (c := false) h9.symm (by assumption))) | (simp only [Int32.lt_iff_toInt_lt, Int32.le_iff_toInt_le, i32_0, i32_1, i32_2, i32_3, i32_4, i32_9, i32_10, i32_99, i32_100, i32_1000, i32_9999] at *; omega))])); (try rfl))
          have hP := Eq.mp (congrArg (fun z9 => va_P D vwCl (bMO k q z9 ea fa ch tn he en ln sv wr dg ++ bI83 k (q 1) v) H) e_14) hP
          have hD := Eq.mp (congrArg (fun z9 => va_D A (bMO k q z9 ea fa ch tn he en ln sv wr dg ++ bI83 k (q 1) v)) e_14) hD
          exact W.zret (v := 46) hx hb hr (rfl) (fun t9 ht hW => ⟨⟨_, (), rfl, (by (try simp only [clj, cli]); (repeat (first | rw [if_pos (by first | assumption | exact Eq.trans (b := false) (by assumption) (Eq.symm (by assumption)) | exact Eq.trans (b := true) (by assumption) (Eq.symm (by assumption)) | exact ⟨by assumption, by assumption⟩ | exact Or.inl (by assumption) | exact Or.inr (by assumption) | exact Or.inr (Or.inl (by assumption)) | exact Or.inr (Or.inr (by assumption)) | (simp only [Int32.lt_iff_toInt_lt, Int32.le_iff_toInt_le, i32_0, i32_1, i32_2, i32_3, i32_4, i32_9, i32_10, i32_99, i32_100, i32_1000, i32_9999] at *; omega))] | rw [if_neg (by first | assumption | (rintro (h9 | h9 | h9) <;> contradiction) | (rintro (h9 | h9) <;> contradiction) | (intro h9; exact Bool.noConfusion (Eq.trans (c := false) h9.symm (by assumption))) | (rintro ⟨h8, h9⟩; exact Bool.noConfusion (Eq.trans (c := false) h8.symm (by assumption))) | (rintro ⟨h8, h9⟩; exact Bool.noConfusion (Eq.trans (c := false) h9.symm (by assumption))) | (simp only [Int32.lt_iff_toInt_lt, Int32.le_iff_toInt_le, i32_0, i32_1, i32_2, i32_3, i32_4, i32_9, i32_10, i32_99, i32_100, i32_1000, i32_9999] at *; omega))])); (try rfl)), ⟨by rw [ht]; exact hP, va_K.moved hW.alike hK, hD⟩⟩, hS.F ht⟩) hS.2.2 dX13_remarkAt_68 hlocks
      · first | exact absurd c_9 (by decide) | exact absurd (by decide) c_9

set_option maxHeartbeats 4000000 in
set_option maxRecDepth 100000 in
theorem m_X13_depthOf (l9 : Launch) (D : va_G) (k : Nat → ClassId) (sz : Nat) (q : Nat → Nat) (th ea fa : Int32) (ch tn he en ln : Nat) (sv wr dg : Bool) (v : Nat → Int32) (x : Int32) : Met l9 yX13_depthOf wsX13_depthOf ({ frames := 2, cells := 0, slots := 0, locals := 44 }) (WPc D k [.ref (q 0), .int x] (bMO k q th ea fa ch tn he en ln sv wr dg ++ bI83 k (q 1) v) sz) (WI D k (bMO k q (if rg 0 x 3 = true then 0 else 1) ea fa ch tn he en ln sv wr dg ++ bI83 k (q 1) v) (if rg 0 x 3 = true then dpM v x.toNatClampNeg else 0) (va_A (bMO k q th ea fa ch tn he en ln sv wr dg ++ bI83 k (q 1) v) sz)) 0 0 (va_A (bMO k q th ea fa ch tn he en ln sv wr dg ++ bI83 k (q 1) v) sz) := by
  refine wMet (y := yX13_depthOf) (cc := cX13_depthOf) (maxL := 2) (ret := (some .int)) (Qc := fun A => WI D k (bMO k q (if rg 0 x 3 = true then 0 else 1) ea fa ch tn he en ln sv wr dg ++ bI83 k (q 1) v) (if rg 0 x 3 = true then dpM v x.toNatClampNeg else 0) A) [.ref (q 0), .int x] (by decide) rfl (Nat.le_of_ble_eq_true rfl) ?_
  intro p9 e9 s9 m9 bl9 me9 c9 ls A H hF hr hlocks hP hK hN hD hA hS hl hin
  have hl : lv_has ls 2 [(0, .ref (q 0)), (1, .int x)] := hl
  obtain ⟨hx, hb, hml, hown, hts⟩ := id hF
  have k_fieldLink_77 : (Cond.fieldLink RX13 77 "OpinionReactorModel" "thrown" "I").before _ s9 = true := hts (.fieldLink RX13 77 "OpinionReactorModel" "thrown" "I") (by decide +kernel)
  have kc_RX13 : ∀ w ∈ u_ws RX13 TX13 29, w ∈ wsX13_depthOf := by decide +kernel
  refine lv_aload_n hx hb dX13_depthOf_0 rfl (lv_at hl 0 rfl) ?_
  refine lv_iload_n hx hb dX13_depthOf_1 rfl (lv_at hl 1 rfl) ?_
  refine vp_callSi (W.runS (As := [.int x]) (rest := [.ref (q 0)]) hF (m_X13_isLayer l9 D k x ) (va_cwS 1 hts gX13_depthOf_X13_isLayer rfl rfl rfl (by decide +kernel) ⟨Nat.le_of_ble_eq_true rfl, Nat.le_of_ble_eq_true rfl⟩) (rPreS hK hN hP [] rfl) rfl rfl hl.1 rfl (lv_room (Nat.le_of_ble_eq_true rfl)) dX13_depthOf_2 ⟨Nat.zero_le _, Nat.zero_le _⟩) (fun r_1 hr_1 => ?_)
  subst hr_1
  refine lv_if_eq (tgt := 12) hx hb dX13_depthOf_5 (by decide) (fun c_2 => ?_) (fun c_2 => ?_)
  · skip
    have c_2 : (rg 0 x 3) = false := bI_0 c_2
    refine lv_iconst (v := 1) hx hb dX13_depthOf_12 (by decide) ?_
    refine va_put (D := D) (ci := 11) (v := .int 1) (ty := .int) (C := RX13) (T := TX13) (N := 29) hx hb hts kc_RX13 tyX13 tyX13_ok nmX13 hown hK hP hD hS 0 rfl rfl 0 (by decide) k_fieldLink_77 (fun _ h9 => h9) rfl (by decide +kernel) rfl rfl (Nat.le_of_ble_eq_true rfl) dX13_depthOf_13 (fun H locs hP hD hS => ?_)
    have hP : va_P D vwCl (bMO k q 1 ea fa ch tn he en ln sv wr dg ++ bI83 k (q 1) v) H := hP
    have hD : va_D A (bMO k q 1 ea fa ch tn he en ln sv wr dg ++ bI83 k (q 1) v) := hD
    refine lv_aload_n hx hb dX13_depthOf_16 rfl (lv_at hl 0 rfl) ?_
    refine va_get (D := D) (ci := 11) (v := .int 1) (C := RX13) (T := TX13) (N := 29) hx hb hts kc_RX13 hown hK hP 0 rfl rfl 0 (by decide) k_fieldLink_77 (fun _ h9 => h9) rfl dX13_depthOf_17 ?_
    refine lv_if_ne (tgt := 31) hx hb dX13_depthOf_20 (by decide) (fun c_3 => ?_) (fun c_3 => ?_)
    · skip
      refine lv_iconst (v := 0) hx hb dX13_depthOf_31 (by decide) ?_
      have e_4 : (1 : Int32) = if rg 0 x 3 = true then 0 else 1 := by first | (with_reducible rfl) | ((try simp only []); (repeat (first | rw [if_pos (by first | assumption | exact Eq.trans (b := false) (by assumption) (Eq.symm (by assumption)) | exact Eq.trans (b := true) (by assumption) (Eq.symm (by assumption)) | exact ⟨by assumption, by assumption⟩ | exact Or.inl (by assumption) | exact Or.inr (by assumption) | exact Or.inr (Or.inl (by assumption)) | exact Or.inr (Or.inr (by assumption)) | (simp only [Int32.lt_iff_toInt_lt, Int32.le_iff_toInt_le, i32_0, i32_1, i32_2, i32_3, i32_4, i32_9, i32_10, i32_99, i32_100, i32_1000, i32_9999] at *; omega))] | rw [if_neg (by first | assumption | (rintro (h9 | h9 | h9) <;> contradiction) | (rintro (h9 | h9) <;> contradiction) | (intro h9; exact Bool.noConfusion (Eq.trans (c := false) h9.symm (by assumption))) | (rintro ⟨h8, h9⟩; exact Bool.noConfusion (Eq.trans (c := false) h8.symm (by assumption))) | (rintro ⟨h8, h9⟩; exact Bool.noConfusion (Eq.trans (c := false) h9.symm (by assumption))) | (simp only [Int32.lt_iff_toInt_lt, Int32.le_iff_toInt_le, i32_0, i32_1, i32_2, i32_3, i32_4, i32_9, i32_10, i32_99, i32_100, i32_1000, i32_9999] at *; omega))])); (try rfl))
      have hP := Eq.mp (congrArg (fun z9 => va_P D vwCl (bMO k q z9 ea fa ch tn he en ln sv wr dg ++ bI83 k (q 1) v) H) e_4) hP
      have hD := Eq.mp (congrArg (fun z9 => va_D A (bMO k q z9 ea fa ch tn he en ln sv wr dg ++ bI83 k (q 1) v)) e_4) hD
      exact W.iret (v := 0) hx hb hr (fun t9 ht hW => ⟨⟨_, (), rfl, (by (try simp only []); (repeat (first | rw [if_pos (by first | assumption | exact Eq.trans (b := false) (by assumption) (Eq.symm (by assumption)) | exact Eq.trans (b := true) (by assumption) (Eq.symm (by assumption)) | exact ⟨by assumption, by assumption⟩ | exact Or.inl (by assumption) | exact Or.inr (by assumption) | exact Or.inr (Or.inl (by assumption)) | exact Or.inr (Or.inr (by assumption)) | (simp only [Int32.lt_iff_toInt_lt, Int32.le_iff_toInt_le, i32_0, i32_1, i32_2, i32_3, i32_4, i32_9, i32_10, i32_99, i32_100, i32_1000, i32_9999] at *; omega))] | rw [if_neg (by first | assumption | (rintro (h9 | h9 | h9) <;> contradiction) | (rintro (h9 | h9) <;> contradiction) | (intro h9; exact Bool.noConfusion (Eq.trans (c := false) h9.symm (by assumption))) | (rintro ⟨h8, h9⟩; exact Bool.noConfusion (Eq.trans (c := false) h8.symm (by assumption))) | (rintro ⟨h8, h9⟩; exact Bool.noConfusion (Eq.trans (c := false) h9.symm (by assumption))) | (simp only [Int32.lt_iff_toInt_lt, Int32.le_iff_toInt_le, i32_0, i32_1, i32_2, i32_3, i32_4, i32_9, i32_10, i32_99, i32_100, i32_1000, i32_9999] at *; omega))])); (try rfl)), ⟨by rw [ht]; exact hP, va_K.moved hW.alike hK, hD⟩⟩, hS.F ht⟩) hS.2.2 dX13_depthOf_32 hlocks
    · first | exact absurd c_3 (by decide) | exact absurd (by decide) c_3
  · skip
    have c_2 : (rg 0 x 3) = true := bI_1 c_2
    obtain ⟨j, hj, rfl⟩ := rg_of (m := 3) (by decide) c_2
    have clj : (nI j).toNatClampNeg = j := clN (by omega)
    refine lv_iconst (v := 0) hx hb dX13_depthOf_8 (by decide) ?_
    refine lv_goto (tgt := 13) hx hb dX13_depthOf_9 (by decide) ?_
    refine va_put (D := D) (ci := 11) (v := .int 0) (ty := .int) (C := RX13) (T := TX13) (N := 29) hx hb hts kc_RX13 tyX13 tyX13_ok nmX13 hown hK hP hD hS 0 rfl rfl 0 (by decide) k_fieldLink_77 (fun _ h9 => h9) rfl (by decide +kernel) rfl rfl (Nat.le_of_ble_eq_true rfl) dX13_depthOf_13 (fun H locs hP hD hS => ?_)
    have hP : va_P D vwCl (bMO k q 0 ea fa ch tn he en ln sv wr dg ++ bI83 k (q 1) v) H := hP
    have hD : va_D A (bMO k q 0 ea fa ch tn he en ln sv wr dg ++ bI83 k (q 1) v) := hD
    refine lv_aload_n hx hb dX13_depthOf_16 rfl (lv_at hl 0 rfl) ?_
    refine va_get (D := D) (ci := 11) (v := .int 0) (C := RX13) (T := TX13) (N := 29) hx hb hts kc_RX13 hown hK hP 0 rfl rfl 0 (by decide) k_fieldLink_77 (fun _ h9 => h9) rfl dX13_depthOf_17 ?_
    refine lv_if_ne (tgt := 31) hx hb dX13_depthOf_20 (by decide) (fun c_5 => ?_) (fun c_5 => ?_)
    · first | exact absurd c_5 (by decide) | exact absurd (by decide) c_5
    · skip
      refine lv_aload_n hx hb dX13_depthOf_23 rfl (lv_at hl 0 rfl) ?_
      refine lv_iload_n hx hb dX13_depthOf_24 rfl (lv_at hl 1 rfl) ?_
      refine vp_callSi (W.runV (As := [.int (nI j)]) (rest := []) hF (m_X13_depth l9 D k q 0 ea fa ch tn he en ln sv wr dg v j (by omega)) (cwV 1 hts gX13_depthOf_X13_depth rfl rfl rfl (by decide +kernel) ⟨Nat.le_of_ble_eq_true rfl, Nat.le_of_ble_eq_true rfl⟩) (rPreV hK hN hP [0, 1] rfl 0 11 rfl rfl) rfl rfl hl.1 rfl (lv_room (Nat.le_of_ble_eq_true rfl)) dX13_depthOf_25 ⟨Nat.zero_le _, Nat.zero_le _⟩) (fun r_6 hr_6 => ?_)
      subst hr_6
      refine lv_goto (tgt := 32) hx hb dX13_depthOf_28 (by decide) ?_
      have e_7 : (0 : Int32) = if rg 0 (nI j) 3 = true then 0 else 1 := by first | (with_reducible rfl) | ((try simp only [clj]); (repeat (first | rw [if_pos (by first | assumption | exact Eq.trans (b := false) (by assumption) (Eq.symm (by assumption)) | exact Eq.trans (b := true) (by assumption) (Eq.symm (by assumption)) | exact ⟨by assumption, by assumption⟩ | exact Or.inl (by assumption) | exact Or.inr (by assumption) | exact Or.inr (Or.inl (by assumption)) | exact Or.inr (Or.inr (by assumption)) | (simp only [Int32.lt_iff_toInt_lt, Int32.le_iff_toInt_le, i32_0, i32_1, i32_2, i32_3, i32_4, i32_9, i32_10, i32_99, i32_100, i32_1000, i32_9999] at *; omega))] | rw [if_neg (by first | assumption | (rintro (h9 | h9 | h9) <;> contradiction) | (rintro (h9 | h9) <;> contradiction) | (intro h9; exact Bool.noConfusion (Eq.trans (c := false) h9.symm (by assumption))) | (rintro ⟨h8, h9⟩; exact Bool.noConfusion (Eq.trans (c := false) h8.symm (by assumption))) | (rintro ⟨h8, h9⟩; exact Bool.noConfusion (Eq.trans (c := false) h9.symm (by assumption))) | (simp only [Int32.lt_iff_toInt_lt, Int32.le_iff_toInt_le, i32_0, i32_1, i32_2, i32_3, i32_4, i32_9, i32_10, i32_99, i32_100, i32_1000, i32_9999] at *; omega))])); (try rfl))
      have hP := Eq.mp (congrArg (fun z9 => va_P D vwCl (bMO k q z9 ea fa ch tn he en ln sv wr dg ++ bI83 k (q 1) v) H) e_7) hP
      have hD := Eq.mp (congrArg (fun z9 => va_D A (bMO k q z9 ea fa ch tn he en ln sv wr dg ++ bI83 k (q 1) v)) e_7) hD
      exact W.iret (v := dpM v j) hx hb hr (fun t9 ht hW => ⟨⟨_, (), rfl, (by (try simp only [clj]); (repeat (first | rw [if_pos (by first | assumption | exact Eq.trans (b := false) (by assumption) (Eq.symm (by assumption)) | exact Eq.trans (b := true) (by assumption) (Eq.symm (by assumption)) | exact ⟨by assumption, by assumption⟩ | exact Or.inl (by assumption) | exact Or.inr (by assumption) | exact Or.inr (Or.inl (by assumption)) | exact Or.inr (Or.inr (by assumption)) | (simp only [Int32.lt_iff_toInt_lt, Int32.le_iff_toInt_le, i32_0, i32_1, i32_2, i32_3, i32_4, i32_9, i32_10, i32_99, i32_100, i32_1000, i32_9999] at *; omega))] | rw [if_neg (by first | assumption | (rintro (h9 | h9 | h9) <;> contradiction) | (rintro (h9 | h9) <;> contradiction) | (intro h9; exact Bool.noConfusion (Eq.trans (c := false) h9.symm (by assumption))) | (rintro ⟨h8, h9⟩; exact Bool.noConfusion (Eq.trans (c := false) h8.symm (by assumption))) | (rintro ⟨h8, h9⟩; exact Bool.noConfusion (Eq.trans (c := false) h9.symm (by assumption))) | (simp only [Int32.lt_iff_toInt_lt, Int32.le_iff_toInt_le, i32_0, i32_1, i32_2, i32_3, i32_4, i32_9, i32_10, i32_99, i32_100, i32_1000, i32_9999] at *; omega))])); (try rfl)), ⟨by rw [ht]; exact hP, va_K.moved hW.alike hK, hD⟩⟩, hS.F ht⟩) hS.2.2 dX13_depthOf_32 hlocks

set_option maxHeartbeats 4000000 in
set_option maxRecDepth 100000 in
theorem m_X13_fluxOf (l9 : Launch) (D : va_G) (k : Nat → ClassId) (sz : Nat) (q : Nat → Nat) (th ea fa : Int32) (ch tn he en ln : Nat) (sv wr dg : Bool) (v : Nat → Int32) (fl : Nat → UInt32) (n : Nat) (x : Int32) (hn : n ≤ 10) (hv0 : v 0 = nI n) : Met l9 yX13_fluxOf wsX13_fluxOf ({ frames := 3, cells := 0, slots := 0, locals := 64 }) (WPc D k [.ref (q 0), .int x] (bMO k q th ea fa ch tn he en ln sv wr dg ++ bI83 k (q 1) v ++ bF10 k (q 6) fl) sz) (WF D k (bMO k q (if inC n x = true then 0 else 1) ea fa ch tn he en ln sv wr dg ++ bI83 k (q 1) v ++ bF10 k (q 6) fl) (if inC n x = true then fl x.toNatClampNeg else FP.fconst0) (va_A (bMO k q th ea fa ch tn he en ln sv wr dg ++ bI83 k (q 1) v ++ bF10 k (q 6) fl) sz)) 0 0 (va_A (bMO k q th ea fa ch tn he en ln sv wr dg ++ bI83 k (q 1) v ++ bF10 k (q 6) fl) sz) := by
  refine wMet (y := yX13_fluxOf) (cc := cX13_fluxOf) (maxL := 2) (ret := (some .float)) (Qc := fun A => WF D k (bMO k q (if inC n x = true then 0 else 1) ea fa ch tn he en ln sv wr dg ++ bI83 k (q 1) v ++ bF10 k (q 6) fl) (if inC n x = true then fl x.toNatClampNeg else FP.fconst0) A) [.ref (q 0), .int x] (by decide) rfl (Nat.le_of_ble_eq_true rfl) ?_
  intro p9 e9 s9 m9 bl9 me9 c9 ls A H hF hr hlocks hP hK hN hD hA hS hl hin
  have hl : lv_has ls 2 [(0, .ref (q 0)), (1, .int x)] := hl
  obtain ⟨hx, hb, hml, hown, hts⟩ := id hF
  have k_fieldLink_32 : (Cond.fieldLink RX13 32 "OpinionReactorModel" "flux" "[F").before _ s9 = true := hts (.fieldLink RX13 32 "OpinionReactorModel" "flux" "[F") (by decide +kernel)
  have kc_RX13 : ∀ w ∈ u_ws RX13 TX13 29, w ∈ wsX13_fluxOf := by decide +kernel
  refine lv_aload_n hx hb dX13_fluxOf_0 rfl (lv_at hl 0 rfl) ?_
  refine lv_iload_n hx hb dX13_fluxOf_1 rfl (lv_at hl 1 rfl) ?_
  have hFc := va_free (wc := bMO k q th ea fa ch tn he en ln sv wr dg ++ bI83 k (q 1) v) hD hS hA [0, 1] rfl
  refine va_calli (va_runV (As := [.int x]) (rest := []) hF (m_X13_looks l9 D k H.size q th ea fa ch tn he en ln sv wr dg v n x hn hv0) (cwV 1 hts gX13_fluxOf_X13_looks rfl rfl rfl (by decide +kernel) ⟨Nat.le_of_ble_eq_true rfl, Nat.le_of_ble_eq_true rfl⟩) (wPreV hK hN hP hD [0, 1] rfl (by decide) rfl 0 11 rfl rfl) rfl rfl hl.1 rfl (lv_room (Nat.le_of_ble_eq_true rfl)) dX13_fluxOf_2 ⟨Nat.zero_le _, Nat.zero_le _⟩) hS (fun q _ h => hFc q h) hFc (fun r u9 t9 H1 locs ht hvm hw hB hz1 hk1 hS => ?_)
  obtain ⟨hP, hD⟩ := wjoin (wr := bF10 k (q 6) fl) (wf := bMO k q (if inC n x = true then 0 else 1) ea fa ch tn he en ln sv wr dg ++ bI83 k (q 1) v ++ bF10 k (q 6) fl) hP hD [0, 1] [2] [1, 2, 0] rfl rfl (by decide) (by decide) hk1 hFc hB ht rfl rfl (by decide)
  subst hw
  clear hB hk1 hz1 hvm hFc
  clear ht
  clear t9
  generalize H1 = H at hP hS ⊢
  refine lv_if_eq (tgt := 17) hx hb dX13_fluxOf_5 (by decide) (fun c_1 => ?_) (fun c_1 => ?_)
  · skip
    have c_1 : (inC n x) = false := bI_0 c_1
    refine lv_fconst0 hx hb dX13_fluxOf_17 ?_
    exact W.fret (v := FP.fconst0) hx hb hr (fun t9 ht hW => ⟨⟨_, (), rfl, (by (try simp only []); (repeat (first | rw [if_pos (by first | assumption | exact Eq.trans (b := false) (by assumption) (Eq.symm (by assumption)) | exact Eq.trans (b := true) (by assumption) (Eq.symm (by assumption)) | exact ⟨by assumption, by assumption⟩ | exact Or.inl (by assumption) | exact Or.inr (by assumption) | exact Or.inr (Or.inl (by assumption)) | exact Or.inr (Or.inr (by assumption)) | (simp only [Int32.lt_iff_toInt_lt, Int32.le_iff_toInt_le, i32_0, i32_1, i32_2, i32_3, i32_4, i32_9, i32_10, i32_99, i32_100, i32_1000, i32_9999] at *; omega))] | rw [if_neg (by first | assumption | (rintro (h9 | h9 | h9) <;> contradiction) | (rintro (h9 | h9) <;> contradiction) | (intro h9; exact Bool.noConfusion (Eq.trans (c := false) h9.symm (by assumption))) | (rintro ⟨h8, h9⟩; exact Bool.noConfusion (Eq.trans (c := false) h8.symm (by assumption))) | (rintro ⟨h8, h9⟩; exact Bool.noConfusion (Eq.trans (c := false) h9.symm (by assumption))) | (simp only [Int32.lt_iff_toInt_lt, Int32.le_iff_toInt_le, i32_0, i32_1, i32_2, i32_3, i32_4, i32_9, i32_10, i32_99, i32_100, i32_1000, i32_9999] at *; omega))])); (try rfl)), ⟨by rw [ht]; exact hP, va_K.moved hW.alike hK, hD⟩⟩, hS.F ht⟩) hS.2.2 dX13_fluxOf_18 hlocks
  · skip
    have c_1 : (inC n x) = true := bI_1 c_1
    obtain ⟨j, hj, rfl⟩ := inC_of hn c_1
    have clj : (nI j).toNatClampNeg = j := clN (by omega)
    refine lv_aload_n hx hb dX13_fluxOf_8 rfl (lv_at hl 0 rfl) ?_
    refine va_get (D := D) (ci := 11) (v := .ref (q 6)) (C := RX13) (T := TX13) (N := 29) hx hb hts kc_RX13 hown hK hP 0 rfl rfl 10 (by decide) k_fieldLink_32 (fun _ h9 => h9) rfl dX13_fluxOf_9 ?_
    refine lv_iload_n hx hb dX13_fluxOf_12 rfl (lv_at hl 1 rfl) ?_
    refine fa_ld hx hb hK hP 2 rfl j (by omega) (by decide) dX13_fluxOf_13 ?_
    refine lv_goto (tgt := 18) hx hb dX13_fluxOf_14 (by decide) ?_
    exact W.fret (v := fl j) hx hb hr (fun t9 ht hW => ⟨⟨_, (), rfl, (by (try simp only [clj]); (repeat (first | rw [if_pos (by first | assumption | exact Eq.trans (b := false) (by assumption) (Eq.symm (by assumption)) | exact Eq.trans (b := true) (by assumption) (Eq.symm (by assumption)) | exact ⟨by assumption, by assumption⟩ | exact Or.inl (by assumption) | exact Or.inr (by assumption) | exact Or.inr (Or.inl (by assumption)) | exact Or.inr (Or.inr (by assumption)) | (simp only [Int32.lt_iff_toInt_lt, Int32.le_iff_toInt_le, i32_0, i32_1, i32_2, i32_3, i32_4, i32_9, i32_10, i32_99, i32_100, i32_1000, i32_9999] at *; omega))] | rw [if_neg (by first | assumption | (rintro (h9 | h9 | h9) <;> contradiction) | (rintro (h9 | h9) <;> contradiction) | (intro h9; exact Bool.noConfusion (Eq.trans (c := false) h9.symm (by assumption))) | (rintro ⟨h8, h9⟩; exact Bool.noConfusion (Eq.trans (c := false) h8.symm (by assumption))) | (rintro ⟨h8, h9⟩; exact Bool.noConfusion (Eq.trans (c := false) h9.symm (by assumption))) | (simp only [Int32.lt_iff_toInt_lt, Int32.le_iff_toInt_le, i32_0, i32_1, i32_2, i32_3, i32_4, i32_9, i32_10, i32_99, i32_100, i32_1000, i32_9999] at *; omega))])); (try rfl)), ⟨by rw [ht]; exact hP, va_K.moved hW.alike hK, hD⟩⟩, hS.F ht⟩) hS.2.2 dX13_fluxOf_18 hlocks

set_option maxHeartbeats 4000000 in
set_option maxRecDepth 100000 in
theorem m_X13_power (l9 : Launch) (D : va_G) (k : Nat → ClassId) (sz : Nat) (q : Nat → Nat) (th ea fa : Int32) (ch tn he en ln : Nat) (sv wr dg : Bool) (v : Nat → Int32) (fl : Nat → UInt32) (n : Nat) (hn : n ≤ 10) (hv0 : v 0 = nI n) (hf : ∀ c, c < n → okF (fl c)) : Met l9 yX13_power wsX13_power ({ frames := 1, cells := 0, slots := 0, locals := 22 }) (WPc D k [.ref (q 0)] (bMO k q th ea fa ch tn he en ln sv wr dg ++ bI83 k (q 1) v ++ bF10 k (q 6) fl) sz) (WF D k (bMO k q 0 ea fa ch tn he en ln sv wr dg ++ bI83 k (q 1) v ++ bF10 k (q 6) fl) (smF fl n) (va_A (bMO k q th ea fa ch tn he en ln sv wr dg ++ bI83 k (q 1) v ++ bF10 k (q 6) fl) sz)) 0 0 (va_A (bMO k q th ea fa ch tn he en ln sv wr dg ++ bI83 k (q 1) v ++ bF10 k (q 6) fl) sz) := by
  refine wMet (y := yX13_power) (cc := cX13_power) (maxL := 1) (ret := (some .float)) (Qc := fun A => WF D k (bMO k q 0 ea fa ch tn he en ln sv wr dg ++ bI83 k (q 1) v ++ bF10 k (q 6) fl) (smF fl n) A) [.ref (q 0)] (by decide) rfl (Nat.le_of_ble_eq_true rfl) ?_
  intro p9 e9 s9 m9 bl9 me9 c9 ls A H hF hr hlocks hP hK hN hD hA hS hl hin
  have hl : lv_has ls 1 [(0, .ref (q 0))] := hl
  obtain ⟨hx, hb, hml, hown, hts⟩ := id hF
  have k_fieldLink_77 : (Cond.fieldLink RX13 77 "OpinionReactorModel" "thrown" "I").before _ s9 = true := hts (.fieldLink RX13 77 "OpinionReactorModel" "thrown" "I") (by decide +kernel)
  have kc_RX13 : ∀ w ∈ u_ws RX13 TX13 29, w ∈ wsX13_power := by decide +kernel
  refine lv_aload_n hx hb dX13_power_0 rfl (lv_at hl 0 rfl) ?_
  refine lv_iconst (v := 0) hx hb dX13_power_1 (by decide) ?_
  refine va_put (D := D) (ci := 11) (v := .int 0) (ty := .int) (C := RX13) (T := TX13) (N := 29) hx hb hts kc_RX13 tyX13 tyX13_ok nmX13 hown hK hP hD hS 0 rfl rfl 0 (by decide) k_fieldLink_77 (fun _ h9 => h9) rfl (by decide +kernel) rfl rfl (Nat.le_of_ble_eq_true rfl) dX13_power_2 (fun H locs hP hD hS => ?_)
  have hP : va_P D vwCl (bMO k q 0 ea fa ch tn he en ln sv wr dg ++ bI83 k (q 1) v ++ bF10 k (q 6) fl) H := hP
  have hD : va_D A (bMO k q 0 ea fa ch tn he en ln sv wr dg ++ bI83 k (q 1) v ++ bF10 k (q 6) fl) := hD
  refine lv_aload_n hx hb dX13_power_5 rfl (lv_at hl 0 rfl) ?_
  refine vp_callSf (W.runV (As := []) (rest := []) hF (m_X13_sum l9 D k q 0 ea fa ch tn he en ln sv wr dg v fl n hn hv0 hf) (cwV 0 hts gX13_power_X13_sum rfl rfl rfl (by decide +kernel) ⟨Nat.le_of_ble_eq_true rfl, Nat.le_of_ble_eq_true rfl⟩) (rPreV hK hN hP [0, 1, 2] rfl 0 11 rfl rfl) rfl rfl hl.1 rfl (lv_room (Nat.le_of_ble_eq_true rfl)) dX13_power_6 ⟨Nat.zero_le _, Nat.zero_le _⟩) (fun r_1 hr_1 => ?_)
  subst hr_1
  exact W.fret (v := smF fl n) hx hb hr (fun t9 ht hW => ⟨⟨_, (), rfl, (by rfl), ⟨by rw [ht]; exact hP, va_K.moved hW.alike hK, hD⟩⟩, hS.F ht⟩) hS.2.2 dX13_power_9 hlocks

/-! The two sides read a command alike. -/
theorem isG_g (ts : Nat → Int32) (tl sp : Nat) : isG ts tl sp = isD (sgn ts tl sp) := by
  unfold isG sgn isD
  by_cases h : sp < tl
  · rw [if_pos h, decide_eq_true h, Bool.true_and]
  · rw [if_neg h, decide_eq_false h, Bool.false_and]
    decide
theorem sgC_g {ts : Nat → Int32} {tl sp : Nat} {z : Int32} (hz : ¬ -1 = z) : sgC ts tl sp z = decide (sgn ts tl sp = z) := by
  unfold sgC sgn
  by_cases h : sp < tl
  · rw [if_pos h, decide_eq_true h, Bool.true_and]
  · rw [if_neg h, decide_eq_false h, decide_eq_false hz]
    rfl
theorem ltC_10 {ts : Nat → Int32} {tl sp : Nat} (ho : tsOk ts tl) : ltC ts tl sp 10 = (decide (sgn ts tl sp = 113) || decide (sgn ts tl sp = 111) || decide (sgn ts tl sp = 97)) := by
  unfold ltC sgn
  by_cases h : sp < tl
  · obtain ⟨q, hq, e⟩ := ho sp h
    rw [if_pos h, decide_eq_true h, Bool.true_and, e, nI_clamp (by omega)]
    have : ∀ q : Nat, q < 128 → decide (0 ≤ ixS 10 q) = (decide (nI q = 113) || decide (nI q = 111) || decide (nI q = 97)) := by decide +kernel
    exact this q hq
  · rw [if_neg h, decide_eq_false h, Bool.false_and]
    decide
theorem ltC_11 {ts : Nat → Int32} {tl sp : Nat} (ho : tsOk ts tl) : ltC ts tl sp 11 = (decide (sgn ts tl sp = 113) || decide (sgn ts tl sp = 111)) := by
  unfold ltC sgn
  by_cases h : sp < tl
  · obtain ⟨q, hq, e⟩ := ho sp h
    rw [if_pos h, decide_eq_true h, Bool.true_and, e, nI_clamp (by omega)]
    have : ∀ q : Nat, q < 128 → decide (0 ≤ ixS 11 q) = (decide (nI q = 113) || decide (nI q = 111)) := by decide +kernel
    exact this q hq
  · rw [if_neg h, decide_eq_false h, Bool.false_and]
    decide
theorem dig_c (x c : Int32) : x * 10 + (c - 48) = 10 * x + c - 48 := by
  rw [Int32.mul_comm x 10, Int32.sub_eq_add_neg, Int32.sub_eq_add_neg, Int32.add_assoc]
theorem sgn_ts {ts : Nat → Int32} {tl sp : Nat} (h : sp < tl) : sgn ts tl sp = ts sp := if_pos h
/-- how many letters a word has -/
def wdL (w : Nat) : Nat := waK (w + 1) - waK w
def chO9 (w j : Nat) : Bool := decide (chS w j = wdK (waK w + j)) && (!decide (-1 = chS w j) && (!decide (chS w j = 35) && (!decide (chS w j = 48) && (!decide (chS w j = 75) && !decide (chS w j = 82)))))
theorem ch_wd {w j : Nat} (hw : w < 10) (hj : j < wdL w) : chS w j = wdK (waK w + j) ∧ ¬ -1 = chS w j ∧ ¬ chS w j = 35 ∧ ¬ chS w j = 48 ∧ ¬ chS w j = 75 ∧ ¬ chS w j = 82 := by
  have h7 : wdL w ≤ 7 := by have := waK_7 hw; unfold wdL; omega
  have all : ∀ w : Nat, w < 10 → ∀ j : Nat, j < 7 → j < wdL w → chO9 w j = true := by decide +kernel
  have h := all w hw j (by omega) hj
  unfold chO9 at h
  simp only [Bool.and_eq_true, Bool.not_eq_true', decide_eq_true_eq, decide_eq_false_iff_not] at h
  exact h
theorem wdL_ln {w : Nat} (hw : w < 10) : wdL w < lnF w ∧ 5 ≤ wdL w ∧ wdL w ≤ 7 := by
  have : ∀ w : Nat, w < 10 → wdL w < lnF w ∧ 5 ≤ wdL w ∧ wdL w ≤ 7 := by decide +kernel
  exact this w hw
def pf9 (w u : Nat) : Bool := !decide (chS u 0 = chS w 0) || (!decide (chS u 1 = chS w 1) || !decide (chS u 2 = chS w 2))
theorem wd_pf {w u : Nat} (hw : w < 10) (hu : u < 10) (h : ¬ u = w) (hl : wdL u ≤ wdL w) : ∃ j, j < wdL u ∧ ¬ chS u j = chS w j := by
  have all : ∀ w : Nat, w < 10 → ∀ u : Nat, u < 10 → ¬ u = w → wdL u ≤ wdL w → pf9 w u = true := by decide +kernel
  have h1 := all w hw u hu h hl
  unfold pf9 at h1
  simp only [Bool.or_eq_true, Bool.not_eq_true', decide_eq_false_iff_not] at h1
  have h5 := (wdL_ln hu).2.1
  rcases h1 with q | q | q
  · exact ⟨0, by omega, q⟩
  · exact ⟨1, by omega, q⟩
  · exact ⟨2, by omega, q⟩
section PARSE
variable {ts tx : Nat → Int32} {tl : Nat}
/-- the letter that stands at a place of the word -/
def mtc (ts : Nat → Int32) (tl st w j : Nat) : Prop := sgn ts tl (st + j) = chS w j
theorem tpS_ch {cm h vc : Nat} {V : Nat → Nat → Int32} {w j : Nat} (hw : w < 10) (hj : j < wdL w) : tpS ts tl cm (true, h, vc, V) (chS w j) = if sgn ts tl h = chS w j then (true, h + 1, vc, V) else (false, h, vc, V) := by
  obtain ⟨-, e0, e1, e2, e3, e4⟩ := ch_wd hw hj
  unfold tpS
  rw [if_neg e1, if_neg e2, if_neg e3, if_neg e4, sgC_g e0]
  by_cases q : sgn ts tl h = chS w j
  · rw [if_pos q, decide_eq_true q]; rfl
  · rw [if_neg q, decide_eq_false q]; rfl
theorem tfU_w {cm st w : Nat} {V : Nat → Nat → Int32} (hw : w < 10) (m : Nat) (hm : m ≤ wdL w) (h : ∀ j, j < m → mtc ts tl st w j) : tfU ts tl cm w st V m = (true, st + m, 0, V) := by
  induction m with
  | zero => rfl
  | succ m ih =>
    have e := ih (by omega) (fun j hj => h j (by omega))
    rw [tfU_s (by rw [e]), e, tpS_ch hw (by omega), if_pos (show sgn ts tl (st + m) = chS w m from h m (by omega))]
    rfl
theorem tfE_x {cm st w : Nat} {V : Nat → Nat → Int32} (hw : w < 10) {m : Nat} (hm : m < wdL w) (h : ∀ j, j < m → mtc ts tl st w j) (h2 : ¬ mtc ts tl st w m) : tfE ts tl cm w st V = (false, st + m, 0, V) := by
  have e := tfU_w (ts := ts) (tl := tl) (cm := cm) (V := V) hw m (by omega) h
  have e2 : tpS ts tl cm (tfU ts tl cm w st V m) (chS w m) = (false, st + m, 0, V) := by
    rw [e, tpS_ch hw hm]
    exact if_neg h2
  rw [tfE_f (by rw [e]) (by rw [e2]) (by have := (wdL_ln hw).1; omega), e2]
/-- how many letters of a word stand there -/
def pfL (ts : Nat → Int32) (tl st w : Nat) : Nat := fsN (fun j => !decide (sgn ts tl (st + j) = chS w j)) (wdL w)
theorem pfL_m {st w j : Nat} (h : j < pfL ts tl st w) : mtc ts tl st w j := by
  have h2 : (!decide (sgn ts tl (st + j) = chS w j)) = false := fsN_lt (p := fun j => !decide (sgn ts tl (st + j) = chS w j)) (n := wdL w) j h
  rw [Bool.not_eq_false', decide_eq_true_eq] at h2
  exact h2
theorem pfL_x {st w : Nat} (h : pfL ts tl st w < wdL w) : ¬ mtc ts tl st w (pfL ts tl st w) := by
  have h2 : (!decide (sgn ts tl (st + pfL ts tl st w) = chS w (pfL ts tl st w))) = true := fsN_stop (p := fun j => !decide (sgn ts tl (st + j) = chS w j)) (n := wdL w) h
  rw [Bool.not_eq_true', decide_eq_false_iff_not] at h2
  exact h2
theorem pfL_le (ts : Nat → Int32) (tl st w : Nat) : pfL ts tl st w ≤ wdL w := fsN_le _ _
theorem pfL_ge {st w m : Nat} (hm : m ≤ wdL w) (h : ∀ j, j < m → mtc ts tl st w j) : m ≤ pfL ts tl st w := by
  rcases Nat.lt_or_ge (pfL ts tl st w) m with q | q
  · exact absurd (h _ q) (pfL_x (by omega))
  · exact q
theorem tfE_p {cm st w : Nat} {V : Nat → Nat → Int32} (hw : w < 10) (h : pfL ts tl st w < wdL w) : tfE ts tl cm w st V = (false, st + pfL ts tl st w, 0, V) := tfE_x hw h (fun _ hj => pfL_m hj) (pfL_x h)
/-- two words cannot stand there -/
theorem pfL_o {st w u : Nat} (hw : w < 10) (hu : u < 10) (h : pfL ts tl st w = wdL w) (hn : ¬ u = w) : pfL ts tl st u < wdL u ∧ pfL ts tl st u < wdL w := by
  have key : ∀ a b : Nat, a < 10 → b < 10 → ¬ a = b → wdL a ≤ wdL b → wdL a ≤ pfL ts tl st b → pfL ts tl st a < wdL a := by
    intro a b ha hb hab hl hp
    obtain ⟨j, hj, hc⟩ := wd_pf hb ha hab hl
    rcases Nat.lt_or_ge (pfL ts tl st a) (wdL a) with q | q
    · exact q
    · have e1 : mtc ts tl st a j := pfL_m (by omega)
      have e2 : mtc ts tl st b j := pfL_m (by omega)
      exact absurd (e1.symm.trans e2) hc
  have hul := pfL_le ts tl st u
  rcases Nat.lt_or_ge (wdL w) (wdL u) with q | q
  · have : pfL ts tl st u < wdL w := by
      rcases Nat.lt_or_ge (pfL ts tl st u) (wdL w) with r | r
      · exact r
      · have := key w u hw hu (Ne.symm hn) (by omega) r
        omega
    exact ⟨by omega, this⟩
  · have := key u w hu hw hn q (by omega)
    exact ⟨this, by omega⟩
/-- the model's letters -/
theorem lf_iff (hg : ∀ p, sgn ts tl p = sgn tx tl p) (st : Nat) {w : Nat} (hw : w < 10) (m : Nat) : lfE tx tl st w m = true ↔ m ≤ pfL ts tl st w := by
  have e : lfE tx tl st w m = true ↔ m ≤ wdL w ∧ ∀ j, j < m → mtc ts tl st w j := by
    induction m with
    | zero => exact ⟨fun _ => ⟨Nat.zero_le _, fun j hj => absurd hj (Nat.not_lt_zero j)⟩, fun _ => rfl⟩
    | succ m ih =>
      rw [lfE_s, Bool.and_eq_true, Bool.and_eq_true, ih, decide_eq_true_eq, decide_eq_true_eq]
      have hL : wdL w = waK (w + 1) - waK w := rfl
      constructor
      · rintro ⟨⟨h1, h2⟩, h3, h4⟩
        have hm : m < wdL w := by omega
        refine ⟨hm, fun j hj => ?_⟩
        rcases Nat.lt_succ_iff_lt_or_eq.mp hj with q | q
        · exact h2 j q
        · subst q
          show sgn ts tl (st + j) = chS w j
          rw [hg, ← h4, (ch_wd hw hm).1]
      · rintro ⟨h1, h2⟩
        refine ⟨⟨by omega, fun j hj => h2 j (by omega)⟩, by omega, ?_⟩
        have h3 : sgn ts tl (st + m) = chS w m := h2 m (Nat.lt_succ_self m)
        rw [← hg, h3, (ch_wd hw (by omega)).1]
  rw [e]
  exact ⟨fun h => pfL_ge h.1 h.2, fun h => ⟨Nat.le_trans h (pfL_le ts tl st w), fun j hj => pfL_m (by omega)⟩⟩
theorem an_iff (hg : ∀ p, sgn ts tl p = sgn tx tl p) (st m j : Nat) (hj : j ≤ 10) : anE tx tl st m j = true ↔ ∃ w, w < j ∧ m ≤ pfL ts tl st w := by
  induction j with
  | zero => exact ⟨fun h => (by cases h), fun ⟨w, hw, _⟩ => absurd hw (Nat.not_lt_zero w)⟩
  | succ j ih =>
    rw [anE_s, Bool.or_eq_true, ih (by omega), lf_iff hg st (by omega)]
    constructor
    · rintro (⟨w, hw, h⟩ | h)
      · exact ⟨w, by omega, h⟩
      · exact ⟨j, Nat.lt_succ_self j, h⟩
    · rintro ⟨w, hw, h⟩
      rcases Nat.lt_succ_iff_lt_or_eq.mp hw with q | q
      · exact Or.inl ⟨w, q, h⟩
      · subst q; exact Or.inr h
/-- no word is there: the model stops at the furthest letter -/
theorem wd_no (hg : ∀ p, sgn ts tl p = sgn tx tl p) (st : Nat) (h : (wdE tx tl st false).2.1 = true) : (∀ w, w < 10 → pfL ts tl st w < wdL w ∧ st + pfL ts tl st w ≤ (wdE tx tl st false).1) ∧ ((wdE tx tl st false).1 = st ∨ ∃ w, w < 10 ∧ st + pfL ts tl st w = (wdE tx tl st false).1) := by
  obtain ⟨h8, hs, hgo⟩ := wdN_le tx tl st false
  unfold wdE at h ⊢
  cases e : wdN tx tl st false with
  | zero =>
    rw [e] at h
    have h : false = true := h
    cases h
  | succ m =>
    rw [e] at h hgo
    have hm := fun c (hc : c ≤ m) => hgo c (by omega)
    have h2 : (!anE tx tl st (m + 1) 10) = true := h
    have han : ¬ anE tx tl st (m + 1) 10 = true := fun q => by rw [q] at h2; cases h2
    have e1 : (wdU tx tl st false (m + 1)).1 = st + m := by
      rw [wdU_s]
      show (wdU tx tl st false m).1 + _ = _
      rw [(wdU_he hm).1, if_neg han]
      omega
    rw [e1]
    have hno : ∀ w, w < 10 → pfL ts tl st w ≤ m := by
      intro w hw
      rcases Nat.lt_or_ge m (pfL ts tl st w) with q | q
      · exact absurd ((an_iff hg st (m + 1) 10 (Nat.le_refl _)).mpr ⟨w, hw, q⟩) han
      · exact q
    refine ⟨fun w hw => ⟨?_, by have := hno w hw; omega⟩, ?_⟩
    · have hle := pfL_le ts tl st w
      rcases Nat.lt_or_ge (pfL ts tl st w) (wdL w) with q | q
      · exact q
      · exfalso
        have hL := (wdL_ln hw).2.1
        have hpm := hno w hw
        obtain ⟨d, hd⟩ : ∃ d, wdL w = d + 1 := ⟨wdL w - 1, by omega⟩
        have g1 := wdU_m1 (tx := tx) (en := tl) (he := st) (wr := false) (m := d + 1) (fun c hc => hm c (by omega))
        rw [wdU_s] at g1
        have g2 : fiE tx tl st (d + 1) (wdU tx tl st false d).2.2 10 = -1 := g1
        have hit : ∀ j x, w < j → j ≤ 10 → ¬ fiE tx tl st (d + 1) x j = -1 := by
          intro j x hwj hj
          induction j with
          | zero => exact absurd hwj (Nat.not_lt_zero w)
          | succ j ih =>
            rw [fiE_s]
            split
            · intro z; exact (show ¬ nI j = -1 from nI_nm1 (by omega)) z
            · rename_i hno2
              rcases Nat.lt_succ_iff_lt_or_eq.mp hwj with r | r
              · exact ih r (by omega)
              · subst r
                exfalso
                apply hno2
                refine ⟨(lf_iff hg st hw (d + 1)).mpr (by omega), ?_⟩
                have hL2 : wdL w = waK (w + 1) - waK w := rfl
                omega
        exact hit 10 _ hw (Nat.le_refl _) g2
    · cases m with
      | zero => exact Or.inl rfl
      | succ d =>
        right
        have g1 := (wdU_he (tx := tx) (en := tl) (he := st) (wr := false) (m := d + 1) (fun c hc => hm c hc)).2
        rw [wdU_s] at g1
        have g2 : (!anE tx tl st (d + 1) 10) = false := g1
        have g3 : anE tx tl st (d + 1) 10 = true := by
          cases q : anE tx tl st (d + 1) 10 with
          | true => rfl
          | false => rw [q] at g2; cases g2
        obtain ⟨w, hw, h3⟩ := (an_iff hg st (d + 1) 10 (Nat.le_refl _)).mp g3
        exact ⟨w, hw, by have := hno w hw; omega⟩
theorem wd_yes (hg : ∀ p, sgn ts tl p = sgn tx tl p) (st : Nat) (h : (wdE tx tl st false).2.1 = false) : ∃ w, w < 10 ∧ (wdE tx tl st false).2.2 = nI w ∧ pfL ts tl st w = wdL w ∧ (wdE tx tl st false).1 = st + wdL w := by
  obtain ⟨w, hw, e1, e2, e3, -⟩ := wdE_nat h
  exact ⟨w, hw, e1, Nat.le_antisymm (pfL_le ts tl st w) ((lf_iff hg st hw _).mp e2), e3⟩
/-- a part behind the word -/
def ppS (ts : Nat → Int32) (tl cm : Nat) (s : PT) (z : Int32) : PT := if s.1 = true then tpS ts tl cm s z else s
theorem ppS_f {cm h vc : Nat} {V : Nat → Nat → Int32} (z : Int32) : ppS ts tl cm (false, h, vc, V) z = (false, h, vc, V) := rfl
theorem ppS_t {cm h vc : Nat} {V : Nat → Nat → Int32} (z : Int32) : ppS ts tl cm (true, h, vc, V) z = tpS ts tl cm (true, h, vc, V) z := if_pos rfl
theorem tfE_a {cm st w : Nat} {V : Nat → Nat → Int32} (hw : w < 10) (h : pfL ts tl st w = wdL w) : tfE ts tl cm w st V = up (fun j s => ppS ts tl cm s (chS w (wdL w + j))) (true, st + wdL w, 0, V) (lnF w - wdL w) := by
  have e := tfU_w (ts := ts) (tl := tl) (cm := cm) (V := V) hw (wdL w) (Nat.le_refl _) (fun j hj => pfL_m (by rw [h]; exact hj))
  have all : ∀ d, tfU ts tl cm w st V (wdL w + d) = up (fun j s => ppS ts tl cm s (chS w (wdL w + j))) (true, st + wdL w, 0, V) d := by
    intro d
    induction d with
    | zero => exact e
    | succ d ih =>
      rw [up_s, ← ih]
      rfl
  rw [← tfE_eq, ← all, show wdL w + (lnF w - wdL w) = lnF w by have := (wdL_ln hw).1; omega]
theorem pp_d4 (hg : ∀ p, sgn ts tl p = sgn tx tl p) {cm h vc : Nat} {V : Nat → Nat → Int32} : ppS ts tl cm (true, h, vc, V) 35 = if isD (sgn tx tl h) = true then (true, h + dkE tx tl h false 4, kpN vc, kpV cm vc V (dvE tx tl h (dkE tx tl h false 4))) else (false, h, vc, V) := by
  have ek : dkC ts tl h = dkE tx tl h false 4 := fsN_cg (fun c _ => by rw [isG_g, hg])
  have ev : nvC ts h (dkE tx tl h false 4) = dvE tx tl h (dkE tx tl h false 4) := by
    have all : ∀ m, m ≤ dkE tx tl h false 4 → nvC ts h m = dvE tx tl h m := by
      intro m
      induction m with
      | zero => intro _; rfl
      | succ m ih =>
        intro hm
        have hd : isD (sgn tx tl (h + m)) = true := by
          have := fsN_lt (p := fun i => !isD (sgn tx tl (h + i))) (n := 4) m (show m < dkE tx tl h false 4 by omega)
          simpa using this
        have hin : h + m < tl := isD_in hd
        rw [nvC_s, dvE_s, ih (by omega), ← hg, sgn_ts hin]
        exact dig_c _ _
    exact all _ (Nat.le_refl _)
  show tpS ts tl cm (true, h, vc, V) 35 = _
  unfold tpS
  rw [if_pos rfl]
  dsimp only
  rw [isG_g, hg, ek, ev]
  cases isD (sgn tx tl h) <;> rfl
theorem pp_d1 (hg : ∀ p, sgn ts tl p = sgn tx tl p) {cm h vc : Nat} {V : Nat → Nat → Int32} : ppS ts tl cm (true, h, vc, V) 48 = if isD (sgn tx tl h) = true then (true, h + 1, kpN vc, kpV cm vc V (sgn tx tl h - 48)) else (false, h, vc, V) := by
  rw [ppS_t, tpS_48 (by decide) rfl, isG_g, hg]
  by_cases q : isD (sgn tx tl h) = true
  · have hin : h < tl := isD_in q
    have e : sgn tx tl h = ts h := by rw [← hg, sgn_ts hin]
    rw [if_pos q, if_pos q, if_pos q, if_pos q, q, e]
  · rw [if_neg q, if_neg q, if_neg q, if_neg q]
    rw [Bool.not_eq_true] at q
    rw [q]
theorem pp_k (hg : ∀ p, sgn ts tl p = sgn tx tl p) (ho : tsOk ts tl) {cm h vc : Nat} {V : Nat → Nat → Int32} : ppS ts tl cm (true, h, vc, V) 75 = if ltW tx tl h false true = false then (true, h + 1, kpN vc, kpV cm vc V (sgn tx tl h)) else (false, h, vc, V) := by
  have e : ltC ts tl h 10 = !ltW tx tl h false true := by
    rw [ltC_10 ho, hg]
    unfold ltW
    simp
  rw [ppS_t, tpS_75 (by decide) (by decide) rfl]
  by_cases q : ltW tx tl h false true = false
  · have e2 : ltC ts tl h 10 = true := by rw [e, q]; rfl
    have e3 : sgn tx tl h = ts h := by rw [← hg, sgn_ts (ltC_in e2)]
    rw [if_pos e2, if_pos e2, if_pos e2, if_pos q, e2, e3]
  · rw [Bool.not_eq_false] at q
    have e2 : ltC ts tl h 10 = false := by rw [e, q]; rfl
    rw [e2, if_neg (by decide), if_neg (by decide), if_neg (by decide), if_neg (by rw [q]; decide)]
theorem pp_r (hg : ∀ p, sgn ts tl p = sgn tx tl p) (ho : tsOk ts tl) {cm h vc : Nat} {V : Nat → Nat → Int32} : ppS ts tl cm (true, h, vc, V) 82 = if ltW tx tl h false false = false then (true, h + 1, kpN vc, kpV cm vc V (sgn tx tl h)) else (false, h, vc, V) := by
  show tpS ts tl cm (true, h, vc, V) 82 = _
  unfold tpS
  rw [if_neg (by decide), if_neg (by decide), if_neg (by decide), if_pos rfl]
  dsimp only
  have e : ltC ts tl h 11 = !ltW tx tl h false false := by
    rw [ltC_11 ho, hg]
    unfold ltW
    simp
  cases q : ltW tx tl h false false with
  | true => rw [e, q]; rfl
  | false =>
    have e2 : ltC ts tl h 11 = true := by rw [e, q]; rfl
    rw [e2, ← hg, sgn_ts (ltC_in e2)]; rfl
theorem pp_s (hg : ∀ p, sgn ts tl p = sgn tx tl p) {cm h vc : Nat} {V : Nat → Nat → Int32} {z : Int32} (hz : z = 62 ∨ z = 61 ∨ z = 43) : ppS ts tl cm (true, h, vc, V) z = if sgn tx tl h = z then (true, h + 1, vc, V) else (false, h, vc, V) := by
  have e : ¬ -1 = z ∧ ¬ z = 35 ∧ ¬ z = 48 ∧ ¬ z = 75 ∧ ¬ z = 82 := by
    rcases hz with e | e | e <;> subst e <;> decide
  show tpS ts tl cm (true, h, vc, V) z = _
  unfold tpS
  rw [if_neg e.2.1, if_neg e.2.2.1, if_neg e.2.2.2.1, if_neg e.2.2.2.2, sgC_g e.1, hg]
  by_cases q : sgn tx tl h = z
  · rw [if_pos q, decide_eq_true q]; rfl
  · rw [if_neg q, decide_eq_false q]; rfl
theorem kv_at {cm vc : Nat} {V : Nat → Nat → Int32} {x : Int32} (h : vc < 3) (j : Nat) : kpV cm vc V x cm j = if j = vc then x else V cm j := by
  unfold kpV
  rw [if_pos h, upR_at, upd_at]
theorem D1t {en h : Nat} (q : isD (sgn tx en h) = true) : dkE tx en h false 1 = 1 ∧ dwE tx en h false 1 = false ∧ dvE tx en h 1 = sgn tx en h - 48 := by
  have e : dkE tx en h false 1 = 1 := dkE_no rfl (fun c hc => by rw [show c = 0 by omega]; exact q)
  refine ⟨e, ?_, ?_⟩
  · unfold dwE; rw [e]; rfl
  · show 10 * (0 : Int32) + sgn tx en (h + 0) - 48 = _
    rw [Int32.mul_zero, Int32.zero_add, Nat.add_zero]
theorem D1f {en h m : Nat} (hm : 0 < m) (q : ¬ isD (sgn tx en h) = true) : dkE tx en h false m = 0 ∧ dwE tx en h false m = true := by
  have e : dkE tx en h false m = 0 := dkE_at rfl (fun c hc => absurd hc (Nat.not_lt_zero c)) (by rw [Nat.add_zero]; simpa using q) hm
  exact ⟨e, by unfold dwE; rw [e]; rfl⟩
theorem D4t {en h : Nat} (q : isD (sgn tx en h) = true) : dwE tx en h false 4 = false := by
  unfold dwE
  rw [Bool.false_or]
  apply decide_eq_false
  intro e
  have e2 : fsN (fun i => !isD (sgn tx en (h + i))) 4 = 0 := e
  have := fsN_stop (p := fun i => !isD (sgn tx en (h + i))) (n := 4) (by rw [e2]; decide)
  rw [e2] at this
  have : (!isD (sgn tx en (h + 0))) = true := this
  rw [Nat.add_zero, q] at this
  cases this
theorem Bht {en h m : Nat} {z : Int32} (q : sgn tx en h = z) : bhE tx en h false z m = (dvE tx en (h + 1) (dkE tx en (h + 1) false m), h + 1 + dkE tx en (h + 1) false m, dwE tx en (h + 1) false m) := by
  unfold bhE
  rw [exE_f rfl q]
  rfl
theorem Bhf {en h m : Nat} {z : Int32} (q : ¬ sgn tx en h = z) : bhE tx en h false z m = (0, h, true) := by
  unfold bhE
  rw [exE_n rfl q]
  rfl
/-- what is read behind the word w is the same on both sides -/
def ArgR (w cm : Nat) (X : PT) (one : Int32) (c : Int32 × Int32 × Nat × Bool) : Prop :=
  X.1 = !c.2.2.2 ∧ X.2.1 = c.2.2.1 ∧ (X.1 = true → X.2.2.2 cm 0 = one ∧ (1 ≤ w ∧ w ≤ 7 → X.2.2.2 cm 1 = c.1) ∧ (w = 5 → X.2.2.2 cm 2 = c.2.1))
theorem ar_num (hg : ∀ p, sgn ts tl p = sgn tx tl p) (w cm h : Nat) (V : Nat → Nat → Int32) (hw : ¬ (1 ≤ w ∧ w ≤ 7)) : ArgR w cm (ppS ts tl cm (true, h, 0, V) 35) (dvE tx tl h (dkE tx tl h false 4)) (0, 0, h + dkE tx tl h false 4, dwE tx tl h false 4) := by
  rw [pp_d4 hg]
  by_cases q : isD (sgn tx tl h) = true
  · rw [if_pos q]
    refine ⟨by rw [D4t q]; rfl, rfl, fun _ => ⟨?_, fun h9 => absurd h9 hw, fun h9 => absurd (by omega) hw⟩⟩
    show kpV cm 0 V _ cm 0 = _
    rw [kv_at (by decide), if_pos rfl]
  · rw [if_neg q]
    obtain ⟨e1, e2⟩ := D1f (tx := tx) (en := tl) (h := h) (m := 4) (by decide) q
    exact ⟨by rw [e2]; rfl, by rw [e1]; rfl, fun h9 => (by cases h9)⟩
theorem ar_sgn (hg : ∀ p, sgn ts tl p = sgn tx tl p) (w cm h : Nat) (V : Nat → Nat → Int32) {z : Int32} (hz : z = 62 ∨ z = 61 ∨ z = 43) (hw : ¬ w = 5) : ArgR w cm (ppS ts tl cm (ppS ts tl cm (ppS ts tl cm (true, h, 0, V) 48) z) 48) (dvE tx tl h (dkE tx tl h false 1)) (if dwE tx tl h false 1 = true then (0, 0, h + dkE tx tl h false 1, true) else ((bhE tx tl (h + dkE tx tl h false 1) false z 1).1, 0, (bhE tx tl (h + dkE tx tl h false 1) false z 1).2)) := by
  rw [pp_d1 hg]
  by_cases q : isD (sgn tx tl h) = true
  · obtain ⟨e1, e2, e3⟩ := D1t q
    rw [if_pos q, if_neg (by rw [e2]; decide), e1, e3, pp_s hg hz]
    by_cases r : sgn tx tl (h + 1) = z
    · rw [if_pos r, pp_d1 hg, Bht r]
      by_cases u : isD (sgn tx tl (h + 1 + 1)) = true
      · obtain ⟨f1, f2, f3⟩ := D1t u
        rw [if_pos u, f1, f2, f3]
        refine ⟨rfl, rfl, fun _ => ⟨?_, fun _ => ?_, fun h9 => absurd h9 hw⟩⟩
        · show kpV cm 1 (kpV cm 0 V _) _ cm 0 = _
          rw [kv_at (by decide), if_neg (by decide), kv_at (by decide), if_pos rfl]
        · show kpV cm 1 (kpV cm 0 V _) _ cm 1 = _
          rw [kv_at (by decide), if_pos rfl]
      · obtain ⟨f1, f2⟩ := D1f (tx := tx) (en := tl) (h := h + 1 + 1) (m := 1) (by decide) u
        rw [if_neg u, f1, f2]
        exact ⟨rfl, rfl, fun h9 => (by cases h9)⟩
    · rw [if_neg r, Bhf r, ppS_f]
      exact ⟨rfl, rfl, fun h9 => (by cases h9)⟩
  · obtain ⟨e1, e2⟩ := D1f (tx := tx) (en := tl) (h := h) (m := 1) (by decide) q
    rw [if_neg q, if_pos e2, e1, ppS_f, ppS_f]
    exact ⟨rfl, rfl, fun h9 => (by cases h9)⟩
theorem ar_exc (hg : ∀ p, sgn ts tl p = sgn tx tl p) (w cm h : Nat) (V : Nat → Nat → Int32) (hw : ¬ w = 5) : ArgR w cm (ppS ts tl cm (ppS ts tl cm (ppS ts tl cm (true, h, 0, V) 48) 43) 35) (dvE tx tl h (dkE tx tl h false 1)) (if dwE tx tl h false 1 = true then (0, 0, h + dkE tx tl h false 1, true) else ((bhE tx tl (h + dkE tx tl h false 1) false 43 4).1, 0, (bhE tx tl (h + dkE tx tl h false 1) false 43 4).2)) := by
  rw [pp_d1 hg]
  by_cases q : isD (sgn tx tl h) = true
  · obtain ⟨e1, e2, e3⟩ := D1t q
    rw [if_pos q, if_neg (by rw [e2]; decide), e1, e3, pp_s hg (Or.inr (Or.inr rfl))]
    by_cases r : sgn tx tl (h + 1) = 43
    · rw [if_pos r, pp_d4 hg, Bht r]
      by_cases u : isD (sgn tx tl (h + 1 + 1)) = true
      · have f2 := D4t u
        rw [if_pos u, f2]
        refine ⟨rfl, rfl, fun _ => ⟨?_, fun _ => ?_, fun h9 => absurd h9 hw⟩⟩
        · show kpV cm 1 (kpV cm 0 V _) _ cm 0 = _
          rw [kv_at (by decide), if_neg (by decide), kv_at (by decide), if_pos rfl]
        · show kpV cm 1 (kpV cm 0 V _) _ cm 1 = _
          rw [kv_at (by decide), if_pos rfl]
      · obtain ⟨f1, f2⟩ := D1f (tx := tx) (en := tl) (h := h + 1 + 1) (m := 4) (by decide) u
        rw [if_neg u, f1, f2]
        exact ⟨rfl, rfl, fun h9 => (by cases h9)⟩
    · rw [if_neg r, Bhf r, ppS_f]
      exact ⟨rfl, rfl, fun h9 => (by cases h9)⟩
  · obtain ⟨e1, e2⟩ := D1f (tx := tx) (en := tl) (h := h) (m := 1) (by decide) q
    rw [if_neg q, if_pos e2, e1, ppS_f, ppS_f]
    exact ⟨rfl, rfl, fun h9 => (by cases h9)⟩
theorem ar_rack (hg : ∀ p, sgn ts tl p = sgn tx tl p) (ho : tsOk ts tl) (w cm h : Nat) (V : Nat → Nat → Int32) (hw : ¬ w = 5) : ArgR w cm (ppS ts tl cm (ppS ts tl cm (true, h, 0, V) 48) 75) (dvE tx tl h (dkE tx tl h false 1)) (if dwE tx tl h false 1 = true then (0, 0, h + dkE tx tl h false 1, true) else (sgn tx tl (h + dkE tx tl h false 1), 0, ltH tx tl (h + dkE tx tl h false 1) false true, ltW tx tl (h + dkE tx tl h false 1) false true)) := by
  rw [pp_d1 hg]
  by_cases q : isD (sgn tx tl h) = true
  · obtain ⟨e1, e2, e3⟩ := D1t q
    rw [if_pos q, if_neg (by rw [e2]; decide), e1, e3, pp_k hg ho]
    by_cases r : ltW tx tl (h + 1) false true = false
    · have eH : ltH tx tl (h + 1) false true = h + 1 + 1 := by unfold ltH; rw [if_neg (by rw [r]; decide)]
      rw [if_pos r, r, eH]
      refine ⟨rfl, rfl, fun _ => ⟨?_, fun _ => ?_, fun h9 => absurd h9 hw⟩⟩
      · show kpV cm 1 (kpV cm 0 V _) _ cm 0 = _
        rw [kv_at (by decide), if_neg (by decide), kv_at (by decide), if_pos rfl]
      · show kpV cm 1 (kpV cm 0 V _) _ cm 1 = _
        rw [kv_at (by decide), if_pos rfl]
    · have r2 : ltW tx tl (h + 1) false true = true := by simpa using r
      have eH : ltH tx tl (h + 1) false true = h + 1 := by unfold ltH; rw [if_pos r2]
      rw [if_neg r, r2, eH]
      exact ⟨rfl, rfl, fun h9 => (by cases h9)⟩
  · obtain ⟨e1, e2⟩ := D1f (tx := tx) (en := tl) (h := h) (m := 1) (by decide) q
    rw [if_neg q, if_pos e2, e1, ppS_f]
    exact ⟨rfl, rfl, fun h9 => (by cases h9)⟩
theorem ar_draw (hg : ∀ p, sgn ts tl p = sgn tx tl p) (w cm h : Nat) (V : Nat → Nat → Int32) (hw : ¬ w = 5) : ArgR w cm (ppS ts tl cm (ppS ts tl cm (true, h, 0, V) 48) 48) (dvE tx tl h (dkE tx tl h false 1)) (if dwE tx tl h false 1 = true then (0, 0, h + dkE tx tl h false 1, true) else (dvE tx tl (h + dkE tx tl h false 1) (dkE tx tl (h + dkE tx tl h false 1) false 1), 0, h + dkE tx tl h false 1 + dkE tx tl (h + dkE tx tl h false 1) false 1, dwE tx tl (h + dkE tx tl h false 1) false 1)) := by
  rw [pp_d1 hg]
  by_cases q : isD (sgn tx tl h) = true
  · obtain ⟨e1, e2, e3⟩ := D1t q
    rw [if_pos q, if_neg (by rw [e2]; decide), e1, e3, pp_d1 hg]
    by_cases u : isD (sgn tx tl (h + 1)) = true
    · obtain ⟨f1, f2, f3⟩ := D1t u
      rw [if_pos u, f1, f2, f3]
      refine ⟨rfl, rfl, fun _ => ⟨?_, fun _ => ?_, fun h9 => absurd h9 hw⟩⟩
      · show kpV cm 1 (kpV cm 0 V _) _ cm 0 = _
        rw [kv_at (by decide), if_neg (by decide), kv_at (by decide), if_pos rfl]
      · show kpV cm 1 (kpV cm 0 V _) _ cm 1 = _
        rw [kv_at (by decide), if_pos rfl]
    · obtain ⟨f1, f2⟩ := D1f (tx := tx) (en := tl) (h := h + 1) (m := 1) (by decide) u
      rw [if_neg u, f1, f2]
      exact ⟨rfl, rfl, fun h9 => (by cases h9)⟩
  · obtain ⟨e1, e2⟩ := D1f (tx := tx) (en := tl) (h := h) (m := 1) (by decide) q
    rw [if_neg q, if_pos e2, e1, ppS_f]
    exact ⟨rfl, rfl, fun h9 => (by cases h9)⟩
theorem ar_ins (hg : ∀ p, sgn ts tl p = sgn tx tl p) (ho : tsOk ts tl) (cm h : Nat) (V : Nat → Nat → Int32) : ArgR 5 cm (ppS ts tl cm (ppS ts tl cm (ppS ts tl cm (true, h, 0, V) 48) 48) 82) (dvE tx tl h (dkE tx tl h false 1)) (cpE tx tl h 5) := by
  rw [show cpE tx tl h 5 = (if dwE tx tl h false 1 = true then (0, 0, h + dkE tx tl h false 1, true) else if dwE tx tl (h + dkE tx tl h false 1) false 1 = true then (dvE tx tl (h + dkE tx tl h false 1) (dkE tx tl (h + dkE tx tl h false 1) false 1), 0, h + dkE tx tl h false 1 + dkE tx tl (h + dkE tx tl h false 1) false 1, true) else (dvE tx tl (h + dkE tx tl h false 1) (dkE tx tl (h + dkE tx tl h false 1) false 1), sgn tx tl (h + dkE tx tl h false 1 + dkE tx tl (h + dkE tx tl h false 1) false 1), ltH tx tl (h + dkE tx tl h false 1 + dkE tx tl (h + dkE tx tl h false 1) false 1) false false, ltW tx tl (h + dkE tx tl h false 1 + dkE tx tl (h + dkE tx tl h false 1) false 1) false false)) from rfl]
  rw [pp_d1 hg]
  by_cases q : isD (sgn tx tl h) = true
  · obtain ⟨e1, e2, e3⟩ := D1t q
    rw [if_pos q, if_neg (by rw [e2]; decide), e1, e3, pp_d1 hg]
    by_cases u : isD (sgn tx tl (h + 1)) = true
    · obtain ⟨f1, f2, f3⟩ := D1t u
      rw [if_pos u, if_neg (by rw [f2]; decide), f1, f3, pp_r hg ho]
      by_cases r : ltW tx tl (h + 1 + 1) false false = false
      · have eH : ltH tx tl (h + 1 + 1) false false = h + 1 + 1 + 1 := by unfold ltH; rw [if_neg (by rw [r]; decide)]
        rw [if_pos r, r, eH]
        refine ⟨rfl, rfl, fun _ => ⟨?_, fun _ => ?_, fun _ => ?_⟩⟩
        · show kpV cm 2 (kpV cm 1 (kpV cm 0 V _) _) _ cm 0 = _
          rw [kv_at (by decide), if_neg (by decide), kv_at (by decide), if_neg (by decide), kv_at (by decide), if_pos rfl]
        · show kpV cm 2 (kpV cm 1 (kpV cm 0 V _) _) _ cm 1 = _
          rw [kv_at (by decide), if_neg (by decide), kv_at (by decide), if_pos rfl]
        · show kpV cm 2 (kpV cm 1 (kpV cm 0 V _) _) _ cm 2 = _
          rw [kv_at (by decide), if_pos rfl]
      · have r2 : ltW tx tl (h + 1 + 1) false false = true := by simpa using r
        have eH : ltH tx tl (h + 1 + 1) false false = h + 1 + 1 := by unfold ltH; rw [if_pos r2]
        rw [if_neg r, r2, eH]
        exact ⟨rfl, rfl, fun h9 => (by cases h9)⟩
    · obtain ⟨f1, f2⟩ := D1f (tx := tx) (en := tl) (h := h + 1) (m := 1) (by decide) u
      rw [if_neg u, if_pos f2, f1, ppS_f]
      exact ⟨rfl, rfl, fun h9 => (by cases h9)⟩
  · obtain ⟨e1, e2⟩ := D1f (tx := tx) (en := tl) (h := h) (m := 1) (by decide) q
    rw [if_neg q, if_pos e2, e1, ppS_f, ppS_f]
    exact ⟨rfl, rfl, fun h9 => (by cases h9)⟩
theorem ar_all (hg : ∀ p, sgn ts tl p = sgn tx tl p) (ho : tsOk ts tl) {w : Nat} (hw : w < 10) (cm st : Nat) (V : Nat → Nat → Int32) (h : pfL ts tl st w = wdL w) : ArgR w cm (tfE ts tl cm w st V) (dvE tx tl (st + wdL w) (dkE tx tl (st + wdL w) false (caE w))) (cpE tx tl (st + wdL w) w) := by
  rw [tfE_a hw h]
  generalize hh : st + wdL w = z
  rcases lt10 hw with e | e | e | e | e | e | e | e | e | e <;> subst e
  · exact ar_num hg 0 cm z V (by omega)
  · exact ar_sgn hg 1 cm z V (Or.inl rfl) (by decide)
  · exact ar_sgn hg 2 cm z V (Or.inl rfl) (by decide)
  · exact ar_sgn hg 3 cm z V (Or.inr (Or.inl rfl)) (by decide)
  · exact ar_rack hg ho 4 cm z V (by decide)
  · exact ar_ins hg ho cm z V
  · exact ar_draw hg 6 cm z V (by decide)
  · exact ar_exc hg 7 cm z V (by decide)
  · exact ar_num hg 8 cm z V (by omega)
  · exact ar_num hg 9 cm z V (by omega)
end PARSE

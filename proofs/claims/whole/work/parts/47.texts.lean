/-! The two sides read a command text alike. -/
section TEXT
variable {ts tx : Nat → Int32} {tl : Nat}
theorem kpV_row {cm vc r : Nat} {V : Nat → Nat → Int32} {x : Int32} (h : ¬ r = cm) : kpV cm vc V x r = V r := by
  unfold kpV upR
  split
  · exact if_neg h
  · rfl
theorem tpS_row {cm r : Nat} (h : ¬ r = cm) (s : PT) (z : Int32) : (tpS ts tl cm s z).2.2.2 r = s.2.2.2 r := by
  unfold tpS
  split
  · dsimp only
    split
    · exact kpV_row h
    · rfl
  · split
    · dsimp only
      split
      · exact kpV_row h
      · rfl
    · split
      · dsimp only
        split
        · exact kpV_row h
        · rfl
      · split
        · dsimp only
          split
          · exact kpV_row h
          · rfl
        · rfl
theorem tfE_row {cm i st r : Nat} {V : Nat → Nat → Int32} (h : ¬ r = cm) : (tfE ts tl cm i st V).2.2.2 r = V r := by
  rw [← tfE_eq]
  have all : ∀ j, (tfU ts tl cm i st V j).2.2.2 r = V r := by
    intro j
    induction j with
    | zero => rfl
    | succ j ih =>
      show (if (tfU ts tl cm i st V j).1 = true then tpS ts tl cm (tfU ts tl cm i st V j) (chS i j) else tfU ts tl cm i st V j).2.2.2 r = V r
      split
      · rw [tpS_row h]; exact ih
      · exact ih
  exact all _
theorem rfU_row {cm st vc sp r : Nat} {V : Nat → Nat → Int32} (h : ¬ r = cm) (i : Nat) : (rfU ts tl cm st V vc sp i).2.1 r = V r := by
  induction i with
  | zero => rfl
  | succ i ih =>
    rw [rfU_s]
    show (tfE ts tl cm i st (rfU ts tl cm st V vc sp i).2.1).2.2.2 r = V r
    rw [tfE_row h]; exact ih
theorem rfE_row {cm st vc sp r : Nat} {V : Nat → Nat → Int32} (h : ¬ r = cm) : (rfE ts tl cm st V vc sp).2.2.2 r = V r := by
  unfold rfE
  rw [tfE_row h, rfU_row h]
/-- the greatest of numbers -/
def umx (f : Nat → Nat) (b i : Nat) : Nat := up (fun c a => max a (f c)) b i
theorem umx_s (f : Nat → Nat) (b i : Nat) : umx f b (i + 1) = max (umx f b i) (f i) := rfl
theorem umx_le {f : Nat → Nat} {b B i : Nat} (h0 : b ≤ B) (h : ∀ c, c < i → f c ≤ B) : umx f b i ≤ B := by
  induction i with
  | zero => exact h0
  | succ i ih => rw [umx_s]; exact Nat.max_le.mpr ⟨ih (fun c hc => h c (by omega)), h i (Nat.lt_succ_self i)⟩
theorem umx_b (f : Nat → Nat) (b i : Nat) : b ≤ umx f b i := by
  induction i with
  | zero => exact Nat.le_refl _
  | succ i ih => rw [umx_s]; exact Nat.le_trans ih (Nat.le_max_left _ _)
theorem umx_ge {f : Nat → Nat} {b c i : Nat} (h : c < i) : f c ≤ umx f b i := by
  induction i with
  | zero => exact absurd h (Nat.not_lt_zero c)
  | succ i ih =>
    rw [umx_s]
    rcases Nat.lt_succ_iff_lt_or_eq.mp h with q | q
    · exact Nat.le_trans (ih q) (Nat.le_max_left _ _)
    · subst q; exact Nat.le_max_right _ _
theorem rfU_umx {cm st vc sp : Nat} {V : Nat → Nat → Int32} {f : Nat → Nat} (i : Nat) (h : ∀ c, c < i → ∀ V', (tfE ts tl cm c st V').2.1 = f c) : (rfU ts tl cm st V vc sp i).1 = umx f st i := by
  induction i with
  | zero => rfl
  | succ i ih =>
    rw [rfU_s, umx_s, ← ih (fun c hc => h c (by omega)), ← h i (Nat.lt_succ_self i) (rfU ts tl cm st V vc sp i).2.1]
theorem dw_1 {en h m : Nat} (q : ¬ dwE tx en h false m = true) : 1 ≤ dkE tx en h false m := by
  rcases Nat.lt_or_ge 0 (dkE tx en h false m) with r | r
  · exact r
  · exfalso
    apply q
    unfold dwE
    rw [decide_eq_true (show dkE tx en h false m = 0 by omega)]
    rfl
theorem cpE_gt {en h k : Nat} (hk : (cpE tx en h k).2.2.2 = false) : h + 1 ≤ (cpE tx en h k).2.2.1 := by
  have b1 := fun (z : Int32) (m : Nat) => bhE_ge tx en (h + dkE tx en h false 1) false z m
  have l1 := ltH_ge tx en (h + dkE tx en h false 1) false true
  have l2 := ltH_ge tx en (h + dkE tx en h false 1 + dkE tx en (h + dkE tx en h false 1) false 1) false false
  revert hk
  match k with
  | 1 =>
    simp only [cpE]
    split
    · intro q; cases q
    · rename_i q; intro _; have := dw_1 q; have := b1 62 1; dsimp only; omega
  | 2 =>
    simp only [cpE]
    split
    · intro q; cases q
    · rename_i q; intro _; have := dw_1 q; have := b1 62 1; dsimp only; omega
  | 3 =>
    simp only [cpE]
    split
    · intro q; cases q
    · rename_i q; intro _; have := dw_1 q; have := b1 61 1; dsimp only; omega
  | 4 =>
    simp only [cpE]
    split
    · intro q; cases q
    · rename_i q; intro _; have := dw_1 q; dsimp only; omega
  | 5 =>
    simp only [cpE]
    split
    · intro q; cases q
    · rename_i q
      split
      · intro q; cases q
      · intro _; have := dw_1 q; dsimp only; omega
  | 6 =>
    simp only [cpE]
    split
    · intro q; cases q
    · rename_i q; intro _; have := dw_1 q; dsimp only; omega
  | 7 =>
    simp only [cpE]
    split
    · intro q; cases q
    · rename_i q; intro _; have := dw_1 q; have := b1 43 4; dsimp only; omega
  | 0 =>
    intro q
    have q : dwE tx en h false 4 = false := q
    have := dw_1 (tx := tx) (en := en) (h := h) (m := 4) (by rw [q]; decide)
    show h + 1 ≤ h + dkE tx en h false 4
    omega
  | k + 8 =>
    intro q
    have q : dwE tx en h false 4 = false := q
    have := dw_1 (tx := tx) (en := en) (h := h) (m := 4) (by rw [q]; decide)
    show h + 1 ≤ h + dkE tx en h false 4
    omega
/-- a command that isn't one -/
theorem cmd_no (hg : ∀ p, sgn ts tl p = sgn tx tl p) (ho : tsOk ts tl) (cm st : Nat) (V : Nat → Nat → Int32) (vc sp : Nat) (h : (cmP tx tl st).2.1 = true) : rfN ts tl cm st V vc sp = 10 ∧ (rfU ts tl cm st V vc sp 10).1 = (cmP tx tl st).1 := by
  cases q : (wdS tx tl st).2.1 with
  | true =>
    rw [cmP_e rfl q]
    rw [← wdS_eq] at q ⊢
    obtain ⟨h1, h2⟩ := wd_no hg st q
    generalize (wdE tx tl st false).1 = z at h1 h2 ⊢
    have hf : ∀ c, c < 10 → ∀ V', tfE ts tl cm c st V' = (false, st + pfL ts tl st c, 0, V') := fun c hc V' => tfE_p hc (h1 c hc).1
    refine ⟨rfN_no (fun c hc => by unfold rfP; rw [hf c hc]), ?_⟩
    rw [rfU_umx (f := fun c => st + pfL ts tl st c) 10 (fun c hc V' => by rw [hf c hc])]
    have hz : st ≤ z := by have := (h1 0 (by decide)).2; omega
    refine Nat.le_antisymm (umx_le hz (fun c hc => (h1 c hc).2)) ?_
    rcases h2 with e | ⟨w, hw, e⟩
    · rw [e]; exact umx_b _ _ _
    · rw [← e]; exact umx_ge (f := fun c => st + pfL ts tl st c) hw
  | false =>
    have q2 := q
    rw [← wdS_eq] at q2
    obtain ⟨w, hw, e1, e2, e3⟩ := wd_yes hg st q2
    rw [wdS_eq] at e1 e3
    rw [cmP_w e3 q e1 hw] at h ⊢
    have h : (cpE tx tl (st + wdL w) w).2.2.2 = true := h
    show _ ∧ _ = (cpE tx tl (st + wdL w) w).2.2.1
    have hA : ∀ V', (tfE ts tl cm w st V').1 = false ∧ (tfE ts tl cm w st V').2.1 = (cpE tx tl (st + wdL w) w).2.2.1 := fun V' => by
      obtain ⟨a1, a2, -⟩ := ar_all hg ho hw cm st V' e2
      rw [h] at a1
      exact ⟨a1, a2⟩
    have hge : st + wdL w ≤ (cpE tx tl (st + wdL w) w).2.2.1 := cpE_ge tx tl _ _
    have hf : ∀ c, c < 10 → ¬ c = w → ∀ V', tfE ts tl cm c st V' = (false, st + pfL ts tl st c, 0, V') := fun c hc hn V' => tfE_p hc (pfL_o hw hc e2 hn).1
    refine ⟨rfN_no (fun c hc => ?_), ?_⟩
    · unfold rfP
      by_cases z : c = w
      · subst z; exact (hA _).1
      · rw [hf c hc z]
    · rw [rfU_umx (f := fun c => if c = w then (cpE tx tl (st + wdL w) w).2.2.1 else st + pfL ts tl st c) 10 (fun c hc V' => by
        by_cases z : c = w
        · subst z; rw [if_pos rfl]; exact (hA V').2
        · rw [if_neg z, hf c hc z])]
      refine Nat.le_antisymm (umx_le (by omega) (fun c hc => ?_)) ?_
      · by_cases z : c = w
        · rw [if_pos z]; exact Nat.le_refl _
        · rw [if_neg z]
          have := (pfL_o hw hc e2 z).2
          omega
      · have := umx_ge (f := fun c => if c = w then (cpE tx tl (st + wdL w) w).2.2.1 else st + pfL ts tl st c) (b := st) hw
        try dsimp only at this
        rw [if_pos rfl] at this
        exact this
/-- the numbers of a command -/
def VlR (w : Nat) (row : Nat → Int32) (x y z : Int32) : Prop := row 0 = x ∧ (1 ≤ w ∧ w ≤ 7 → row 1 = y) ∧ (w = 5 → row 2 = z)
theorem cmd_yes (hg : ∀ p, sgn ts tl p = sgn tx tl p) (ho : tsOk ts tl) (cm st : Nat) (V : Nat → Nat → Int32) (vc sp : Nat) (h : (cmP tx tl st).2.1 = false) :
    (cmP tx tl st).2.2.1 < 10 ∧ rfN ts tl cm st V vc sp = (cmP tx tl st).2.2.1 ∧ (rfE ts tl cm st V vc sp).2.1 = (cmP tx tl st).1 ∧ VlR (cmP tx tl st).2.2.1 ((rfE ts tl cm st V vc sp).2.2.2 cm) (cmP tx tl st).2.2.2.1 (cmP tx tl st).2.2.2.2.1 (cmP tx tl st).2.2.2.2.2 ∧ st + 6 ≤ (cmP tx tl st).1 := by
  cases q : (wdS tx tl st).2.1 with
  | true => rw [cmP_e rfl q] at h; cases h
  | false =>
    have q2 := q
    rw [← wdS_eq] at q2
    obtain ⟨w, hw, e1, e2, e3⟩ := wd_yes hg st q2
    rw [wdS_eq] at e1 e3
    rw [cmP_w e3 q e1 hw] at h ⊢
    have h : (cpE tx tl (st + wdL w) w).2.2.2 = false := h
    try dsimp only
    have hA : ∀ V', (tfE ts tl cm w st V').1 = true := fun V' => by
      obtain ⟨a1, -, -⟩ := ar_all hg ho hw cm st V' e2
      rw [h] at a1
      exact a1
    have hN : rfN ts tl cm st V vc sp = w := by
      refine rfN_at (fun c hc => ?_) ?_ hw
      · unfold rfP
        rw [tfE_p (show c < 10 by omega) (pfL_o hw (show c < 10 by omega) e2 (by omega)).1]
      · unfold rfP; exact hA _
    have hE : rfE ts tl cm st V vc sp = tfE ts tl cm w st (rfU ts tl cm st V vc sp w).2.1 := by
      unfold rfE; rw [hN]
    obtain ⟨a1, a2, a3⟩ := ar_all hg ho hw cm st (rfU ts tl cm st V vc sp w).2.1 e2
    have a4 := a3 (hA _)
    rw [hE]
    refine ⟨hw, hN, a2, a4, ?_⟩
    have := cpE_gt h
    have := (wdL_ln hw).2.1
    omega
/-- where the commands begin -/
noncomputable def stC (tx : Nat → Int32) (tl : Nat) (i : Nat) : Nat := up (fun _ p => (cmP tx tl p).1 + 1) 0 i
theorem stC_s (tx : Nat → Int32) (tl i : Nat) : stC tx tl (i + 1) = (cmP tx tl (stC tx tl i)).1 + 1 := rfl
/-- a command, and a separator behind it -/
def gdC (tx : Nat → Int32) (tl i : Nat) : Prop := (cmP tx tl (stC tx tl i)).2.1 = false ∧ (cmP tx tl (stC tx tl i)).1 < tl ∧ sgn tx tl (cmP tx tl (stC tx tl i)).1 = 59
theorem stC_7 (hg : ∀ p, sgn ts tl p = sgn tx tl p) (ho : tsOk ts tl) {i : Nat} (h : ∀ c, c < i → gdC tx tl c) : 7 * i ≤ stC tx tl i ∧ (0 < i → stC tx tl i ≤ tl) := by
  induction i with
  | zero => exact ⟨Nat.zero_le _, fun q => absurd q (Nat.lt_irrefl 0)⟩
  | succ i ih =>
    have h1 := (ih (fun c hc => h c (by omega))).1
    obtain ⟨a, b, -⟩ := h i (Nat.lt_succ_self i)
    have h2 := (cmd_yes hg ho 0 (stC tx tl i) (fun _ _ => 0) 0 0 a).2.2.2.2
    rw [stC_s]
    exact ⟨by omega, fun _ => b⟩
theorem gd_N (hg : ∀ p, sgn ts tl p = sgn tx tl p) (ho : tsOk ts tl) (htl : tl ≤ 60) : ∃ N, N ≤ 8 ∧ (∀ c, c < N → gdC tx tl c) ∧ ¬ gdC tx tl N := by
  have he : ∃ k, ¬ gdC tx tl k := by
    apply Classical.byContradiction
    intro q
    have := stC_7 hg ho (i := 9) (fun c _ => Classical.byContradiction fun r => q ⟨c, r⟩)
    omega
  obtain ⟨N, h1, h2⟩ := pk_least _ he
  have h3 : ∀ c, c < N → gdC tx tl c := fun c hc => Classical.byContradiction fun r => h2 c hc r
  refine ⟨N, ?_, h3, h1⟩
  have := stC_7 hg ho h3
  rcases Nat.lt_or_ge 8 N with r | r
  · have := this.2 (by omega)
    omega
  · exact r
theorem ps_st (hg : ∀ p, sgn ts tl p = sgn tx tl p) (ho : tsOk ts tl) (kf : Nat → Nat) (V : Nat → Nat → Int32) (vc sp : Nat) (fs : Nat → Option Nat) {i : Nat} (h : ∀ c, c < i → gdC tx tl c) : (psU ts tl kf (0, V, vc, sp, fs) i).1 = stC tx tl i := by
  induction i with
  | zero => rfl
  | succ i ih =>
    have e := ih (fun c hc => h c (by omega))
    rw [psU_s]
    show (rfE ts tl i (psU ts tl kf (0, V, vc, sp, fs) i).1 _ _ _).2.1 + 1 = _
    rw [e, (cmd_yes hg ho i (stC tx tl i) _ _ _ (h i (Nat.lt_succ_self i)).1).2.2.1, stC_s]
theorem ps_gd (hg : ∀ p, sgn ts tl p = sgn tx tl p) (ho : tsOk ts tl) (kf : Nat → Nat) (V : Nat → Nat → Int32) (vc sp : Nat) (fs : Nat → Option Nat) {i : Nat} (h : ∀ c, c < i → gdC tx tl c) : qsG ts tl i (psU ts tl kf (0, V, vc, sp, fs) i) = true ↔ gdC tx tl i := by
  have e := ps_st hg ho kf V vc sp fs h
  constructor
  · intro q
    obtain ⟨a, b, c⟩ := qsG_of q
    rw [e] at a b c
    have hw : (cmP tx tl (stC tx tl i)).2.1 = false := by
      cases r : (cmP tx tl (stC tx tl i)).2.1 with
      | false => rfl
      | true => rw [(cmd_no hg ho i (stC tx tl i) _ _ _ r).1] at a; exact absurd a (by decide)
    have e2 := (cmd_yes hg ho i (stC tx tl i) (psU ts tl kf (0, V, vc, sp, fs) i).2.1 (psU ts tl kf (0, V, vc, sp, fs) i).2.2.1 (psU ts tl kf (0, V, vc, sp, fs) i).2.2.2.1 hw).2.2.1
    rw [e2] at b c
    refine ⟨hw, b, ?_⟩
    rw [← hg, sgn_ts b]; exact c
  · rintro ⟨a, b, c⟩
    obtain ⟨f1, f2, f3, -⟩ := cmd_yes hg ho i (stC tx tl i) (psU ts tl kf (0, V, vc, sp, fs) i).2.1 (psU ts tl kf (0, V, vc, sp, fs) i).2.2.1 (psU ts tl kf (0, V, vc, sp, fs) i).2.2.2.1 a
    refine qsG_t ?_ ?_ ?_
    · rw [e, f2]; exact f1
    · rw [e, f3]; exact b
    · rw [e, f3, ← sgn_ts (ts := ts) b, hg]; exact c
theorem ps_N (hg : ∀ p, sgn ts tl p = sgn tx tl p) (ho : tsOk ts tl) (kf : Nat → Nat) (V : Nat → Nat → Int32) (vc sp : Nat) (fs : Nat → Option Nat) {N : Nat} (hN : N ≤ 8) (h : ∀ c, c < N → gdC tx tl c) (hn : ¬ gdC tx tl N) : psN ts tl kf (0, V, vc, sp, fs) = N := by
  refine psN_at (fun c hc => (ps_gd hg ho kf V vc sp fs (fun d hd => h d (by omega))).mpr (h c hc)) ?_ (by omega)
  cases q : qsG ts tl N (psU ts tl kf (0, V, vc, sp, fs) N) with
  | false => rfl
  | true => exact absurd ((ps_gd hg ho kf V vc sp fs h).mp q) hn
/-- the class's reading -/
theorem ps_end (hg : ∀ p, sgn ts tl p = sgn tx tl p) (ho : tsOk ts tl) (kf : Nat → Nat) (V : Nat → Nat → Int32) (vc sp : Nat) (fs : Nat → Option Nat) {N : Nat} (hN : N ≤ 8) (h : ∀ c, c < N → gdC tx tl c) (hn : ¬ gdC tx tl N) :
    ((cmP tx tl (stC tx tl N)).2.1 = true ∨ (cmP tx tl (stC tx tl N)).1 < tl → (psR ts tl kf (0, V, vc, sp, fs)).1 = nI (cmP tx tl (stC tx tl N)).1) ∧
    ((cmP tx tl (stC tx tl N)).2.1 = false → ¬ (cmP tx tl (stC tx tl N)).1 < tl → (psR ts tl kf (0, V, vc, sp, fs)).1 = -1 ∧ (psR ts tl kf (0, V, vc, sp, fs)).2.1 = N + 1 ∧ (psR ts tl kf (0, V, vc, sp, fs)).2.2.1 = (psU ts tl kf (0, V, vc, sp, fs) (N + 1)).2.1) := by
  rw [psR_at (ps_N hg ho kf V vc sp fs hN h hn)]
  have e := ps_st hg ho kf V vc sp fs h
  unfold psE
  rw [if_neg (show ¬ N = 10 by omega), psU_s]
  generalize psU ts tl kf (0, V, vc, sp, fs) N = s at e ⊢
  rw [e]
  cases q : (cmP tx tl (stC tx tl N)).2.1 with
  | true =>
    obtain ⟨f1, f2⟩ := cmd_no hg ho N (stC tx tl N) s.2.1 s.2.2.1 s.2.2.2.1 q
    refine ⟨fun _ => ?_, fun h9 => (by cases h9)⟩
    rw [if_neg (by rw [f1]; decide)]
    show nI (rfU ts tl N (stC tx tl N) s.2.1 s.2.2.1 s.2.2.2.1 10).1 = _
    rw [f2]
  | false =>
    obtain ⟨f1, f2, f3, -⟩ := cmd_yes hg ho N (stC tx tl N) s.2.1 s.2.2.1 s.2.2.2.1 q
    rw [if_pos (by rw [f2]; exact f1), f3]
    refine ⟨fun h9 => ?_, fun _ h9 => ?_⟩
    · rw [if_pos (h9.resolve_left (by decide))]
    · rw [if_neg h9]
      exact ⟨rfl, rfl, rfl⟩
/-- the numbers stay while other commands are read -/
theorem ps_row (kf : Nat → Nat) (s : QS) {c i : Nat} (h : c < i) : (psU ts tl kf s i).2.1 c = (psU ts tl kf s (c + 1)).2.1 c := by
  induction i with
  | zero => exact absurd h (Nat.not_lt_zero c)
  | succ i ih =>
    rcases Nat.lt_succ_iff_lt_or_eq.mp h with q | q
    · rw [psU_s]
      show (rfE ts tl i _ _ _ _).2.2.2 c = _
      rw [rfE_row (by omega)]
      exact ih q
    · subst q; rfl
theorem ps_val (hg : ∀ p, sgn ts tl p = sgn tx tl p) (ho : tsOk ts tl) (kf : Nat → Nat) (V : Nat → Nat → Int32) (vc sp : Nat) (fs : Nat → Option Nat) {i c : Nat} (h : ∀ d, d < c → gdC tx tl d) (hc : (cmP tx tl (stC tx tl c)).2.1 = false) (hi : c < i) :
    pfF ts tl kf (0, V, vc, sp, fs) c = (cmP tx tl (stC tx tl c)).2.2.1 ∧ (cmP tx tl (stC tx tl c)).2.2.1 < 10 ∧ VlR (cmP tx tl (stC tx tl c)).2.2.1 ((psU ts tl kf (0, V, vc, sp, fs) i).2.1 c) (cmP tx tl (stC tx tl c)).2.2.2.1 (cmP tx tl (stC tx tl c)).2.2.2.2.1 (cmP tx tl (stC tx tl c)).2.2.2.2.2 := by
  have e := ps_st hg ho kf V vc sp fs h
  rw [ps_row kf _ hi, psU_s]
  unfold pfF psT
  dsimp only
  rw [e]
  obtain ⟨f1, f2, -, f4, -⟩ := cmd_yes hg ho c (stC tx tl c) (psU ts tl kf (0, V, vc, sp, fs) c).2.1 (psU ts tl kf (0, V, vc, sp, fs) c).2.2.1 (psU ts tl kf (0, V, vc, sp, fs) c).2.2.2.1 hc
  exact ⟨f2, f1, f4⟩
end TEXT
/-! The model's two readings. -/
section MTEXT
variable {tx : Nat → Int32} {tl : Nat}
theorem cq_rd (v : Nat → Int32) (fl nx : Nat → UInt32) {N : Nat} (h : ∀ c, c < N → gdC tx tl c) (m : Nat) (hm : m ≤ N) : cqU tx tl false 0 v fl nx m = cqC tx tl false (stC tx tl m) 0 v fl nx := by
  induction m with
  | zero => rfl
  | succ m ih =>
    rw [cqU_s, ih (by omega)]
    obtain ⟨a, b, c⟩ := h m (by omega)
    unfold cqT
    rw [if_pos (show sgn tx tl (cqC tx tl false (stC tx tl m) 0 v fl nx).1 = 59 from c)]
    show cqC tx tl false ((cmP tx tl (stC tx tl m)).1 + 1) (cmX tx tl (stC tx tl m) false 0 v fl nx).1 (cmX tx tl (stC tx tl m) false 0 v fl nx).2.1 (cmX tx tl (stC tx tl m) false 0 v fl nx).2.2.1 (cmX tx tl (stC tx tl m) false 0 v fl nx).2.2.2 = _
    rw [cmX_d rfl]
    rfl
/-- the model's reading -/
theorem cq_end (v : Nat → Int32) (fl nx : Nat → UInt32) {N : Nat} (hN : N ≤ 8) (h : ∀ c, c < N → gdC tx tl c) (hn : ¬ gdC tx tl N) :
    (cqE tx tl false 0 v fl nx).1 = (cmP tx tl (stC tx tl N)).1 ∧ ((cqE tx tl false 0 v fl nx).2.1 = true ↔ ((cmP tx tl (stC tx tl N)).2.1 = true ∨ (cmP tx tl (stC tx tl N)).1 < tl)) ∧ (cqE tx tl false 0 v fl nx).2.2.1 = 0 ∧ (cqE tx tl false 0 v fl nx).2.2.2.1 = v ∧ (cqE tx tl false 0 v fl nx).2.2.2.2.1 = fl ∧ (cqE tx tl false 0 v fl nx).2.2.2.2.2.1 = nx := by
  have hu := fun m hm => cq_rd v fl nx h m hm
  have hgo : ∀ c, c < N → cqG tl (cqU tx tl false 0 v fl nx c) = true := by
    intro c hc
    rw [hu c (by omega)]
    obtain ⟨a, b, -⟩ := h c hc
    exact cqG_t a (show (cmX tx tl (stC tx tl c) false 0 v fl nx).1 = 0 by rw [cmX_d rfl]) b
  have st : ∀ p, (cqC tx tl false p 0 v fl nx).2.2.1 = 0 ∧ (cqC tx tl false p 0 v fl nx).2.2.2.1 = v ∧ (cqC tx tl false p 0 v fl nx).2.2.2.2.1 = fl ∧ (cqC tx tl false p 0 v fl nx).2.2.2.2.2.1 = nx := by
    intro p
    have e : cmX tx tl p false 0 v fl nx = (0, v, fl, nx) := cmX_d rfl
    exact ⟨congrArg (·.1) e, congrArg (·.2.1) e, congrArg (·.2.2.1) e, congrArg (·.2.2.2) e⟩
  have eN := hu N (Nat.le_refl N)
  unfold cqE
  cases q : (cmP tx tl (stC tx tl N)).2.1 with
  | true =>
    rw [cqN_at hgo (by rw [eN]; exact cqG_f1 q) (by omega), eN]
    exact ⟨rfl, ⟨fun _ => Or.inl rfl, fun _ => q⟩, st _⟩
  | false =>
    by_cases r : (cmP tx tl (stC tx tl N)).1 < tl
    · have h59 : ¬ sgn tx tl (cmP tx tl (stC tx tl N)).1 = 59 := fun z => hn ⟨q, r, z⟩
      have eS : cqU tx tl false 0 v fl nx (N + 1) = ((cmP tx tl (stC tx tl N)).1, true, (cqC tx tl false (stC tx tl N) 0 v fl nx).2.2) := by
        rw [cqU_s, eN]
        unfold cqT
        rw [if_neg (show ¬ sgn tx tl (cqC tx tl false (stC tx tl N) 0 v fl nx).1 = 59 from h59)]
        rfl
      have hgN : cqG tl (cqU tx tl false 0 v fl nx N) = true := by
        rw [eN]
        exact cqG_t q (st _).1 r
      rw [cqN_at (m := N + 1) (fun c hc => (Nat.lt_succ_iff_lt_or_eq.mp hc).elim (hgo c) (fun e => by rw [e]; exact hgN)) (by rw [eS]; exact cqG_f1 rfl) (by omega), eS]
      exact ⟨rfl, ⟨fun _ => Or.inr r, fun _ => rfl⟩, st _⟩
    · rw [cqN_at hgo (by rw [eN]; exact cqG_f3 r) (by omega), eN]
      refine ⟨rfl, ⟨fun h9 => ?_, fun h9 => ?_⟩, st _⟩
      · rw [show (cqC tx tl false (stC tx tl N) 0 v fl nx).2.1 = (cmP tx tl (stC tx tl N)).2.1 from rfl, q] at h9; cases h9
      · rcases h9 with h9 | h9
        · cases h9
        · exact absurd h9 r
end MTEXT

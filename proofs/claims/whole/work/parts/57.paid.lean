/-! The law's steps, paid: what is pure in them. -/
theorem vpu0 (f : Nat → Int64) (x : Int64) : (vp_updL f 0 x) 0 = x := if_pos rfl
theorem vfu0 (f : Nat → UInt64) (x : UInt64) : (vf_upd f 0 x) 0 = x := if_pos rfl
theorem deq {x y : UInt64} (h : okD x) (e : x = y) : FP.dcmp x y = some .eq := by
  subst e
  exact FP.Core.dcmp_self (okD_notNaN h)
theorem inC_c {n : Nat} {x : Int32} (hn : n ≤ 1000) (h : inC n x = true) : x.toNatClampNeg < n := by
  obtain ⟨j, hj, rfl⟩ := inC_of2 hn h
  rw [nI_clamp (by omega)]
  exact hj
theorem ntT {b : Bool} (h : b = false) : ¬ b = true := by rw [h]; decide
theorem arS_low {n : Nat} {t a : Nat → Int32} (hn : n ≤ 10) (hs : Sym n t a) {c : Nat} (hc : c < n) : lowB (arS n t a c) := by
  intro j hj
  cases h : tb (arS n t a c) j with
  | false => rfl
  | true =>
    have := ((ar_iff hn hs hc j).mp h).1
    omega
theorem b01 (b : Bool) : (if bI b = 0 then (0 : Int64) else 1) = if b = true then 1 else 0 := by
  cases b with
  | false => exact if_pos rfl
  | true => exact if_neg (by decide)
theorem if1 {α : Type} (a b : α) : (if (1 : Int32) = 0 then a else b) = b := if_neg (by decide)
theorem if2 {α : Type} (a b : α) : (if (2 : Int32) = 0 then a else b) = b := if_neg (by decide)
theorem if3 {α : Type} (a b : α) : (if (3 : Int32) = 0 then a else b) = b := if_neg (by decide)
theorem if4 {α : Type} (a b : α) : (if (4 : Int32) = 0 then a else b) = b := if_neg (by decide)
theorem ch_i (x : Int32) : vp_nar .char ((x.toUInt32 % 65536).toInt32) = (x.toUInt32 % 65536).toInt32 := by
  unfold vp_nar
  rw [pk_nc]
theorem rg_c {x : Int32} {m : Nat} (hm : m ≤ 999) (h : rg 0 x (nI m) = true) : ∃ j, j ≤ m ∧ x = nI j := by
  have h2 : inC (m + 1) x = true := by
    have h3 := of_decide_eq_true h
    refine decide_eq_true ⟨h3.1, fun q => ?_⟩
    have h4 : nI (m + 1) ≤ nI m := Int32.le_trans q h3.2
    have := (nI_leI (a := m + 1) (b := m) (by omega) (by omega)).mp h4
    omega
  obtain ⟨j, hj, e⟩ := inC_of2 (by omega) h2
  exact ⟨j, by omega, e⟩
/-- the row to work in tells nothing -/
theorem RelG.fr {S : SC} {v : Nat → Int32} {f : Nat → UInt32} (h : RelG S v f) (fr : Nat → UInt32) : RelG (S.1, S.2.1, S.2.2.1, S.2.2.2.1, S.2.2.2.2.1, S.2.2.2.2.2.1, S.2.2.2.2.2.2.1, S.2.2.2.2.2.2.2.1, S.2.2.2.2.2.2.2.2.1, S.2.2.2.2.2.2.2.2.2.1, S.2.2.2.2.2.2.2.2.2.2.1, S.2.2.2.2.2.2.2.2.2.2.2.1, S.2.2.2.2.2.2.2.2.2.2.2.2.1, S.2.2.2.2.2.2.2.2.2.2.2.2.2.1, S.2.2.2.2.2.2.2.2.2.2.2.2.2.2.1, fr) v f := ⟨⟨h.1.1, h.1.2.1, h.1.2.2⟩, h.2⟩
theorem wrC_ch {s : (Nat → Int32) × Nat} {x : Int32} (h : chOk s.1 19) (hx : vp_nar .char x = x) : chOk (wrC s x).1 19 := by
  unfold wrC
  split
  · exact chOk_upd h _ hx
  · exact h
theorem dcC_ch {n : Nat} {t a le : Nat → Int32} {j : Nat} (hn : n ≤ 10) (hj : j < n) (h : chOk le 19) (m : Nat) (hm : m ≤ n) : chOk (dcC n t a le j m).1 19 := by
  induction m with
  | zero => exact wrC_ch (s := wrC (le, 0) (dg9 j)) (wrC_ch (s := (le, 0)) h (dg_nar (by omega))) (ss_nar n t a j)
  | succ m ih =>
    rw [dcC_s]
    split
    · exact wrC_ch (ih (by omega)) (dg_nar (by omega))
    · exact ih (by omega)
theorem drJ_ch {rk : Nat → Int32} (hrk : chOk rk 12) (l : Nat) (hl : l < 4) {s : (Nat → Int32) × Nat} (h : chOk s.1 19) (m : Nat) (hm : m ≤ 3) : chOk (drJ rk l s m).1 19 := by
  induction m with
  | zero => exact h
  | succ m ih =>
    rw [drJ_s]
    exact wrC_ch (ih (by omega)) (hrk _ (by omega))
theorem drP_ch {kd rk le : Nat → Int32} (hkd : chOk kd 4) (hrk : chOk rk 12) (h : chOk le 19) (m : Nat) (hm : m ≤ 4) : chOk (drP kd rk le m).1 19 := by
  induction m with
  | zero => exact h
  | succ m ih =>
    rw [drP_s]
    refine drJ_ch hrk m (by omega) (wrC_ch ?_ (hkd _ (by omega))) 3 (by omega)
    unfold drB
    split
    · exact ih (by omega)
    · exact wrC_ch (ih (by omega)) (by decide +kernel)
theorem if0 {α : Type} (a b : α) : (if (0 : Int32) = 0 then a else b) = a := if_pos rfl
theorem ap_sg {ts tx : Nat → Int32} {tl : Nat} (h : ∀ p, sgn ts tl p = sgn tx tl p) (z : Int32) : ∀ p, sgn (upd ts tl z) (tl + 1) p = sgn (upd tx tl z) (tl + 1) p := by
  intro p
  unfold sgn
  by_cases q : p < tl + 1
  · rw [if_pos q, if_pos q, upd_at, upd_at]
    by_cases q2 : p = tl
    · rw [if_pos q2, if_pos q2]
    · rw [if_neg q2, if_neg q2]
      have h3 := h p
      unfold sgn at h3
      rw [if_pos (show p < tl by omega), if_pos (show p < tl by omega)] at h3
      exact h3
  · rw [if_neg q, if_neg q]
theorem ap_ok {ts : Nat → Int32} {tl : Nat} (h : tsOk ts tl) {z : Int32} (hz : rg 32 z 126 = true) : tsOk (upd ts tl z) (tl + 1) := by
  have h0 : rg 0 z (nI 126) = true := by
    have h3 := of_decide_eq_true hz
    exact decide_eq_true ⟨Int32.le_trans (by decide) h3.1, h3.2⟩
  obtain ⟨q, hq, e⟩ := rg_c (by decide) h0
  intro c hc
  rw [upd_at]
  by_cases q2 : c = tl
  · rw [if_pos q2]
    exact ⟨q, by omega, e⟩
  · rw [if_neg q2]
    exact h c (by omega)
theorem er_u {er ea : Int32} (h : ErR er ea) (h9 : er = -1) : ¬ 0 ≤ ea := by
  rw [← h.1, h9]
  decide
theorem er_s {er ea : Int32} (h : ErR er ea) (h9 : ¬ er = -1) : 0 ≤ ea := by
  rw [← h.1]
  exact h.2.resolve_left h9
theorem rm_ch {x : Int32} (h : x = 46 ∨ x = 113 ∨ x = 111) : (if rmM x = 0 then 46 else (Int32.toUInt32 (rmM x) % 65536).toInt32) = x := by
  rcases h with rfl | rfl | rfl <;> decide +kernel
theorem lk_ch {x : Int32} (h : vp_nar .char x = x) : (Int32.toUInt32 x % 65536).toInt32 = x := h
theorem LnR_eta {s s2 : (Nat → Int32) × Nat} (h : LnR s s2) : LnR (s.1, s.2) (s2.1, s2.2) := h

/-- a change that is kept -/
theorem lf_push {iz svb : Bool} {er fl ea fa : Int32} {pn pk ll tl cm vc sp ch tn ln : Nat} {ts le v sd pm tx9 li9 : Nat → Int32} {PS : Nat → SC} {f fd fp : Nat → UInt32} {S Sv : SC} (h : LF S Sv PS pn pk iz er fl ll tl cm vc sp ts le ea fa ch tn ln svb v sd pm f fd fp tx9 li9) {S1 : SC} {v1 : Nat → Int32} {f1 : Nat → UInt32} (hG : RelG S1 v1 f1) (fr : Nat → UInt32) : LF S1 Sv (upS PS pn (S.1, S.2.1, S.2.2.1, S.2.2.2.1, S.2.2.2.2.1, S.2.2.2.2.2.1, S.2.2.2.2.2.2.1, S.2.2.2.2.2.2.2.1, S.2.2.2.2.2.2.2.2.1, S.2.2.2.2.2.2.2.2.2.1, S.2.2.2.2.2.2.2.2.2.2.1, S.2.2.2.2.2.2.2.2.2.2.2.1, S.2.2.2.2.2.2.2.2.2.2.2.2.1, S.2.2.2.2.2.2.2.2.2.2.2.2.2.1, S.2.2.2.2.2.2.2.2.2.2.2.2.2.2.1, fr)) ((pn + 1) % 8) (min (pk + 1) 8) iz er fl ll tl cm vc sp ts le ea fa (chE ch) tn ln svb v1 sd (paE ch pm v) f1 fd (fpE ch fp f) tx9 li9 := by
  obtain ⟨h1, ⟨h2, h3⟩, h4⟩ := h
  subst h3
  obtain ⟨p1, p2⟩ := past_push h2 (h1.fr fr)
  exact ⟨hG, ⟨p1, p2⟩, h4⟩
set_option maxHeartbeats 1000000 in
theorem pc_add {S : SC} {v : Nat → Int32} {f : Nat → UInt32} (hG : RelG S v f) (x : Int32) : (opEnter S.1 S.2.1 x = (-2, S.1, S.2.1) ∧ opAdds v f S.1 0 x = (0, 1, v, f)) ∨ (opEnter S.1 S.2.1 x = (-3, S.1, S.2.1) ∧ opAdds v f S.1 0 x = (0, 2, v, f)) ∨ (¬ (opEnter S.1 S.2.1 x).1 < 0 ∧ (opAdds v f S.1 0 x).2.1 = 0 ∧ (opEnter S.1 S.2.1 x).1 = (opAdds v f S.1 0 x).1 ∧ RelG ((opEnter S.1 S.2.1 x).2.1, (opEnter S.1 S.2.1 x).2.2, S.2.2.1, S.2.2.2.1, S.2.2.2.2.1, S.2.2.2.2.2.1, S.2.2.2.2.2.2.1, S.2.2.2.2.2.2.2.1, S.2.2.2.2.2.2.2.2.1, S.2.2.2.2.2.2.2.2.2.1, S.2.2.2.2.2.2.2.2.2.2.1, S.2.2.2.2.2.2.2.2.2.2.2.1, S.2.2.2.2.2.2.2.2.2.2.2.2.1, S.2.2.2.2.2.2.2.2.2.2.2.2.2.1, S.2.2.2.2.2.2.2.2.2.2.2.2.2.2.1, S.2.2.2.2.2.2.2.2.2.2.2.2.2.2.2) (opAdds v f S.1 0 x).2.2.1 (opAdds v f S.1 0 x).2.2.2) := by
  obtain ⟨hg, hR, hL⟩ := hG
  obtain ⟨hn, hf, hly, hlc, hlx, hkd, hrk, hlk, hzz, hs, hlow, hwt, hk3, hr3⟩ := id hg.1
  have g := good_co hg 0 x 0 0
  rcases rel_enter hn hzz hlc hR hL 0 x with h | h | ⟨h1, h2, h3, h4, h5, h6⟩
  · exact Or.inl h
  · exact Or.inr (Or.inl h)
  · refine Or.inr (Or.inr (⟨by rw [h1]; exact nI_pos (by omega), h4, by rw [h1, h3], g, ?_⟩))
    rw [h1]
    exact ⟨h5, h6⟩
theorem bI_nn (b : Bool) : ¬ bI b < 0 := by
  cases b <;> decide
set_option maxHeartbeats 1000000 in
theorem pc_dir {S : SC} {v : Nat → Int32} {f : Nat → UInt32} (hG : RelG S v f) (x y : Int32) (b : Bool) : (opDirect S.1 S.2.2.2.1 S.2.2.2.2.1 x y b = (-1, S.2.2.2.1, S.2.2.2.2.1) ∧ opSets v S.1 0 x y b = (0, 1, v)) ∨ (¬ (opDirect S.1 S.2.2.2.1 S.2.2.2.2.1 x y b).1 < 0 ∧ (opSets v S.1 0 x y b).2.1 = 0 ∧ (opDirect S.1 S.2.2.2.1 S.2.2.2.2.1 x y b).1 = (opSets v S.1 0 x y b).1 ∧ RelG (S.1, S.2.1, S.2.2.1, (opDirect S.1 S.2.2.2.1 S.2.2.2.2.1 x y b).2.1, (opDirect S.1 S.2.2.2.1 S.2.2.2.2.1 x y b).2.2, S.2.2.2.2.2.1, S.2.2.2.2.2.2.1, S.2.2.2.2.2.2.2.1, S.2.2.2.2.2.2.2.2.1, S.2.2.2.2.2.2.2.2.2.1, S.2.2.2.2.2.2.2.2.2.2.1, S.2.2.2.2.2.2.2.2.2.2.2.1, S.2.2.2.2.2.2.2.2.2.2.2.2.1, S.2.2.2.2.2.2.2.2.2.2.2.2.2.1, S.2.2.2.2.2.2.2.2.2.2.2.2.2.2.1, S.2.2.2.2.2.2.2.2.2.2.2.2.2.2.2) (opSets v S.1 0 x y b).2.2 f) := by
  obtain ⟨hg, hR, hL⟩ := hG
  obtain ⟨hn, hf, hly, hlc, hlx, hkd, hrk, hlk, hzz, hs, hlow, hwt, hk3, hr3⟩ := id hg.1
  have g := good_co hg (if b = true then 1 else 2) x y 0
  rcases rel_direct (a := S.2.2.2.2.1) hn hlc hR hL 0 x y b with h | ⟨h1, h2, h3, h4, h5, h6, h7⟩
  · exact Or.inl h
  · refine Or.inr (⟨by rw [h3]; exact bI_nn _, h5, by rw [h3, h4], ?_, h6, h7⟩)
    cases b
    · exact g
    · exact g
theorem ly_nn {n : Nat} {ly : Nat → Int32} (h : lyOk n ly) {c : Nat} (hc : c < n) : ¬ ly c < 0 := by
  obtain ⟨h1, h2⟩ := h c hc
  rw [h1]
  exact nI_pos (by omega)
set_option maxHeartbeats 1000000 in
theorem pc_mov {S : SC} {v : Nat → Int32} {f : Nat → UInt32} (hG : RelG S v f) (x y : Int32) : (opMove S.1 S.2.2.1 x y = (-1, S.2.2.1) ∧ opMoves v S.1 0 x y = (0, 1, v)) ∨ (¬ (opMove S.1 S.2.2.1 x y).1 < 0 ∧ (opMoves v S.1 0 x y).2.1 = 0 ∧ (opMove S.1 S.2.2.1 x y).1 = (opMoves v S.1 0 x y).1 ∧ RelG (S.1, S.2.1, (opMove S.1 S.2.2.1 x y).2, S.2.2.2.1, S.2.2.2.2.1, S.2.2.2.2.2.1, S.2.2.2.2.2.2.1, S.2.2.2.2.2.2.2.1, S.2.2.2.2.2.2.2.2.1, S.2.2.2.2.2.2.2.2.2.1, S.2.2.2.2.2.2.2.2.2.2.1, S.2.2.2.2.2.2.2.2.2.2.2.1, S.2.2.2.2.2.2.2.2.2.2.2.2.1, S.2.2.2.2.2.2.2.2.2.2.2.2.2.1, S.2.2.2.2.2.2.2.2.2.2.2.2.2.2.1, S.2.2.2.2.2.2.2.2.2.2.2.2.2.2.2) (opMoves v S.1 0 x y).2.2 f) := by
  obtain ⟨hg, hR, hL⟩ := hG
  obtain ⟨hn, hf, hly, hlc, hlx, hkd, hrk, hlk, hzz, hs, hlow, hwt, hk3, hr3⟩ := id hg.1
  have g := good_co hg 3 x y 0
  rcases rel_move hn hlc hR hL 0 x y with h | ⟨h1, h2, h3, h4, h5, h6⟩
  · exact Or.inl h
  · refine Or.inr (⟨by rw [h2]; exact ly_nn hly (inC_c (by omega) h1), h4, by rw [h2, h3], g, h5, h6⟩)
theorem k3_nn {x : Int32} (h : x = 113 ∨ x = 111 ∨ x = 97) : ¬ x < 0 := by
  rcases h with rfl | rfl | rfl <;> decide
theorem chC_ch (x : Int32) : chC ((x.toUInt32 % 65536).toInt32) = (x.toUInt32 % 65536).toInt32 := by
  exact ch_i x
set_option maxHeartbeats 1000000 in
theorem pc_rac {S : SC} {v : Nat → Int32} {f : Nat → UInt32} (hG : RelG S v f) (x y : Int32) : (opRenew S.2.2.2.2.2.2.1 S.2.2.2.2.2.2.2.1 x ((y.toUInt32 % 65536).toInt32) = (-1, S.2.2.2.2.2.2.1) ∧ opRacks v 0 x ((y.toUInt32 % 65536).toInt32) = (0, 1, v)) ∨ (opRenew S.2.2.2.2.2.2.1 S.2.2.2.2.2.2.2.1 x ((y.toUInt32 % 65536).toInt32) = (-2, S.2.2.2.2.2.2.1) ∧ opRacks v 0 x ((y.toUInt32 % 65536).toInt32) = (0, 2, v)) ∨ (opRenew S.2.2.2.2.2.2.1 S.2.2.2.2.2.2.2.1 x ((y.toUInt32 % 65536).toInt32) = (-3, S.2.2.2.2.2.2.1) ∧ opRacks v 0 x ((y.toUInt32 % 65536).toInt32) = (0, 3, v)) ∨ (¬ (opRenew S.2.2.2.2.2.2.1 S.2.2.2.2.2.2.2.1 x ((y.toUInt32 % 65536).toInt32)).1 < 0 ∧ (opRacks v 0 x ((y.toUInt32 % 65536).toInt32)).2.1 = 0 ∧ (opRenew S.2.2.2.2.2.2.1 S.2.2.2.2.2.2.2.1 x ((y.toUInt32 % 65536).toInt32)).1 = (opRacks v 0 x ((y.toUInt32 % 65536).toInt32)).1 ∧ RelG (S.1, S.2.1, S.2.2.1, S.2.2.2.1, S.2.2.2.2.1, S.2.2.2.2.2.1, (opRenew S.2.2.2.2.2.2.1 S.2.2.2.2.2.2.2.1 x ((y.toUInt32 % 65536).toInt32)).2, S.2.2.2.2.2.2.2.1, S.2.2.2.2.2.2.2.2.1, S.2.2.2.2.2.2.2.2.2.1, S.2.2.2.2.2.2.2.2.2.2.1, S.2.2.2.2.2.2.2.2.2.2.2.1, S.2.2.2.2.2.2.2.2.2.2.2.2.1, S.2.2.2.2.2.2.2.2.2.2.2.2.2.1, S.2.2.2.2.2.2.2.2.2.2.2.2.2.2.1, S.2.2.2.2.2.2.2.2.2.2.2.2.2.2.2) (opRacks v 0 x ((y.toUInt32 % 65536).toInt32)).2.2 f) := by
  obtain ⟨hg, hR, hL⟩ := hG
  obtain ⟨hn, hf, hly, hlc, hlx, hkd, hrk, hlk, hzz, hs, hlow, hwt, hk3, hr3⟩ := id hg.1
  have g := good_co hg 4 x y 0
  rcases rel_renew hn hlc hR hL 0 x ((y.toUInt32 % 65536).toInt32) with h | h | h | ⟨h1, h2, h3, h4, h5, h6⟩
  · exact Or.inl h
  · exact Or.inr (Or.inl h)
  · exact Or.inr (Or.inr (Or.inl h))
  · refine Or.inr (Or.inr (Or.inr (⟨?_, h4, by rw [h2, h3], g, h5, h6⟩)))
    rw [h2]
    obtain ⟨j, hj, rfl⟩ := rg_c (m := 3) (by decide) h1
    rw [nI_clamp (by omega)]
    exact k3_nn (hk3 j (by omega))
set_option maxHeartbeats 1000000 in
theorem pc_put {S : SC} {v : Nat → Int32} {f : Nat → UInt32} (hG : RelG S v f) (x y z : Int32) : (opPut S.2.2.2.2.2.2.1 S.2.2.2.2.2.2.2.1 x y ((z.toUInt32 % 65536).toInt32) = (-1, S.2.2.2.2.2.2.2.1) ∧ opIns v S.2.2.2.2.2.2.2.2.2.2.1 0 x y ((z.toUInt32 % 65536).toInt32) = (0, 1, v)) ∨ (opPut S.2.2.2.2.2.2.1 S.2.2.2.2.2.2.2.1 x y ((z.toUInt32 % 65536).toInt32) = (-2, S.2.2.2.2.2.2.2.1) ∧ opIns v S.2.2.2.2.2.2.2.2.2.2.1 0 x y ((z.toUInt32 % 65536).toInt32) = (0, 2, v)) ∨ (opPut S.2.2.2.2.2.2.1 S.2.2.2.2.2.2.2.1 x y ((z.toUInt32 % 65536).toInt32) = (-3, S.2.2.2.2.2.2.2.1) ∧ opIns v S.2.2.2.2.2.2.2.2.2.2.1 0 x y ((z.toUInt32 % 65536).toInt32) = (0, 3, v)) ∨ (opPut S.2.2.2.2.2.2.1 S.2.2.2.2.2.2.2.1 x y ((z.toUInt32 % 65536).toInt32) = (-4, S.2.2.2.2.2.2.2.1) ∧ opIns v S.2.2.2.2.2.2.2.2.2.2.1 0 x y ((z.toUInt32 % 65536).toInt32) = (0, 4, v)) ∨ (¬ (opPut S.2.2.2.2.2.2.1 S.2.2.2.2.2.2.2.1 x y ((z.toUInt32 % 65536).toInt32)).1 < 0 ∧ (opIns v S.2.2.2.2.2.2.2.2.2.2.1 0 x y ((z.toUInt32 % 65536).toInt32)).2.1 = 0 ∧ (opPut S.2.2.2.2.2.2.1 S.2.2.2.2.2.2.2.1 x y ((z.toUInt32 % 65536).toInt32)).1 = (opIns v S.2.2.2.2.2.2.2.2.2.2.1 0 x y ((z.toUInt32 % 65536).toInt32)).1 ∧ RelG (S.1, S.2.1, S.2.2.1, S.2.2.2.1, S.2.2.2.2.1, S.2.2.2.2.2.1, S.2.2.2.2.2.2.1, (opPut S.2.2.2.2.2.2.1 S.2.2.2.2.2.2.2.1 x y ((z.toUInt32 % 65536).toInt32)).2, if (opPut S.2.2.2.2.2.2.1 S.2.2.2.2.2.2.2.1 x y ((z.toUInt32 % 65536).toInt32)).1 < 0 then S.2.2.2.2.2.2.2.2.1 else upd S.2.2.2.2.2.2.2.2.1 S.2.2.2.2.2.2.2.2.2.2.2.1 S.2.2.2.2.2.2.2.2.2.2.2.2.2.1, if (opPut S.2.2.2.2.2.2.1 S.2.2.2.2.2.2.2.1 x y ((z.toUInt32 % 65536).toInt32)).1 < 0 then S.2.2.2.2.2.2.2.2.2.1 else upd S.2.2.2.2.2.2.2.2.2.1 S.2.2.2.2.2.2.2.2.2.2.2.1 105, if (opPut S.2.2.2.2.2.2.1 S.2.2.2.2.2.2.2.1 x y ((z.toUInt32 % 65536).toInt32)).1 < 0 then S.2.2.2.2.2.2.2.2.2.2.1 else min (S.2.2.2.2.2.2.2.2.2.2.1 + 1) 16, if (opPut S.2.2.2.2.2.2.1 S.2.2.2.2.2.2.2.1 x y ((z.toUInt32 % 65536).toInt32)).1 < 0 then S.2.2.2.2.2.2.2.2.2.2.2.1 else (S.2.2.2.2.2.2.2.2.2.2.2.1 + 1) % 16, S.2.2.2.2.2.2.2.2.2.2.2.2.1, S.2.2.2.2.2.2.2.2.2.2.2.2.2.1, S.2.2.2.2.2.2.2.2.2.2.2.2.2.2.1, S.2.2.2.2.2.2.2.2.2.2.2.2.2.2.2) (opIns v S.2.2.2.2.2.2.2.2.2.2.1 0 x y ((z.toUInt32 % 65536).toInt32)).2.2 f) := by
  obtain ⟨hg, hR, hL⟩ := hG
  obtain ⟨hn, hf, hly, hlc, hlx, hkd, hrk, hlk, hzz, hs, hlow, hwt, hk3, hr3⟩ := id hg.1
  have g := good_co hg 5 x y z
  rcases rel_put hn hlc hlx hr3 hR hL 0 x y ((z.toUInt32 % 65536).toInt32) with h | h | h | h | ⟨h1, h2, h3, h4, h5⟩
  · exact Or.inl h
  · exact Or.inr (Or.inl h)
  · exact Or.inr (Or.inr (Or.inl h))
  · exact Or.inr (Or.inr (Or.inr (Or.inl h)))
  · refine Or.inr (Or.inr (Or.inr (Or.inr (⟨h1, h3, h2.symm, g, h4, ?_⟩))))
    show RLg (if _ then _ else _) (if _ then _ else _) (if _ then _ else _) (if _ then _ else _) _ _ _
    rw [if_neg h1, if_neg h1, if_neg h1, if_neg h1]
    exact h5
set_option maxHeartbeats 1000000 in
theorem pc_tak {S : SC} {v : Nat → Int32} {f : Nat → UInt32} (hG : RelG S v f) (x y : Int32) : (opTake S.2.2.2.2.2.2.2.1 x y = (-1, S.2.2.2.2.2.2.2.1) ∧ opDrw v S.2.2.2.2.2.2.2.2.2.2.1 0 x y = (0, 1, v)) ∨ (opTake S.2.2.2.2.2.2.2.1 x y = (-5, S.2.2.2.2.2.2.2.1) ∧ opDrw v S.2.2.2.2.2.2.2.2.2.2.1 0 x y = (0, 2, v)) ∨ (¬ (opTake S.2.2.2.2.2.2.2.1 x y).1 < 0 ∧ (opDrw v S.2.2.2.2.2.2.2.2.2.2.1 0 x y).2.1 = 0 ∧ (opTake S.2.2.2.2.2.2.2.1 x y).1 = (opDrw v S.2.2.2.2.2.2.2.2.2.2.1 0 x y).1 ∧ RelG (S.1, S.2.1, S.2.2.1, S.2.2.2.1, S.2.2.2.2.1, S.2.2.2.2.2.1, S.2.2.2.2.2.2.1, (opTake S.2.2.2.2.2.2.2.1 x y).2, if (opTake S.2.2.2.2.2.2.2.1 x y).1 < 0 then S.2.2.2.2.2.2.2.2.1 else upd S.2.2.2.2.2.2.2.2.1 S.2.2.2.2.2.2.2.2.2.2.2.1 S.2.2.2.2.2.2.2.2.2.2.2.2.2.1, if (opTake S.2.2.2.2.2.2.2.1 x y).1 < 0 then S.2.2.2.2.2.2.2.2.2.1 else upd S.2.2.2.2.2.2.2.2.2.1 S.2.2.2.2.2.2.2.2.2.2.2.1 119, if (opTake S.2.2.2.2.2.2.2.1 x y).1 < 0 then S.2.2.2.2.2.2.2.2.2.2.1 else min (S.2.2.2.2.2.2.2.2.2.2.1 + 1) 16, if (opTake S.2.2.2.2.2.2.2.1 x y).1 < 0 then S.2.2.2.2.2.2.2.2.2.2.2.1 else (S.2.2.2.2.2.2.2.2.2.2.2.1 + 1) % 16, S.2.2.2.2.2.2.2.2.2.2.2.2.1, S.2.2.2.2.2.2.2.2.2.2.2.2.2.1, S.2.2.2.2.2.2.2.2.2.2.2.2.2.2.1, S.2.2.2.2.2.2.2.2.2.2.2.2.2.2.2) (opDrw v S.2.2.2.2.2.2.2.2.2.2.1 0 x y).2.2 f) := by
  obtain ⟨hg, hR, hL⟩ := hG
  obtain ⟨hn, hf, hly, hlc, hlx, hkd, hrk, hlk, hzz, hs, hlow, hwt, hk3, hr3⟩ := id hg.1
  have g := good_co hg 6 x y 0
  rcases rel_take hn hlc hlx hr3 hR hL 0 x y with h | h | ⟨h0, h2, h3, h4, h5⟩
  · exact Or.inl h
  · exact Or.inr (Or.inl h)
  · refine Or.inr (Or.inr (?_))
    have h1 : ¬ (opTake S.2.2.2.2.2.2.2.1 x y).1 < 0 := by rcases h0 with h0 | h0 <;> rw [h0] <;> decide
    refine ⟨h1, h3, h2.symm, g, h4, ?_⟩
    show RLg (if _ then _ else _) (if _ then _ else _) (if _ then _ else _) (if _ then _ else _) _ _ _
    rw [if_neg h1, if_neg h1, if_neg h1, if_neg h1]
    exact h5
set_option maxHeartbeats 1000000 in
theorem pc_hea {S : SC} {v : Nat → Int32} {f : Nat → UInt32} (hG : RelG S v f) (x y : Int32) : (opHeat S.1 S.2.2.2.2.2.1 x y = (-1, S.2.2.2.2.2.1) ∧ hOk S.1 x y = false ∧ opExc v f S.1 S.2.2.2.2.2.2.2.2.2.2.1 0 x y = (0, 1, v, f)) ∨ (opHeat S.1 S.2.2.2.2.2.1 x y = (-2, S.2.2.2.2.2.1) ∧ hOk S.1 x y = false ∧ opExc v f S.1 S.2.2.2.2.2.2.2.2.2.2.1 0 x y = (0, 2, v, f)) ∨ (inC S.1 x = true ∧ hOk S.1 x y = true ∧ (opExc v f S.1 S.2.2.2.2.2.2.2.2.2.2.1 0 x y).2.1 = 0 ∧ (opExc v f S.1 S.2.2.2.2.2.2.2.2.2.2.1 0 x y).2.2.2 x.toNatClampNeg = (opHeat S.1 S.2.2.2.2.2.1 x y).2 x.toNatClampNeg ∧ RelG (S.1, S.2.1, S.2.2.1, S.2.2.2.1, S.2.2.2.2.1, (opHeat S.1 S.2.2.2.2.2.1 x y).2, S.2.2.2.2.2.2.1, S.2.2.2.2.2.2.2.1, if hOk S.1 x y = false then S.2.2.2.2.2.2.2.2.1 else upd S.2.2.2.2.2.2.2.2.1 S.2.2.2.2.2.2.2.2.2.2.2.1 S.2.2.2.2.2.2.2.2.2.2.2.2.2.1, if hOk S.1 x y = false then S.2.2.2.2.2.2.2.2.2.1 else upd S.2.2.2.2.2.2.2.2.2.1 S.2.2.2.2.2.2.2.2.2.2.2.1 101, if hOk S.1 x y = false then S.2.2.2.2.2.2.2.2.2.2.1 else min (S.2.2.2.2.2.2.2.2.2.2.1 + 1) 16, if hOk S.1 x y = false then S.2.2.2.2.2.2.2.2.2.2.2.1 else (S.2.2.2.2.2.2.2.2.2.2.2.1 + 1) % 16, S.2.2.2.2.2.2.2.2.2.2.2.2.1, S.2.2.2.2.2.2.2.2.2.2.2.2.2.1, S.2.2.2.2.2.2.2.2.2.2.2.2.2.2.1, S.2.2.2.2.2.2.2.2.2.2.2.2.2.2.2) (opExc v f S.1 S.2.2.2.2.2.2.2.2.2.2.1 0 x y).2.2.1 (opExc v f S.1 S.2.2.2.2.2.2.2.2.2.2.1 0 x y).2.2.2) := by
  obtain ⟨hg, hR, hL⟩ := hG
  obtain ⟨hn, hf, hly, hlc, hlx, hkd, hrk, hlk, hzz, hs, hlow, hwt, hk3, hr3⟩ := id hg.1
  have g := good_co hg 7 x y 0
  rcases rel_heat hn hlc hlx hR hL 0 x y with h | h | ⟨h0, h1, h2, h3, h4, h5, h6, h7⟩
  · exact Or.inl h
  · exact Or.inr (Or.inl h)
  · refine Or.inr (Or.inr (⟨h0, h1, h4, h5, g, h6, ?_⟩))
    have h1n : ¬ hOk S.1 x y = false := by rw [h1]; decide
    show RLg (if _ then _ else _) (if _ then _ else _) (if _ then _ else _) (if _ then _ else _) _ _ _
    rw [if_neg h1n, if_neg h1n, if_neg h1n, if_neg h1n]
    exact h7
set_option maxHeartbeats 1000000 in
theorem pc_lim {S : SC} {v : Nat → Int32} {f : Nat → UInt32} (hG : RelG S v f) (x : Int32) : (¬ (1 ≤ x ∧ x ≤ 9999) ∧ opLimits v 0 x = (0, 1, v)) ∨ ((1 ≤ x ∧ x ≤ 9999) ∧ ¬ S.2.2.2.2.2.2.2.2.2.2.2.2.1 < 0 ∧ (opLimits v 0 x).2.1 = 0 ∧ (opLimits v 0 x).1 = S.2.2.2.2.2.2.2.2.2.2.2.2.1 ∧ RelG (S.1, S.2.1, S.2.2.1, S.2.2.2.1, S.2.2.2.2.1, S.2.2.2.2.2.1, S.2.2.2.2.2.2.1, S.2.2.2.2.2.2.2.1, S.2.2.2.2.2.2.2.2.1, S.2.2.2.2.2.2.2.2.2.1, S.2.2.2.2.2.2.2.2.2.2.1, S.2.2.2.2.2.2.2.2.2.2.2.1, if 1 ≤ x ∧ x ≤ 9999 then x else S.2.2.2.2.2.2.2.2.2.2.2.2.1, S.2.2.2.2.2.2.2.2.2.2.2.2.2.1, S.2.2.2.2.2.2.2.2.2.2.2.2.2.2.1, S.2.2.2.2.2.2.2.2.2.2.2.2.2.2.2) (opLimits v 0 x).2.2 f) := by
  obtain ⟨hg, hR, hL⟩ := hG
  obtain ⟨hn, hf, hly, hlc, hlx, hkd, hrk, hlk, hzz, hs, hlow, hwt, hk3, hr3⟩ := id hg.1
  have g := good_co hg 8 x 0 0
  rcases rel_limit hn hlc hR hL 0 x with h | ⟨h1, h2, h3, h4, h5⟩
  · exact Or.inl h
  · refine Or.inr (⟨h1, hg.2.1, h3, h2, g, ?_, h5⟩)
    show RC _ _ _ _ _ _ _ (if _ then _ else _) _ _
    rw [if_pos h1]
    exact h4
theorem rg_20f {x : Int32} (h : ¬ (¬ x < 1 ∧ x ≤ 20)) : rg 1 x 20 = false := by
  cases q : rg 1 x 20 with
  | false => rfl
  | true => exact absurd ((rg_20 x).mp q) h
set_option maxHeartbeats 1000000 in
theorem pc_pas {S : SC} {v : Nat → Int32} {f : Nat → UInt32} (hG : RelG S v f) (nx : Nat → UInt32) (x : Int32) : (x < 1 ∧ rg 1 x 20 = false) ∨ (¬ x < 1 ∧ ¬ x ≤ 20 ∧ rg 1 x 20 = false) ∨ (¬ x < 1 ∧ x ≤ 20 ∧ rg 1 x 20 = true ∧ ¬ ((itS S.1 S.2.2.2.2.1 S.2.2.1 S.2.2.2.2.2.2.1 S.2.2.2.2.2.2.2.2.2.2.2.2.1 (S.2.2.2.2.2.1, S.2.2.2.2.2.2.2.1, S.2.2.2.2.2.2.2.2.1, S.2.2.2.2.2.2.2.2.2.1, S.2.2.2.2.2.2.2.2.2.2.1, S.2.2.2.2.2.2.2.2.2.2.2.1, S.2.2.2.2.2.2.2.2.2.2.2.2.2.1, S.2.2.2.2.2.2.2.2.2.2.2.2.2.2.1, S.2.2.2.2.2.2.2.2.2.2.2.2.2.2.2) x.toNatClampNeg).2.2.2.2.2.2.2.1 - S.2.2.2.2.2.2.2.2.2.2.2.2.2.2.1) < 0 ∧ (itS S.1 S.2.2.2.2.1 S.2.2.1 S.2.2.2.2.2.2.1 S.2.2.2.2.2.2.2.2.2.2.2.2.1 (S.2.2.2.2.2.1, S.2.2.2.2.2.2.2.1, S.2.2.2.2.2.2.2.2.1, S.2.2.2.2.2.2.2.2.2.1, S.2.2.2.2.2.2.2.2.2.2.1, S.2.2.2.2.2.2.2.2.2.2.2.1, S.2.2.2.2.2.2.2.2.2.2.2.2.2.1, S.2.2.2.2.2.2.2.2.2.2.2.2.2.2.1, S.2.2.2.2.2.2.2.2.2.2.2.2.2.2.2) x.toNatClampNeg).2.2.2.2.2.2.2.1 - S.2.2.2.2.2.2.2.2.2.2.2.2.2.2.1 = (itP S.1 (v, f, nx, S.2.2.2.2.2.2.2.2.2.2.1) x.toNatClampNeg).1 3 - v 3 ∧ RelG (S.1, S.2.1, S.2.2.1, S.2.2.2.1, S.2.2.2.2.1, (itS S.1 S.2.2.2.2.1 S.2.2.1 S.2.2.2.2.2.2.1 S.2.2.2.2.2.2.2.2.2.2.2.2.1 (S.2.2.2.2.2.1, S.2.2.2.2.2.2.2.1, S.2.2.2.2.2.2.2.2.1, S.2.2.2.2.2.2.2.2.2.1, S.2.2.2.2.2.2.2.2.2.2.1, S.2.2.2.2.2.2.2.2.2.2.2.1, S.2.2.2.2.2.2.2.2.2.2.2.2.2.1, S.2.2.2.2.2.2.2.2.2.2.2.2.2.2.1, S.2.2.2.2.2.2.2.2.2.2.2.2.2.2.2) x.toNatClampNeg).1, S.2.2.2.2.2.2.1, (itS S.1 S.2.2.2.2.1 S.2.2.1 S.2.2.2.2.2.2.1 S.2.2.2.2.2.2.2.2.2.2.2.2.1 (S.2.2.2.2.2.1, S.2.2.2.2.2.2.2.1, S.2.2.2.2.2.2.2.2.1, S.2.2.2.2.2.2.2.2.2.1, S.2.2.2.2.2.2.2.2.2.2.1, S.2.2.2.2.2.2.2.2.2.2.2.1, S.2.2.2.2.2.2.2.2.2.2.2.2.2.1, S.2.2.2.2.2.2.2.2.2.2.2.2.2.2.1, S.2.2.2.2.2.2.2.2.2.2.2.2.2.2.2) x.toNatClampNeg).2.1, (itS S.1 S.2.2.2.2.1 S.2.2.1 S.2.2.2.2.2.2.1 S.2.2.2.2.2.2.2.2.2.2.2.2.1 (S.2.2.2.2.2.1, S.2.2.2.2.2.2.2.1, S.2.2.2.2.2.2.2.2.1, S.2.2.2.2.2.2.2.2.2.1, S.2.2.2.2.2.2.2.2.2.2.1, S.2.2.2.2.2.2.2.2.2.2.2.1, S.2.2.2.2.2.2.2.2.2.2.2.2.2.1, S.2.2.2.2.2.2.2.2.2.2.2.2.2.2.1, S.2.2.2.2.2.2.2.2.2.2.2.2.2.2.2) x.toNatClampNeg).2.2.1, (itS S.1 S.2.2.2.2.1 S.2.2.1 S.2.2.2.2.2.2.1 S.2.2.2.2.2.2.2.2.2.2.2.2.1 (S.2.2.2.2.2.1, S.2.2.2.2.2.2.2.1, S.2.2.2.2.2.2.2.2.1, S.2.2.2.2.2.2.2.2.2.1, S.2.2.2.2.2.2.2.2.2.2.1, S.2.2.2.2.2.2.2.2.2.2.2.1, S.2.2.2.2.2.2.2.2.2.2.2.2.2.1, S.2.2.2.2.2.2.2.2.2.2.2.2.2.2.1, S.2.2.2.2.2.2.2.2.2.2.2.2.2.2.2) x.toNatClampNeg).2.2.2.1, (itS S.1 S.2.2.2.2.1 S.2.2.1 S.2.2.2.2.2.2.1 S.2.2.2.2.2.2.2.2.2.2.2.2.1 (S.2.2.2.2.2.1, S.2.2.2.2.2.2.2.1, S.2.2.2.2.2.2.2.2.1, S.2.2.2.2.2.2.2.2.2.1, S.2.2.2.2.2.2.2.2.2.2.1, S.2.2.2.2.2.2.2.2.2.2.2.1, S.2.2.2.2.2.2.2.2.2.2.2.2.2.1, S.2.2.2.2.2.2.2.2.2.2.2.2.2.2.1, S.2.2.2.2.2.2.2.2.2.2.2.2.2.2.2) x.toNatClampNeg).2.2.2.2.1, (itS S.1 S.2.2.2.2.1 S.2.2.1 S.2.2.2.2.2.2.1 S.2.2.2.2.2.2.2.2.2.2.2.2.1 (S.2.2.2.2.2.1, S.2.2.2.2.2.2.2.1, S.2.2.2.2.2.2.2.2.1, S.2.2.2.2.2.2.2.2.2.1, S.2.2.2.2.2.2.2.2.2.2.1, S.2.2.2.2.2.2.2.2.2.2.2.1, S.2.2.2.2.2.2.2.2.2.2.2.2.2.1, S.2.2.2.2.2.2.2.2.2.2.2.2.2.2.1, S.2.2.2.2.2.2.2.2.2.2.2.2.2.2.2) x.toNatClampNeg).2.2.2.2.2.1, S.2.2.2.2.2.2.2.2.2.2.2.2.1, (itS S.1 S.2.2.2.2.1 S.2.2.1 S.2.2.2.2.2.2.1 S.2.2.2.2.2.2.2.2.2.2.2.2.1 (S.2.2.2.2.2.1, S.2.2.2.2.2.2.2.1, S.2.2.2.2.2.2.2.2.1, S.2.2.2.2.2.2.2.2.2.1, S.2.2.2.2.2.2.2.2.2.2.1, S.2.2.2.2.2.2.2.2.2.2.2.1, S.2.2.2.2.2.2.2.2.2.2.2.2.2.1, S.2.2.2.2.2.2.2.2.2.2.2.2.2.2.1, S.2.2.2.2.2.2.2.2.2.2.2.2.2.2.2) x.toNatClampNeg).2.2.2.2.2.2.1, (itS S.1 S.2.2.2.2.1 S.2.2.1 S.2.2.2.2.2.2.1 S.2.2.2.2.2.2.2.2.2.2.2.2.1 (S.2.2.2.2.2.1, S.2.2.2.2.2.2.2.1, S.2.2.2.2.2.2.2.2.1, S.2.2.2.2.2.2.2.2.2.1, S.2.2.2.2.2.2.2.2.2.2.1, S.2.2.2.2.2.2.2.2.2.2.2.1, S.2.2.2.2.2.2.2.2.2.2.2.2.2.1, S.2.2.2.2.2.2.2.2.2.2.2.2.2.2.1, S.2.2.2.2.2.2.2.2.2.2.2.2.2.2.2) x.toNatClampNeg).2.2.2.2.2.2.2.1, (itS S.1 S.2.2.2.2.1 S.2.2.1 S.2.2.2.2.2.2.1 S.2.2.2.2.2.2.2.2.2.2.2.2.1 (S.2.2.2.2.2.1, S.2.2.2.2.2.2.2.1, S.2.2.2.2.2.2.2.2.1, S.2.2.2.2.2.2.2.2.2.1, S.2.2.2.2.2.2.2.2.2.2.1, S.2.2.2.2.2.2.2.2.2.2.2.1, S.2.2.2.2.2.2.2.2.2.2.2.2.2.1, S.2.2.2.2.2.2.2.2.2.2.2.2.2.2.1, S.2.2.2.2.2.2.2.2.2.2.2.2.2.2.2) x.toNatClampNeg).2.2.2.2.2.2.2.2) (itP S.1 (v, f, nx, S.2.2.2.2.2.2.2.2.2.2.1) x.toNatClampNeg).1 (itP S.1 (v, f, nx, S.2.2.2.2.2.2.2.2.2.2.1) x.toNatClampNeg).2.1) := by
  obtain ⟨hg, hR, hL⟩ := hG
  obtain ⟨hn, hf, hly, hlc, hlx, hkd, hrk, hlk, hzz, hs, hlow, hwt, hk3, hr3⟩ := id hg.1
  by_cases q1 : x < 1
  · exact Or.inl ⟨q1, rg_20f (fun h => h.1 q1)⟩
  · by_cases q2 : x ≤ 20
    · refine Or.inr (Or.inr ⟨q1, q2, (rg_20 x).mpr ⟨q1, q2⟩, ?_⟩)
      have g : Good (S.1, S.2.1, S.2.2.1, S.2.2.2.1, S.2.2.2.2.1, (advT S.1 S.2.2.2.2.1 S.2.2.1 S.2.2.2.2.2.2.1 S.2.2.2.2.2.2.2.2.2.2.2.2.1 (S.2.2.2.2.2.1, S.2.2.2.2.2.2.2.1, S.2.2.2.2.2.2.2.2.1, S.2.2.2.2.2.2.2.2.2.1, S.2.2.2.2.2.2.2.2.2.2.1, S.2.2.2.2.2.2.2.2.2.2.2.1, S.2.2.2.2.2.2.2.2.2.2.2.2.2.1, S.2.2.2.2.2.2.2.2.2.2.2.2.2.2.1, S.2.2.2.2.2.2.2.2.2.2.2.2.2.2.2) x).1, S.2.2.2.2.2.2.1, (advT S.1 S.2.2.2.2.1 S.2.2.1 S.2.2.2.2.2.2.1 S.2.2.2.2.2.2.2.2.2.2.2.2.1 (S.2.2.2.2.2.1, S.2.2.2.2.2.2.2.1, S.2.2.2.2.2.2.2.2.1, S.2.2.2.2.2.2.2.2.2.1, S.2.2.2.2.2.2.2.2.2.2.1, S.2.2.2.2.2.2.2.2.2.2.2.1, S.2.2.2.2.2.2.2.2.2.2.2.2.2.1, S.2.2.2.2.2.2.2.2.2.2.2.2.2.2.1, S.2.2.2.2.2.2.2.2.2.2.2.2.2.2.2) x).2.1, (advT S.1 S.2.2.2.2.1 S.2.2.1 S.2.2.2.2.2.2.1 S.2.2.2.2.2.2.2.2.2.2.2.2.1 (S.2.2.2.2.2.1, S.2.2.2.2.2.2.2.1, S.2.2.2.2.2.2.2.2.1, S.2.2.2.2.2.2.2.2.2.1, S.2.2.2.2.2.2.2.2.2.2.1, S.2.2.2.2.2.2.2.2.2.2.2.1, S.2.2.2.2.2.2.2.2.2.2.2.2.2.1, S.2.2.2.2.2.2.2.2.2.2.2.2.2.2.1, S.2.2.2.2.2.2.2.2.2.2.2.2.2.2.2) x).2.2.1, (advT S.1 S.2.2.2.2.1 S.2.2.1 S.2.2.2.2.2.2.1 S.2.2.2.2.2.2.2.2.2.2.2.2.1 (S.2.2.2.2.2.1, S.2.2.2.2.2.2.2.1, S.2.2.2.2.2.2.2.2.1, S.2.2.2.2.2.2.2.2.2.1, S.2.2.2.2.2.2.2.2.2.2.1, S.2.2.2.2.2.2.2.2.2.2.2.1, S.2.2.2.2.2.2.2.2.2.2.2.2.2.1, S.2.2.2.2.2.2.2.2.2.2.2.2.2.2.1, S.2.2.2.2.2.2.2.2.2.2.2.2.2.2.2) x).2.2.2.1, (advT S.1 S.2.2.2.2.1 S.2.2.1 S.2.2.2.2.2.2.1 S.2.2.2.2.2.2.2.2.2.2.2.2.1 (S.2.2.2.2.2.1, S.2.2.2.2.2.2.2.1, S.2.2.2.2.2.2.2.2.1, S.2.2.2.2.2.2.2.2.2.1, S.2.2.2.2.2.2.2.2.2.2.1, S.2.2.2.2.2.2.2.2.2.2.2.1, S.2.2.2.2.2.2.2.2.2.2.2.2.2.1, S.2.2.2.2.2.2.2.2.2.2.2.2.2.2.1, S.2.2.2.2.2.2.2.2.2.2.2.2.2.2.2) x).2.2.2.2.1, (advT S.1 S.2.2.2.2.1 S.2.2.1 S.2.2.2.2.2.2.1 S.2.2.2.2.2.2.2.2.2.2.2.2.1 (S.2.2.2.2.2.1, S.2.2.2.2.2.2.2.1, S.2.2.2.2.2.2.2.2.1, S.2.2.2.2.2.2.2.2.2.1, S.2.2.2.2.2.2.2.2.2.2.1, S.2.2.2.2.2.2.2.2.2.2.2.1, S.2.2.2.2.2.2.2.2.2.2.2.2.2.1, S.2.2.2.2.2.2.2.2.2.2.2.2.2.2.1, S.2.2.2.2.2.2.2.2.2.2.2.2.2.2.2) x).2.2.2.2.2.1, S.2.2.2.2.2.2.2.2.2.2.2.2.1, (advT S.1 S.2.2.2.2.1 S.2.2.1 S.2.2.2.2.2.2.1 S.2.2.2.2.2.2.2.2.2.2.2.2.1 (S.2.2.2.2.2.1, S.2.2.2.2.2.2.2.1, S.2.2.2.2.2.2.2.2.1, S.2.2.2.2.2.2.2.2.2.1, S.2.2.2.2.2.2.2.2.2.2.1, S.2.2.2.2.2.2.2.2.2.2.2.1, S.2.2.2.2.2.2.2.2.2.2.2.2.2.1, S.2.2.2.2.2.2.2.2.2.2.2.2.2.2.1, S.2.2.2.2.2.2.2.2.2.2.2.2.2.2.2) x).2.2.2.2.2.2.1, (advT S.1 S.2.2.2.2.1 S.2.2.1 S.2.2.2.2.2.2.1 S.2.2.2.2.2.2.2.2.2.2.2.2.1 (S.2.2.2.2.2.1, S.2.2.2.2.2.2.2.1, S.2.2.2.2.2.2.2.2.1, S.2.2.2.2.2.2.2.2.2.1, S.2.2.2.2.2.2.2.2.2.2.1, S.2.2.2.2.2.2.2.2.2.2.2.1, S.2.2.2.2.2.2.2.2.2.2.2.2.2.1, S.2.2.2.2.2.2.2.2.2.2.2.2.2.2.1, S.2.2.2.2.2.2.2.2.2.2.2.2.2.2.2) x).2.2.2.2.2.2.2.1, (advT S.1 S.2.2.2.2.1 S.2.2.1 S.2.2.2.2.2.2.1 S.2.2.2.2.2.2.2.2.2.2.2.2.1 (S.2.2.2.2.2.1, S.2.2.2.2.2.2.2.1, S.2.2.2.2.2.2.2.2.1, S.2.2.2.2.2.2.2.2.2.1, S.2.2.2.2.2.2.2.2.2.2.1, S.2.2.2.2.2.2.2.2.2.2.2.1, S.2.2.2.2.2.2.2.2.2.2.2.2.2.1, S.2.2.2.2.2.2.2.2.2.2.2.2.2.2.1, S.2.2.2.2.2.2.2.2.2.2.2.2.2.2.2) x).2.2.2.2.2.2.2.2) := good_co hg 9 x 0 0
      have e : advT S.1 S.2.2.2.2.1 S.2.2.1 S.2.2.2.2.2.2.1 S.2.2.2.2.2.2.2.2.2.2.2.2.1 (S.2.2.2.2.2.1, S.2.2.2.2.2.2.2.1, S.2.2.2.2.2.2.2.2.1, S.2.2.2.2.2.2.2.2.2.1, S.2.2.2.2.2.2.2.2.2.2.1, S.2.2.2.2.2.2.2.2.2.2.2.1, S.2.2.2.2.2.2.2.2.2.2.2.2.2.1, S.2.2.2.2.2.2.2.2.2.2.2.2.2.2.1, S.2.2.2.2.2.2.2.2.2.2.2.2.2.2.2) x = (itS S.1 S.2.2.2.2.1 S.2.2.1 S.2.2.2.2.2.2.1 S.2.2.2.2.2.2.2.2.2.2.2.2.1 (S.2.2.2.2.2.1, S.2.2.2.2.2.2.2.1, S.2.2.2.2.2.2.2.2.1, S.2.2.2.2.2.2.2.2.2.1, S.2.2.2.2.2.2.2.2.2.2.1, S.2.2.2.2.2.2.2.2.2.2.2.1, S.2.2.2.2.2.2.2.2.2.2.2.2.2.1, S.2.2.2.2.2.2.2.2.2.2.2.2.2.2.1, S.2.2.2.2.2.2.2.2.2.2.2.2.2.2.2) x.toNatClampNeg) := by
        unfold advT
        rw [if_neg q1, if_pos q2]
      rw [e] at g
      have hT := rel_itP (w := S.2.1) (t := S.2.2.2.1) (s := (S.2.2.2.2.2.1, S.2.2.2.2.2.2.2.1, S.2.2.2.2.2.2.2.2.1, S.2.2.2.2.2.2.2.2.2.1, S.2.2.2.2.2.2.2.2.2.2.1, S.2.2.2.2.2.2.2.2.2.2.2.1, S.2.2.2.2.2.2.2.2.2.2.2.2.2.1, S.2.2.2.2.2.2.2.2.2.2.2.2.2.2.1, S.2.2.2.2.2.2.2.2.2.2.2.2.2.2.2)) (m := (v, f, nx, S.2.2.2.2.2.2.2.2.2.2.1)) hn hs hly ⟨hR, hL, rfl, hlc, hlx, hr3⟩ x.toNatClampNeg
      obtain ⟨h1, h2, -⟩ := hT
      have e3 := h2.2.1
      have e0 : v 3 = S.2.2.2.2.2.2.2.2.2.2.2.2.2.2.1 := hL.2.1
      obtain ⟨i, hi, ei⟩ := it_sc S.1 S.2.2.2.2.1 S.2.2.1 S.2.2.2.2.2.2.1 S.2.2.2.2.2.2.2.2.2.2.2.2.1 (S.2.2.2.2.2.1, S.2.2.2.2.2.2.2.1, S.2.2.2.2.2.2.2.2.1, S.2.2.2.2.2.2.2.2.2.1, S.2.2.2.2.2.2.2.2.2.2.1, S.2.2.2.2.2.2.2.2.2.2.2.1, S.2.2.2.2.2.2.2.2.2.2.2.2.2.1, S.2.2.2.2.2.2.2.2.2.2.2.2.2.2.1, S.2.2.2.2.2.2.2.2.2.2.2.2.2.2.2) x.toNatClampNeg
      refine ⟨?_, by rw [e3, e0], g, h1, h2⟩
      rw [ei]
      show ¬ (S.2.2.2.2.2.2.2.2.2.2.2.2.2.2.1 + nI i - S.2.2.2.2.2.2.2.2.2.2.2.2.2.2.1) < 0
      rw [add_sb]
      have hx9 : x.toNatClampNeg < 2 ^ 31 := by first | exact Int32.toNatClampNeg_lt x | (show x.toInt.toNat < _; have := Int32.toInt_lt x; omega)
      exact nI_pos (by omega)
    · exact Or.inr (Or.inl ⟨q1, q2, rg_20f (fun h => q2 h.2)⟩)

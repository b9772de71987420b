/-! Shifts: the class's and the model's say the same. -/
theorem okF_i2f {x : Int32} (h : ¬ x < 0) : okF (FP.i2f x) := by
  unfold okF
  rw [show FP.Core.val32 (FP.i2f x) = _ from FP.Core.val32_i2f x]
  apply posD_round
  show (!decide (x.toInt < 0)) = true
  rw [decide_eq_false]
  · rfl
  · rw [Int32.lt_iff_toInt_lt, i32_0] at h
    exact h
theorem fcmp_tot {a b : UInt32} (ha : okF a) (hb : okF b) : ¬ FP.fcmp a b = none := fun h => ((FP.Core.fcmp_none a b).mp h).elim (okF_notNaN ha) (okF_notNaN hb)
theorem nx_eq {n : Nat} {t a : Nat → Int32} {f g : Nat → UInt32} (hs : Sym n t a) {t' : Nat → Int32} (ht : ∀ c, c < n → t' c = t c) (hf : ∀ c, c < n → g c = f c) {c : Nat} (hc : c < n) {m : Nat} (hm : m ≤ n) : nmM t' g c m = nxm a f c m := by
  induction m with
  | zero =>
    show FP.fmul (g c) 1056964608 = FP.fmul (f c) 1056964608
    rw [hf c hc]
  | succ m ih =>
    rw [nmM_s, nxm_s, ih (by omega), ht m (by omega), hs.1 m c (by omega) hc, hf m (by omega)]
theorem sm_eq {f g : Nat → UInt32} {m : Nat} (h : ∀ c, c < m → g c = f c) : smF g m = smF f m := by
  induction m with
  | zero => rfl
  | succ m ih => rw [smF_s, smF_s, ih (fun c hc => h c (by omega)), h m (Nat.lt_succ_self m)]
/-- the remarks behind a scram -/
theorem flm_at (kd rk : Nat → Int32) (m j : Nat) : flm kd rk m j = if j < m ∧ rk j = 46 then (if chd kd (j / 3) 111 = true then 111 else 113) else rk j := by
  induction m with
  | zero => rw [if_neg (by omega)]; rfl
  | succ m ih =>
    rw [flm_s]
    have em : flm kd rk m m = rk m := by
      have : ∀ k, k ≤ m → flm kd rk k m = rk m := by
        intro k
        induction k with
        | zero => intro _; rfl
        | succ k ik =>
          intro hk
          rw [flm_s]
          split
          · rw [upd_at, if_neg (by omega)]; exact ik (by omega)
          · exact ik (by omega)
      exact this m (Nat.le_refl m)
    rw [em]
    by_cases q : rk m = 46
    · rw [if_pos q, upd_at]
      by_cases e : j = m
      · subst e
        rw [if_pos rfl, if_pos (show j < j + 1 ∧ rk j = 46 from ⟨Nat.lt_succ_self j, q⟩)]
      · rw [if_neg e, ih]
        by_cases q2 : j < m ∧ rk j = 46
        · rw [if_pos q2, if_pos (show j < m + 1 ∧ rk j = 46 from ⟨by omega, q2.2⟩)]
        · rw [if_neg q2, if_neg (fun r => q2 ⟨by omega, r.2⟩)]
    · rw [if_neg q, ih]
      by_cases q2 : j < m ∧ rk j = 46
      · rw [if_pos q2, if_pos (show j < m + 1 ∧ rk j = 46 from ⟨by omega, q2.2⟩)]
      · rw [if_neg q2, if_neg (fun r => q2 ⟨by
          have h1 := r.1
          have : j ≠ m := fun e => q (by rw [← e]; exact r.2)
          omega, r.2⟩)]
theorem scI_at (v : Nat → Int32) (l m j : Nat) : scI v l m j = if (∃ i, i < m ∧ j = 35 + 4 * l + (i + 1)) ∧ v j = 0 then (if chM v l 111 = true then 111 else 113) else v j := by
  have key : ∀ m, (∀ j, scI v l m j = if (∃ i, i < m ∧ j = 35 + 4 * l + (i + 1)) ∧ v j = 0 then (if chM v l 111 = true then 111 else 113) else v j) := by
    intro m
    induction m with
    | zero =>
      intro j
      rw [if_neg (by rintro ⟨⟨i, hi, _⟩, _⟩; omega)]
      rfl
    | succ m ih =>
      intro j
      rw [scI_s]
      have ek : chM (scI v l m) l 111 = chM v l 111 := by
        unfold chM
        rw [show rkS (scI v l m) l 0 = rkS v l 0 from by
          show scI v l m (35 + 4 * l + 0) = v (35 + 4 * l + 0)
          rw [ih, if_neg (by rintro ⟨⟨i, hi, e⟩, _⟩; omega)]]
      have ev : scI v l m (35 + 4 * l + (m + 1)) = v (35 + 4 * l + (m + 1)) := by
        rw [ih, if_neg (by rintro ⟨⟨i, hi, e⟩, _⟩; omega)]
      rw [ek, ev]
      by_cases q : v (35 + 4 * l + (m + 1)) = 0
      · rw [if_pos q, upd_at]
        by_cases e : j = 35 + 4 * l + (m + 1)
        · rw [if_pos e, if_pos (show (∃ i, i < m + 1 ∧ j = 35 + 4 * l + (i + 1)) ∧ v j = 0 from ⟨⟨m, Nat.lt_succ_self m, e⟩, by rw [e]; exact q⟩)]
        · rw [if_neg e, ih]
          by_cases q2 : (∃ i, i < m ∧ j = 35 + 4 * l + (i + 1)) ∧ v j = 0
          · rw [if_pos q2, if_pos (show (∃ i, i < m + 1 ∧ j = 35 + 4 * l + (i + 1)) ∧ v j = 0 from by
              obtain ⟨⟨i, h1, h2⟩, h3⟩ := q2
              exact ⟨⟨i, by omega, h2⟩, h3⟩)]
          · rw [if_neg q2, if_neg]
            rintro ⟨⟨i, h1, h2⟩, h3⟩
            exact q2 ⟨⟨i, by have : i ≠ m := fun e2 => e (by rw [h2, e2]); omega, h2⟩, h3⟩
      · rw [if_neg q, ih]
        by_cases q2 : (∃ i, i < m ∧ j = 35 + 4 * l + (i + 1)) ∧ v j = 0
        · rw [if_pos q2, if_pos (show (∃ i, i < m + 1 ∧ j = 35 + 4 * l + (i + 1)) ∧ v j = 0 from by
            obtain ⟨⟨i, h1, h2⟩, h3⟩ := q2
            exact ⟨⟨i, by omega, h2⟩, h3⟩)]
        · rw [if_neg q2, if_neg]
          rintro ⟨⟨i, h1, h2⟩, h3⟩
          exact q2 ⟨⟨i, by have : i ≠ m := fun e2 => q (by rw [← e2, ← h2]; exact h3); omega, h2⟩, h3⟩
  exact key m j
theorem scO_at (v : Nat → Int32) {l i : Nat} (hi : i < 3) {m : Nat} (hl : l < m) : scO v m (35 + 4 * l + (i + 1)) = if v (35 + 4 * l + (i + 1)) = 0 then (if chM v l 111 = true then 111 else 113) else v (35 + 4 * l + (i + 1)) := by
  have out : ∀ m l2 i2, i2 ≤ 3 → m ≤ l2 → scO v m (35 + 4 * l2 + i2) = v (35 + 4 * l2 + i2) := by
    intro m
    induction m with
    | zero => intro l2 i2 _ _; rfl
    | succ m ih =>
      intro l2 i2 h1 h2
      rw [scO_s, scI_at, if_neg (by rintro ⟨⟨i3, h3, e⟩, _⟩; omega)]
      exact ih l2 i2 h1 (by omega)
  induction m with
  | zero => exact absurd hl (Nat.not_lt_zero l)
  | succ m ih =>
    rw [scO_s, scI_at]
    by_cases e : l = m
    · subst e
      have e1 : scO v l (35 + 4 * l + (i + 1)) = v (35 + 4 * l + (i + 1)) := out l l (i + 1) (by omega) (Nat.le_refl l)
      have e2 : chM (scO v l) l 111 = chM v l 111 := by
        unfold chM
        rw [show rkS (scO v l) l 0 = rkS v l 0 from out l l 0 (by omega) (Nat.le_refl l)]
      rw [e1, e2]
      by_cases q : v (35 + 4 * l + (i + 1)) = 0
      · rw [if_pos q, if_pos ⟨⟨i, hi, rfl⟩, q⟩]
      · rw [if_neg q, if_neg (fun r => q r.2)]
    · rw [if_neg (by rintro ⟨⟨i3, h3, e3⟩, _⟩; omega)]
      exact ih (by omega)
theorem scO_k (v : Nat → Int32) (m : Nat) {j : Nat} (hj : j < 4) : scO v m (35 + 4 * j) = v (35 + 4 * j) := by
  induction m with
  | zero => rfl
  | succ m ih => rw [scO_s, scI_at, if_neg (by rintro ⟨⟨i3, h3, e⟩, _⟩; omega)]; exact ih
theorem scO_hi (v : Nat → Int32) {m : Nat} (hm : m ≤ 4) {j : Nat} (hj : 51 ≤ j) : scO v m j = v j := by
  induction m with
  | zero => rfl
  | succ m ih => rw [scO_s, scI_at, if_neg (by rintro ⟨⟨i3, h3, e⟩, _⟩; omega)]; exact ih (by omega)
theorem RC_sc {n : Nat} {w ly t : Nat → Int32} {fx : Nat → UInt32} {kd rk : Nat → Int32} {lim : Int32} {v : Nat → Int32} {fl : Nat → UInt32} (hn : n ≤ 10) (hrk : ∀ j, j < 12 → rk j = 46 ∨ rk j = 113 ∨ rk j = 111) (h : RC n w ly t fx kd rk lim v fl) : RC n w ly t fx kd (flm kd rk 12) lim (scO v 4) fl := by
  have hh := h
  obtain ⟨h0, h1, hC, hR⟩ := h
  refine ⟨by rw [scO_out v 4 (by omega)]; exact h0, by rw [scO_out v 4 (by omega)]; exact h1, fun c hc => ?_, fun j hj => ?_⟩
  · obtain ⟨a1, a2, a3, a4⟩ := hC c hc
    dsimp only [vw, vl, vt] at a1 a2 a3 ⊢
    exact ⟨by rw [scO_out v 4 (by omega)]; exact a1, by rw [scO_out v 4 (by omega)]; exact a2, by rw [scO_out v 4 (by omega)]; exact a3, a4⟩
  · obtain ⟨a1, a2⟩ := hR j hj
    refine ⟨by rw [scO_k v 4 hj]; exact a1, fun i hi => ?_⟩
    rw [scO_at v hi (show j < 4 from hj), a2 i hi, ch_eq hh hj, flm_at]
    have hr := hrk (j * 3 + i) (by omega)
    rw [show (j * 3 + i) / 3 = j by omega]
    by_cases q : rk (j * 3 + i) = 46
    · rw [if_pos ((rmM0 hr).mpr q), if_pos (show j * 3 + i < 12 ∧ rk (j * 3 + i) = 46 from ⟨by omega, q⟩)]
      split <;> rfl
    · rw [if_neg (fun r => q ((rmM0 hr).mp r)), if_neg (fun r => q r.2)]
/-- what a shift wants of the racks -/
theorem flm_ok {kd rk : Nat → Int32} (hrk : ∀ j, j < 12 → rk j = 46 ∨ rk j = 113 ∨ rk j = 111) : ∀ j, j < 12 → flm kd rk 12 j = 46 ∨ flm kd rk 12 j = 113 ∨ flm kd rk 12 j = 111 := by
  intro j hj
  rw [flm_at]
  split
  · split
    · exact Or.inr (Or.inr rfl)
    · exact Or.inr (Or.inl rfl)
  · exact hrk j hj
/-- the shifts' common part: fluxes, racks; ov: whether the power is above the limit -/
theorem rel_dc {n : Nat} {w ly t a : Nat → Int32} {kd : Nat → Int32} {lim : Int32} {s : CS} {m : MS} (hn : n ≤ 10) (hs : Sym n t a) (hy : lyOk n ly) (hrk : ∀ j, j < 12 → s.2.1 j = 46 ∨ s.2.1 j = 113 ∨ s.2.1 j = 111) (hl : m.2.2.2 ≤ 16) (h : RC n w ly t s.1 kd s.2.1 lim m.1 m.2.1) :
    ovM n m = ovS n a ly lim s ∧ RC n w ly t (shS n a ly kd lim s).1 kd (shS n a ly kd lim s).2.1 lim (dcM n m).1 (dcM n m).2.1 := by
  have hf : ∀ c, c < n → flM n m.1 m.2.1 m.2.2.1 c = fxS n a ly s.1 s.2.1 s.2.2.2.2.2.2.2.2 c := by
    intro c hc
    unfold flM fxS
    rw [fil_in hc, fil_in hc, frM_at _ _ _ _ hc, frS_at _ _ _ _ _ _ hc]
    unfold nxM nxF
    have e1 : vl m.1 c = ly c := (h.2.2.1 c hc).2.1
    rw [nx_eq hs (fun c hc => (h.2.2.1 c hc).2.2.1) (fun c hc => (h.2.2.1 c hc).2.2.2) hc (Nat.le_refl n), e1, dp_eq h (hy c hc).2]
  have ho : ovM n m = ovS n a ly lim s := by
    unfold ovM ovS
    rw [sm_eq hf, show m.1 1 = lim from h.2.1]
  refine ⟨ho, ?_⟩
  have h' : RC n w ly t (fxS n a ly s.1 s.2.1 s.2.2.2.2.2.2.2.2) kd s.2.1 lim m.1 (flM n m.1 m.2.1 m.2.2.1) := ⟨h.1, h.2.1, fun c hc => ⟨(h.2.2.1 c hc).1, (h.2.2.1 c hc).2.1, (h.2.2.1 c hc).2.2.1, hf c hc⟩, h.2.2.2⟩
  cases q : ovS n a ly lim s with
  | false =>
    rw [shS_rk_f q, (ovM_f (ho.trans q)).1]
    exact h'
  | true =>
    rw [shS_rk_t q, (ovM_t (ho.trans q)).1]
    have h2 := RC_sc hn hrk h'
    have h3 : RC n w ly t (fxS n a ly s.1 s.2.1 s.2.2.2.2.2.2.2.2) kd (flm kd s.2.1 12) lim (upd (scO m.1 4) 3 (scO m.1 4 3 + 1)) (flM n m.1 m.2.1 m.2.2.1) :=
      RC_cong h2 hn (by rw [upd_at, if_neg (by omega)]) (by rw [upd_at, if_neg (by omega)]) (fun j h1 h2 => by rw [upd_at, if_neg (by omega)])
    exact RC_lg h3 hn hl 115
/-- the shifts of a level: without the count of shifts -/
theorem rel_itD {n : Nat} {w ly t a : Nat → Int32} {kd : Nat → Int32} {lim : Int32} {s : CS} {m : MS} (hn : n ≤ 10) (hs : Sym n t a) (hy : lyOk n ly) (hrk : ∀ j, j < 12 → s.2.1 j = 46 ∨ s.2.1 j = 113 ∨ s.2.1 j = 111) (hm : okM n m) (h : RC n w ly t s.1 kd s.2.1 lim m.1 m.2.1) (r : Nat) :
    (∀ j, j < 12 → (itS n a ly kd lim s r).2.1 j = 46 ∨ (itS n a ly kd lim s r).2.1 j = 113 ∨ (itS n a ly kd lim s r).2.1 j = 111) ∧ RC n w ly t (itS n a ly kd lim s r).1 kd (itS n a ly kd lim s r).2.1 lim (itD n m r).1 (itD n m r).2.1 := by
  induction r with
  | zero => exact ⟨hrk, h⟩
  | succ r ih =>
    rw [itS_s, itD_s]
    refine ⟨fun j hj => ?_, (rel_dc hn hs hy ih.1 (okM_itD hn hm r).2.2.1 ih.2).2⟩
    cases q : ovS n a ly lim (itS n a ly kd lim s r) with
    | true =>
      rw [shS_rk_t q]
      exact flm_ok ih.1 j hj
    | false =>
      rw [shS_rk_f q]
      exact ih.1 j hj
/-- the shifts of a pass -/
def RT (n : Nat) (w ly t : Nat → Int32) (kd : Nat → Int32) (lim : Int32) (s : CS) (m : MS) : Prop :=
  RC n w ly t s.1 kd s.2.1 lim m.1 m.2.1 ∧ RLg s.2.2.1 s.2.2.2.1 s.2.2.2.2.1 s.2.2.2.2.2.1 s.2.2.2.2.2.2.1 s.2.2.2.2.2.2.2.1 m.1 ∧ m.2.2.2 = s.2.2.2.2.1 ∧ s.2.2.2.2.1 ≤ 16 ∧ s.2.2.2.2.2.1 < 16 ∧ (∀ j, j < 12 → s.2.1 j = 46 ∨ s.2.1 j = 113 ∨ s.2.1 j = 111)
theorem rel_ps {n : Nat} {w ly t a : Nat → Int32} {kd : Nat → Int32} {lim : Int32} {s : CS} {m : MS} (hn : n ≤ 10) (hs : Sym n t a) (hy : lyOk n ly) (h : RT n w ly t kd lim s m) : RT n w ly t kd lim (shS n a ly kd lim s) (psM n m) := by
  obtain ⟨h1, h2, h3, h4, h5, h6⟩ := h
  have g1 : RC n w ly t s.1 kd s.2.1 lim (upd m.1 2 (m.1 2 + 1)) m.2.1 := RC_cong h1 hn (by rw [upd_at, if_neg (by omega)]) (by rw [upd_at, if_neg (by omega)]) (fun j _ _ => by rw [upd_at, if_neg (by omega)])
  have g2 : RLg s.2.2.1 s.2.2.2.1 s.2.2.2.2.1 s.2.2.2.2.2.1 (s.2.2.2.2.2.2.1 + 1) s.2.2.2.2.2.2.2.1 (upd m.1 2 (m.1 2 + 1)) := by
    obtain ⟨a2, a3, a4, aL⟩ := h2
    refine ⟨by rw [upd_at, if_pos rfl, a2], by rw [upd_at, if_neg (by omega)]; exact a3, by rw [upd_at, if_neg (by omega)]; exact a4, fun i hi => ?_⟩
    rw [upd_at, if_neg (by omega), upd_at, if_neg (by omega)]
    exact aL i hi
  obtain ⟨ho, hR⟩ := rel_dc (s := s) (m := (upd m.1 2 (m.1 2 + 1), m.2.1, m.2.2.1, m.2.2.2)) hn hs hy h6 (by rw [h3]; exact h4) g1
  refine ⟨hR, ?_⟩
  unfold psM
  cases q : ovS n a ly lim s with
  | false =>
    have qM := ho.trans q
    rw [(ovM_f qM).1, (ovM_f qM).2, shS_ls_f q, shS_lk_f q, shS_lc_f q, shS_lx_f q, shS_sc_f q, shS_rk_f q]
    exact ⟨g2, h3, h4, h5, h6⟩
  | true =>
    have qM := ho.trans q
    rw [(ovM_t qM).1, (ovM_t qM).2, shS_ls_t q, shS_lk_t q, shS_lc_t q, shS_lx_t q, shS_sc_t q, shS_rk_t q]
    refine ⟨?_, by rw [h3], Nat.min_le_right _ _, Nat.mod_lt _ (by decide), flm_ok h6⟩
    have g3 : RLg s.2.2.1 s.2.2.2.1 s.2.2.2.2.1 s.2.2.2.2.2.1 (s.2.2.2.2.2.2.1 + 1) (s.2.2.2.2.2.2.2.1 + 1) (upd (scO (upd m.1 2 (m.1 2 + 1)) 4) 3 (scO (upd m.1 2 (m.1 2 + 1)) 4 3 + 1)) := by
      obtain ⟨a2, a3, a4, aL⟩ := g2
      refine ⟨by rw [upd_at, if_neg (by omega), scO_out _ 4 (by omega)]; exact a2, by rw [upd_at, if_pos rfl, scO_out _ 4 (by omega), a3], by rw [upd_at, if_neg (by omega), scO_out _ 4 (by omega)]; exact a4, fun i hi => ?_⟩
      rw [upd_at, if_neg (by omega), upd_at, if_neg (by omega), scO_hi _ (Nat.le_refl 4) (by omega), scO_hi _ (Nat.le_refl 4) (by omega)]
      exact aL i hi
    have := RLg_lg g3 h4 h5 115
    unfold scV
    dsimp only
    rw [h3]
    exact this
theorem rel_itP {n : Nat} {w ly t a : Nat → Int32} {kd : Nat → Int32} {lim : Int32} {s : CS} {m : MS} (hn : n ≤ 10) (hs : Sym n t a) (hy : lyOk n ly) (h : RT n w ly t kd lim s m) (r : Nat) : RT n w ly t kd lim (itS n a ly kd lim s r) (itP n m r) := by
  induction r with
  | zero => exact h
  | succ r ih => rw [itS_s, itP_s]; exact rel_ps hn hs hy ih
/-- the first shift below a level -/
theorem rel_level {n : Nat} {w ly t a : Nat → Int32} {kd : Nat → Int32} {lim : Int32} {s : CS} {m : MS} (hn : n ≤ 10) (hs : Sym n t a) (hy : lyOk n ly) (hrk : ∀ j, j < 12 → s.2.1 j = 46 ∨ s.2.1 j = 113 ∨ s.2.1 j = 111) (hf : ∀ c, c < n → okF (s.1 c)) (hm : okM n m) (h : RC n w ly t s.1 kd s.2.1 lim m.1 m.2.1) {x : Int32} (hx : rg 1 x 9999 = true) (hst : okS n s) : sbM n m x = sbS n a ly kd lim s x := by
  have e : ∀ i, sbP n m x i = sbQ n a ly kd lim s x i := by
    intro i
    have hR := (rel_itD hn hs hy hrk hm h i).2
    have hT := okS_it a ly kd lim hst i
    have es : smF (itD n m i).2.1 n = smF (itS n a ly kd lim s i).1 n := sm_eq (fun c hc => (hR.2.2.1 c hc).2.2.2)
    unfold sbP sbQ
    rw [es]
    have hk := okF_sm hT.1
    have hne : ¬ FP.fcmp (smF (itS n a ly kd lim s i).1 n) (FP.i2f x) = none := by
      obtain ⟨j, hj, rfl⟩ := rg1_of (m := 9999) (by decide) hx
      exact fcmp_tot hk (okF_i2f (nI_pos (by omega)))
    by_cases q : FP.fcmp (smF (itS n a ly kd lim s i).1 n) (FP.i2f x) = some .lt
    · rw [decide_eq_true q, decide_eq_true (Or.inl q)]
    · rw [decide_eq_false q, decide_eq_false (fun r => r.elim q hne)]
  unfold sbM sbS
  rw [show sbP n m x = sbQ n a ly kd lim s x from funext e]

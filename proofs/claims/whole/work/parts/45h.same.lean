/-! Lines. -/
/-- two lines say the same -/
def LnR (s s2 : (Nat → Int32) × Nat) : Prop := s.2 = s2.2 ∧ ∀ i, i < s.2 → s.1 i = s2.1 i ∧ vp_nar .char (s.1 i) = s.1 i
theorem LnR.wr {s s2 : (Nat → Int32) × Nat} (h : LnR s s2) {x y : Int32} (e : x = y) (hx : vp_nar .char x = x) (hl : s.2 < 19) : LnR (wrC s x) (wrS s2 y) := by
  subst e
  obtain ⟨f, l⟩ := s
  obtain ⟨g, l2⟩ := s2
  obtain ⟨h1, h2⟩ := h
  have h1 : l = l2 := h1
  subst h1
  rw [wrC_in hl]
  refine ⟨rfl, fun i hi => ?_⟩
  show upd f l x i = upd g l x i ∧ vp_nar .char (upd f l x i) = upd f l x i
  rw [upd_at, upd_at]
  by_cases q : i = l
  · rw [if_pos q, if_pos q]; exact ⟨rfl, hx⟩
  · rw [if_neg q, if_neg q]
    have hi : i < l + 1 := hi
    exact h2 i (show i < l by omega)
theorem dg_nI {c : Nat} (h : c < 10) : dg9 c = nI (48 + c) := by
  have : ∀ c : Nat, c < 10 → dg9 c = nI (48 + c) := by decide +kernel
  exact this c h
theorem q_dc {n : Nat} {t a : Nat → Int32} {v : Nat → Int32} (hn : n ≤ 10) (hs : Sym n t a) (h : ∀ c, c < n → vt v c = t c) {j : Nat} (hj : j < n) (li le : Nat → Int32) (m : Nat) (hm : m ≤ n) : LnR (dcC n t a le j m) (dcl n v li j m) ∧ (dcC n t a le j m).2 ≤ m + 2 := by
  induction m with
  | zero =>
    have e0 : LnR (le, 0) (li, 0) := ⟨rfl, fun i hi => absurd hi (Nat.not_lt_zero i)⟩
    have e1 := e0.wr (x := dg9 j) (y := nI (48 + j)) (dg_nI (by omega)) (dg_nar (by omega)) (show (0 : Nat) < 19 by omega)
    have e2 : (wrC (le, 0) (dg9 j)).2 = 1 := by rw [wrC_in (by omega)]
    have eS : ssS n t a j = sgM n v j := by
      unfold ssS sgM
      rw [q_acc hn hs h, orS_cg h]
    have e3 := e1.wr (x := ssS n t a j) (y := sgM n v j) eS (ss_nar n t a j) (by rw [e2]; omega)
    refine ⟨e3, ?_⟩
    show (wrC (wrC (le, 0) (dg9 j)) (ssS n t a j)).2 ≤ 0 + 2
    rw [wrC_in (show 0 < 19 by omega), wrC_in (show 0 + 1 < 19 by omega)]
    exact Nat.le_refl _
  | succ m ih =>
    obtain ⟨h1, h2⟩ := ih (by omega)
    rw [dcC_s, dcl_s, h j hj]
    by_cases q : tb (t j) m = true
    · rw [if_pos q, if_pos q]
      refine ⟨h1.wr (dg_nI (by omega)) (dg_nar (by omega)) (by omega), ?_⟩
      generalize dcC n t a le j m = s at h2 ⊢
      obtain ⟨f, l⟩ := s
      have h2 : l ≤ m + 2 := h2
      rw [wrC_in (show l < 19 by omega)]
      show l + 1 ≤ m + 1 + 2
      omega
    · rw [if_neg q, if_neg q]
      exact ⟨h1, by omega⟩
theorem wrC_n {s : (Nat → Int32) × Nat} {x : Int32} (h : s.2 < 19) : (wrC s x).2 = s.2 + 1 := by
  obtain ⟨f, l⟩ := s
  rw [wrC_in h]
theorem q_dr {kd rk v : Nat → Int32} (hk : ∀ j, j < 4 → v (35 + 4 * j) = kd j ∧ ∀ i, i < 3 → v (35 + 4 * j + (i + 1)) = rmM (rk (j * 3 + i))) (hkd : ∀ j, j < 4 → kd j = 113 ∨ kd j = 111 ∨ kd j = 97) (hrk : ∀ j, j < 12 → rk j = 46 ∨ rk j = 113 ∨ rk j = 111) (li le : Nat → Int32) (m : Nat) (hm : m ≤ 4) : LnR (drP kd rk le m) (drO v li m) ∧ (drP kd rk le m).2 = 5 * m - 1 := by
  induction m with
  | zero => exact ⟨⟨rfl, fun i hi => absurd hi (Nat.not_lt_zero i)⟩, rfl⟩
  | succ m ih =>
    obtain ⟨h1, h2⟩ := ih (by omega)
    rw [drP_s, drO_s]
    have hb : LnR (drB m (drP kd rk le m)) (drA m (drO v li m)) ∧ (drB m (drP kd rk le m)).2 = 5 * m := by
      unfold drB drA
      by_cases q : m = 0
      · rw [if_pos q, if_pos q]
        exact ⟨h1, by omega⟩
      · rw [if_neg q, if_neg q]
        exact ⟨h1.wr rfl (by decide) (by omega), by rw [wrC_n (by omega)]; omega⟩
    generalize drB m (drP kd rk le m) = s at hb ⊢
    generalize drA m (drO v li m) = s2 at hb ⊢
    obtain ⟨hb1, hb2⟩ := hb
    obtain ⟨k1, k2⟩ := hk m (by omega)
    have ekd : kd m = if rkS v m 0 = 0 then 46 else rkS v m 0 := by
      show kd m = if v (35 + 4 * m + 0) = 0 then 46 else v (35 + 4 * m + 0)
      rw [Nat.add_zero, k1]
      rcases hkd m (by omega) with e | e | e <;> rw [e] <;> rfl
    have nkd : vp_nar .char (kd m) = kd m := by rcases hkd m (by omega) with e | e | e <;> rw [e] <;> rfl
    have erk : ∀ i, i < 3 → rk (m * 3 + i) = (if rkS v m (i + 1) = 0 then 46 else rkS v m (i + 1)) ∧ vp_nar .char (rk (m * 3 + i)) = rk (m * 3 + i) := by
      intro i hi
      have e2 : rkS v m (i + 1) = rmM (rk (m * 3 + i)) := k2 i hi
      rw [e2]
      unfold rmM
      rcases hrk (m * 3 + i) (by omega) with e | e | e <;> rw [e] <;> exact ⟨rfl, rfl⟩
    have w0 := hb1.wr ekd nkd (by omega)
    have n0 : (wrC s (kd m)).2 = 5 * m + 1 := by rw [wrC_n (by omega), hb2]
    have w1 := w0.wr (erk 0 (by omega)).1 (erk 0 (by omega)).2 (by omega)
    have n1 : (wrC (wrC s (kd m)) (rk (m * 3 + 0))).2 = 5 * m + 2 := by rw [wrC_n (by omega), n0]
    have w2 := w1.wr (erk 1 (by omega)).1 (erk 1 (by omega)).2 (by omega)
    have n2 : (wrC (wrC (wrC s (kd m)) (rk (m * 3 + 0))) (rk (m * 3 + 1))).2 = 5 * m + 3 := by rw [wrC_n (by omega), n1]
    have w3 := w2.wr (erk 2 (by omega)).1 (erk 2 (by omega)).2 (by omega)
    have eJ : drJ rk m (wrC s (kd m)) 3 = wrC (wrC (wrC (wrC s (kd m)) (rk (m * 3 + 0))) (rk (m * 3 + 1))) (rk (m * 3 + 2)) := by
      rw [drJ_s, drJ_s, drJ_s]
      rfl
    have eI : drI v m s2 4 = wrS (wrS (wrS (wrS s2 (if rkS v m 0 = 0 then 46 else rkS v m 0)) (if rkS v m (0 + 1) = 0 then 46 else rkS v m (0 + 1))) (if rkS v m (1 + 1) = 0 then 46 else rkS v m (1 + 1))) (if rkS v m (2 + 1) = 0 then 46 else rkS v m (2 + 1)) := by
      rw [drI_s, drI_s, drI_s, drI_s]
      rfl
    rw [eJ, eI]
    refine ⟨w3, ?_⟩
    rw [wrC_n (by omega), n2]
    omega
/-- a place of a line -/
theorem q_ln {le li : Nat → Int32} {ll ln : Nat} (h : LnR (le, ll) (li, ln)) {x : Int32} (hx : inC ll x = true) (hl : ll ≤ 19) : (Int32.toUInt32 (li x.toNatClampNeg) % 65536).toInt32 = le x.toNatClampNeg := by
  obtain ⟨j, hj, rfl⟩ := inC_of2 (by omega) hx
  rw [nI_clamp (by omega)]
  obtain ⟨h1, h2⟩ := h.2 j hj
  have h1 : le j = li j := h1
  rw [← h1]
  have h2 : vp_nar .char (le j) = le j := h2
  rw [vp_nar_char] at h2
  have : ∀ z : UInt32, z % 65536 = z.toUInt16.toUInt32 := fun z => by
    apply UInt32.toNat_inj.mp
    rw [UInt32.toNat_mod, UInt16.toNat_toUInt32, UInt32.toNat_toUInt16]
    rfl
  rw [this]
  exact h2

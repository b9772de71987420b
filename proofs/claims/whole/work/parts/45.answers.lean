/-! The two sides say the same: the model's rows of attacks, ranks, means, lines. -/
theorem orS_cg {n : Nat} {t u : Nat → Int32} (h : ∀ c, c < n → t c = u c) (x : Int32) : orS n t x = orS n u x := up_cong rfl (fun i x hi => by rw [h i hi])
theorem adS_cg {n : Nat} {t u : Nat → Int32} (h : ∀ c, c < n → t c = u c) (x : Int32) : adS n t x = adS n u x := up_cong rfl (fun i x hi => by rw [h i hi])
theorem Sym.cg {n : Nat} {t u a : Nat → Int32} (hs : Sym n t a) (h : ∀ c, c < n → u c = t c) : Sym n u a :=
  ⟨fun i j hi hj => by rw [h i hi]; exact hs.1 i j hi hj, fun i j hi hj => by rw [h i hi]; exact hs.2.1 i j hi hj, hs.2.2⟩
theorem itA_cg {n : Nat} {t u : Nat → Int32} (a : Nat → Int32) (h : ∀ c, c < n → t c = u c) (r : Nat) : itA n t a r = itA n u a r := by
  induction r with
  | zero => rfl
  | succ r ih => rw [itA_s, itA_s, ih]; unfold dfS; rw [orS_cg h]
theorem accS_cg {n : Nat} {t u : Nat → Int32} (a : Nat → Int32) (h : ∀ c, c < n → t c = u c) : accS n t a = accS n u a := itA_cg a h _
theorem hld_cg {n : Nat} {t u : Nat → Int32} (a : Nat → Int32) (h : ∀ c, c < n → t c = u c) (x : Int32) : hld n t a x = hld n u a x := by unfold hld; rw [orS_cg h]
theorem cntP_cg {n : Nat} {t u : Nat → Int32} (a : Nat → Int32) (h : ∀ c, c < n → t c = u c) (m : Nat) : cntP n t a m = cntP n u a m := by
  induction m with
  | zero => rfl
  | succ m ih => rw [cntP_s, cntP_s, ih, hld_cg a h]
theorem btr_cg {n : Nat} {w u : Nat → Int32} (h : ∀ c, c < n → w c = u c) (x y : Int32) : btr n w x y = btr n u x y := by unfold btr; rw [adS_cg h, adS_cg h]
theorem hvS_cg {n : Nat} {w w2 t u : Nat → Int32} (a : Nat → Int32) (hw : ∀ c, c < n → w c = w2 c) (h : ∀ c, c < n → t c = u c) (m : Nat) : hvS n w t a m = hvS n w2 u a m := by
  induction m with
  | zero => rfl
  | succ m ih => rw [hvS_s, hvS_s, ih, hld_cg a h, btr_cg hw]
theorem srS_cg {n : Nat} {t u : Nat → Int32} (h : ∀ c, c < n → t c = u c) (c m : Nat) : srS n t c m = srS n u c m := by
  induction m with
  | zero => rfl
  | succ m ih => exact Prod.ext (by rw [srS_1, srS_1, ih, orS_cg h]) (by rw [srS_2, srS_2, ih, orS_cg h])
theorem arS_cg {n : Nat} {t u : Nat → Int32} (a : Nat → Int32) (h : ∀ c, c < n → t c = u c) (c : Nat) : arS n t a c = arS n u a c := by unfold arS; rw [srS_cg h]
theorem cirS_cg {n : Nat} {t u : Nat → Int32} (a : Nat → Int32) (h : ∀ c, c < n → t c = u c) (m : Nat) : cirS n t a m = cirS n u a m := by
  induction m with
  | zero => rfl
  | succ m ih => rw [cirS_s, cirS_s, ih, arS_cg a h]
theorem Wk_cg {n : Nat} {t u : Nat → Int32} (h : ∀ c, c < n → t c = u c) (k i j : Nat) : Wk n t k i j = Wk n u k i j := by
  induction k generalizing j with
  | zero => rfl
  | succ k ih => rw [Wk_s, Wk_s]; exact sm_cong (fun m hm => by rw [ih]; unfold aM; rw [h m hm])
/-- what the model answers of its rows is what the class answers of its own -/
theorem q_acc {n : Nat} {t u a : Nat → Int32} (hn : n ≤ 10) (hs : Sym n t a) (h : ∀ c, c < n → u c = t c) : accM n u = accS n t a := by rw [accM_accS hn (hs.cg h), accS_cg a h]
theorem q_hld {n : Nat} {t u a : Nat → Int32} (hn : n ≤ 10) (hs : Sym n t a) (h : ∀ c, c < n → u c = t c) (x : Int32) : hldM n u x = hld n t a x := by rw [hldM_hld hn (hs.cg h), hld_cg a h]
theorem q_cnt {n : Nat} {t u a : Nat → Int32} (hn : n ≤ 10) (hs : Sym n t a) (h : ∀ c, c < n → u c = t c) (m : Nat) : cntM n u m = cntP n t a m := by rw [cntM_cntP hn (hs.cg h), cntP_cg a h]
theorem wtOk_cg {n : Nat} {w w2 : Nat → Int32} (h : ∀ c, c < n → w2 c = w c) (hw : wtOk n w) : wtOk n w2 := fun c hc => by
  obtain ⟨j, h1, h2, h3⟩ := hw c hc
  exact ⟨j, h1, h2, by rw [h c hc]; exact h3⟩
theorem q_hv {n : Nat} {w w2 t u a : Nat → Int32} (hn : n ≤ 10) (hs : Sym n t a) (hw : wtOk n w) (h : ∀ c, c < n → u c = t c) (h2 : ∀ c, c < n → w2 c = w c) (m : Nat) : hvM n w2 u m = hvS n w t a m := by
  rw [hvM_hvS hn (hs.cg h) (wtOk_cg h2 hw), hvS_cg a h2 h]
theorem q_und {n : Nat} {t u a : Nat → Int32} (hn : n ≤ 10) (hs : Sym n t a) (h : ∀ c, c < n → u c = t c) : nI n - nI (cn 10 (accM n u ||| orS n u (accM n u))) = nI (cn 10 (nI (pw n - 1) &&& ((accS n t a ||| orS n t (accS n t a)) ^^^ (-1)))) := by
  rw [und_eq hn (hs.cg h), accS_cg a h, orS_cg h]
theorem q_cir {n : Nat} {t u a : Nat → Int32} (hn : n ≤ 10) (hs : Sym n t a) (h : ∀ c, c < n → u c = t c) (rc : Nat → Int32) : cntC n (rchM n u rc) n = (cirS n t a n).1 := by
  rw [cirM_eq hn (hs.cg h) rc rc, ← cir_eq hn (hs.cg h) rc, cirS_cg a h]
theorem q_cr {n : Nat} {t u a : Nat → Int32} (hn : n ≤ 10) (hs : Sym n t a) (h : ∀ c, c < n → u c = t c) (rc : Nat → Int32) {i : Nat} (hi : i < n) : crM (rchM n u rc) i n = arS n t a i := by
  rw [cr_ar hn (hs.cg h) rc hi, arS_cg a h]
theorem q_ch {n : Nat} {t u : Nat → Int32} (hn : n ≤ 10) (h : ∀ c, c < n → u c = t c) {x y r : Nat} (hx : x < n) (hy : y < n) (hr : r ≤ 999) (T : CT) (wy mo : Nat → Int64) : (itW n u x wy mo r).1 y = (bsT n (nI r) (bs0 n t (nI x) T) 10).2.2.2.2.2.2.2.2.1 y := by
  rw [bs_eq hn t hx hy hr T, ← Wk_cg h]
  exact itW_ok hn u wy mo r y hy
theorem q_cs {n : Nat} {t u a : Nat → Int32} (hn : n ≤ 10) (hs : Sym n t a) (h : ∀ c, c < n → u c = t c) {x y r : Nat} (hx : x < n) (hy : y < n) (T : CT) (wy mo : Nat → Int64) : (itW n u x wy mo r).1 y = (itN n a (by0 n (nI x) T) r).2.2.2.2.2.2.2.2.1 y := by
  rw [itN_ok hn hs hx T r y hy, ← Wk_cg h]
  exact itW_ok hn u wy mo r y hy
/-! Ranks, means. -/
theorem ah_eq (f : Nat → UInt32) (w : Nat → Int32) (o c : Nat) : ahM f w o c = ahS f w o c := by
  unfold ahM ahS
  by_cases e : FP.fcmp (f o) (f c) = some .eq
  · have g : ¬ FP.fcmp (f o) (f c) = some .gt := fun h => by rw [e] at h; cases h
    rw [if_neg g, if_pos e, if_pos e]
    by_cases q : w o = w c
    · have : ¬ w c < w o := fun h => by rw [q] at h; exact Int32.lt_irrefl h
      rw [if_neg this, if_pos q, if_pos q]
    · rw [if_neg q]
      by_cases r : w c < w o
      · rw [if_pos r, decide_eq_true r]
      · rw [if_neg r, if_neg q, decide_eq_false r]
  · rw [if_neg e]
    by_cases g : FP.fcmp (f o) (f c) = some .gt
    · rw [if_pos g, decide_eq_true g]
    · rw [if_neg g, if_neg e, decide_eq_false g]
theorem ahS_cg {n : Nat} {f f2 : Nat → UInt32} {w w2 : Nat → Int32} (hf : ∀ c, c < n → f2 c = f c) (hw : ∀ c, c < n → w2 c = w c) {o c : Nat} (ho : o < n) (hc : c < n) : ahS f2 w2 o c = ahS f w o c := by
  unfold ahS; rw [hf o ho, hf c hc, hw o ho, hw c hc]
theorem cnt_rk {n : Nat} {f f2 : Nat → UInt32} {w w2 : Nat → Int32} (hf : ∀ c, c < n → f2 c = f c) (hw : ∀ c, c < n → w2 c = w c) {c : Nat} (hc : c < n) (m : Nat) (hm : m ≤ n) : cntR f2 w2 c m = cntA f w c m := by
  induction m with
  | zero => rfl
  | succ m ih => rw [cntR_s, cntA_s, ih (by omega), ah_eq, ahS_cg hf hw (by omega) hc]
theorem fsN_cg {p q : Nat → Bool} {n : Nat} (h : ∀ c, c < n → p c = q c) : fsN p n = fsN q n := by
  induction n with
  | zero => rfl
  | succ n ih =>
    show (if fsN p n < n then fsN p n else if p n then n else n + 1) = (if fsN q n < n then fsN q n else if q n then n else n + 1)
    rw [ih (fun c hc => h c (Nat.lt_succ_of_lt hc)), h n (Nat.lt_succ_self n)]
theorem q_rk {n : Nat} {f f2 : Nat → UInt32} {w w2 : Nat → Int32} (hf : ∀ c, c < n → f2 c = f c) (hw : ∀ c, c < n → w2 c = w c) (x : Int32) : rkM n f2 w2 x = rkF n f w x := fsN_cg (fun c hc => by rw [cnt_rk hf hw hc n (Nat.le_refl n)])
theorem q_mn {n : Nat} {w w2 : Nat → Int32} (hn : n ≤ 10) (hw : ∀ c, c < n → w2 c = w c) : mnM n w2 = mnS n w := by
  unfold mnM mnS
  rw [adS_cg hw]
  have e : (1 : Int32) <<< (nI n &&& 31) - 1 = nI (pw n - 1) := bt_all hn
  rw [e]
theorem smF_cg {n : Nat} {f f2 : Nat → UInt32} (hf : ∀ c, c < n → f2 c = f c) : smF f2 n = smF f n := up_cong rfl (fun i x hi => by rw [hf i hi])
/-! Lines. -/
/-- two lines say the same -/
def LnR (s s2 : (Nat → Int32) × Nat) : Prop := s.2 = s2.2 ∧ ∀ i, i < s.2 → s.1 i = s2.1 i ∧ vp_nar .char (s.1 i) = s.1 i
theorem LnR.wr {s s2 : (Nat → Int32) × Nat} (h : LnR s s2) {x y : Int32} (e : x = y) (hx : vp_nar .char x = x) (hl : s.2 < 19) : LnR (wrC s x) (wrS s2 y) := by
  subst e
  obtain ⟨f, l⟩ := s
  obtain ⟨g, l2⟩ := s2
  obtain ⟨h1, h2⟩ := h
  have h1 : l = l2 := h1
  subst h1
  rw [wrC_in hl]
  refine ⟨rfl, fun i hi => ?_⟩
  show upd f l x i = upd g l x i ∧ vp_nar .char (upd f l x i) = upd f l x i
  rw [upd_at, upd_at]
  by_cases q : i = l
  · rw [if_pos q, if_pos q]; exact ⟨rfl, hx⟩
  · rw [if_neg q, if_neg q]
    have hi : i < l + 1 := hi
    exact h2 i (show i < l by omega)
theorem dg_nI {c : Nat} (h : c < 10) : dg9 c = nI (48 + c) := by
  have : ∀ c : Nat, c < 10 → dg9 c = nI (48 + c) := by decide +kernel
  exact this c h
theorem q_dc {n : Nat} {t a : Nat → Int32} {v : Nat → Int32} (hn : n ≤ 10) (hs : Sym n t a) (h : ∀ c, c < n → vt v c = t c) {j : Nat} (hj : j < n) (li le : Nat → Int32) (m : Nat) (hm : m ≤ n) : LnR (dcC n t a le j m) (dcl n v li j m) ∧ (dcC n t a le j m).2 ≤ m + 2 := by
  induction m with
  | zero =>
    have e0 : LnR (le, 0) (li, 0) := ⟨rfl, fun i hi => absurd hi (Nat.not_lt_zero i)⟩
    have e1 := e0.wr (x := dg9 j) (y := nI (48 + j)) (dg_nI (by omega)) (dg_nar (by omega)) (show (0 : Nat) < 19 by omega)
    have e2 : (wrC (le, 0) (dg9 j)).2 = 1 := by rw [wrC_in (by omega)]
    have eS : ssS n t a j = sgM n v j := by
      unfold ssS sgM
      rw [q_acc hn hs h, orS_cg h]
    have e3 := e1.wr (x := ssS n t a j) (y := sgM n v j) eS (ss_nar n t a j) (by rw [e2]; omega)
    refine ⟨e3, ?_⟩
    show (wrC (wrC (le, 0) (dg9 j)) (ssS n t a j)).2 ≤ 0 + 2
    rw [wrC_in (show 0 < 19 by omega), wrC_in (show 0 + 1 < 19 by omega)]
    exact Nat.le_refl _
  | succ m ih =>
    obtain ⟨h1, h2⟩ := ih (by omega)
    rw [dcC_s, dcl_s, h j hj]
    by_cases q : tb (t j) m = true
    · rw [if_pos q, if_pos q]
      refine ⟨h1.wr (dg_nI (by omega)) (dg_nar (by omega)) (by omega), ?_⟩
      generalize dcC n t a le j m = s at h2 ⊢
      obtain ⟨f, l⟩ := s
      have h2 : l ≤ m + 2 := h2
      rw [wrC_in (show l < 19 by omega)]
      show l + 1 ≤ m + 1 + 2
      omega
    · rw [if_neg q, if_neg q]
      exact ⟨h1, by omega⟩
theorem wrC_n {s : (Nat → Int32) × Nat} {x : Int32} (h : s.2 < 19) : (wrC s x).2 = s.2 + 1 := by
  obtain ⟨f, l⟩ := s
  rw [wrC_in h]
theorem q_dr {kd rk v : Nat → Int32} (hk : ∀ j, j < 4 → v (35 + 4 * j) = kd j ∧ ∀ i, i < 3 → v (35 + 4 * j + (i + 1)) = rmM (rk (j * 3 + i))) (hkd : ∀ j, j < 4 → kd j = 113 ∨ kd j = 111 ∨ kd j = 97) (hrk : ∀ j, j < 12 → rk j = 46 ∨ rk j = 113 ∨ rk j = 111) (li le : Nat → Int32) (m : Nat) (hm : m ≤ 4) : LnR (drP kd rk le m) (drO v li m) ∧ (drP kd rk le m).2 = 5 * m - 1 := by
  induction m with
  | zero => exact ⟨⟨rfl, fun i hi => absurd hi (Nat.not_lt_zero i)⟩, rfl⟩
  | succ m ih =>
    obtain ⟨h1, h2⟩ := ih (by omega)
    rw [drP_s, drO_s]
    have hb : LnR (drB m (drP kd rk le m)) (drA m (drO v li m)) ∧ (drB m (drP kd rk le m)).2 = 5 * m := by
      unfold drB drA
      by_cases q : m = 0
      · rw [if_pos q, if_pos q]
        exact ⟨h1, by omega⟩
      · rw [if_neg q, if_neg q]
        exact ⟨h1.wr rfl (by decide) (by omega), by rw [wrC_n (by omega)]; omega⟩
    generalize drB m (drP kd rk le m) = s at hb ⊢
    generalize drA m (drO v li m) = s2 at hb ⊢
    obtain ⟨hb1, hb2⟩ := hb
    obtain ⟨k1, k2⟩ := hk m (by omega)
    have ekd : kd m = if rkS v m 0 = 0 then 46 else rkS v m 0 := by
      show kd m = if v (35 + 4 * m + 0) = 0 then 46 else v (35 + 4 * m + 0)
      rw [Nat.add_zero, k1]
      rcases hkd m (by omega) with e | e | e <;> rw [e] <;> rfl
    have nkd : vp_nar .char (kd m) = kd m := by rcases hkd m (by omega) with e | e | e <;> rw [e] <;> rfl
    have erk : ∀ i, i < 3 → rk (m * 3 + i) = (if rkS v m (i + 1) = 0 then 46 else rkS v m (i + 1)) ∧ vp_nar .char (rk (m * 3 + i)) = rk (m * 3 + i) := by
      intro i hi
      have e2 : rkS v m (i + 1) = rmM (rk (m * 3 + i)) := k2 i hi
      rw [e2]
      unfold rmM
      rcases hrk (m * 3 + i) (by omega) with e | e | e <;> rw [e] <;> exact ⟨rfl, rfl⟩
    have w0 := hb1.wr ekd nkd (by omega)
    have n0 : (wrC s (kd m)).2 = 5 * m + 1 := by rw [wrC_n (by omega), hb2]
    have w1 := w0.wr (erk 0 (by omega)).1 (erk 0 (by omega)).2 (by omega)
    have n1 : (wrC (wrC s (kd m)) (rk (m * 3 + 0))).2 = 5 * m + 2 := by rw [wrC_n (by omega), n0]
    have w2 := w1.wr (erk 1 (by omega)).1 (erk 1 (by omega)).2 (by omega)
    have n2 : (wrC (wrC (wrC s (kd m)) (rk (m * 3 + 0))) (rk (m * 3 + 1))).2 = 5 * m + 3 := by rw [wrC_n (by omega), n1]
    have w3 := w2.wr (erk 2 (by omega)).1 (erk 2 (by omega)).2 (by omega)
    refine ⟨w3, ?_⟩
    show (wrC (wrC (wrC (wrC s (kd m)) (rk (m * 3 + 0))) (rk (m * 3 + 1))) (rk (m * 3 + 2))).2 = _
    rw [wrC_n (by omega), n2]
    omega
/-- a place of a line -/
theorem q_ln {le li : Nat → Int32} {ll ln : Nat} (h : LnR (le, ll) (li, ln)) {x : Int32} (hx : inC ll x = true) (hl : ll ≤ 19) : (Int32.toUInt32 (li x.toNatClampNeg) % 65536).toInt32 = le x.toNatClampNeg := by
  obtain ⟨j, hj, rfl⟩ := inC_of2 (by omega) hx
  rw [nI_clamp (by omega)]
  obtain ⟨h1, h2⟩ := h.2 j hj
  have h1 : le j = li j := h1
  rw [← h1]
  have h2 : vp_nar .char (le j) = le j := h2
  rw [vp_nar_char] at h2
  have : ∀ z : UInt32, z % 65536 = z.toUInt16.toUInt32 := fun z => by
    apply UInt32.toNat_inj.mp
    rw [UInt32.toNat_mod]
    show z.toNat % 65536 = z.toNat % 2 ^ 16 % 2 ^ 32
    omega
  rw [this]
  exact h2

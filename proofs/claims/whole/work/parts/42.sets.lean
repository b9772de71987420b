/-! The two sides say the same: accepted claims, positions. -/
theorem cn_split {n : Nat} {x y z : Int32} (h : ∀ c, c < n → tb z c = (tb x c || tb y c)) (h2 : ∀ c, c < n → tb x c = true → tb y c = false) : cn n z = cn n x + cn n y := by
  induction n with
  | zero => rfl
  | succ n ih =>
    have ih := ih (fun c hc => h c (Nat.lt_succ_of_lt hc)) (fun c hc => h2 c (Nat.lt_succ_of_lt hc))
    have h3 := h n (Nat.lt_succ_self n)
    have h4 := h2 n (Nat.lt_succ_self n)
    rw [cn_s, cn_s, cn_s, ih, h3]
    cases hx : tb x n with
    | false =>
      cases hy : tb y n with
      | false => rfl
      | true =>
        show cn n x + cn n y + 1 = cn n x + 0 + (cn n y + 1)
        omega
    | true =>
      rw [h4 hx]
      show cn n x + cn n y + 1 = cn n x + 1 + (cn n y + 0)
      omega
theorem cn_zero {n : Nat} {x : Int32} (h : cn n x = 0) : ∀ c, c < n → tb x c = false := by
  intro c hc
  cases q : tb x c with
  | false => rfl
  | true =>
    have := cn_lt (n := n) (x := 0) (y := x) (fun c _ h => by rw [tb_0] at h; cases h) hc (tb_0 c) q
    omega
theorem cn_nil {n : Nat} {x : Int32} (h : ∀ c, c < n → tb x c = false) : cn n x = 0 := by
  induction n with
  | zero => rfl
  | succ n ih => rw [cn_s, ih (fun c hc => h c (Nat.lt_succ_of_lt hc)), h n (Nat.lt_succ_self n)]; rfl
theorem cn_full {n : Nat} {x : Int32} (h : n ≤ cn n x) : ∀ c, c < n → tb x c = true := by
  induction n with
  | zero => intro c hc; exact absurd hc (Nat.not_lt_zero c)
  | succ n ih =>
    have h9 := cn_le n x
    rw [cn_s] at h
    cases q : tb x n with
    | false =>
      rw [q] at h
      have h : n + 1 ≤ cn n x + 0 := h
      omega
    | true =>
      rw [q] at h
      have h : n + 1 ≤ cn n x + 1 := h
      intro c hc
      rcases Nat.lt_succ_iff_lt_or_eq.mp hc with r | r
      · exact ih (by omega) c r
      · rw [r]; exact q
theorem nI_subs {a b : Nat} (ha : a ≤ 10) (hb : b ≤ a) : nI a - nI b = nI (a - b) := by
  have : ∀ a : Nat, a < 11 → ∀ b : Nat, b < 11 → b ≤ a → nI a - nI b = nI (a - b) := by decide +kernel
  exact this a (by omega) b (by omega) hb
theorem nI_z {a : Nat} (ha : a ≤ 10) (h : nI a = 0) : a = 0 := by
  have : ∀ a : Nat, a < 11 → nI a = 0 → a = 0 := by decide +kernel
  exact this a (by omega) h
theorem l0S_at (a lf : Nat → Int32) (m c : Nat) : l0S a lf m c = if c < m then nI (cn 10 (a c)) else lf c := by
  induction m with
  | zero => rfl
  | succ m ih =>
    rw [l0S_s, upd_at]
    by_cases q : c = m
    · subst q; rw [if_pos rfl, if_pos (Nat.lt_succ_self c)]
    · rw [if_neg q, ih]
      by_cases r : c < m
      · rw [if_pos r, if_pos (by omega)]
      · rw [if_neg r, if_neg (by omega)]
theorem rlS_at (a : Nat → Int32) (fl : Int32) (lf : Nat → Int32) (m c : Nat) : rlS a fl lf m c = if c < m then lf c - nI (cn 10 (a c &&& fl)) else lf c := by
  induction m with
  | zero => rfl
  | succ m ih =>
    rw [rlS_s, upd_at]
    by_cases q : c = m
    · subst q
      rw [if_pos rfl, ih, if_neg (Nat.lt_irrefl c), if_pos (Nat.lt_succ_self c)]
    · rw [if_neg q, ih]
      by_cases r : c < m
      · rw [if_pos r, if_pos (by omega)]
      · rw [if_neg r, if_neg (by omega)]
theorem orS_mono {n : Nat} {t : Nat → Int32} {x y : Int32} (h : ∀ c, tb x c = true → tb y c = true) {c : Nat} (hc : tb (orS n t x) c = true) : tb (orS n t y) c = true := by
  obtain ⟨i, hi, h1, h2⟩ := (tb_orS n t x c).mp hc
  exact (tb_orS n t y c).mpr ⟨i, hi, h i h1, h2⟩
theorem tb_dfS {n : Nat} (hn : n ≤ 10) (t a : Nat → Int32) (x : Int32) (c : Nat) : tb (dfS n t a x) c = true ↔ c < n ∧ ∀ j, j < 32 → tb (a c) j = true → tb (orS n t x) j = true := by
  unfold dfS
  rw [tb_dfm (by omega), Bool.and_eq_true, decide_eq_true_eq, decide_eq_true_eq, sub_iff]
theorem dfS_mono {n : Nat} (hn : n ≤ 10) {t a : Nat → Int32} {x y : Int32} (h : ∀ c, tb x c = true → tb y c = true) {c : Nat} (hc : tb (dfS n t a x) c = true) : tb (dfS n t a y) c = true := by
  rw [tb_dfS hn] at hc ⊢
  exact ⟨hc.1, fun j hj ha => orS_mono h (hc.2 j hj ha)⟩
theorem accS_min {n : Nat} (hn : n ≤ 10) {t a : Nat → Int32} {z : Int32} (h : ∀ c, tb (dfS n t a z) c = true → tb z c = true) (r : Nat) : ∀ c, tb (itA n t a r) c = true → tb z c = true := by
  induction r with
  | zero => intro c hc; rw [show itA n t a 0 = 0 from rfl, tb_0] at hc; cases hc
  | succ r ih =>
    intro c hc
    rw [itA_s, tb_or, Bool.or_eq_true] at hc
    rcases hc with hc | hc
    · exact ih c hc
    · exact h c (dfS_mono hn ih hc)
theorem accS_def {n : Nat} (hn : n ≤ 10) {t a : Nat → Int32} (hs : Sym n t a) : ∀ c, tb (dfS n t a (accS n t a)) c = true → tb (accS n t a) c = true := by
  intro c hc
  have e1 : itA n t a (n + 1) = itA n t a n := by
    rw [← itM_itA hn hs, ← itM_itA hn hs]; exact itM_stop hn t
  have e2 : itA n t a (n + 2) = itA n t a n := itA_fix e1 2
  have e3 : itA n t a (n + 2) = accS n t a ||| dfS n t a (accS n t a) := itA_s n t a (n + 1)
  have e4 : accS n t a = itA n t a n := e1
  rw [e2, ← e4] at e3
  have e5 := congrArg (fun z => tb z c) e3
  simp only [tb_or, hc, Bool.or_true] at e5
  exact e5
/-- what stands of the labels: accepted, rejected, the attackers left -/
def lbOk (n : Nat) (t a : Nat → Int32) (s : Int32 × Int32 × (Nat → Int32)) : Prop :=
  (∀ c, tb s.1 c = true → c < n ∧ tb (accS n t a) c = true) ∧ (∀ c, tb s.2.1 c = tb (orS n t s.1) c) ∧ ∀ c, c < n → s.2.2 c = nI (cn 10 (a c &&& (s.2.1 ^^^ (-1))))
theorem lb_zero {n : Nat} {t a : Nat → Int32} (hn : n ≤ 10) (hs : Sym n t a) {s : Int32 × Int32 × (Nat → Int32)} (h : lbOk n t a s) {c : Nat} (hc : c < n) (h0 : s.2.2 c = 0) : tb (dfS n t a s.1) c = true := by
  rw [h.2.2 c hc] at h0
  have h1 := cn_zero (nI_z (cn_le 10 _) h0)
  rw [tb_dfS hn]
  refine ⟨hc, fun j hj ha => ?_⟩
  by_cases q : j < n
  · have h2 := h1 j (by omega)
    rw [tb_and, ha, tb_not _ hj, h.2.1] at h2
    simpa using h2
  · rw [hs.2.2 c j hc (by omega)] at ha; cases ha
theorem lb_first {n : Nat} {t a : Nat → Int32} (hn : n ≤ 10) (hs : Sym n t a) (lf : Nat → Int32) : lbOk n t a (itL n t a lf 0) := by
  refine ⟨fun c h => (by rw [show (itL n t a lf 0).1 = 0 from rfl, tb_0] at h; cases h), fun c => ?_, fun c hc => ?_⟩
  · show tb 0 c = tb (orS n t 0) c
    rw [tb_0]
    cases q : tb (orS n t 0) c with
    | false => rfl
    | true =>
      obtain ⟨i, _, h, _⟩ := (tb_orS n t 0 c).mp q
      rw [tb_0] at h; cases h
  · show l0S a lf n c = nI (cn 10 (a c &&& (0 ^^^ (-1))))
    rw [l0S_at, if_pos hc]
    congr 2
    apply tb_ext
    intro j hj
    rw [tb_and, tb_not _ hj, tb_0]
    simp
theorem lb_step {n : Nat} {t a : Nat → Int32} (hn : n ≤ 10) (hs : Sym n t a) {s : Int32 × Int32 × (Nat → Int32)} (h : lbOk n t a s) : lbOk n t a (stL n t a s) := by
  unfold stL
  split
  · rename_i q
    generalize hz : fsN (pF s.2.2 s.1) n = z at q ⊢
    have hp : pF s.2.2 s.1 z = true := by
      have := fsN_stop (p := pF s.2.2 s.1) (n := n) (by rw [hz]; exact q)
      rw [hz] at this; exact this
    unfold pF at hp
    rw [Bool.and_eq_true, decide_eq_true_eq] at hp
    have hd := lb_zero hn hs h q hp.1
    have hor : ∀ c, c < 32 → tb (s.2.1 ||| (t z &&& (s.2.1 ^^^ (-1)))) c = (tb s.2.1 c || tb (t z) c) := by
      intro c hc
      rw [tb_or, tb_and, tb_not _ hc]
      cases tb s.2.1 c <;> simp
    refine ⟨fun c hc => ?_, fun c => ?_, fun c hc => ?_⟩
    · have hc : tb (s.1 ||| bt z) c = true := hc
      rw [tb_or, Bool.or_eq_true, tb_bt (by omega), decide_eq_true_eq] at hc
      rcases hc with hc | hc
      · exact h.1 c hc
      · subst hc
        exact ⟨q, accS_def hn hs _ (dfS_mono hn (fun j hj => (h.1 j hj).2) hd)⟩
    · show tb (s.2.1 ||| (t z &&& (s.2.1 ^^^ (-1)))) c = tb (orS n t (s.1 ||| bt z)) c
      by_cases hc : c < 32
      · rw [hor c hc, h.2.1]
        have e : tb (orS n t (s.1 ||| bt z)) c = true ↔ (tb (orS n t s.1) c || tb (t z) c) = true := by
          rw [tb_orS, Bool.or_eq_true, tb_orS]
          constructor
          · rintro ⟨i, hi, h1, h2⟩
            rw [tb_or, Bool.or_eq_true, tb_bt (by omega), decide_eq_true_eq] at h1
            rcases h1 with h1 | h1
            · exact Or.inl ⟨i, hi, h1, h2⟩
            · subst h1; exact Or.inr h2
          · rintro (⟨i, hi, h1, h2⟩ | h2)
            · exact ⟨i, hi, by rw [tb_or, h1]; rfl, h2⟩
            · exact ⟨z, q, by rw [tb_or, tb_bt (by omega)]; simp, h2⟩
        exact Bool.eq_iff_iff.mpr e.symm
      · rw [tb_out (by omega), tb_out (by omega)]
    · show rlS a (t z &&& (s.2.1 ^^^ (-1))) s.2.2 n c = nI (cn 10 (a c &&& ((s.2.1 ||| (t z &&& (s.2.1 ^^^ (-1)))) ^^^ (-1))))
      rw [rlS_at, if_pos hc, h.2.2 c hc]
      have e : cn 10 (a c &&& (s.2.1 ^^^ (-1))) = cn 10 (a c &&& ((s.2.1 ||| (t z &&& (s.2.1 ^^^ (-1)))) ^^^ (-1))) + cn 10 (a c &&& (t z &&& (s.2.1 ^^^ (-1)))) := by
        apply cn_split
        · intro j hj
          rw [tb_and, tb_and, tb_and, tb_not _ (by omega), tb_not _ (by omega), hor j (by omega), tb_and, tb_not _ (by omega)]
          cases tb (a c) j <;> cases tb s.2.1 j <;> cases tb (t z) j <;> rfl
        · intro j hj
          rw [tb_and, tb_and, tb_not _ (by omega), hor j (by omega), tb_and, tb_not _ (by omega)]
          cases tb (a c) j <;> cases tb s.2.1 j <;> cases tb (t z) j <;> simp
      rw [nI_subs (cn_le 10 _) (by omega)]
      congr 1
      omega
  · exact h
theorem lb_all {n : Nat} {t a : Nat → Int32} (hn : n ≤ 10) (hs : Sym n t a) (lf : Nat → Int32) (r : Nat) : lbOk n t a (itL n t a lf r) := by
  induction r with
  | zero => exact lb_first hn hs lf
  | succ r ih => rw [itL_s]; exact lb_step hn hs ih
theorem lb_grow {n : Nat} {t a : Nat → Int32} (hn : n ≤ 10) (lf : Nat → Int32) (r : Nat) : ¬ fsN (pF (itL n t a lf r).2.2 (itL n t a lf r).1) n < n ∨ r ≤ cn n (itL n t a lf r).1 := by
  induction r with
  | zero => exact Or.inr (Nat.zero_le _)
  | succ r ih =>
    by_cases q : fsN (pF (itL n t a lf r).2.2 (itL n t a lf r).1) n < n
    · have ih := ih.resolve_left (fun h => h q)
      right
      rw [itL_s]
      unfold stL
      rw [if_pos q]
      generalize hs9 : itL n t a lf r = s at q ih ⊢
      have hp := fsN_stop (p := pF s.2.2 s.1) (n := n) q
      generalize fsN (pF s.2.2 s.1) n = z at q hp ⊢
      unfold pF at hp
      rw [Bool.and_eq_true, Bool.not_eq_true'] at hp
      have h1 : cn n s.1 < cn n (s.1 ||| bt z) := cn_lt (fun c _ h => by rw [tb_or, h]; rfl) q hp.2 (by rw [tb_or, tb_bt (by omega)]; simp)
      show r + 1 ≤ cn n (s.1 ||| bt z)
      omega
    · left
      rw [itL_s]
      unfold stL
      rw [if_neg q]
      exact q
/-- acceptance by labels is acceptance by rounds -/
theorem lb_acc {n : Nat} {t a : Nat → Int32} (hn : n ≤ 10) (hs : Sym n t a) (lf : Nat → Int32) : (itL n t a lf n).1 = accS n t a := by
  have hl := lb_all hn hs lf n
  have hst : ∀ c, c < n → (itL n t a lf n).2.2 c = 0 → tb (itL n t a lf n).1 c = true := by
    rcases lb_grow hn lf n (t := t) (a := a) with q | q
    · intro c hc h0
      have h1 : fsN (pF (itL n t a lf n).2.2 (itL n t a lf n).1) n = n := Nat.le_antisymm (fsN_le _ n) (by omega)
      have h2 := fsN_lt (p := pF (itL n t a lf n).2.2 (itL n t a lf n).1) (n := n) c (by rw [h1]; exact hc)
      unfold pF at h2
      rw [decide_eq_true h0] at h2
      simpa using h2
    · intro c hc _
      exact cn_full q c hc
  generalize itL n t a lf n = s at hl hst ⊢
  apply tb_ext
  intro c _
  have h1 := accS_min hn (z := s.1) (t := t) (a := a) (fun c hc => by
    have hd := (tb_dfS hn t a s.1 c).mp hc
    refine hst c hd.1 ?_
    rw [hl.2.2 c hd.1, cn_nil]
    · rfl
    · intro j hj
      rw [tb_and, tb_not _ (by omega), hl.2.1]
      cases ha : tb (a c) j with
      | false => rfl
      | true => rw [hd.2 j (by omega) ha]; rfl) (n + 1) c
  have h2 := hl.1 c
  cases q : tb s.1 c with
  | true => exact (h2 q).2.symm
  | false =>
    cases r : tb (accS n t a) c with
    | false => rfl
    | true => rw [h1 r] at q; cases q
/-! Positions: by deciding, by trying. -/
def cU (p : Nat → Bool) (m : Nat) : Nat := up (fun i k => if p i then k + 1 else k) 0 m
theorem cU_s (p : Nat → Bool) (m : Nat) : cU p (m + 1) = if p m then cU p m + 1 else cU p m := rfl
theorem cU_dbl (p : Nat → Bool) (m : Nat) : cU p (2 * m) = cU (fun j => p (2 * j)) m + cU (fun j => p (2 * j + 1)) m := by
  induction m with
  | zero => rfl
  | succ m ih =>
    rw [show 2 * (m + 1) = 2 * m + 1 + 1 from rfl, cU_s, cU_s, cU_s, cU_s, ih]
    cases p (2 * m) <;> cases p (2 * m + 1) <;> simp <;> omega
def trN (p : Nat → Bool) : Nat → Nat → Nat → Nat
  | 0, _, x => if p x then 1 else 0
  | d + 1, c, x => trN p d (c + 1) x + trN p d (c + 1) (x + 2 ^ c)
theorem trN_cU (p : Nat → Bool) : ∀ d c x, trN p d c x = cU (fun k => p (x + 2 ^ c * k)) (2 ^ d)
  | 0, c, x => by
    show (if p x then 1 else 0) = if p (x + 2 ^ c * 0) then 0 + 1 else 0
    rw [Nat.mul_zero, Nat.add_zero]
  | d + 1, c, x => by
    show trN p d (c + 1) x + trN p d (c + 1) (x + 2 ^ c) = _
    rw [trN_cU p d, trN_cU p d, Nat.pow_succ 2 d, Nat.mul_comm (2 ^ d) 2, cU_dbl]
    congr 2
    · funext k
      congr 1
      rw [Nat.pow_succ, Nat.mul_assoc]
    · funext k
      congr 1
      rw [Nat.pow_succ, Nat.mul_add, Nat.mul_assoc, Nat.mul_one]
      omega
theorem nI_bt {c x : Nat} (hc : c < 10) (hx : x < 2 ^ c) : nI (x + 2 ^ c) = nI x ||| bt c := by
  apply tb_ext
  intro j hj
  rw [tb_or, tb_bt (by omega)]
  unfold tb
  rw [nI_bv, nI_bv, BitVec.getLsbD_ofNat, BitVec.getLsbD_ofNat, Nat.add_comm, decide_eq_true hj, Bool.true_and, Bool.true_and]
  by_cases q : c = j
  · subst q
    rw [Nat.testBit_two_pow_add_eq, Nat.testBit_lt_two_pow hx]
    simp
  · rw [decide_eq_false q, Bool.or_false]
    rcases Nat.lt_or_gt_of_ne q with r | r
    · rw [Nat.testBit_lt_two_pow (show 2 ^ c + x < 2 ^ j by
        have : 2 ^ (c + 1) ≤ 2 ^ j := Nat.pow_le_pow_right (by decide) r
        rw [Nat.pow_succ] at this
        omega), Nat.testBit_lt_two_pow (Nat.lt_of_lt_of_le hx (Nat.pow_le_pow_right (by decide) (Nat.le_of_lt r)))]
    · exact Nat.testBit_two_pow_add_gt r x
theorem nI_low {c x : Nat} (hx : x < 2 ^ c) {j : Nat} (hj : c ≤ j) : tb (nI x) j = false := by
  unfold tb
  rw [nI_bv, BitVec.getLsbD_ofNat, Nat.testBit_lt_two_pow (Nat.lt_of_lt_of_le hx (Nat.pow_le_pow_right (by decide) hj)), Bool.and_false]
/-- without a conflict -/
def cfF (n : Nat) (t : Nat → Int32) (x : Int32) : Prop := ∀ c, tb x c = true → tb (orS n t x) c = false
theorem cfF_iff (n : Nat) (t : Nat → Int32) (x : Int32) : orS n t x &&& x = 0 ↔ cfF n t x := by
  constructor
  · intro h c hx
    have := congrArg (fun z => tb z c) h
    simp only [tb_and, hx, tb_0, Bool.and_true] at this
    exact this
  · intro h
    apply tb_ext
    intro c _
    rw [tb_and, tb_0]
    cases q : tb x c with
    | false => exact Bool.and_false _
    | true => rw [h c q]; rfl
theorem cfF_sub {n : Nat} {t : Nat → Int32} {x y : Int32} (h : ∀ c, tb x c = true → tb y c = true) (hy : cfF n t y) : cfF n t x := by
  intro c hx
  cases q : tb (orS n t x) c with
  | false => rfl
  | true => exact absurd (hy c (h c hx)) (by rw [orS_mono h q]; decide)
theorem tr_no {n : Nat} (t a : Nat → Int32) : ∀ (d c x : Nat), c + d ≤ 10 → x < 2 ^ c → ¬ cfF n t (nI x) → trN (fun i => hld n t a (nI i)) d c x = 0
  | 0, c, x, _, _, h => by
    show (if hld n t a (nI x) = true then 1 else 0) = 0
    rw [if_neg]
    unfold hld
    rw [decide_eq_false (fun e => h ((cfF_iff n t (nI x)).mp e))]
    exact fun e => by cases e
  | d + 1, c, x, hd, hx, h => by
    have hx1 : x < 2 ^ (c + 1) := by rw [Nat.pow_succ]; omega
    have hx2 : x + 2 ^ c < 2 ^ (c + 1) := by rw [Nat.pow_succ]; omega
    show trN _ d (c + 1) x + trN _ d (c + 1) (x + 2 ^ c) = 0
    rw [tr_no t a d (c + 1) x (by omega) hx1 h, tr_no t a d (c + 1) (x + 2 ^ c) (by omega) hx2 (fun q => h (cfF_sub (fun j hj => by rw [nI_bt (by omega) hx, tb_or, hj]; rfl) q))]
theorem cfF_add {n : Nat} {t a : Nat → Int32} (hn : n ≤ 10) (hs : Sym n t a) {c x : Nat} (hc : c < n) (hx : x < 2 ^ c) (h : cfF n t (nI x)) : (t c ||| a c) &&& (nI x ||| bt c) = 0 ↔ cfF n t (nI x ||| bt c) := by
  have hb : ∀ j, tb (nI x ||| bt c) j = true ↔ tb (nI x) j = true ∨ c = j := by
    intro j
    rw [tb_or, Bool.or_eq_true, tb_bt (by omega), decide_eq_true_eq]
  have hlt : ∀ j, tb (nI x ||| bt c) j = true → j < n := by
    intro j hj
    rcases (hb j).mp hj with q | q
    · rcases Nat.lt_or_ge j c with r | r
      · omega
      · rw [nI_low hx r] at q; cases q
    · omega
  constructor
  · intro e j hj
    cases q : tb (orS n t (nI x ||| bt c)) j with
    | false => rfl
    | true =>
      exfalso
      have e9 : ∀ i, tb (nI x ||| bt c) i = true → tb (t c) i = false ∧ tb (a c) i = false := by
        intro i hi
        have := congrArg (fun z => tb z i) e
        simp only [tb_and, tb_or (t c), hi, tb_0, Bool.and_true, Bool.or_eq_false_iff] at this
        exact this
      obtain ⟨i, hi, h1, h2⟩ := (tb_orS n t (nI x ||| bt c) j).mp q
      rcases (hb i).mp h1 with r | r
      · rcases (hb j).mp hj with r2 | r2
        · have := h j r2
          rw [(tb_orS n t (nI x) j).mpr ⟨i, hi, r, h2⟩] at this
          cases this
        · subst r2
          have := (e9 i h1).2
          rw [← hs.1 i c hi hc, h2] at this
          cases this
      · subst r
        rw [(e9 j hj).1] at h2; cases h2
  · intro hcf
    apply tb_ext
    intro j _
    rw [tb_and, tb_0]
    cases q : tb (nI x ||| bt c) j with
    | false => exact Bool.and_false _
    | true =>
      rw [Bool.and_true, tb_or, Bool.or_eq_false_iff]
      have hcc : tb (nI x ||| bt c) c = true := (hb c).mpr (Or.inr rfl)
      constructor
      · cases r : tb (t c) j with
        | false => rfl
        | true =>
          have := hcf j q
          rw [(tb_orS n t _ j).mpr ⟨c, hc, hcc, r⟩] at this
          cases this
      · cases r : tb (a c) j with
        | false => rfl
        | true =>
          have := hcf c hcc
          rw [(tb_orS n t _ c).mpr ⟨j, hlt j q, q, by rw [hs.1 j c (hlt j q) hc]; exact r⟩] at this
          cases this
theorem dcS_tr {n : Nat} {t a : Nat → Int32} (hn : n ≤ 10) (hs : Sym n t a) : ∀ (d c x : Nat), c ≤ n → n ≤ c + d → x < 2 ^ c → cfF n t (nI x) → dcS n t a d c (nI x) = trN (fun i => hld n t a (nI i)) (n - c) c x := by
  have leaf : ∀ (d x : Nat), cfF n t (nI x) → dcS n t a d n (nI x) = trN (fun i => hld n t a (nI i)) 0 n x := by
    intro d x hcf
    rw [dcS_hi (Nat.le_refl n)]
    show dcB n t a (nI x) = if hld n t a (nI x) = true then 1 else 0
    unfold dcB hld
    rw [decide_eq_true ((cfF_iff n t (nI x)).mpr hcf), Bool.true_and]
    by_cases q : orS n a (nI x) &&& (orS n t (nI x) ^^^ (-1)) = 0
    · rw [if_pos q, if_pos (decide_eq_true q)]
    · rw [if_neg q, if_neg (by rw [decide_eq_false q]; exact fun e => by cases e)]
  intro d
  induction d with
  | zero =>
    intro c x h1 h2 hx hcf
    have : c = n := by omega
    subst this
    rw [Nat.sub_self]
    exact leaf 0 x hcf
  | succ d ih =>
    intro c x h1 h2 hx hcf
    by_cases q : c = n
    · subst q
      rw [Nat.sub_self]
      exact leaf (d + 1) x hcf
    · have hc : c < n := by omega
      have hx1 : x < 2 ^ (c + 1) := by rw [Nat.pow_succ]; omega
      have hx2 : x + 2 ^ c < 2 ^ (c + 1) := by rw [Nat.pow_succ]; omega
      rw [dcS_lo (by omega), show n - c = (n - (c + 1)) + 1 by omega]
      show _ = trN _ (n - (c + 1)) (c + 1) x + trN _ (n - (c + 1)) (c + 1) (x + 2 ^ c)
      rw [ih (c + 1) x (by omega) (by omega) hx1 hcf]
      congr 1
      by_cases r : (t c ||| a c) &&& (nI x ||| bt c) = 0
      · rw [if_pos r, ← nI_bt (by omega) hx]
        refine ih (c + 1) (x + 2 ^ c) (by omega) (by omega) hx2 ?_
        rw [nI_bt (by omega) hx]
        exact (cfF_add hn hs hc hx hcf).mp r
      · rw [if_neg r]
        refine (tr_no t a _ _ _ (by omega) hx2 ?_).symm
        rw [nI_bt (by omega) hx]
        exact fun h => r ((cfF_add hn hs hc hx hcf).mpr h)
theorem dcS_cntP {n : Nat} {t a : Nat → Int32} (hn : n ≤ 10) (hs : Sym n t a) : cntP n t a (pw n) = dcS n t a 10 0 0 := by
  have h := dcS_tr hn hs 10 0 0 (Nat.zero_le n) (by omega) (by decide) (fun c hc => by
    rw [show nI 0 = 0 from rfl, tb_0] at hc; cases hc)
  rw [show nI 0 = (0 : Int32) from rfl] at h
  rw [h, trN_cU, Nat.sub_zero]
  show cU (fun i => hld n t a (nI i)) (2 ^ n) = cU (fun k => hld n t a (nI (0 + 2 ^ 0 * k))) (2 ^ n)
  congr 1
  funext k
  rw [Nat.pow_zero, Nat.one_mul, Nat.zero_add]
theorem cntM_cntP {n : Nat} {t a : Nat → Int32} (hn : n ≤ 10) (hs : Sym n t a) (m : Nat) : cntM n t m = cntP n t a m := by
  induction m with
  | zero => rfl
  | succ m ih => rw [cntM_s, cntP_s, ih, hldM_hld hn hs]
theorem andc (x y z : Int32) : x &&& y &&& z = x &&& (y &&& z) := by
  apply tb_ext
  intro c _
  rw [tb_and, tb_and, tb_and, tb_and, Bool.and_assoc]
theorem skM_btr {n : Nat} {w t a : Nat → Int32} (hn : n ≤ 10) (hs : Sym n t a) (hw : wtOk n w) (x y : Int32) : skM n w t x y = !(hld n t a x && btr n w x y) := by
  obtain ⟨p, hp, ep⟩ := adS_nat hw x
  obtain ⟨q, hq, eq⟩ := adS_nat hw y
  unfold skM btr
  rw [hldM_hld hn hs, ep, eq, andc]
  have hlt : nI p - nI q < 0 ↔ p < q := by
    rw [Int32.lt_iff_toInt_lt, pk_sub_toInt (by omega) (by omega)]
    show (p : Int) - q < 0 ↔ _
    omega
  have heq : nI p - nI q = 0 ↔ p = q := by
    constructor
    · intro e
      have := congrArg Int32.toInt e
      rw [pk_sub_toInt (by omega) (by omega)] at this
      have : (p : Int) - q = 0 := this
      omega
    · intro e; subst e; exact Int32.sub_self _
  have hee : nI p = nI q ↔ p = q := nI_eq (by omega) (by omega)
  have hll : nI q < nI p ↔ q < p := nI_ltI (by omega) (by omega)
  simp only [hlt, heq, hee, hll]
  rcases Nat.lt_trichotomy p q with r | r | r
  · rw [decide_eq_true r, if_neg (by omega), decide_eq_false (show ¬ q < p by omega)]
    simp
  · rw [if_pos r, decide_eq_false (show ¬ p < q by omega), decide_eq_true r]
    by_cases z : x &&& ((x ^^^ y) &&& -(x ^^^ y)) = 0
    · simp [z]
    · simp [z]
  · rw [decide_eq_false (show ¬ p < q by omega), decide_eq_false (show ¬ p = q by omega), if_neg (by omega), decide_eq_true r]
    simp
theorem hvM_hvS {n : Nat} {w t a : Nat → Int32} (hn : n ≤ 10) (hs : Sym n t a) (hw : wtOk n w) (m : Nat) : hvM n w t m = hvS n w t a m := by
  induction m with
  | zero => rfl
  | succ m ih =>
    rw [hvM_s, hvS_s, ih, skM_btr hn hs hw]
    cases hld n t a (nI (m + 1)) && btr n w (nI (m + 1)) (hvS n w t a m) <;> rfl

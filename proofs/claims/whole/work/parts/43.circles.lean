/-! The two sides say the same: undecided claims, sets asked for, circles. -/
theorem tb_pw {n : Nat} (hn : n ≤ 10) {j : Nat} (hj : j < 32) : tb (nI (pw n - 1)) j = decide (j < n) := by
  have : ∀ n : Nat, n < 11 → ∀ j : Nat, j < 32 → tb (nI (pw n - 1)) j = decide (j < n) := by decide +kernel
  exact this n (by omega) j hj
theorem cn_pw {n : Nat} (hn : n ≤ 10) : cn 10 (nI (pw n - 1)) = n := by
  have : ∀ n : Nat, n < 11 → cn 10 (nI (pw n - 1)) = n := by decide +kernel
  exact this n (by omega)
theorem acc_bits {n : Nat} {t a : Nat → Int32} (hn : n ≤ 10) (hs : Sym n t a) {c : Nat} (h : tb (accS n t a) c = true) : c < n := by
  rw [← accM_accS hn hs] at h
  exact itM_bits hn t (n + 1) h
theorem orS_bits {n : Nat} {t a : Nat → Int32} (hs : Sym n t a) {x : Int32} {c : Nat} (h : tb (orS n t x) c = true) : c < n := by
  obtain ⟨i, hi, _, h2⟩ := (tb_orS n t x c).mp h
  rcases Nat.lt_or_ge c n with q | q
  · exact q
  · rw [hs.2.1 i c hi q] at h2; cases h2
theorem und_eq {n : Nat} {t a : Nat → Int32} (hn : n ≤ 10) (hs : Sym n t a) : nI n - nI (cn 10 (accM n t ||| orS n t (accM n t))) = nI (cn 10 (nI (pw n - 1) &&& ((accS n t a ||| orS n t (accS n t a)) ^^^ (-1)))) := by
  rw [accM_accS hn hs]
  have hb : ∀ c, tb (accS n t a ||| orS n t (accS n t a)) c = true → c < n := by
    intro c hc
    rw [tb_or, Bool.or_eq_true] at hc
    exact hc.elim (acc_bits hn hs) (orS_bits hs)
  generalize accS n t a ||| orS n t (accS n t a) = z at hb ⊢
  have e : cn 10 (nI (pw n - 1)) = cn 10 z + cn 10 (nI (pw n - 1) &&& (z ^^^ (-1))) := by
    apply cn_split
    · intro c hc
      rw [tb_and, tb_not _ (by omega), tb_pw hn (by omega)]
      cases q : tb z c with
      | false => simp
      | true => rw [decide_eq_true (hb c q)]; rfl
    · intro c hc q
      rw [tb_and, tb_not _ (by omega), q, Bool.not_true, Bool.and_false]
  rw [cn_pw hn] at e
  have h9 := cn_le 10 z
  rw [nI_subs hn (by omega)]
  congr 1
  omega
theorem inPM_iff {n : Nat} (hn : n ≤ 10) (x : Int32) : inPM n x = true ↔ ¬ (x < 0 ∨ nI (pw n - 1) < x) := by
  have hp := pw_le hn
  have h1 := pw_pos n
  unfold inPM
  by_cases q : x < 0
  · rw [if_pos q]
    exact ⟨fun h => (by cases h), fun h => absurd (Or.inl q) h⟩
  · rw [if_neg q, decide_eq_true_eq]
    obtain ⟨j, hj, rfl⟩ := nI_of q
    have hs : ((nI n &&& 31).toBitVec.smod 32).toNat = n := by
      have : ∀ c : Nat, c < 32 → ((nI c &&& 31).toBitVec.smod 32).toNat = c := by decide +kernel
      exact this n (by omega)
    rw [pk_shrN hj _ n hs, ← nI_0, nI_eq (Nat.lt_of_le_of_lt (Nat.div_le_self _ _) hj) (by decide), nI_ltI (by omega) hj]
    have hd : j / 2 ^ n = 0 ↔ j < 2 ^ n := by
      rw [Nat.div_eq_zero_iff]
      constructor
      · rintro (h | h)
        · exact absurd h (Nat.ne_of_gt (Nat.two_pow_pos n))
        · exact h
      · exact Or.inr
    rw [hd]
    have hpd : pw n = 2 ^ n := rfl
    rw [← hpd]
    constructor
    · rintro h (r | r)
      · exact q r
      · omega
    · intro h
      rcases Nat.lt_or_ge j (pw n) with r | r
      · exact r
      · exact absurd (Or.inr (by omega)) h
/-- c is reached from i along t -/
def RcN (n : Nat) (t : Nat → Int32) (i : Nat) : Nat → Nat → Prop
  | 0, j => i = j
  | m + 1, k => ∃ j, RcN n t i m j ∧ j < n ∧ tb (t j) k = true
def Rc (n : Nat) (t : Nat → Int32) (i j : Nat) : Prop := ∃ m, RcN n t i m j
theorem Rc.rf {n : Nat} {t : Nat → Int32} {i : Nat} : Rc n t i i := ⟨0, rfl⟩
theorem Rc.st {n : Nat} {t : Nat → Int32} {i j k : Nat} (h : Rc n t i j) (h2 : j < n) (h3 : tb (t j) k = true) : Rc n t i k := by
  obtain ⟨m, hm⟩ := h
  exact ⟨m + 1, j, hm, h2, h3⟩
theorem Rc.ind {n : Nat} {t : Nat → Int32} {i j : Nat} {P : Nat → Prop} (h : Rc n t i j) (h0 : P i) (h1 : ∀ j k, Rc n t i j → j < n → tb (t j) k = true → P j → P k) : P j := by
  obtain ⟨m, hm⟩ := h
  have all : ∀ m j, RcN n t i m j → P j := by
    intro m
    induction m with
    | zero =>
      intro j hj
      have hj : i = j := hj
      rw [← hj]; exact h0
    | succ m ih =>
      intro k hk
      obtain ⟨j, a, b, c⟩ := hk
      exact h1 j k ⟨m, a⟩ b c (ih j a)
  exact all m j hm
theorem Rc.tr {n : Nat} {t : Nat → Int32} {i j k : Nat} (h : Rc n t i j) (h2 : Rc n t j k) : Rc n t i k :=
  h2.ind h (fun _ _ _ h3 h4 ih => Rc.st ih h3 h4)
theorem Rc.one {n : Nat} {t : Nat → Int32} {i k : Nat} (h : i < n) (h2 : tb (t i) k = true) : Rc n t i k := Rc.st Rc.rf h h2
theorem Rc.lt {n : Nat} {t a : Nat → Int32} (hs : Sym n t a) {i j : Nat} (h : Rc n t i j) (hi : i < n) : j < n := by
  refine h.ind (P := fun j => j < n) hi (fun j k _ h3 h4 _ => ?_)
  rcases Nat.lt_or_ge k n with q | q
  · exact q
  · rw [hs.2.1 j k h3 q] at h4; cases h4
theorem Rc.back {n : Nat} {t a : Nat → Int32} (hs : Sym n t a) {i j : Nat} (h : Rc n t i j) (hi : i < n) : Rc n a j i := by
  refine h.ind (P := fun j => Rc n a j i) Rc.rf (fun j k h2 h3 h4 ih => ?_)
  have hk : k < n := (Rc.st h2 h3 h4).lt hs hi
  exact (Rc.one hk (by rw [← hs.1 j k h3 hk]; exact h4)).tr ih
theorem Sym.sw {n : Nat} {t a : Nat → Int32} (h : Sym n t a) : Sym n a t := ⟨fun i j hi hj => (h.1 j i hj hi).symm, h.2.2, h.2.1⟩
theorem Rc.sw {n : Nat} {t a : Nat → Int32} (hs : Sym n t a) {i j : Nat} (hi : i < n) (hj : j < n) : Rc n a i j ↔ Rc n t j i := ⟨fun h => h.back hs.sw hi, fun h => h.back hs hj⟩
theorem orS_0 (n : Nat) (t : Nat → Int32) : orS n t 0 = 0 := by
  apply tb_ext
  intro c _
  rw [tb_0]
  cases q : tb (orS n t 0) c with
  | false => rfl
  | true =>
    obtain ⟨i, _, h, _⟩ := (tb_orS n t 0 c).mp q
    rw [tb_0] at h; cases h
theorem i32_some {x : Int32} (h : ¬ x = 0) : ∃ c, c < 32 ∧ tb x c = true := by
  apply Classical.byContradiction
  intro q
  apply h
  apply tb_ext
  intro c hc
  rw [tb_0]
  cases r : tb x c with
  | false => rfl
  | true => exact absurd ⟨c, hc, r⟩ q
/-- the search finds what is reached -/
theorem sr_in {n : Nat} {t a : Nat → Int32} (hn : n ≤ 10) (hs : Sym n t a) {c : Nat} (hc : c < n) (m : Nat) :
    (∀ j, tb (srS n t c m).1 j = true → Rc n t c j) ∧ (∀ j, tb (srS n t c m).2 j = true → tb (srS n t c m).1 j = true) ∧ tb (srS n t c m).1 c = true
    ∧ (∀ i j, tb (srS n t c m).1 i = true → tb (srS n t c m).2 i = false → i < n → tb (t i) j = true → tb (srS n t c m).1 j = true) ∧ ((srS n t c m).2 = 0 ∨ m + 1 ≤ cn n (srS n t c m).1) := by
  induction m with
  | zero =>
    have hb : ∀ j, tb (bt c) j = true → c = j := fun j h => by rw [tb_bt (by omega), decide_eq_true_eq] at h; exact h
    have hcc : tb (bt c) c = true := by rw [tb_bt (by omega)]; simp
    refine ⟨fun j h => ?_, fun j h => h, hcc, fun i j h1 h2 => ?_, Or.inr ?_⟩
    · rw [← hb j h]; exact Rc.rf
    · have h1 : tb (bt c) i = true := h1
      have h2 : tb (bt c) i = false := h2
      rw [h1] at h2; cases h2
    · have h9 := cn_lt (n := n) (x := 0) (y := bt c) (fun c _ h => by rw [tb_0] at h; cases h) hc (tb_0 c) hcc
      show 0 + 1 ≤ cn n (bt c)
      omega
  | succ m ih =>
    obtain ⟨h1, h2, h3, h4, h5⟩ := ih
    rw [srS_1, srS_2]
    generalize (srS n t c m).1 = x at h1 h2 h3 h4 h5 ⊢
    generalize (srS n t c m).2 = y at h1 h2 h3 h4 h5 ⊢
    have hl : ∀ j, j < 32 → tb (orS n t y &&& (x ^^^ (-1))) j = (tb (orS n t y) j && !tb x j) := fun j hj => by rw [tb_and, tb_not _ hj]
    have ho : ∀ j, tb (orS n t y) j = true → Rc n t c j := by
      intro j hj
      obtain ⟨i, hi, h6, h7⟩ := (tb_orS n t y j).mp hj
      exact Rc.st (h1 i (h2 i h6)) hi h7
    refine ⟨fun j h => ?_, fun j h => ?_, ?_, fun i j h6 h7 h8 h9 => ?_, ?_⟩
    · rw [tb_or, Bool.or_eq_true, tb_and, Bool.and_eq_true] at h
      rcases h with h | h
      · exact h1 j h
      · exact ho j h.1
    · rw [tb_or, h, Bool.or_true]
    · rw [tb_or, h3]; rfl
    · have hj : j < 32 := by
        rcases Nat.lt_or_ge j 32 with r | r
        · exact r
        · rw [tb_out r] at h9; cases h9
      have hx : tb x i = true := by
        rw [tb_or, Bool.or_eq_true] at h6
        rcases h6 with h6 | h6
        · exact h6
        · rw [h6] at h7; cases h7
      rw [tb_or, hl j hj]
      cases q : tb y i with
      | false => rw [h4 i j hx q h8 h9]; rfl
      | true =>
        rw [(tb_orS n t y j).mpr ⟨i, h8, q, h9⟩]
        cases tb x j <;> rfl
    · by_cases q : orS n t y &&& (x ^^^ (-1)) = 0
      · exact Or.inl q
      · right
        have hy : ¬ y = 0 := by
          intro e
          apply q
          rw [e, orS_0]
          apply tb_ext
          intro j _
          rw [tb_and, tb_0]; rfl
        have h5 := h5.resolve_left hy
        obtain ⟨j, hj, h6⟩ := i32_some q
        have h7 := h6
        rw [hl j hj, Bool.and_eq_true, Bool.not_eq_true'] at h7
        have h8 : cn n x < cn n (x ||| (orS n t y &&& (x ^^^ (-1)))) := cn_lt (fun c _ h => by rw [tb_or, h]; rfl) ((ho j h7.1).lt hs hc) h7.2 (by rw [tb_or, h6, Bool.or_true])
        omega
theorem sr_iff {n : Nat} {t a : Nat → Int32} (hn : n ≤ 10) (hs : Sym n t a) {c : Nat} (hc : c < n) (j : Nat) : tb (srS n t c n).1 j = true ↔ Rc n t c j := by
  obtain ⟨h1, h2, h3, h4, h5⟩ := sr_in hn hs hc n
  have h6 : (srS n t c n).2 = 0 := by
    rcases h5 with h | h
    · exact h
    · have := cn_le n (srS n t c n).1
      omega
  exact ⟨h1 j, fun h => h.ind (P := fun j => tb (srS n t c n).1 j = true) h3 (fun _ _ _ h7 h8 ih => h4 _ _ ih (by rw [h6, tb_0]) h7 h8)⟩
/-- each reaches the other -/
def Mu (n : Nat) (t : Nat → Int32) (i j : Nat) : Prop := Rc n t i j ∧ Rc n t j i
theorem ar_iff {n : Nat} {t a : Nat → Int32} (hn : n ≤ 10) (hs : Sym n t a) {c : Nat} (hc : c < n) (j : Nat) : tb (arS n t a c) j = true ↔ j < n ∧ Mu n t c j := by
  unfold arS
  rw [tb_and, Bool.and_eq_true, sr_iff hn hs hc, sr_iff hn hs.sw hc]
  constructor
  · rintro ⟨h1, h2⟩
    have hj := h1.lt hs hc
    exact ⟨hj, h1, (Rc.sw hs hc hj).mp h2⟩
  · rintro ⟨hj, h1, h2⟩
    exact ⟨h1, (Rc.sw hs hc hj).mpr h2⟩
theorem r1S_at (t rd : Nat → Int32) (m c : Nat) : r1S t rd m c = if c < m then t c ||| bt c else rd c := by
  induction m with
  | zero => rfl
  | succ m ih =>
    rw [r1S_s, upd_at]
    by_cases q : c = m
    · subst q; rw [if_pos rfl, if_pos (Nat.lt_succ_self c)]
    · rw [if_neg q, ih]
      by_cases r : c < m
      · rw [if_pos r, if_pos (by omega)]
      · rw [if_neg r, if_neg (by omega)]
theorem wS_at (m : Nat) (f : Nat → Int32) (c i j : Nat) : tb (wS m f c i) j = if i < c then tb (f i) j || (tb (f i) m && tb (f m) j) else tb (f i) j := by
  have all : ∀ c i j, tb (wS m f c i) j = if i < c then tb (f i) j || (tb (f i) m && tb (f m) j) else tb (f i) j := by
    intro c
    induction c with
    | zero => intro i j; rfl
    | succ c ih =>
      intro i j
      have hc : ∀ j, tb (wS m f c c) j = tb (f c) j := fun j => by rw [ih c j, if_neg (Nat.lt_irrefl c)]
      have hm : ∀ j, tb (wS m f c m) j = tb (f m) j := by
        intro j
        rw [ih m j]
        split
        · cases tb (f m) j <;> simp
        · rfl
      rw [wS_s]
      by_cases q : i = c
      · subst q
        rw [if_pos (Nat.lt_succ_self i)]
        by_cases r : tb (wS m f i i) m = true
        · rw [if_pos r, upd_at, if_pos rfl, tb_or, hc, hm]
          rw [hc] at r
          rw [r]; rfl
        · rw [if_neg r, hc]
          rw [hc, Bool.not_eq_true] at r
          rw [r, Bool.false_and, Bool.or_false]
      · have e : (i < c + 1) ↔ i < c := by omega
        by_cases r : tb (wS m f c c) m = true
        · rw [if_pos r, upd_at, if_neg q, ih i j]
          simp only [e]
        · rw [if_neg r, ih i j]
          simp only [e]
  exact all c i j
theorem wSM_wS (m : Nat) (f : Nat → Int32) (c : Nat) : wSM m f c = wS m f c := by
  induction c with
  | zero => rfl
  | succ c ih =>
    rw [wSM_s, wS_s, ih]
    by_cases q : tb (wS m f c c) m = true
    · rw [if_pos q, if_pos q]
    · rw [if_neg q, if_neg q]; exact upd_same
theorem wAM_wA (n : Nat) (f : Nat → Int32) (m : Nat) : wAM n f m = wA n f m := by
  induction m with
  | zero => rfl
  | succ m ih => rw [wAM_s, wA_s, ih, wSM_wS]
theorem rchM_rchS (n : Nat) (t rd : Nat → Int32) : rchM n t rd = rchS n t rd := wAM_wA n _ n
theorem wA_all {n : Nat} {t : Nat → Int32} (hn : n ≤ 10) (rd : Nat → Int32) (m : Nat) (hm : m ≤ n) :
    (∀ i j, i < n → tb (wA n (r1S t rd n) m i) j = true → Rc n t i j) ∧ (∀ i j, i < n → (tb (t i) j = true ∨ i = j) → tb (wA n (r1S t rd n) m i) j = true)
    ∧ ∀ i k j, i < n → k < m → tb (wA n (r1S t rd n) m i) k = true → tb (wA n (r1S t rd n) m k) j = true → tb (wA n (r1S t rd n) m i) j = true := by
  induction m with
  | zero =>
    have e : ∀ i j, i < n → tb (wA n (r1S t rd n) 0 i) j = (tb (t i) j || decide (i = j)) := by
      intro i j hi
      show tb (r1S t rd n i) j = _
      rw [r1S_at, if_pos hi, tb_or, tb_bt (by omega)]
    refine ⟨fun i j hi h => ?_, fun i j hi h => ?_, fun i k j _ hk => absurd hk (Nat.not_lt_zero k)⟩
    · rw [e i j hi, Bool.or_eq_true, decide_eq_true_eq] at h
      rcases h with h | h
      · exact Rc.one hi h
      · subst h; exact Rc.rf
    · rw [e i j hi, Bool.or_eq_true, decide_eq_true_eq]
      exact h
  | succ m ih =>
    obtain ⟨h1, h2, h3⟩ := ih (by omega)
    rw [wA_s]
    generalize wA n (r1S t rd n) m = f at h1 h2 h3 ⊢
    have e : ∀ i j, i < n → tb (wS m f n i) j = (tb (f i) j || (tb (f i) m && tb (f m) j)) := fun i j hi => by rw [wS_at, if_pos hi]
    have em : ∀ j, tb (wS m f n m) j = tb (f m) j := fun j => by
      rw [e m j (by omega)]
      cases tb (f m) j <;> simp
    refine ⟨fun i j hi h => ?_, fun i j hi h => ?_, fun i k j hi hk ha hb => ?_⟩
    · rw [e i j hi, Bool.or_eq_true, Bool.and_eq_true] at h
      rcases h with h | h
      · exact h1 i j hi h
      · exact (h1 i m hi h.1).tr (h1 m j (by omega) h.2)
    · rw [e i j hi, h2 i j hi h]; rfl
    · have hkn : k < n := by omega
      rw [e i k hi, Bool.or_eq_true, Bool.and_eq_true] at ha
      rw [e i j hi, Bool.or_eq_true, Bool.and_eq_true]
      rcases Nat.lt_succ_iff_lt_or_eq.mp hk with q | q
      · rw [e k j hkn, Bool.or_eq_true, Bool.and_eq_true] at hb
        rcases ha with ha | ha
        · rcases hb with hb | hb
          · exact Or.inl (h3 i k j hi q ha hb)
          · exact Or.inr ⟨h3 i k m hi q ha hb.1, hb.2⟩
        · rcases hb with hb | hb
          · exact Or.inr ⟨ha.1, h3 m k j (by omega) q ha.2 hb⟩
          · exact Or.inr ⟨ha.1, hb.2⟩
      · subst q
        rw [em] at hb
        rcases ha with ha | ha
        · exact Or.inr ⟨ha, hb⟩
        · exact Or.inr ⟨ha.1, hb⟩
theorem rch_iff {n : Nat} {t a : Nat → Int32} (hn : n ≤ 10) (hs : Sym n t a) (rd : Nat → Int32) {i : Nat} (hi : i < n) (j : Nat) : tb (rchS n t rd i) j = true ↔ Rc n t i j := by
  obtain ⟨h1, h2, h3⟩ := wA_all (t := t) hn rd n (Nat.le_refl n)
  exact ⟨h1 i j hi, fun h => h.ind (P := fun j => tb (rchS n t rd i) j = true) (h2 i i hi (Or.inr rfl)) (fun _ _ _ h7 h8 ih => h3 i _ _ hi h7 ih (h2 _ _ h7 (Or.inl h8)))⟩
theorem tb_crM {n : Nat} (f : Nat → Int32) (i : Nat) : ∀ (m : Nat), m ≤ 32 → ∀ j, tb (crM f i m) j = (decide (j < m) && (tb (f i) j && tb (f j) i))
  | 0, _, j => by rw [show crM f i 0 = 0 from rfl, tb_0]; simp
  | m + 1, hm, j => by
    rw [crM_s, tb_or, tb_crM (n := n) f i m (by omega) j]
    by_cases q : j = m
    · subst q
      rw [decide_eq_false (Nat.lt_irrefl j), decide_eq_true (Nat.lt_succ_self j), Bool.false_and, Bool.false_or, Bool.true_and]
      cases r : tb (f i) j && tb (f j) i with
      | true => rw [if_pos rfl, tb_bt (by omega)]; simp
      | false => rw [if_neg (by simp), tb_0]
    · have e : (j < m + 1) ↔ j < m := by omega
      have e2 : tb (if tb (f i) m && tb (f m) i then bt m else 0) j = false := by
        split
        · rw [tb_bt (by omega), decide_eq_false (Ne.symm q)]
        · exact tb_0 j
      rw [e2, Bool.or_false]
      simp only [e]
theorem cr_iff {n : Nat} {t a : Nat → Int32} (hn : n ≤ 10) (hs : Sym n t a) (rd : Nat → Int32) {i : Nat} (hi : i < n) (j : Nat) : tb (crM (rchS n t rd) i n) j = true ↔ j < n ∧ Mu n t i j := by
  rw [tb_crM (n := n) _ i n (by omega) j, Bool.and_eq_true, decide_eq_true_eq, Bool.and_eq_true]
  constructor
  · rintro ⟨h, h1, h2⟩
    exact ⟨h, (rch_iff hn hs rd hi j).mp h1, (rch_iff hn hs rd h i).mp h2⟩
  · rintro ⟨h, h1, h2⟩
    exact ⟨h, (rch_iff hn hs rd hi j).mpr h1, (rch_iff hn hs rd h i).mpr h2⟩
/-- the circle of a claim, by reach and by searches -/
theorem cr_ar {n : Nat} {t a : Nat → Int32} (hn : n ≤ 10) (hs : Sym n t a) (rd : Nat → Int32) {i : Nat} (hi : i < n) : crM (rchM n t rd) i n = arS n t a i := by
  rw [rchM_rchS]
  apply tb_ext
  intro j _
  exact Bool.eq_iff_iff.mpr ((cr_iff hn hs rd hi j).trans (ar_iff hn hs hi j).symm)
theorem ar_low {n : Nat} {t a : Nat → Int32} (hn : n ≤ 10) (hs : Sym n t a) {i : Nat} (hi : i < n) : lowB (arS n t a i) := by
  intro j hj
  cases q : tb (arS n t a i) j with
  | false => rfl
  | true => have := ((ar_iff hn hs hi j).mp q).1; omega
theorem pL_iff {n : Nat} {t a : Nat → Int32} (hn : n ≤ 10) (hs : Sym n t a) (rd : Nat → Int32) {m : Nat} (hm : m < n) : allb (pL (rchS n t rd) m) m = true ↔ ∀ c, c < m → ¬ Mu n t c m := by
  rw [allb_iff]
  have e : ∀ c, c < m → (pL (rchS n t rd) m c = true ↔ ¬ Mu n t c m) := by
    intro c hc
    unfold pL
    rw [Bool.not_eq_true', ← Bool.not_eq_true, Bool.and_eq_true, rch_iff hn hs rd hm c, rch_iff hn hs rd (show c < n by omega) m]
    exact not_congr ⟨fun h => ⟨h.2, h.1⟩, fun h => ⟨h.2, h.1⟩⟩
  exact ⟨fun h c hc => (e c hc).mp (h c hc), fun h c hc => (e c hc).mpr (h c hc)⟩
theorem cntC_cntL {n : Nat} {t a : Nat → Int32} (hn : n ≤ 10) (hs : Sym n t a) (rd : Nat → Int32) (m : Nat) (hm : m ≤ n) : cntC n (rchS n t rd) m = cntL (rchS n t rd) m := by
  induction m with
  | zero => rfl
  | succ m ih =>
    rw [cntC_s, cntL_s, ih (by omega)]
    have hbt : ∀ j, j < 32 → tb (bt m - 1) j = decide (j < m) := by
      have : ∀ m : Nat, m < 10 → ∀ j : Nat, j < 32 → tb (bt m - 1) j = decide (j < m) := by decide +kernel
      exact this m (by omega)
    have e : crM (rchS n t rd) m n &&& (bt m - 1) = 0 ↔ allb (pL (rchS n t rd) m) m = true := by
      rw [pL_iff hn hs rd (by omega)]
      constructor
      · intro h c hc hmu
        have := congrArg (fun z => tb z c) h
        simp only [tb_and, tb_0] at this
        rw [hbt c (by omega), decide_eq_true hc, (cr_iff hn hs rd (show m < n by omega) c).mpr ⟨by omega, hmu.2, hmu.1⟩] at this
        cases this
      · intro h
        apply tb_ext
        intro c hc
        rw [tb_and, tb_0, hbt c hc]
        by_cases q : c < m
        · cases r : tb (crM (rchS n t rd) m n) c with
          | false => rfl
          | true =>
            have := ((cr_iff hn hs rd (show m < n by omega) c).mp r).2
            exact absurd ⟨this.2, this.1⟩ (h c q)
        · rw [decide_eq_false q, Bool.and_false]
    by_cases q : allb (pL (rchS n t rd) m) m = true
    · rw [if_pos q, if_pos (e.mpr q)]
    · rw [if_neg q, if_neg (fun h => q (e.mp h))]
theorem cirS_cntL {n : Nat} {t a : Nat → Int32} (hn : n ≤ 10) (hs : Sym n t a) (rd : Nat → Int32) (m : Nat) (hm : m ≤ n) :
    (cirS n t a m).1 = cntL (rchS n t rd) m ∧ ∀ j, tb (cirS n t a m).2 j = true ↔ j < n ∧ ∃ c, c < m ∧ Mu n t c j := by
  induction m with
  | zero =>
    refine ⟨rfl, fun j => ⟨fun h => ?_, fun ⟨_, c, hc, _⟩ => absurd hc (Nat.not_lt_zero c)⟩⟩
    rw [show (cirS n t a 0).2 = 0 from rfl, tb_0] at h; cases h
  | succ m ih =>
    obtain ⟨h1, h2⟩ := ih (by omega)
    rw [cirS_s, cntL_s]
    have e : tb (cirS n t a m).2 m = true ↔ ¬ allb (pL (rchS n t rd) m) m = true := by
      rw [h2, pL_iff hn hs rd (by omega)]
      constructor
      · rintro ⟨_, c, hc, hmu⟩ h
        exact h c hc hmu
      · intro h
        refine ⟨by omega, Classical.byContradiction fun q => h fun c hc hmu => q ⟨c, hc, hmu⟩⟩
    by_cases q : tb (cirS n t a m).2 m = true
    · rw [if_pos q, if_neg (e.mp q)]
      refine ⟨h1, fun j => (h2 j).trans ⟨fun ⟨hj, c, hc, hmu⟩ => ⟨hj, c, by omega, hmu⟩, fun ⟨hj, c, hc, hmu⟩ => ⟨hj, ?_⟩⟩⟩
      rcases Nat.lt_succ_iff_lt_or_eq.mp hc with r | r
      · exact ⟨c, r, hmu⟩
      · subst r
        obtain ⟨_, d, hd, hmd⟩ := (h2 c).mp q
        exact ⟨d, hd, hmd.1.tr hmu.1, hmu.2.tr hmd.2⟩
    · have q2 : allb (pL (rchS n t rd) m) m = true := Classical.byContradiction fun h => q (e.mpr h)
      rw [if_neg q, if_pos q2]
      refine ⟨by show (cirS n t a m).1 + 1 = _; rw [h1], fun j => ?_⟩
      show tb ((cirS n t a m).2 ||| arS n t a m) j = true ↔ _
      rw [tb_or, Bool.or_eq_true, h2, ar_iff hn hs (by omega)]
      constructor
      · rintro (⟨hj, c, hc, hmu⟩ | ⟨hj, hmu⟩)
        · exact ⟨hj, c, by omega, hmu⟩
        · exact ⟨hj, m, Nat.lt_succ_self m, hmu⟩
      · rintro ⟨hj, c, hc, hmu⟩
        rcases Nat.lt_succ_iff_lt_or_eq.mp hc with r | r
        · exact Or.inl ⟨hj, c, r, hmu⟩
        · subst r; exact Or.inr ⟨hj, hmu⟩
theorem cir_eq {n : Nat} {t a : Nat → Int32} (hn : n ≤ 10) (hs : Sym n t a) (rd : Nat → Int32) : (cirS n t a n).1 = cntL (rchS n t rd) n := (cirS_cntL hn hs rd n (Nat.le_refl n)).1
theorem cirM_eq {n : Nat} {t a : Nat → Int32} (hn : n ≤ 10) (hs : Sym n t a) (rc rd : Nat → Int32) : cntC n (rchM n t rc) n = cntL (rchS n t rd) n := by
  rw [rchM_rchS, cntC_cntL hn hs rc n (Nat.le_refl n), ← cir_eq hn hs rc, cir_eq hn hs rd]

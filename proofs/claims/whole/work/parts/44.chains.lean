/-! The two sides say the same: chains. -/
def sm (f : Nat → Nat) (n : Nat) : Nat := up (fun c s => s + f c) 0 n
theorem sm_s (f : Nat → Nat) (n : Nat) : sm f (n + 1) = sm f n + f n := rfl
theorem sm_cong {f g : Nat → Nat} {n : Nat} (h : ∀ c, c < n → f c = g c) : sm f n = sm g n := by
  induction n with
  | zero => rfl
  | succ n ih => rw [sm_s, sm_s, ih (fun c hc => h c (Nat.lt_succ_of_lt hc)), h n (Nat.lt_succ_self n)]
theorem sm_zero {f : Nat → Nat} {n : Nat} (h : ∀ c, c < n → f c = 0) : sm f n = 0 := by
  induction n with
  | zero => rfl
  | succ n ih => rw [sm_s, ih (fun c hc => h c (Nat.lt_succ_of_lt hc)), h n (Nat.lt_succ_self n)]
theorem sm_one {f : Nat → Nat} {n j : Nat} (hj : j < n) (h : ∀ c, c < n → ¬ c = j → f c = 0) : sm f n = f j := by
  induction n with
  | zero => exact absurd hj (Nat.not_lt_zero j)
  | succ n ih =>
    rw [sm_s]
    rcases Nat.lt_succ_iff_lt_or_eq.mp hj with q | q
    · rw [ih q (fun c hc => h c (Nat.lt_succ_of_lt hc)), h n (Nat.lt_succ_self n) (by omega), Nat.add_zero]
    · subst q
      rw [sm_zero (fun c hc => h c (Nat.lt_succ_of_lt hc) (by omega)), Nat.zero_add]
theorem sm_add (f g : Nat → Nat) (n : Nat) : sm (fun c => f c + g c) n = sm f n + sm g n := by
  induction n with
  | zero => rfl
  | succ n ih => rw [sm_s, sm_s, sm_s, ih]; omega
theorem sm_mulr (f : Nat → Nat) (k n : Nat) : sm f n * k = sm (fun c => f c * k) n := by
  induction n with
  | zero => exact Nat.zero_mul k
  | succ n ih => rw [sm_s, sm_s, Nat.add_mul, ih]
theorem sm_mull (f : Nat → Nat) (k n : Nat) : k * sm f n = sm (fun c => k * f c) n := by
  induction n with
  | zero => exact Nat.mul_zero k
  | succ n ih => rw [sm_s, sm_s, Nat.mul_add, ih]
theorem sm_swap (f : Nat → Nat → Nat) (m n : Nat) : sm (fun i => sm (fun j => f i j) n) m = sm (fun j => sm (fun i => f i j) m) n := by
  induction m with
  | zero => exact (sm_zero (fun _ _ => rfl)).symm
  | succ m ih => rw [sm_s, ih, ← sm_add]; rfl
theorem sm_le {f : Nat → Nat} {k n : Nat} (h : ∀ c, c < n → f c ≤ k) : sm f n ≤ n * k := by
  induction n with
  | zero => exact Nat.zero_le _
  | succ n ih =>
    rw [sm_s, Nat.add_mul, Nat.one_mul]
    exact Nat.add_le_add (ih (fun c hc => h c (Nat.lt_succ_of_lt hc))) (h n (Nat.lt_succ_self n))
theorem sm_mod {f g : Nat → Nat} {P n : Nat} (h : ∀ c, c < n → f c % P = g c % P) : sm f n % P = sm g n % P := by
  induction n with
  | zero => rfl
  | succ n ih => rw [sm_s, sm_s, Nat.add_mod, ih (fun c hc => h c (Nat.lt_succ_of_lt hc)), h n (Nat.lt_succ_self n), ← Nat.add_mod]
def aM (t : Nat → Int32) (i j : Nat) : Nat := if tb (t i) j then 1 else 0
/-- how many walks of k steps lead from i to j -/
def Wk (n : Nat) (t : Nat → Int32) : Nat → Nat → Nat → Nat
  | 0, i, j => if i = j then 1 else 0
  | k + 1, i, j => sm (fun m => Wk n t k i m * aM t m j) n
theorem Wk_s (n : Nat) (t : Nat → Int32) (k i j : Nat) : Wk n t (k + 1) i j = sm (fun m => Wk n t k i m * aM t m j) n := rfl
theorem Wk_1 {n : Nat} (t : Nat → Int32) {i : Nat} (hi : i < n) (j : Nat) : Wk n t 1 i j = aM t i j := by
  rw [Wk_s, sm_one hi]
  · show (if i = i then 1 else 0) * aM t i j = _
    rw [if_pos rfl, Nat.one_mul]
  · intro c _ hc
    show (if i = c then 1 else 0) * aM t c j = 0
    rw [if_neg (Ne.symm hc), Nat.zero_mul]
theorem Wk_add {n : Nat} (t : Nat → Int32) (a : Nat) : ∀ (b i j : Nat), j < n → Wk n t (a + b) i j = sm (fun m => Wk n t a i m * Wk n t b m j) n
  | 0, i, j, hj => by
    rw [sm_one hj]
    · show Wk n t a i j = Wk n t a i j * (if j = j then 1 else 0)
      rw [if_pos rfl, Nat.mul_one]
    · intro c _ hc
      show Wk n t a i c * (if c = j then 1 else 0) = 0
      rw [if_neg hc, Nat.mul_zero]
  | b + 1, i, j, hj => by
    rw [show a + (b + 1) = (a + b) + 1 from rfl, Wk_s]
    have e1 : sm (fun m => Wk n t (a + b) i m * aM t m j) n = sm (fun m => sm (fun l => Wk n t a i l * Wk n t b l m * aM t m j) n) n := sm_cong (fun m hm => by rw [Wk_add t a b i m hm, sm_mulr])
    have e2 : sm (fun l => Wk n t a i l * Wk n t (b + 1) l j) n = sm (fun l => sm (fun m => Wk n t a i l * Wk n t b l m * aM t m j) n) n := sm_cong (fun l _ => by rw [Wk_s, sm_mull]; exact sm_cong (fun m _ => (Nat.mul_assoc _ _ _).symm))
    rw [e1, e2, sm_swap]
theorem rm_lN {k : Nat} (h : k < 2 ^ 63) : rmS (lN k) = lN (k % 1000003) := pk_lRem (b := 1000003) h (by decide) (by decide)
theorem mulS_lN {F : Nat → Int64} {M : Nat → Nat → Int64} {f : Nat → Nat} {g : Nat → Nat → Nat} {o m : Nat} (h : ∀ c, c < m → F c = lN (f c) ∧ M c o = lN (g c o)) : mulS F M o m = lN (sm (fun c => f c * g c o) m) := by
  induction m with
  | zero => rfl
  | succ m ih => rw [mulS_s, sm_s, ih (fun c hc => h c (Nat.lt_succ_of_lt hc)), (h m (Nat.lt_succ_self m)).1, (h m (Nat.lt_succ_self m)).2, lN_mul, lN_add]
theorem md_le (k : Nat) : k % 1000003 ≤ 1000002 := Nat.le_of_lt_succ (Nat.mod_lt k (by decide))
theorem md_pr (a b : Nat) : a % 1000003 * (b % 1000003) % 1000003 = a * b % 1000003 := (Nat.mul_mod a b 1000003).symm
theorem md_pr1 (a b : Nat) : a % 1000003 * b % 1000003 = a * b % 1000003 := by rw [Nat.mul_mod, Nat.mod_mod, ← Nat.mul_mod]
theorem mulR_at (F : Nat → Int64) (M : Nat → Nat → Int64) (n : Nat) (O : Nat → Int64) (m c : Nat) : mulR F M n O m c = if c < m then rmS (mulS F M c n) else O c := by
  induction m with
  | zero => rfl
  | succ m ih =>
    rw [mulR_s]
    by_cases q : c = m
    · subst q; rw [pk_uLs, if_pos (Nat.lt_succ_self c)]
    · rw [pk_uLn q, ih]
      by_cases r : c < m
      · rw [if_pos r, if_pos (by omega)]
      · rw [if_neg r, if_neg (by omega)]
/-- a row, a grid of counts -/
def rwOk (n : Nat) (t : Nat → Int32) (x k : Nat) (F : Nat → Int64) : Prop := ∀ c, c < n → F c = lN (Wk n t k x c % 1000003)
def grOk (n : Nat) (t : Nat → Int32) (k : Nat) (M : Nat → Nat → Int64) : Prop := ∀ i, i < n → rwOk n t i k (M i)
theorem mul_ok {n : Nat} (hn : n ≤ 10) {t : Nat → Int32} {x a b : Nat} {F O : Nat → Int64} {M : Nat → Nat → Int64} (hF : rwOk n t x a F) (hM : grOk n t b M) : rwOk n t x (a + b) (mulR F M n O n) := by
  intro c hc
  rw [mulR_at, if_pos hc, mulS_lN (f := fun m => Wk n t a x m % 1000003) (g := fun m o => Wk n t b m o % 1000003) (fun m hm => ⟨hF m hm, hM m hm c hc⟩)]
  have hb : sm (fun m => Wk n t a x m % 1000003 * (Wk n t b m c % 1000003)) n ≤ n * (1000002 * 1000002) := sm_le (fun m _ => Nat.mul_le_mul (md_le _) (md_le _))
  have hb2 : n * (1000002 * 1000002) ≤ 10 * (1000002 * 1000002) := Nat.mul_le_mul_right _ hn
  rw [rm_lN (Nat.lt_of_le_of_lt (Nat.le_trans hb hb2) (by decide)), sm_mod (g := fun m => Wk n t a x m * Wk n t b m c) (fun m _ => md_pr _ _), Wk_add t a b x c hc]
theorem sqR_at (n : Nat) (M S : Nat → Nat → Int64) (m i : Nat) : ∃ O, sqR n M S m i = if i < m then mulR (M i) M n O n else S i := by
  induction m with
  | zero => exact ⟨fun _ => 0, rfl⟩
  | succ m ih =>
    rw [sqR_s]
    by_cases q : i = m
    · subst q
      exact ⟨_, by rw [upR_at, if_pos (Nat.lt_succ_self i)]⟩
    · obtain ⟨O, hO⟩ := ih
      refine ⟨O, ?_⟩
      unfold upR
      rw [if_neg q, hO]
      by_cases r : i < m
      · rw [if_pos r, if_pos (by omega)]
      · rw [if_neg r, if_neg (by omega)]
theorem sq_ok {n : Nat} (hn : n ≤ 10) {t : Nat → Int32} {k : Nat} {M S : Nat → Nat → Int64} (hM : grOk n t k M) : grOk n t (k + k) (sqR n M S n) := by
  intro i hi
  obtain ⟨O, hO⟩ := sqR_at n M S n i
  rw [hO, if_pos hi]
  exact mul_ok hn (hM i hi) hM
theorem fmI_at (x : Int32) (M : Nat → Nat → Int64) (c m i j : Nat) : fmI x M c m i j = if i = c ∧ j < m then (if tb x j = true then 1 else 0) else M i j := by
  induction m with
  | zero => rw [if_neg (fun h => absurd h.2 (Nat.not_lt_zero j))]; rfl
  | succ m ih =>
    rw [fmI_s]
    unfold upR
    by_cases q : i = c
    · rw [if_pos q]
      subst q
      by_cases r : j = m
      · subst r; rw [pk_uLs, if_pos (show i = i ∧ j < j + 1 from ⟨rfl, Nat.lt_succ_self j⟩)]
      · rw [pk_uLn r, ih]
        by_cases z : j < m
        · rw [if_pos ⟨rfl, z⟩, if_pos (show i = i ∧ j < m + 1 from ⟨rfl, by omega⟩)]
        · rw [if_neg (fun h => z h.2), if_neg (fun h => by omega)]
    · rw [if_neg q, ih, if_neg (fun h => q h.1), if_neg (fun h => q h.1)]
theorem fmO_at (n : Nat) (t : Nat → Int32) (M : Nat → Nat → Int64) (m i j : Nat) (hj : j < n) : fmO n t M m i j = if i < m then (if tb (t i) j = true then 1 else 0) else M i j := by
  induction m with
  | zero => rfl
  | succ m ih =>
    rw [fmO_s, fmI_at]
    by_cases q : i = m
    · subst q; rw [if_pos ⟨rfl, hj⟩, if_pos (show i < i + 1 from Nat.lt_succ_self i)]
    · rw [if_neg (fun h => q h.1), ih]
      by_cases r : i < m
      · rw [if_pos r, if_pos (show i < m + 1 by omega)]
      · rw [if_neg r, if_neg (by omega)]
theorem one_lN (b : Bool) : (if b = true then (1 : Int64) else 0) = lN ((if b = true then 1 else 0) % 1000003) := by
  cases b <;> rfl
theorem fm_ok {n : Nat} {t : Nat → Int32} {M : Nat → Nat → Int64} : grOk n t 1 (fmO n t M n) := by
  intro i hi j hj
  rw [fmO_at n t M n i j hj, if_pos hi, Wk_1 t hi, one_lN]
  rfl
theorem srW_at (j : Int32) (F : Nat → Int64) (m c : Nat) : srW j F m c = if c < m then (if nI c = j then 1 else 0) else F c := by
  induction m with
  | zero => rfl
  | succ m ih =>
    rw [srW_s]
    by_cases q : c = m
    · subst q; rw [pk_uLs, if_pos (show c < c + 1 from Nat.lt_succ_self c)]
    · rw [pk_uLn q, ih]
      by_cases r : c < m
      · rw [if_pos r, if_pos (show c < m + 1 by omega)]
      · rw [if_neg r, if_neg (by omega)]
theorem sr_ok {n : Nat} (hn : n ≤ 10) {t : Nat → Int32} {x : Nat} (hx : x < n) {F : Nat → Int64} : rwOk n t x 0 (srW (nI x) F n) := by
  intro c hc
  rw [srW_at, if_pos hc]
  show _ = lN ((if x = c then 1 else 0) % 1000003)
  by_cases q : x = c
  · subst q; rw [if_pos rfl, if_pos rfl]; rfl
  · rw [if_neg (fun e => q ((nI_eq (by omega) (by omega)).mp e).symm), if_neg q]; rfl
/-- by squaring -/
theorem bs_ok {n : Nat} (hn : n ≤ 10) (t : Nat → Int32) {x r : Nat} (hx : x < n) (T : CT) (m : Nat) (hm : m ≤ 10) :
    grOk n t (2 ^ m) (bsT n (nI r) (bs0 n t (nI x) T) m).2.2.2.2.2.2.1 ∧ rwOk n t x (r % 2 ^ m) (bsT n (nI r) (bs0 n t (nI x) T) m).2.2.2.2.2.2.2.2.1 := by
  induction m with
  | zero =>
    refine ⟨fm_ok, ?_⟩
    rw [Nat.pow_zero, Nat.mod_one]
    exact sr_ok hn hx
  | succ m ih =>
    obtain ⟨h1, h2⟩ := ih (by omega)
    rw [bsT_s]
    generalize bsT n (nI r) (bs0 n t (nI x) T) m = X at h1 h2 ⊢
    have hb : tb (nI r) m = r.testBit m := by
      unfold tb
      rw [nI_bv, BitVec.getLsbD_ofNat, decide_eq_true (show m < 32 by omega), Bool.true_and]
    rw [hb]
    have e2 : 2 ^ (m + 1) = 2 ^ m + 2 ^ m := by rw [Nat.pow_succ]; omega
    have e3 : r % 2 ^ (m + 1) = r % 2 ^ m + 2 ^ m * (r / 2 ^ m % 2) := Nat.mod_pow_succ
    have e4 := Nat.testBit_eq_decide_div_mod_eq (x := r) (i := m)
    cases q : r.testBit m with
    | true =>
      rw [if_pos rfl]
      rw [q] at e4
      rw [of_decide_eq_true e4.symm, Nat.mul_one] at e3
      refine ⟨?_, ?_⟩
      · rw [e2]; exact sq_ok hn h1
      · rw [e3]; exact mul_ok hn h2 h1
    | false =>
      rw [if_neg (by decide)]
      rw [q] at e4
      have e5 : ¬ r / 2 ^ m % 2 = 1 := of_decide_eq_false e4.symm
      rw [show r / 2 ^ m % 2 = 0 by omega, Nat.mul_zero, Nat.add_zero] at e3
      refine ⟨?_, ?_⟩
      · rw [e2]; exact sq_ok hn h1
      · rw [e3]; exact h2
theorem bs_eq {n : Nat} (hn : n ≤ 10) (t : Nat → Int32) {x y r : Nat} (hx : x < n) (hy : y < n) (hr : r ≤ 999) (T : CT) : (bsT n (nI r) (bs0 n t (nI x) T) 10).2.2.2.2.2.2.2.2.1 y = lN (Wk n t r x y % 1000003) := by
  have := (bs_ok hn t (r := r) hx T 10 (Nat.le_refl _)).2 y hy
  rw [Nat.mod_eq_of_lt (show r < 2 ^ 10 by omega)] at this
  exact this
/-- by steps, the class's way -/
theorem smL_lN {t : Nat → Int32} {x : Int32} {F : Nat → Int64} {f : Nat → Nat} {y : Nat} (m : Nat) (h : ∀ c, c < m → F c = lN (f c)) (h2 : ∀ c, c < m → tb x c = tb (t c) y) : smL x F m = lN (sm (fun c => f c * aM t c y) m) := by
  induction m with
  | zero => rfl
  | succ m ih =>
    rw [smL_s, sm_s, ih (fun c hc => h c (Nat.lt_succ_of_lt hc)) (fun c hc => h2 c (Nat.lt_succ_of_lt hc)), h m (Nat.lt_succ_self m), h2 m (Nat.lt_succ_self m)]
    unfold aM
    cases tb (t m) y with
    | true => rw [if_pos rfl, if_pos rfl, Nat.mul_one, lN_add]
    | false => rw [if_neg (by decide), if_neg (by decide), Nat.mul_zero, Nat.add_zero]
theorem st_sum {n : Nat} (hn : n ≤ 10) {t : Nat → Int32} {x k c : Nat} : rmS (lN (sm (fun m => Wk n t k x m % 1000003 * aM t m c) n)) = lN (Wk n t (k + 1) x c % 1000003) := by
  have ha : ∀ m, aM t m c ≤ 1 := fun m => by unfold aM; split <;> omega
  have hb : sm (fun m => Wk n t k x m % 1000003 * aM t m c) n ≤ n * (1000002 * 1) := sm_le (fun m _ => Nat.mul_le_mul (md_le _) (ha m))
  have hb2 : n * (1000002 * 1) ≤ 10 * (1000002 * 1) := Nat.mul_le_mul_right _ hn
  rw [rm_lN (Nat.lt_of_le_of_lt (Nat.le_trans hb hb2) (by decide)), sm_mod (g := fun m => Wk n t k x m * aM t m c) (fun m _ => md_pr1 _ _), Wk_s]
theorem nsR_at (n : Nat) (a : Nat → Int32) (F O : Nat → Int64) (m c : Nat) : nsR n a F O m c = if c < m then rmS (smL (a c) F n) else O c := by
  induction m with
  | zero => rfl
  | succ m ih =>
    rw [nsR_s]
    by_cases q : c = m
    · subst q; rw [pk_uLs, if_pos (Nat.lt_succ_self c)]
    · rw [pk_uLn q, ih]
      by_cases r : c < m
      · rw [if_pos r, if_pos (by omega)]
      · rw [if_neg r, if_neg (by omega)]
theorem itN_ok {n : Nat} (hn : n ≤ 10) {t a : Nat → Int32} (hs : Sym n t a) {x : Nat} (hx : x < n) (T : CT) (m : Nat) : rwOk n t x m (itN n a (by0 n (nI x) T) m).2.2.2.2.2.2.2.2.1 := by
  induction m with
  | zero => exact sr_ok hn hx
  | succ m ih =>
    rw [itN_s]
    generalize itN n a (by0 n (nI x) T) m = X at ih ⊢
    intro c hc
    show nsR n a X.2.2.2.2.2.2.2.2.1 X.2.2.2.2.2.2.2.2.2 n c = _
    rw [nsR_at, if_pos hc, smL_lN (t := t) (y := c) (f := fun m' => Wk n t m x m' % 1000003) n ih (fun d hd => (hs.1 d c hd hc).symm)]
    exact st_sum hn
/-- the model's way -/
theorem wyI_at (t : Nat → Int32) (wy : Nat → Int64) (to : Nat) (mo : Nat → Int64) (m c : Nat) : wyI t wy to mo m c = if c = to then up (fun c s => s + (if tb (t c) to then wy c else 0)) 0 m else mo c := by
  induction m with
  | zero =>
    show vp_updL mo to 0 c = _
    by_cases q : c = to
    · subst q; rw [pk_uLs, if_pos rfl]; rfl
    · rw [pk_uLn q, if_neg q]
  | succ m ih =>
    rw [wyI_s]
    by_cases q : c = to
    · subst q
      rw [pk_uLs, if_pos rfl, ih, if_pos rfl]; rfl
    · rw [pk_uLn q, ih, if_neg q, if_neg q]
theorem wyO_at (n : Nat) (t : Nat → Int32) (wy mo : Nat → Int64) (m c : Nat) : wyO n t wy mo m c = if c < m then up (fun d s => s + (if tb (t d) c then wy d else 0)) 0 n else mo c := by
  induction m with
  | zero => rfl
  | succ m ih =>
    rw [wyO_s, wyI_at]
    by_cases q : c = m
    · subst q; rw [if_pos rfl, if_pos (Nat.lt_succ_self c)]
    · rw [if_neg q, ih]
      by_cases r : c < m
      · rw [if_pos r, if_pos (by omega)]
      · rw [if_neg r, if_neg (by omega)]
theorem wyR_at (wy mo : Nat → Int64) (m c : Nat) : wyR wy mo m c = if c < m then rmS (mo c) else wy c := by
  induction m with
  | zero => rfl
  | succ m ih =>
    rw [wyR_s]
    by_cases q : c = m
    · subst q; rw [pk_uLs, if_pos (Nat.lt_succ_self c)]; rfl
    · rw [pk_uLn q, ih]
      by_cases r : c < m
      · rw [if_pos r, if_pos (by omega)]
      · rw [if_neg r, if_neg (by omega)]
theorem wy0_at (j : Nat) (wy : Nat → Int64) (m c : Nat) : wy0 j wy m c = if c < m then (if c = j then 1 else 0) else wy c := by
  induction m with
  | zero => rfl
  | succ m ih =>
    rw [wy0_s]
    by_cases q : c = m
    · subst q; rw [pk_uLs, if_pos (show c < c + 1 from Nat.lt_succ_self c)]
    · rw [pk_uLn q, ih]
      by_cases r : c < m
      · rw [if_pos r, if_pos (show c < m + 1 by omega)]
      · rw [if_neg r, if_neg (by omega)]
theorem upL_lN {t : Nat → Int32} {F : Nat → Int64} {f : Nat → Nat} {y : Nat} (m : Nat) (h : ∀ c, c < m → F c = lN (f c)) : up (fun d s => s + (if tb (t d) y then F d else 0)) (0 : Int64) m = lN (sm (fun c => f c * aM t c y) m) := by
  induction m with
  | zero => rfl
  | succ m ih =>
    rw [up_s, sm_s, ih (fun c hc => h c (Nat.lt_succ_of_lt hc)), h m (Nat.lt_succ_self m)]
    unfold aM
    cases tb (t m) y with
    | true => rw [if_pos rfl, if_pos rfl, Nat.mul_one, lN_add]
    | false => rw [if_neg (by decide), if_neg (by decide), Nat.mul_zero, Nat.add_zero, Int64.add_zero]
theorem itW_ok {n : Nat} (hn : n ≤ 10) (t : Nat → Int32) {x : Nat} (wy mo : Nat → Int64) (m : Nat) : rwOk n t x m (itW n t x wy mo m).1 := by
  induction m with
  | zero =>
    intro c hc
    show wy0 x wy 10 c = lN ((if x = c then 1 else 0) % 1000003)
    rw [wy0_at, if_pos (by omega)]
    by_cases q : x = c
    · subst q; rw [if_pos rfl, if_pos rfl]; rfl
    · rw [if_neg (Ne.symm q), if_neg q]; rfl
  | succ m ih =>
    rw [itW_s]
    generalize itW n t x wy mo m = X at ih ⊢
    intro c hc
    show wyR X.1 (wyO n t X.1 X.2 n) n c = _
    rw [wyR_at, if_pos hc, wyO_at, if_pos hc, upL_lN (f := fun m' => Wk n t m x m' % 1000003) n ih]
    exact st_sum hn
theorem chB_eq {n : Nat} (hn : n ≤ 10) (t : Nat → Int32) {x y r : Nat} (hx : x < n) (hy : y < n) (hr : r ≤ 999) (T : CT) (wy mo : Nat → Int64) : (itW n t x wy mo r).1 y = (bsT n (nI r) (bs0 n t (nI x) T) 10).2.2.2.2.2.2.2.2.1 y := by
  rw [bs_eq hn t hx hy hr T]
  exact itW_ok hn t wy mo r y hy
theorem chN_eq {n : Nat} (hn : n ≤ 10) {t a : Nat → Int32} (hs : Sym n t a) {x y r : Nat} (hx : x < n) (hy : y < n) (T : CT) (wy mo : Nat → Int64) : (itW n t x wy mo r).1 y = (itN n a (by0 n (nI x) T) r).2.2.2.2.2.2.2.2.1 y := by
  rw [itN_ok hn hs hx T r y hy]
  exact itW_ok hn t wy mo r y hy
/-- the class's own comparison of its two ways -/
theorem hce_ok {n : Nat} (hn : n ≤ 10) {t a : Nat → Int32} (hs : Sym n t a) (h1 : 1 ≤ n) (le : Int32) (T : CT) (hl : rg 0 le 999 = true) : ((bsT n le (bs0 n t 0 T) 10).2.2.2.2.2.2.2.2.1 (nI (n - 1)).toNatClampNeg).toInt32 = ((acT n t a le T).2.2.2.2.2.2.2.2.1 (nI (n - 1)).toNatClampNeg).toInt32 := by
  obtain ⟨r, hr, rfl⟩ := rg_of (m := 999) (by decide) hl
  unfold acT
  rw [nI_clamp (show n - 1 < 2 ^ 31 by omega), nI_clamp (show r < 2 ^ 31 by omega)]
  have e1 := chB_eq hn t (x := 0) (y := n - 1) (r := r) (by omega) (by omega) hr T (fun _ => 0) (fun _ => 0)
  have e2 := chN_eq hn hs (x := 0) (y := n - 1) (r := r) (by omega) (by omega) (bsT n (nI r) (bs0 n t 0 T) 10) (fun _ => 0) (fun _ => 0)
  rw [show nI 0 = (0 : Int32) from rfl] at e1 e2
  rw [← e1, e2]
theorem fsN_cg {p q : Nat → Bool} {n : Nat} (h : ∀ c, c < n → p c = q c) : fsN p n = fsN q n := by
  induction n with
  | zero => rfl
  | succ n ih =>
    show (if fsN p n < n then fsN p n else if p n then n else n + 1) = (if fsN q n < n then fsN q n else if q n then n else n + 1)
    rw [ih (fun c hc => h c (Nat.lt_succ_of_lt hc)), h n (Nat.lt_succ_self n)]

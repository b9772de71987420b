/-! The class's consistency; the carrying out of a command. -/
theorem inC_0 {n : Nat} (h : 1 ≤ n) (hn : n ≤ 10) : inC n 0 = true := by
  have : ∀ n : Nat, n ≤ 10 → 1 ≤ n → inC n 0 = true := by decide +kernel
  exact this n hn h
theorem inC_l {n : Nat} (h : 1 ≤ n) (hn : n ≤ 10) : inC n (nI (n - 1)) = true := by
  have : ∀ n : Nat, n ≤ 10 → 1 ≤ n → inC n (nI (n - 1)) = true := by decide +kernel
  exact this n hn h
/-- the rows to count chains behind a comparison -/
def acT (n : Nat) (t a : Nat → Int32) (le : Int32) (T : CT) : CT := itN n a (by0 n 0 (bsT n le (bs0 n t 0 T) 10)) le.toNatClampNeg
/-- what changes can change: claims (6), racks (2), log (4), limit, shifts, scrams, the row to work in -/
abbrev SC := Nat × (Nat → Int32) × (Nat → Int32) × (Nat → Int32) × (Nat → Int32) × (Nat → UInt32) × (Nat → Int32) × (Nat → Int32) × (Nat → Int32) × (Nat → Int32) × Nat × Nat × Int32 × Int32 × Int32 × (Nat → UInt32)
def advT (n : Nat) (a ly kd : Nat → Int32) (lim : Int32) (s : CS) (x : Int32) : CS := if x < 1 then s else if x ≤ 20 then itS n a ly kd lim s x.toNatClampNeg else s
def advR (n : Nat) (a ly kd : Nat → Int32) (lim : Int32) (s : CS) (x : Int32) : Int32 := if x < 1 then -2 else if x ≤ 20 then (itS n a ly kd lim s x.toNatClampNeg).2.2.2.2.2.2.2.1 - s.2.2.2.2.2.2.2.1 else -2
def chC (x : Int32) : Int32 := (x.toUInt32 % 65536).toInt32
/-- a command carried out: its answer, the state -/
def coS (i : Nat) (x y z : Int32) : SC → Int32 × SC
  | (n, w, ly, t, a, fx, kd, rk, lsh, lk, lc, lx, lim, sh, sc, fr) => match i with
    | 0 => ((opEnter n w x).1, (opEnter n w x).2.1, (opEnter n w x).2.2, ly, t, a, fx, kd, rk, lsh, lk, lc, lx, lim, sh, sc, fr)
    | 1 => ((opDirect n t a x y true).1, n, w, ly, (opDirect n t a x y true).2.1, (opDirect n t a x y true).2.2, fx, kd, rk, lsh, lk, lc, lx, lim, sh, sc, fr)
    | 2 => ((opDirect n t a x y false).1, n, w, ly, (opDirect n t a x y false).2.1, (opDirect n t a x y false).2.2, fx, kd, rk, lsh, lk, lc, lx, lim, sh, sc, fr)
    | 3 => ((opMove n ly x y).1, n, w, (opMove n ly x y).2, t, a, fx, kd, rk, lsh, lk, lc, lx, lim, sh, sc, fr)
    | 4 => ((opRenew kd rk x (chC y)).1, n, w, ly, t, a, fx, (opRenew kd rk x (chC y)).2, rk, lsh, lk, lc, lx, lim, sh, sc, fr)
    | 5 => ((opPut kd rk x y (chC z)).1, n, w, ly, t, a, fx, kd, (opPut kd rk x y (chC z)).2, (if (opPut kd rk x y (chC z)).1 < 0 then lsh else upd lsh lx sh), (if (opPut kd rk x y (chC z)).1 < 0 then lk else upd lk lx 105), (if (opPut kd rk x y (chC z)).1 < 0 then lc else min (lc + 1) 16), (if (opPut kd rk x y (chC z)).1 < 0 then lx else (lx + 1) % 16), lim, sh, sc, fr)
    | 6 => ((opTake rk x y).1, n, w, ly, t, a, fx, kd, (opTake rk x y).2, (if (opTake rk x y).1 < 0 then lsh else upd lsh lx sh), (if (opTake rk x y).1 < 0 then lk else upd lk lx 119), (if (opTake rk x y).1 < 0 then lc else min (lc + 1) 16), (if (opTake rk x y).1 < 0 then lx else (lx + 1) % 16), lim, sh, sc, fr)
    | 7 => ((opHeat n fx x y).1, n, w, ly, t, a, (opHeat n fx x y).2, kd, rk, (if hOk n x y = false then lsh else upd lsh lx sh), (if hOk n x y = false then lk else upd lk lx 101), (if hOk n x y = false then lc else min (lc + 1) 16), (if hOk n x y = false then lx else (lx + 1) % 16), lim, sh, sc, fr)
    | 8 => ((if 1 ≤ x ∧ x ≤ 9999 then lim else -2), n, w, ly, t, a, fx, kd, rk, lsh, lk, lc, lx, (if 1 ≤ x ∧ x ≤ 9999 then x else lim), sh, sc, fr)
    | _ => (advR n a ly kd lim (fx, rk, lsh, lk, lc, lx, sh, sc, fr) x, n, w, ly, t, a, (advT n a ly kd lim (fx, rk, lsh, lk, lc, lx, sh, sc, fr) x).1, kd, (advT n a ly kd lim (fx, rk, lsh, lk, lc, lx, sh, sc, fr) x).2.1, (advT n a ly kd lim (fx, rk, lsh, lk, lc, lx, sh, sc, fr) x).2.2.1, (advT n a ly kd lim (fx, rk, lsh, lk, lc, lx, sh, sc, fr) x).2.2.2.1, (advT n a ly kd lim (fx, rk, lsh, lk, lc, lx, sh, sc, fr) x).2.2.2.2.1, (advT n a ly kd lim (fx, rk, lsh, lk, lc, lx, sh, sc, fr) x).2.2.2.2.2.1, lim, (advT n a ly kd lim (fx, rk, lsh, lk, lc, lx, sh, sc, fr) x).2.2.2.2.2.2.1, (advT n a ly kd lim (fx, rk, lsh, lk, lc, lx, sh, sc, fr) x).2.2.2.2.2.2.2.1, (advT n a ly kd lim (fx, rk, lsh, lk, lc, lx, sh, sc, fr) x).2.2.2.2.2.2.2.2)

/-! The class's run of a command text. -/
def YPc (ks kv kf : Nat → Nat) (ka kw : Nat) (D : va_G) (k : Nat → ClassId) (av : List Value) (ws : va_W) (sz : Nat) : Array Value → State → Prop := va_Pc av (fun U => U.heap.size = sz ∧ va_P D vwCl ws U.heap ∧ va_K D vwCl (tyL k) U ∧ NW U ∧ va_D (fun _ => True) ws ∧ XN U ∧ XZ (va_A ws sz) U U.heap ∧ KC ks kv kf ka kw (va_A ws sz) U U.heap)
theorem yMet {l : Launch} {D : va_G} {k : Nat → ClassId} {ks kv kf : Nat → Nat} {ka kw : Nat} {ws : va_W} {ws' ws9 : List Cond} {y : MethodName} {rm : Room} {cc : ByteArray} {maxL : Nat} {ret : Option FieldType} {Qc : (Nat → Prop) → Array Value → State → Outcome → State → Prop} {X9 : (Nat → Prop) → String → State → State → Prop} {mc ms sz : Nat} (av : List Value) (hy : plainName y.cls = true) (hw : ws9 = Cond.code y cc maxL ret :: ws') (hlen : (lg_sl av).length ≤ maxL)
    (body : ∀ (p : Program) (e : Env) (s : State) (m : MethodId) (below : List Frame) (meth : Method) (c : Code) (ls : Array Slot) (A : Nat → Prop) (H : Heap), CallFix p m c cc maxL s av.toArray ws9 y.cls → meth.sig.returnType = ret → meth.locks = false → (∀ x ∈ c.exceptionTable.toList, False) → va_P D vwCl ws H → va_K D vwCl (tyL k) s → NW s → XN s → XZ A s s.heap → KC ks kv kf ka kw A s s.heap → va_D A ws → (∀ q : Nat, s.heap.size ≤ q → A q) → va_S A s.heap H [] → lv_has ls maxL (lv_args 0 av) → W p l e rm s m av.toArray below meth c H [] 0 0 (vx_MQ below (Qc A) (X9 A) av.toArray s mc ms A) (F0 m 0 ls [])) : vx_Met l y ws9 rm (YPc ks kv kf ka kw D k av ws sz) (Qc (va_A ws sz)) (X9 (va_A ws sz)) mc ms (va_A ws sz) := by
  refine vx_ofW (cc := cc) (maxL := maxL) (ret := ret) hy hw ?_
  intro p e s m args below meth c s₁ B hml ht hv
  obtain ⟨rfl, hsz, hP, hK, hN, hD0, hX, hZ, hKC⟩ := hv
  have hts := atoms_spec (ws := ws9) B.pre
  have hown : s.vm.findClass y.cls = some m.cls := findClass_of_methodNamed B.named
  have hl := lv_entry av (n := maxL) hlen
  rw [lg_entry_eq]
  subst hsz
  exact body p e s m below meth c _ _ _ ⟨B.exec, B.bytes, hml, hown, hts⟩ B.returns B.notSynchronized ht hP hK hN hX hZ hKC (hD0.self) (fun q h => Or.inr h) va_S.rf hl
/-- the form of the command c -/
noncomputable def pfF (ts : Nat → Int32) (tl : Nat) (kf : Nat → Nat) (s : QS) (c : Nat) : Nat := rfN ts tl c (psU ts tl kf s c).1 (psU ts tl kf s c).2.1 (psU ts tl kf s c).2.2.1 (psU ts tl kf s c).2.2.2.1
theorem psU_fs {ts : Nat → Int32} {tl : Nat} {kf : Nat → Nat} {s : QS} {i : Nat} : ∀ c, c < i → (psU ts tl kf s i).2.2.2.2 c = some (kf (pfF ts tl kf s c)) := by
  induction i with
  | zero => intro c hc; exact absurd hc (Nat.not_lt_zero c)
  | succ i ih =>
    intro c hc
    rw [psU_s]
    show va_up (psU ts tl kf s i).2.2.2.2 i (some (kf (pfF ts tl kf s i))) c = _
    by_cases e : c = i
    · subst e
      exact va_up_self _ _ _
    · rw [va_up_ne _ _ e]
      exact ih c (by omega)
theorem nI_nm1 {j : Nat} (h : j < 2 ^ 31) : ¬ nI j = -1 := by
  intro e
  have := nI_pos h
  rw [e] at this
  exact this (by decide)
theorem psN_le (ts : Nat → Int32) (tl : Nat) (kf : Nat → Nat) (s : QS) : psN ts tl kf s ≤ 10 ∧ ∀ c, c < psN ts tl kf s → qsG ts tl c (psU ts tl kf s c) = true := by
  rw [psN_eq]
  refine ⟨fsN_le _ _, fun c hc => ?_⟩
  have := fsN_lt (p := fun i => !qsG ts tl i (psU ts tl kf s i)) (n := 10) c hc
  cases q : qsG ts tl c (psU ts tl kf s c) with
  | true => rfl
  | false => simp [q] at this
theorem psR_ok {ts : Nat → Int32} {tl : Nat} {kf : Nat → Nat} {s : QS} (htl : tl ≤ 60) (hs1 : s.1 ≤ tl) (hs4 : s.2.2.2.1 ≤ 60) (h : (psR ts tl kf s).1 = -1) : ∃ i0, i0 < 10 ∧ (psR ts tl kf s).2.1 = i0 + 1 ∧ ∀ c, c < i0 + 1 → (psR ts tl kf s).2.2.2.2.2 c = some (kf (pfF ts tl kf s c)) ∧ pfF ts tl kf s c < 10 := by
  obtain ⟨h10, hG⟩ := psN_le ts tl kf s
  have hle := psU_le (ts := ts) (kf := kf) htl hs1 hs4 (psN ts tl kf s) hG
  have hr : psR ts tl kf s = psE ts tl kf (psN ts tl kf s) (psU ts tl kf s (psN ts tl kf s)) := rfl
  rw [hr] at h ⊢
  clear hr
  generalize e : psN ts tl kf s = i at h hG hle h10 ⊢
  unfold psE at h ⊢
  split at h
  · exact absurd h (nI_nm1 (by omega))
  · rename_i q10
    rw [if_neg q10]
    split at h
    · rename_i q
      rw [if_pos q]
      split at h
      · rename_i q2
        exact absurd h (nI_nm1 (by omega))
      · rename_i q2
        rw [if_neg q2]
        refine ⟨i, by omega, rfl, fun c hc => ?_⟩
        have hf := psU_fs (ts := ts) (tl := tl) (kf := kf) (s := s) (i := i + 1) c hc
        rw [psU_s] at hf
        refine ⟨hf, ?_⟩
        by_cases e2 : c = i
        · subst e2; exact q
        · exact (qsG_of (hG c (by omega))).1
    · have := (rfU_le (ts := ts) (cm := i) (V := (psU ts tl kf s i).2.1) (vc := (psU ts tl kf s i).2.2.1) hle.1 htl hle.2 10).1
      exact absurd h (nI_nm1 (by omega))
/-- what a state of the class keeps -/
def okC (s : SC) : Prop := s.1 ≤ 10 ∧ (∀ c, c < s.1 → okF (s.2.2.2.2.2.1 c)) ∧ lyOk s.1 s.2.2.1 ∧ s.2.2.2.2.2.2.2.2.2.2.1 ≤ 16 ∧ s.2.2.2.2.2.2.2.2.2.2.2.1 < 16 ∧ chOk s.2.2.2.2.2.2.1 4 ∧ chOk s.2.2.2.2.2.2.2.1 12 ∧ chOk s.2.2.2.2.2.2.2.2.2.1 16
  ∧ (∀ c, s.1 ≤ c → c < 10 → s.2.2.2.2.2.1 c = FP.fconst0 ∧ s.2.2.1 c = 0 ∧ s.2.2.2.1 c = 0 ∧ s.2.2.2.2.1 c = 0) ∧ Sym s.1 s.2.2.2.1 s.2.2.2.2.1 ∧ (∀ c, c < s.1 → lowB (s.2.2.2.1 c) ∧ lowB (s.2.2.2.2.1 c)) ∧ wtOk s.1 s.2.1
  ∧ (∀ j, j < 4 → s.2.2.2.2.2.2.1 j = 113 ∨ s.2.2.2.2.2.2.1 j = 111 ∨ s.2.2.2.2.2.2.1 j = 97) ∧ (∀ j, j < 12 → s.2.2.2.2.2.2.2.1 j = 46 ∨ s.2.2.2.2.2.2.2.1 j = 113 ∨ s.2.2.2.2.2.2.2.1 j = 111)
/-- the state behind the first commands; their answers -/
noncomputable def ruU (F : Nat → Nat) (V : Nat → Nat → Int32) (s : SC) (i : Nat) : SC := up (fun i s => (coS (F i) (V i 0) (V i 1) (V i 2) s).2) s i
theorem ruU_s (F : Nat → Nat) (V : Nat → Nat → Int32) (s : SC) (i : Nat) : ruU F V s (i + 1) = (coS (F i) (V i 0) (V i 1) (V i 2) (ruU F V s i)).2 := rfl
noncomputable def ruA (F : Nat → Nat) (V : Nat → Nat → Int32) (s : SC) (i : Nat) : Int32 := (coS (F i) (V i 0) (V i 1) (V i 2) (ruU F V s i)).1
theorem chOk_upd {f : Nat → Int32} {n : Nat} (h : chOk f n) (j : Nat) {x : Int32} (hx : vp_nar .char x = x) : chOk (upd f j x) n := by
  intro i hi
  rw [upd_at]
  split
  · exact hx
  · exact h i hi

theorem tb_set (v : Int32) (b : Bool) {y : Nat} (hy : y < 10) (j : Nat) : tb (if b = true then v ||| bt y else v &&& (bt y ^^^ (-1))) j = if j = y then b else tb v j := by
  by_cases h32 : j < 32
  · cases b with
    | true =>
      rw [if_pos rfl, tb_or, tb_bt (by omega)]
      by_cases e : j = y
      · rw [if_pos e, decide_eq_true e.symm, Bool.or_true]
      · rw [if_neg e, decide_eq_false (fun q => e q.symm), Bool.or_false]
    | false =>
      rw [if_neg (by decide), tb_and, tb_not _ h32, tb_bt (by omega)]
      by_cases e : j = y
      · rw [if_pos e, decide_eq_true e.symm, Bool.not_true, Bool.and_false]
      · rw [if_neg e, decide_eq_false (fun q => e q.symm), Bool.not_false, Bool.and_true]
  · rw [tb_out (by omega), if_neg (by omega), tb_out (by omega)]
theorem Sym_enter {n : Nat} {t a : Nat → Int32} (h : Sym n t a) (ht : t n = 0) (ha : a n = 0) : Sym (n + 1) t a := by
  refine ⟨fun i j hi hj => ?_, fun i j hi hj => ?_, fun i j hi hj => ?_⟩
  · by_cases e : i = n
    · subst e
      rw [ht, tb_0]
      by_cases e2 : j = i
      · subst e2; rw [ha, tb_0]
      · exact (h.2.2 j i (by omega) (Nat.le_refl _)).symm
    · by_cases e2 : j = n
      · subst e2
        rw [ha, tb_0]
        exact h.2.1 i j (by omega) (Nat.le_refl _)
      · exact h.1 i j (by omega) (by omega)
  · by_cases e : i = n
    · subst e; rw [ht, tb_0]
    · exact h.2.1 i j (by omega) (by omega)
  · by_cases e : i = n
    · subst e; rw [ha, tb_0]
    · exact h.2.2 i j (by omega) (by omega)
theorem Sym_set {n x y : Nat} {t a : Nat → Int32} (hn : n ≤ 10) (h : Sym n t a) (hx : x < n) (hy : y < n) (b : Bool) : Sym n (upd t x (if b = true then t x ||| bt y else t x &&& (bt y ^^^ (-1)))) (upd a y (if b = true then a y ||| bt x else a y &&& (bt x ^^^ (-1)))) := by
  refine ⟨fun i j hi hj => ?_, fun i j hi hj => ?_, fun i j hi hj => ?_⟩
  · rw [upd_at, upd_at]
    by_cases e : i = x
    · by_cases e2 : j = y
      · rw [if_pos e, if_pos e2, tb_set _ _ (by omega), tb_set _ _ (by omega), if_pos e2, if_pos e]
      · rw [if_pos e, if_neg e2, tb_set _ _ (by omega), if_neg e2, ← e]
        exact h.1 i j hi hj
    · by_cases e2 : j = y
      · rw [if_neg e, if_pos e2, tb_set _ _ (by omega), if_neg e, ← e2]
        exact h.1 i j hi hj
      · rw [if_neg e, if_neg e2]
        exact h.1 i j hi hj
  · rw [upd_at]
    by_cases e : i = x
    · rw [if_pos e, tb_set _ _ (by omega), if_neg (by omega)]
      exact h.2.1 x j hx hj
    · rw [if_neg e]
      exact h.2.1 i j hi hj
  · rw [upd_at]
    by_cases e : i = y
    · rw [if_pos e, tb_set _ _ (by omega), if_neg (by omega)]
      exact h.2.2 y j hy hj
    · rw [if_neg e]
      exact h.2.2 i j hi hj
theorem lowB_set {v : Int32} (h : lowB v) (b : Bool) {y : Nat} (hy : y < 10) : lowB (if b = true then v ||| bt y else v &&& (bt y ^^^ (-1))) := fun j hj => by
  rw [tb_set _ _ hy, if_neg (by omega)]
  exact h j hj
theorem ch_113 : vp_nar .char 113 = 113 := rfl
theorem ch_111 : vp_nar .char 111 = 111 := rfl
theorem ch_97 : vp_nar .char 97 = 97 := rfl
theorem ch_46 : vp_nar .char 46 = 46 := rfl
theorem ch_115 : vp_nar .char 115 = 115 := rfl
theorem ch_105 : vp_nar .char 105 = 105 := rfl
theorem ch_119 : vp_nar .char 119 = 119 := rfl
theorem ch_101 : vp_nar .char 101 = 101 := rfl
/-- what is left of okC when racks, log, fluxes change -/
def okR (kd rk : Nat → Int32) : Prop := chOk kd 4 ∧ chOk rk 12 ∧ (∀ j, j < 4 → kd j = 113 ∨ kd j = 111 ∨ kd j = 97) ∧ (∀ j, j < 12 → rk j = 46 ∨ rk j = 113 ∨ rk j = 111)
theorem okR_rk {kd rk : Nat → Int32} (h : okR kd rk) (j : Nat) {z : Int32} (hz : z = 46 ∨ z = 113 ∨ z = 111) : okR kd (upd rk j z) := by
  refine ⟨h.1, chOk_upd h.2.1 j ?_, h.2.2.1, fun i hi => ?_⟩
  · rcases hz with rfl | rfl | rfl <;> rfl
  · rw [upd_at]
    split
    · exact hz
    · exact h.2.2.2 i hi
theorem okR_flm {kd rk : Nat → Int32} (h : okR kd rk) (m : Nat) : okR kd (flm kd rk m) := by
  induction m with
  | zero => exact h
  | succ m ih =>
    rw [flm_s]
    split
    · refine okR_rk ih m ?_
      split
      · exact Or.inr (Or.inr rfl)
      · exact Or.inr (Or.inl rfl)
    · exact ih
/-- fluxes, racks, log of a state -/
def okT (n : Nat) (kd : Nat → Int32) (s : CS) : Prop := (∀ c, c < n → okF (s.1 c)) ∧ (∀ c, n ≤ c → c < 10 → s.1 c = FP.fconst0) ∧ okR kd s.2.1 ∧ chOk s.2.2.2.1 16 ∧ s.2.2.2.2.1 ≤ 16 ∧ s.2.2.2.2.2.1 < 16
theorem okT_sh {n : Nat} (a ly : Nat → Int32) {kd : Nat → Int32} (lim : Int32) {s : CS} (h : okT n kd s) : okT n kd (shS n a ly kd lim s) := by
  obtain ⟨h1, h2, h3, h4, h5, h6⟩ := h
  unfold shS
  refine ⟨okF_fxS h1 _ _, fun c hc hc2 => ?_, ?_, ?_, ?_, ?_⟩
  · show fil s.1 _ n c = _
    unfold fil
    rw [if_neg (by omega)]
    exact h2 c hc hc2
  · dsimp only
    split
    · exact okR_flm h3 12
    · exact h3
  · dsimp only
    split
    · exact chOk_upd h4 _ ch_115
    · exact h4
  · dsimp only
    split
    · exact Nat.min_le_right _ _
    · exact h5
  · dsimp only
    split
    · exact Nat.mod_lt _ (by decide)
    · exact h6
theorem okT_it {n : Nat} (a ly : Nat → Int32) {kd : Nat → Int32} (lim : Int32) {s : CS} (h : okT n kd s) (r : Nat) : okT n kd (itS n a ly kd lim s r) := by
  induction r with
  | zero => exact h
  | succ r ih => exact okT_sh a ly lim ih
theorem okC_mk {n : Nat} {w ly t a : Nat → Int32} {fx : Nat → UInt32} {kd rk lsh lk : Nat → Int32} {lc lx : Nat} {lim sh sc : Int32} {fr : Nat → UInt32} (hn : n ≤ 10) (hy : lyOk n ly) (hT : okT n kd (fx, rk, lsh, lk, lc, lx, sh, sc, fr)) (hz : ∀ c, n ≤ c → c < 10 → ly c = 0 ∧ t c = 0 ∧ a c = 0) (hs : Sym n t a) (hl : ∀ c, c < n → lowB (t c) ∧ lowB (a c)) (hw : wtOk n w) : okC (n, w, ly, t, a, fx, kd, rk, lsh, lk, lc, lx, lim, sh, sc, fr) :=
  ⟨hn, hT.1, hy, hT.2.2.2.2.1, hT.2.2.2.2.2, hT.2.2.1.1, hT.2.2.1.2.1, hT.2.2.2.1, fun c h1 h2 => ⟨hT.2.1 c h1 h2, hz c h1 h2⟩, hs, hl, hw, hT.2.2.1.2.2.1, hT.2.2.1.2.2.2⟩
theorem okC_T {n : Nat} {w ly t a : Nat → Int32} {fx : Nat → UInt32} {kd rk lsh lk : Nat → Int32} {lc lx : Nat} {lim sh sc : Int32} {fr : Nat → UInt32} (h : okC (n, w, ly, t, a, fx, kd, rk, lsh, lk, lc, lx, lim, sh, sc, fr)) : n ≤ 10 ∧ lyOk n ly ∧ okT n kd (fx, rk, lsh, lk, lc, lx, sh, sc, fr) ∧ (∀ c, n ≤ c → c < 10 → ly c = 0 ∧ t c = 0 ∧ a c = 0) ∧ Sym n t a ∧ (∀ c, c < n → lowB (t c) ∧ lowB (a c)) ∧ wtOk n w := by
  obtain ⟨h1, h2, h3, h4, h5, h6, h7, h8, h9, h10, h11, h12, h13, h14⟩ := h
  exact ⟨h1, h3, ⟨h2, fun c a1 a2 => (h9 c a1 a2).1, ⟨h6, h7, h13, h14⟩, h8, h4, h5⟩, fun c a1 a2 => (h9 c a1 a2).2, h10, h11, h12⟩
/-- an entry of the log -/
theorem okT_lg {n : Nat} {kd : Nat → Int32} {fx : Nat → UInt32} {rk lsh lk : Nat → Int32} {lc lx : Nat} {sh sc : Int32} {fr : Nat → UInt32} (h : okT n kd (fx, rk, lsh, lk, lc, lx, sh, sc, fr)) {rk' : Nat → Int32} (hr : okR kd rk') (p : Prop) [Decidable p] {z : Int32} (hz : vp_nar .char z = z) : okT n kd (fx, rk', (if p then lsh else upd lsh lx sh), (if p then lk else upd lk lx z), (if p then lc else min (lc + 1) 16), (if p then lx else (lx + 1) % 16), sh, sc, fr) := by
  obtain ⟨h1, h2, h3, h4, h5, h6⟩ := h
  refine ⟨h1, h2, hr, ?_, ?_, ?_⟩
  · show chOk (if p then lk else upd lk lx z) 16
    split
    · exact h4
    · exact chOk_upd h4 _ hz
  · show (if p then lc else min (lc + 1) 16) ≤ 16
    split
    · exact h5
    · exact Nat.min_le_right _ _
  · show (if p then lx else (lx + 1) % 16) < 16
    split
    · exact h6
    · exact Nat.mod_lt _ (by decide)
theorem okT_fx {n : Nat} {kd : Nat → Int32} {fx fx' : Nat → UInt32} {rk lsh lk : Nat → Int32} {lc lx : Nat} {sh sc : Int32} {fr : Nat → UInt32} (h : okT n kd (fx, rk, lsh, lk, lc, lx, sh, sc, fr)) (h1 : ∀ c, c < n → okF (fx' c)) (h2 : ∀ c, n ≤ c → c < 10 → fx' c = FP.fconst0) : okT n kd (fx', rk, lsh, lk, lc, lx, sh, sc, fr) := ⟨h1, h2, h.2.2⟩
/-- changes keep what a state of the class keeps -/
theorem okC_co {s : SC} (h : okC s) (i : Nat) (x y z : Int32) : okC (coS i x y z s).2 := by
  obtain ⟨n, w, ly, t, a, fx, kd, rk, lsh, lk, lc, lx, lim, sh, sc, fr⟩ := s
  obtain ⟨hn, hy, hT, hz, hs, hl, hw⟩ := okC_T h
  have dir : ∀ b : Bool, okC (n, w, ly, (opDirect n t a x y b).2.1, (opDirect n t a x y b).2.2, fx, kd, rk, lsh, lk, lc, lx, lim, sh, sc, fr) := by
    intro b
    unfold opDirect
    split
    · rename_i q
      obtain ⟨j, hj, rfl⟩ := inC_of hn q.1
      obtain ⟨j2, hj2, rfl⟩ := inC_of hn q.2
      rw [clN (show j < 2 ^ 31 by omega), clN (show j2 < 2 ^ 31 by omega)]
      show okC ((n, w, ly, upd t j (if b = true then t j ||| bt j2 else t j &&& (bt j2 ^^^ (-1))), upd a j2 (if b = true then a j2 ||| bt j else a j2 &&& (bt j ^^^ (-1))), fx, kd, rk, lsh, lk, lc, lx, lim, sh, sc, fr) : SC)
      refine okC_mk hn hy hT (fun c h1 h2 => ?_) (Sym_set hn hs hj hj2 b) (fun c hc => ?_) hw
      · obtain ⟨z1, z2, z3⟩ := hz c h1 h2
        exact ⟨z1, by rw [upd_at, if_neg (by omega)]; exact z2, by rw [upd_at, if_neg (by omega)]; exact z3⟩
      · rw [upd_at, upd_at]
        constructor
        · split
          · rename_i e; exact lowB_set (hl j hj).1 b (by omega)
          · exact (hl c hc).1
        · split
          · rename_i e; exact lowB_set (hl j2 hj2).2 b (by omega)
          · exact (hl c hc).2
    · exact h
  match i with
  | 0 =>
    show okC (((opEnter n w x).2.1, (opEnter n w x).2.2, ly, t, a, fx, kd, rk, lsh, lk, lc, lx, lim, sh, sc, fr) : SC)
    unfold opEnter
    split
    · rename_i q
      split
      · rename_i q2
        obtain ⟨z1, z2, z3⟩ := hz n (Nat.le_refl n) q2
        show okC ((n + 1, upd w n x, ly, t, a, fx, kd, rk, lsh, lk, lc, lx, lim, sh, sc, fr) : SC)
        refine okC_mk (by show n + 1 ≤ 10; omega) (fun c hc => ?_) ⟨fun c hc => ?_, fun c h1 h2 => hT.2.1 c (by omega) h2, hT.2.2⟩ (fun c h1 h2 => hz c (by omega) h2) (Sym_enter hs z2 z3) (fun c hc => ?_) (fun c hc => ?_)
        · by_cases e : c = n
          · subst e; rw [z1]; exact ⟨rfl, by decide⟩
          · exact hy c (by omega)
        · by_cases e : c = n
          · subst e
            show okF (fx c)
            rw [show fx c = FP.fconst0 from hT.2.1 c (Nat.le_refl c) q2]
            exact okF_0
          · exact hT.1 c (by omega)
        · by_cases e : c = n
          · subst e; rw [z2, z3]; exact ⟨fun j _ => tb_0 j, fun j _ => tb_0 j⟩
          · exact hl c (by omega)
        · rw [upd_at]
          by_cases e : c = n
          · rw [if_pos e]
            obtain ⟨j, hj, rfl⟩ := am_nat (m := 99) (by decide) (Int32.not_lt.mpr q.1) q.2
            refine ⟨j, ?_, hj, rfl⟩
            exact (nI_leI (a := 1) (by decide) (by omega)).mp q.1
          · rw [if_neg e]; exact hw c (by omega)
      · exact h
    · exact h
  | 1 => exact dir true
  | 2 => exact dir false
  | 3 =>
    show okC ((n, w, (opMove n ly x y).2, t, a, fx, kd, rk, lsh, lk, lc, lx, lim, sh, sc, fr) : SC)
    unfold opMove
    split
    · rename_i q
      obtain ⟨j, hj, rfl⟩ := inC_of hn q.1
      obtain ⟨j2, hj2, rfl⟩ := rg_of (m := 3) (by decide) q.2
      rw [clN (show j < 2 ^ 31 by omega)]
      show okC ((n, w, upd ly j (nI j2), t, a, fx, kd, rk, lsh, lk, lc, lx, lim, sh, sc, fr) : SC)
      refine okC_mk hn (fun c hc => ?_) hT (fun c h1 h2 => ?_) hs hl hw
      · rw [upd_at]
        split
        · rw [clN (show j2 < 2 ^ 31 by omega)]; exact ⟨rfl, by omega⟩
        · exact hy c hc
      · obtain ⟨z1, z2, z3⟩ := hz c h1 h2
        exact ⟨by rw [upd_at, if_neg (by omega)]; exact z1, z2, z3⟩
    · exact h
  | 4 =>
    show okC ((n, w, ly, t, a, fx, (opRenew kd rk x (chC y)).2, rk, lsh, lk, lc, lx, lim, sh, sc, fr) : SC)
    unfold opRenew
    split
    · split
      · rename_i q
        split
        · show okC ((n, w, ly, t, a, fx, upd kd x.toNatClampNeg (chC y), rk, lsh, lk, lc, lx, lim, sh, sc, fr) : SC)
          refine okC_mk hn hy ⟨hT.1, hT.2.1, ⟨chOk_upd hT.2.2.1.1 _ ?_, hT.2.2.1.2.1, fun j hj => ?_, hT.2.2.1.2.2.2⟩, hT.2.2.2⟩ hz hs hl hw
          · rcases q with e | e | e <;> rw [e] <;> rfl
          · rw [upd_at]
            split
            · exact q
            · exact hT.2.2.1.2.2.1 j hj
        · exact h
      · exact h
    · exact h
  | 5 =>
    show okC ((n, w, ly, t, a, fx, kd, (opPut kd rk x y (chC z)).2, (if (opPut kd rk x y (chC z)).1 < 0 then lsh else upd lsh lx sh), (if (opPut kd rk x y (chC z)).1 < 0 then lk else upd lk lx 105), (if (opPut kd rk x y (chC z)).1 < 0 then lc else min (lc + 1) 16), (if (opPut kd rk x y (chC z)).1 < 0 then lx else (lx + 1) % 16), lim, sh, sc, fr) : SC)
    refine okC_mk hn hy (okT_lg hT ?_ _ ch_105) hz hs hl hw
    unfold opPut
    split
    · split
      · rename_i q
        split
        · split
          · exact okR_rk hT.2.2.1 _ (Or.inr q)
          · exact hT.2.2.1
        · exact hT.2.2.1
      · exact hT.2.2.1
    · exact hT.2.2.1
  | 6 =>
    show okC ((n, w, ly, t, a, fx, kd, (opTake rk x y).2, (if (opTake rk x y).1 < 0 then lsh else upd lsh lx sh), (if (opTake rk x y).1 < 0 then lk else upd lk lx 119), (if (opTake rk x y).1 < 0 then lc else min (lc + 1) 16), (if (opTake rk x y).1 < 0 then lx else (lx + 1) % 16), lim, sh, sc, fr) : SC)
    refine okC_mk hn hy (okT_lg hT ?_ _ ch_119) hz hs hl hw
    unfold opTake
    split
    · split
      · exact hT.2.2.1
      · exact okR_rk hT.2.2.1 _ (Or.inl rfl)
    · exact hT.2.2.1
  | 7 =>
    show okC ((n, w, ly, t, a, (opHeat n fx x y).2, kd, rk, (if hOk n x y = false then lsh else upd lsh lx sh), (if hOk n x y = false then lk else upd lk lx 101), (if hOk n x y = false then lc else min (lc + 1) 16), (if hOk n x y = false then lx else (lx + 1) % 16), lim, sh, sc, fr) : SC)
    refine okC_mk hn hy (okT_fx (okT_lg hT hT.2.2.1 _ ch_101) (fun c hc => ?_) (fun c h1 h2 => ?_)) hz hs hl hw
    · unfold opHeat
      split
      · rename_i q
        split
        · exact hT.1 c hc
        · rename_i q1
          split
          · rename_i q2
            show okF (vf_upd fx x.toNatClampNeg _ c)
            unfold vf_upd
            split
            · obtain ⟨j, hj, rfl⟩ := inC_of hn q
              rw [clN (show j < 2 ^ 31 by omega)]
              exact okF_cap (okF_add (hT.1 j hj) (okF_am (Int32.not_lt.mp q1) q2))
            · exact hT.1 c hc
          · exact hT.1 c hc
      · exact hT.1 c hc
    · unfold opHeat
      split
      · rename_i q
        split
        · exact hT.2.1 c h1 h2
        · split
          · show vf_upd fx x.toNatClampNeg _ c = _
            obtain ⟨j, hj, rfl⟩ := inC_of hn q
            rw [clN (show j < 2 ^ 31 by omega)]
            unfold vf_upd
            rw [if_neg (by omega)]
            exact hT.2.1 c h1 h2
          · exact hT.2.1 c h1 h2
      · exact hT.2.1 c h1 h2
  | 8 => exact okC_mk hn hy hT hz hs hl hw
  | i + 9 =>
    have hA : okT n kd (advT n a ly kd lim (fx, rk, lsh, lk, lc, lx, sh, sc, fr) x) := by
      unfold advT
      split
      · exact hT
      · split
        · exact okT_it a ly lim hT _
        · exact hT
    exact okC_mk hn hy hA hz hs hl hw
theorem okC_ru (F : Nat → Nat) (V : Nat → Nat → Int32) {s : SC} (h : okC s) (i : Nat) : okC (ruU F V s i) := by
  induction i with
  | zero => exact h
  | succ i ih => rw [ruU_s]; exact okC_co ih _ _ _ _

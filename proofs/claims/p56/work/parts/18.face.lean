/-! The model's face, further. -/
theorem isC_in2 {n : Nat} (hn : n ≤ 1000) (x : Int32) : rg 0 x (nI n - 1) = inC n x := by
  unfold rg inC
  have e : (x ≤ nI n - 1) ↔ ¬ nI n ≤ x := by
    rw [Int32.le_iff_toInt_le, Int32.le_iff_toInt_le]
    have h1 : (nI n).toInt = (n : Int) := nI_toInt (by omega)
    have h2 : (nI n - 1).toInt = (n : Int) - 1 := pk_sub_toInt (a := n) (b := 1) (by omega) (by omega)
    rw [h1, h2]
    omega
  simp only [e]
theorem inC_of2 {x : Int32} {n : Nat} (hn : n ≤ 1000) (h : inC n x = true) : ∃ j, j < n ∧ x = nI j := by
  have h2 := of_decide_eq_true h
  obtain ⟨j, hj, rfl⟩ := nI_of (x := x) (fun q => by
    have := h2.1
    rw [Int32.le_iff_toInt_le] at this
    rw [Int32.lt_iff_toInt_lt] at q
    omega)
  exact ⟨j, Nat.not_le.mp (fun q => h2.2 (nI_le q hj)), rfl⟩
/-- the line behind the sign x -/
def wrS (s : (Nat → Int32) × Nat) (x : Int32) : (Nat → Int32) × Nat := (upd s.1 s.2 x, s.2 + 1)
/-- a claim's sign -/
def sgM (n : Nat) (v : Nat → Int32) (j : Nat) : Int32 := if tb (accM n (vt v)) j = true then 43 else if tb (orS n (vt v) (accM n (vt v))) j = true then 45 else 63
def d0M (n : Nat) (v li : Nat → Int32) (j : Nat) : (Nat → Int32) × Nat := wrS (wrS (li, 0) (nI (48 + j))) (sgM n v j)
def dcl (n : Nat) (v li : Nat → Int32) (j m : Nat) : (Nat → Int32) × Nat := up (fun c s => if tb (vt v j) c then wrS s (nI (48 + c)) else s) (d0M n v li j) m
theorem dcl_s (n : Nat) (v li : Nat → Int32) (j m : Nat) : dcl n v li j (m + 1) = if tb (vt v j) m then wrS (dcl n v li j m) (nI (48 + m)) else dcl n v li j m := rfl
theorem dcl_le (n : Nat) (v li : Nat → Int32) (j m : Nat) : (dcl n v li j m).2 ≤ m + 2 := by
  induction m with
  | zero => exact Nat.le_refl _
  | succ m ih =>
    rw [dcl_s]
    split
    · show (dcl n v li j m).2 + 1 ≤ m + 1 + 2
      omega
    · omega
def drI (v : Nat → Int32) (l : Nat) (s : (Nat → Int32) × Nat) (m : Nat) : (Nat → Int32) × Nat := up (fun c s => wrS s (if rkS v l c = 0 then 46 else rkS v l c)) s m
theorem drI_s (v : Nat → Int32) (l : Nat) (s : (Nat → Int32) × Nat) (m : Nat) : drI v l s (m + 1) = wrS (drI v l s m) (if rkS v l m = 0 then 46 else rkS v l m) := rfl
theorem drI_n (v : Nat → Int32) (l : Nat) (s : (Nat → Int32) × Nat) (m : Nat) : (drI v l s m).2 = s.2 + m := by
  induction m with
  | zero => rfl
  | succ m ih =>
    rw [drI_s]
    show (drI v l s m).2 + 1 = s.2 + (m + 1)
    omega
def drA (l : Nat) (s : (Nat → Int32) × Nat) : (Nat → Int32) × Nat := if l = 0 then s else wrS s 32
def drO (v li : Nat → Int32) (m : Nat) : (Nat → Int32) × Nat := up (fun l s => drI v l (drA l s) 4) (li, 0) m
theorem drO_s (v li : Nat → Int32) (m : Nat) : drO v li (m + 1) = drI v m (drA m (drO v li m)) 4 := rfl
theorem drO_n (v li : Nat → Int32) {m : Nat} (h : m ≤ 4) : (drO v li m).2 ≤ 5 * m ∧ (drA m (drO v li m)).2 ≤ 5 * m + 1 := by
  have key : ∀ m, (drO v li m).2 ≤ 5 * m := by
    intro m
    induction m with
    | zero => exact Nat.le_refl _
    | succ m ih =>
      rw [drO_s, drI_n]
      unfold drA
      split
      · omega
      · show (drO v li m).2 + 1 + 4 ≤ 5 * (m + 1)
        omega
  refine ⟨key m, ?_⟩
  have := key m
  unfold drA
  split
  · omega
  · show (drO v li m).2 + 1 ≤ 5 * m + 1
    omega
/-- doubles: not negative, no NaN -/
def okD (x : UInt64) : Prop := posD (FP.Core.val64 x) = true
def psG (y : UInt64) : Prop := ∃ d r, d ≠ 0 ∧ FP.Core.val64 y = .fin false d r
theorem okD_div {a b : UInt64} (ha : okD a) (hb : psG b) : okD (FP.ddiv a b) := by
  obtain ⟨d, r, hd, e⟩ := hb
  unfold okD at *
  rw [show FP.Core.val64 (FP.ddiv a b) = _ from FP.Core.val64_ddiv a b, e]
  exact posD_quot ha hd
theorem okD_mul {a b : UInt64} (ha : okD a) (hb : psG b) : okD (FP.dmul a b) := by
  obtain ⟨d, r, hd, e⟩ := hb
  unfold okD at *
  rw [show FP.Core.val64 (FP.dmul a b) = _ from FP.Core.val64_dmul a b, e]
  exact posD_round _ (posD_prod ha hd)
theorem okD_notNaN {a : UInt64} (h : okD a) : FP.Core.val64 a ≠ .nan := fun e => by
  unfold okD at h
  rw [e] at h
  cases h
theorem okD_n64 {a : UInt64} (h : okD a) : vf_n64 a := by
  have hn := okD_notNaN h
  have hm : (a &&& 0x7fffffffffffffff).toNat ≤ 0x7ff0000000000000 := by
    rw [FP.Core.mask_toNat]
    apply Classical.byContradiction
    intro q
    apply hn
    unfold FP.Core.val64 FP.Core.decode
    have h1 : FP.Core.fieldE FP.Core.b64 a.toNat = FP.Core.b64.exps - 1 := by
      show a.toNat / 2 ^ 52 % 2 ^ 11 = 2 ^ 11 - 1
      omega
    have h2 : ¬ FP.Core.fieldT FP.Core.b64 a.toNat = 0 := by
      show ¬ a.toNat % 2 ^ 52 = 0
      omega
    rw [if_pos h1, if_neg h2]
  exact UInt64.le_iff_toNat_le.mpr hm
theorem isPs_ex64 {y : UInt64} (h : isPs (FP.Core.val64 y) = true) : psG y := by
  unfold psG
  cases e : FP.Core.val64 y with
  | nan => rw [e] at h; cases h
  | inf s => rw [e] at h; cases h
  | fin s d r =>
    rw [e] at h
    cases s with
    | true => cases h
    | false => exact ⟨d, r, by simpa [isPs] using h, rfl⟩
theorem psG_i2d {j : Nat} (h0 : 1 ≤ j) (h : j ≤ 10) : psG (FP.i2d (nI j)) := by
  have : ∀ j : Nat, j ≤ 10 → 1 ≤ j → isPs (FP.Core.val64 (FP.i2d (nI j))) = true := by decide +kernel
  exact isPs_ex64 (this j h h0)
theorem okD_i2d {j : Nat} (h : j ≤ 990) : okD (FP.i2d (nI j)) := by
  have : ∀ j : Nat, j ≤ 990 → posD (FP.Core.val64 (FP.i2d (nI j))) = true := by decide +kernel
  exact this j h
theorem okF_nlt {x : UInt32} (h : okF x) : ¬ (FP.fcmp x FP.fconst0 = some .lt ∨ FP.fcmp x FP.fconst0 = none) := by
  have e0 : FP.Core.val32 FP.fconst0 = .fin false 0 FP.Core.b32.qmin := by decide +kernel
  have e : FP.fcmp x FP.fconst0 = FP.Core.order (FP.Core.val32 x) (FP.Core.val32 FP.fconst0) := rfl
  rw [e, e0]
  unfold okF at h
  cases q : FP.Core.val32 x with
  | nan => rw [q] at h; cases h
  | inf s =>
    rw [q] at h
    cases s with
    | true => cases h
    | false => decide
  | fin s c r =>
    rw [q] at h
    cases s with
    | true => cases h
    | false =>
      have hc : ∀ a : Nat, compare (FP.Core.signed false a) (FP.Core.signed false 0) ≠ .lt := by
        intro a h9
        rw [FP.Core.compare_lt_iff] at h9
        unfold FP.Core.signed at h9
        simp only [Bool.false_eq_true, if_false] at h9
        omega
      intro h9
      rcases h9 with h9 | h9
      · have h10 := Option.some.inj h9
        rw [show FP.Core.inUnits 0 FP.Core.b32.qmin (min r FP.Core.b32.qmin) = 0 from Nat.zero_mul _] at h10
        exact hc _ h10
      · cases h9
/-- shifts of the model until the power is below a level -/
def sbP (n : Nat) (s : MS) (lev : Int32) (i : Nat) : Bool := decide (FP.fcmp (smF (itD n s i).2.1 n) (FP.i2f lev) = some .lt ∨ FP.fcmp (smF (itD n s i).2.1 n) (FP.i2f lev) = none)
def sbM (n : Nat) (s : MS) (lev : Int32) : Nat := fsN (sbP n s lev) 31
theorem sbM_at {n : Nat} {s : MS} {lev : Int32} {i : Nat} (h : ∀ c, c < i → sbP n s lev c = false) (hi : sbP n s lev i = true) (q : i < 31) : sbM n s lev = i := fsN_some h hi q
theorem sbM_no {n : Nat} {s : MS} {lev : Int32} {i : Nat} (h : ∀ c, c < i → sbP n s lev c = false) (q : i = 31) : sbM n s lev = 31 := fsN_none (fun c hc => h c (by omega))
/-- the first m claims' ranks -/
def ahM (f : Nat → UInt32) (w : Nat → Int32) (o c : Nat) : Bool :=
  if FP.fcmp (f o) (f c) = some .gt then true else if FP.fcmp (f o) (f c) = some .eq then (if w c < w o then true else if w o = w c then decide (o < c) else false) else false
def cntR (f : Nat → UInt32) (w : Nat → Int32) (c m : Nat) : Nat := up (fun o k => if ahM f w o c then k + 1 else k) 0 m
theorem cntR_s (f : Nat → UInt32) (w : Nat → Int32) (c m : Nat) : cntR f w c (m + 1) = if ahM f w m c then cntR f w c m + 1 else cntR f w c m := rfl
/-- the ways to a claim, summed up -/
def wyI (t : Nat → Int32) (wy : Nat → Int64) (to : Nat) (mo : Nat → Int64) (m : Nat) : Nat → Int64 := up (fun c f => vp_updL f to (f to + (if tb (t c) to then wy c else 0))) (vp_updL mo to 0) m
theorem wyI_s (t : Nat → Int32) (wy : Nat → Int64) (to : Nat) (mo : Nat → Int64) (m : Nat) : wyI t wy to mo (m + 1) = vp_updL (wyI t wy to mo m) to (wyI t wy to mo m to + (if tb (t m) to then wy m else 0)) := rfl
def wyO (n : Nat) (t : Nat → Int32) (wy mo : Nat → Int64) (m : Nat) : Nat → Int64 := up (fun to f => wyI t wy to f n) mo m
theorem wyO_s (n : Nat) (t : Nat → Int32) (wy mo : Nat → Int64) (m : Nat) : wyO n t wy mo (m + 1) = wyI t wy m (wyO n t wy mo m) n := rfl
def wyR (wy mo : Nat → Int64) (m : Nat) : Nat → Int64 := up (fun c f => vp_updL f c (mo c - mo c / 1000003 * 1000003)) wy m
theorem wyR_s (wy mo : Nat → Int64) (m : Nat) : wyR wy mo (m + 1) = vp_updL (wyR wy mo m) m (mo m - mo m / 1000003 * 1000003) := rfl
def wy0 (j : Nat) (wy : Nat → Int64) (m : Nat) : Nat → Int64 := up (fun c f => vp_updL f c (if c = j then 1 else 0)) wy m
theorem wy0_s (j : Nat) (wy : Nat → Int64) (m : Nat) : wy0 j wy (m + 1) = vp_updL (wy0 j wy m) m (if m = j then 1 else 0) := rfl
def wyT (n : Nat) (t : Nat → Int32) (s : (Nat → Int64) × (Nat → Int64)) : (Nat → Int64) × (Nat → Int64) := (wyR s.1 (wyO n t s.1 s.2 n) n, wyO n t s.1 s.2 n)
def itW (n : Nat) (t : Nat → Int32) (j : Nat) (wy mo : Nat → Int64) (r : Nat) : (Nat → Int64) × (Nat → Int64) := up (fun _ s => wyT n t s) (wy0 j wy 10, mo) r
theorem itW_s (n : Nat) (t : Nat → Int32) (j : Nat) (wy mo : Nat → Int64) (r : Nat) : itW n t j wy mo (r + 1) = wyT n t (itW n t j wy mo r) := rfl
def thC (n : Nat) (x y le : Int32) : Int32 := if inC n x = true ∧ inC n y = true then (if rg 0 le 999 = true then 0 else 2) else 1









/-! The model's face, further. -/
theorem isC_in2 {n : Nat} (hn : n ≤ 1000) (x : Int32) : rg 0 x (nI n - 1) = inC n x := by
  unfold rg inC
  have e : (x ≤ nI n - 1) ↔ ¬ nI n ≤ x := by
    rw [Int32.le_iff_toInt_le, Int32.le_iff_toInt_le]
    have h1 : (nI n).toInt = (n : Int) := nI_toInt (by omega)
    have h2 : (nI n - 1).toInt = (n : Int) - 1 := pk_sub_toInt (a := n) (b := 1) (by omega) (by omega)
    rw [h1, h2]
    omega
  simp only [e]
theorem inC_of2 {x : Int32} {n : Nat} (hn : n ≤ 1000) (h : inC n x = true) : ∃ j, j < n ∧ x = nI j := by
  have h2 := of_decide_eq_true h
  obtain ⟨j, hj, rfl⟩ := nI_of (x := x) (fun q => by
    have := h2.1
    rw [Int32.le_iff_toInt_le] at this
    rw [Int32.lt_iff_toInt_lt] at q
    omega)
  exact ⟨j, Nat.not_le.mp (fun q => h2.2 (nI_le q hj)), rfl⟩
/-- the line behind the sign x -/
def wrS (s : (Nat → Int32) × Nat) (x : Int32) : (Nat → Int32) × Nat := (upd s.1 s.2 x, s.2 + 1)
/-- a claim's sign -/
def sgM (n : Nat) (v : Nat → Int32) (j : Nat) : Int32 := if tb (accM n (vt v)) j = true then 43 else if tb (orS n (vt v) (accM n (vt v))) j = true then 45 else 63
def d0M (n : Nat) (v li : Nat → Int32) (j : Nat) : (Nat → Int32) × Nat := wrS (wrS (li, 0) (nI (48 + j))) (sgM n v j)
def dcl (n : Nat) (v li : Nat → Int32) (j m : Nat) : (Nat → Int32) × Nat := up (fun c s => if tb (vt v j) c then wrS s (nI (48 + c)) else s) (d0M n v li j) m
theorem dcl_s (n : Nat) (v li : Nat → Int32) (j m : Nat) : dcl n v li j (m + 1) = if tb (vt v j) m then wrS (dcl n v li j m) (nI (48 + m)) else dcl n v li j m := rfl
theorem dcl_le (n : Nat) (v li : Nat → Int32) (j m : Nat) : (dcl n v li j m).2 ≤ m + 2 := by
  induction m with
  | zero => exact Nat.le_refl _
  | succ m ih =>
    rw [dcl_s]
    split
    · show (dcl n v li j m).2 + 1 ≤ m + 1 + 2
      omega
    · omega
def drI (v : Nat → Int32) (l : Nat) (s : (Nat → Int32) × Nat) (m : Nat) : (Nat → Int32) × Nat := up (fun c s => wrS s (if rkS v l c = 0 then 46 else rkS v l c)) s m
theorem drI_s (v : Nat → Int32) (l : Nat) (s : (Nat → Int32) × Nat) (m : Nat) : drI v l s (m + 1) = wrS (drI v l s m) (if rkS v l m = 0 then 46 else rkS v l m) := rfl
theorem drI_n (v : Nat → Int32) (l : Nat) (s : (Nat → Int32) × Nat) (m : Nat) : (drI v l s m).2 = s.2 + m := by
  induction m with
  | zero => rfl
  | succ m ih =>
    rw [drI_s]
    show (drI v l s m).2 + 1 = s.2 + (m + 1)
    omega
def drA (l : Nat) (s : (Nat → Int32) × Nat) : (Nat → Int32) × Nat := if l = 0 then s else wrS s 32
def drO (v li : Nat → Int32) (m : Nat) : (Nat → Int32) × Nat := up (fun l s => drI v l (drA l s) 4) (li, 0) m
theorem drO_s (v li : Nat → Int32) (m : Nat) : drO v li (m + 1) = drI v m (drA m (drO v li m)) 4 := rfl
theorem drO_n (v li : Nat → Int32) {m : Nat} (h : m ≤ 4) : (drO v li m).2 ≤ 5 * m ∧ (drA m (drO v li m)).2 ≤ 5 * m + 1 := by
  have key : ∀ m, (drO v li m).2 ≤ 5 * m := by
    intro m
    induction m with
    | zero => exact Nat.le_refl _
    | succ m ih =>
      rw [drO_s, drI_n]
      unfold drA
      split
      · omega
      · show (drO v li m).2 + 1 + 4 ≤ 5 * (m + 1)
        omega
  refine ⟨key m, ?_⟩
  have := key m
  unfold drA
  split
  · omega
  · show (drO v li m).2 + 1 ≤ 5 * m + 1
    omega
/-- doubles: not negative, no NaN -/
def okD (x : UInt64) : Prop := posD (FP.Core.val64 x) = true
def psG (y : UInt64) : Prop := ∃ d r, d ≠ 0 ∧ FP.Core.val64 y = .fin false d r
theorem okD_div {a b : UInt64} (ha : okD a) (hb : psG b) : okD (FP.ddiv a b) := by
  obtain ⟨d, r, hd, e⟩ := hb
  unfold okD at *
  rw [show FP.Core.val64 (FP.ddiv a b) = _ from FP.Core.val64_ddiv a b, e]
  exact posD_quot ha hd
theorem okD_mul {a b : UInt64} (ha : okD a) (hb : psG b) : okD (FP.dmul a b) := by
  obtain ⟨d, r, hd, e⟩ := hb
  unfold okD at *
  rw [show FP.Core.val64 (FP.dmul a b) = _ from FP.Core.val64_dmul a b, e]
  exact posD_round _ (posD_prod ha hd)
theorem okD_notNaN {a : UInt64} (h : okD a) : FP.Core.val64 a ≠ .nan := fun e => by
  unfold okD at h
  rw [e] at h
  cases h
theorem okD_n64 {a : UInt64} (h : okD a) : vf_n64 a := by
  have hn := okD_notNaN h
  have hm : (a &&& 0x7fffffffffffffff).toNat ≤ 0x7ff0000000000000 := by
    rw [FP.Core.mask_toNat]
    apply Classical.byContradiction
    intro q
    apply hn
    unfold FP.Core.val64 FP.Core.decode
    have h1 : FP.Core.fieldE FP.Core.b64 a.toNat = FP.Core.b64.exps - 1 := by
      show a.toNat / 2 ^ 52 % 2 ^ 11 = 2 ^ 11 - 1
      omega
    have h2 : ¬ FP.Core.fieldT FP.Core.b64 a.toNat = 0 := by
      show ¬ a.toNat % 2 ^ 52 = 0
      omega
    rw [if_pos h1, if_neg h2]
  exact UInt64.le_iff_toNat_le.mpr hm
theorem isPs_ex64 {y : UInt64} (h : isPs (FP.Core.val64 y) = true) : psG y := by
  unfold psG
  cases e : FP.Core.val64 y with
  | nan => rw [e] at h; cases h
  | inf s => rw [e] at h; cases h
  | fin s d r =>
    rw [e] at h
    cases s with
    | true => cases h
    | false => exact ⟨d, r, by simpa [isPs] using h, rfl⟩
theorem psG_i2d {j : Nat} (h0 : 1 ≤ j) (h : j ≤ 10) : psG (FP.i2d (nI j)) := by
  have : ∀ j : Nat, j ≤ 10 → 1 ≤ j → isPs (FP.Core.val64 (FP.i2d (nI j))) = true := by decide +kernel
  exact isPs_ex64 (this j h h0)
theorem okD_i2d {j : Nat} (h : j ≤ 990) : okD (FP.i2d (nI j)) := by
  have : ∀ j : Nat, j ≤ 990 → posD (FP.Core.val64 (FP.i2d (nI j))) = true := by decide +kernel
  exact this j h
theorem okF_nlt {x : UInt32} (h : okF x) : ¬ (FP.fcmp x FP.fconst0 = some .lt ∨ FP.fcmp x FP.fconst0 = none) := by
  have e0 : FP.Core.val32 FP.fconst0 = .fin false 0 FP.Core.b32.qmin := by decide +kernel
  have e : FP.fcmp x FP.fconst0 = FP.Core.order (FP.Core.val32 x) (FP.Core.val32 FP.fconst0) := rfl
  rw [e, e0]
  unfold okF at h
  cases q : FP.Core.val32 x with
  | nan => rw [q] at h; cases h
  | inf s =>
    rw [q] at h
    cases s with
    | true => cases h
    | false => decide
  | fin s c r =>
    rw [q] at h
    cases s with
    | true => cases h
    | false =>
      have hc : ∀ a : Nat, compare (FP.Core.signed false a) (FP.Core.signed false 0) ≠ .lt := by
        intro a h9
        rw [FP.Core.compare_lt_iff] at h9
        unfold FP.Core.signed at h9
        simp only [Bool.false_eq_true, if_false] at h9
        omega
      intro h9
      rcases h9 with h9 | h9
      · have h10 := Option.some.inj h9
        rw [show FP.Core.inUnits 0 FP.Core.b32.qmin (min r FP.Core.b32.qmin) = 0 from Nat.zero_mul _] at h10
        exact hc _ h10
      · cases h9
/-- shifts of the model until the power is below a level -/
def sbP (n : Nat) (s : MS) (lev : Int32) (i : Nat) : Bool := decide (FP.fcmp (smF (itD n s i).2.1 n) (FP.i2f lev) = some .lt ∨ FP.fcmp (smF (itD n s i).2.1 n) (FP.i2f lev) = none)
def sbM (n : Nat) (s : MS) (lev : Int32) : Nat := fsN (sbP n s lev) 31
theorem sbM_at {n : Nat} {s : MS} {lev : Int32} {i : Nat} (h : ∀ c, c < i → sbP n s lev c = false) (hi : sbP n s lev i = true) (q : i < 31) : sbM n s lev = i := fsN_some h hi q
theorem sbM_no {n : Nat} {s : MS} {lev : Int32} {i : Nat} (h : ∀ c, c < i → sbP n s lev c = false) (q : i = 31) : sbM n s lev = 31 := fsN_none (fun c hc => h c (by omega))
/-- the first m claims' ranks -/
def ahM (f : Nat → UInt32) (w : Nat → Int32) (o c : Nat) : Bool :=
  if FP.fcmp (f o) (f c) = some .gt then true else if FP.fcmp (f o) (f c) = some .eq then (if w c < w o then true else if w o = w c then decide (o < c) else false) else false
def cntR (f : Nat → UInt32) (w : Nat → Int32) (c m : Nat) : Nat := up (fun o k => if ahM f w o c then k + 1 else k) 0 m
theorem cntR_s (f : Nat → UInt32) (w : Nat → Int32) (c m : Nat) : cntR f w c (m + 1) = if ahM f w m c then cntR f w c m + 1 else cntR f w c m := rfl
/-- the ways to a claim, summed up -/
def wyI (t : Nat → Int32) (wy : Nat → Int64) (to : Nat) (mo : Nat → Int64) (m : Nat) : Nat → Int64 := up (fun c f => vp_updL f to (f to + (if tb (t c) to then wy c else 0))) (vp_updL mo to 0) m
theorem wyI_s (t : Nat → Int32) (wy : Nat → Int64) (to : Nat) (mo : Nat → Int64) (m : Nat) : wyI t wy to mo (m + 1) = vp_updL (wyI t wy to mo m) to (wyI t wy to mo m to + (if tb (t m) to then wy m else 0)) := rfl
def wyO (n : Nat) (t : Nat → Int32) (wy mo : Nat → Int64) (m : Nat) : Nat → Int64 := up (fun to f => wyI t wy to f n) mo m
theorem wyO_s (n : Nat) (t : Nat → Int32) (wy mo : Nat → Int64) (m : Nat) : wyO n t wy mo (m + 1) = wyI t wy m (wyO n t wy mo m) n := rfl
def wyR (wy mo : Nat → Int64) (m : Nat) : Nat → Int64 := up (fun c f => vp_updL f c (mo c - mo c / 1000003 * 1000003)) wy m
theorem wyR_s (wy mo : Nat → Int64) (m : Nat) : wyR wy mo (m + 1) = vp_updL (wyR wy mo m) m (mo m - mo m / 1000003 * 1000003) := rfl
def wy0 (j : Nat) (wy : Nat → Int64) (m : Nat) : Nat → Int64 := up (fun c f => vp_updL f c (if c = j then 1 else 0)) wy m
theorem wy0_s (j : Nat) (wy : Nat → Int64) (m : Nat) : wy0 j wy (m + 1) = vp_updL (wy0 j wy m) m (if m = j then 1 else 0) := rfl
def wyT (n : Nat) (t : Nat → Int32) (s : (Nat → Int64) × (Nat → Int64)) : (Nat → Int64) × (Nat → Int64) := (wyR s.1 (wyO n t s.1 s.2 n) n, wyO n t s.1 s.2 n)
def itW (n : Nat) (t : Nat → Int32) (j : Nat) (wy mo : Nat → Int64) (r : Nat) : (Nat → Int64) × (Nat → Int64) := up (fun _ s => wyT n t s) (wy0 j wy 10, mo) r
theorem itW_s (n : Nat) (t : Nat → Int32) (j : Nat) (wy mo : Nat → Int64) (r : Nat) : itW n t j wy mo (r + 1) = wyT n t (itW n t j wy mo r) := rfl
def thC (n : Nat) (x y le : Int32) : Int32 := if inC n x = true ∧ inC n y = true then (if rg 0 le 999 = true then 0 else 2) else 1

set_option maxHeartbeats 4000000 in
set_option maxRecDepth 100000 in
theorem m_X13_logged (l9 : Launch) (D : va_G) (k : Nat → ClassId) (sz : Nat) (q : Nat → Nat) (th ea fa : Int32) (ch tn he en ln : Nat) (sv wr dg : Bool) (v : Nat → Int32) (nl : Nat) (x : Int32) (w9 : Nat) (hnl : nl ≤ 16) (hv4 : v 4 = nI nl) (hw : w9 < 2) : Met l9 yX13_logged wsX13_logged ({ frames := 1, cells := 0, slots := 0, locals := 22 }) (WPc D k [.ref (q 0), .int x, .int (nI w9)] (bMO k q th ea fa ch tn he en ln sv wr dg ++ bI83 k (q 1) v) sz) (WI D k (bMO k q (if inC nl x = true then 0 else 1) ea fa ch tn he en ln sv wr dg ++ bI83 k (q 1) v) (if inC nl x = true then v (51 + 2 * (nl - 1 - x.toNatClampNeg) + w9) else 0) (va_A (bMO k q th ea fa ch tn he en ln sv wr dg ++ bI83 k (q 1) v) sz)) 0 0 (va_A (bMO k q th ea fa ch tn he en ln sv wr dg ++ bI83 k (q 1) v) sz) := by
  refine wMet (y := yX13_logged) (cc := cX13_logged) (maxL := 3) (ret := (some .int)) (Qc := fun A => WI D k (bMO k q (if inC nl x = true then 0 else 1) ea fa ch tn he en ln sv wr dg ++ bI83 k (q 1) v) (if inC nl x = true then v (51 + 2 * (nl - 1 - x.toNatClampNeg) + w9) else 0) A) [.ref (q 0), .int x, .int (nI w9)] (by decide) rfl (Nat.le_of_ble_eq_true rfl) ?_
  intro p9 e9 s9 m9 bl9 me9 c9 ls A H hF hr hlocks hP hK hN hD hA hS hl hin
  have hl : lv_has ls 3 [(0, .ref (q 0)), (1, .int x), (2, .int (nI w9))] := hl
  obtain ⟨hx, hb, hml, hown, hts⟩ := id hF
  have k_fieldLink_16 : (Cond.fieldLink RX13 16 "OpinionReactorModel" "v" "[I").before _ s9 = true := hts (.fieldLink RX13 16 "OpinionReactorModel" "v" "[I") (by decide +kernel)
  have kc_RX13 : ∀ w ∈ u_ws RX13 TX13 29, w ∈ wsX13_logged := by decide +kernel
  have k_fieldLink_77 : (Cond.fieldLink RX13 77 "OpinionReactorModel" "thrown" "I").before _ s9 = true := hts (.fieldLink RX13 77 "OpinionReactorModel" "thrown" "I") (by decide +kernel)
  refine lv_aload_n hx hb dX13_logged_0 rfl (lv_at hl 0 rfl) ?_
  refine lv_iload_n hx hb dX13_logged_1 rfl (lv_at hl 1 rfl) ?_
  refine lv_iconst (v := 0) hx hb dX13_logged_2 (by decide) ?_
  refine lv_aload_n hx hb dX13_logged_3 rfl (lv_at hl 0 rfl) ?_
  refine va_get (D := D) (ci := 11) (v := .ref (q 1)) (C := RX13) (T := TX13) (N := 29) hx hb hts kc_RX13 hown hK hP 0 rfl rfl 5 (by decide) k_fieldLink_16 (fun _ h9 => h9) rfl dX13_logged_4 ?_
  refine lv_iconst (v := 4) hx hb dX13_logged_7 (by decide) ?_
  refine ia_ld hx hb hK hP 1 rfl 4 (by omega) (by decide) dX13_logged_8 ?_
  rw [hv4]
  refine lv_iconst (v := 1) hx hb dX13_logged_9 (by decide) ?_
  refine lv_isub hx hb dX13_logged_10 ?_
  refine vp_callSi (W.runS (As := [.int x, .int 0, .int ((nI nl) - 1)]) (rest := [.ref (q 0)]) hF (m_X13_isIn l9 D k x 0 ((nI nl) - 1) ) (va_cwS 3 hts gX13_logged_X13_isIn rfl rfl rfl (by decide +kernel) ⟨Nat.le_of_ble_eq_true rfl, Nat.le_of_ble_eq_true rfl⟩) (rPreS hK hN hP [] rfl) rfl rfl hl.1 rfl (lv_room (Nat.le_of_ble_eq_true rfl)) dX13_logged_11 ⟨Nat.zero_le _, Nat.zero_le _⟩) (fun r_1 hr_1 => ?_)
  subst hr_1
  refine lv_tope (show Value.int (bI (rg 0 x ((nI nl) - 1))) = Value.int (bI (inC nl x)) from congrArg Value.int (by rw [isC_in2 (by omega)])) ?_
  refine lv_if_eq (tgt := 21) hx hb dX13_logged_14 (by decide) (fun c_2 => ?_) (fun c_2 => ?_)
  · skip
    have c_2 : (inC nl x) = false := bI_0 c_2
    refine lv_iconst (v := 1) hx hb dX13_logged_21 (by decide) ?_
    refine va_put (D := D) (ci := 11) (v := .int 1) (ty := .int) (C := RX13) (T := TX13) (N := 29) hx hb hts kc_RX13 tyX13 tyX13_ok nmX13 hown hK hP hD hS 0 rfl rfl 0 (by decide) k_fieldLink_77 (fun _ h9 => h9) rfl (by decide +kernel) rfl rfl (Nat.le_of_ble_eq_true rfl) dX13_logged_22 (fun H locs hP hD hS => ?_)
    have hP : va_P D vwCl (bMO k q 1 ea fa ch tn he en ln sv wr dg ++ bI83 k (q 1) v) H := hP
    have hD : va_D A (bMO k q 1 ea fa ch tn he en ln sv wr dg ++ bI83 k (q 1) v) := hD
    refine lv_aload_n hx hb dX13_logged_25 rfl (lv_at hl 0 rfl) ?_
    refine va_get (D := D) (ci := 11) (v := .int 1) (C := RX13) (T := TX13) (N := 29) hx hb hts kc_RX13 hown hK hP 0 rfl rfl 0 (by decide) k_fieldLink_77 (fun _ h9 => h9) rfl dX13_logged_26 ?_
    refine lv_if_ne (tgt := 57) hx hb dX13_logged_29 (by decide) (fun c_3 => ?_) (fun c_3 => ?_)
    · skip
      refine lv_iconst (v := 0) hx hb dX13_logged_57 (by decide) ?_
      have e_4 : (1 : Int32) = if inC nl x = true then 0 else 1 := by first | (with_reducible rfl) | ((try simp only []); (repeat (first | rw [if_pos (by first | assumption | exact Eq.trans (b := false) (by assumption) (Eq.symm (by assumption)) | exact Eq.trans (b := true) (by assumption) (Eq.symm (by assumption)) | exact ⟨by assumption, by assumption⟩ | exact Or.inl (by assumption) | exact Or.inr (by assumption) | exact Or.inr (Or.inl (by assumption)) | exact Or.inr (Or.inr (by assumption)) | (simp only [Int32.lt_iff_toInt_lt, Int32.le_iff_toInt_le, i32_0, i32_1, i32_2, i32_3, i32_4, i32_9, i32_10, i32_99, i32_100, i32_1000, i32_9999] at *; omega))] | rw [if_neg (by first | assumption | (rintro (h9 | h9 | h9) <;> contradiction) | (rintro (h9 | h9) <;> contradiction) | (intro h9; exact Bool.noConfusion (Eq.trans (c := false) h9.symm (by assumption))) | (rintro ⟨h8, h9⟩; exact Bool.noConfusion (Eq.trans (c := false) h8.symm (by assumption))) | (rintro ⟨h8, h9⟩; exact Bool.noConfusion (Eq.trans (c := false) h9.symm (by assumption))) | (simp only [Int32.lt_iff_toInt_lt, Int32.le_iff_toInt_le, i32_0, i32_1, i32_2, i32_3, i32_4, i32_9, i32_10, i32_99, i32_100, i32_1000, i32_9999] at *; omega))])); (try rfl))
      have hP := Eq.mp (congrArg (fun z9 => va_P D vwCl (bMO k q z9 ea fa ch tn he en ln sv wr dg ++ bI83 k (q 1) v) H) e_4) hP
      have hD := Eq.mp (congrArg (fun z9 => va_D A (bMO k q z9 ea fa ch tn he en ln sv wr dg ++ bI83 k (q 1) v)) e_4) hD
      exact W.iret (v := 0) hx hb hr (fun t9 ht hW => ⟨⟨_, (), rfl, (by (try simp only []); (repeat (first | rw [if_pos (by first | assumption | exact Eq.trans (b := false) (by assumption) (Eq.symm (by assumption)) | exact Eq.trans (b := true) (by assumption) (Eq.symm (by assumption)) | exact ⟨by assumption, by assumption⟩ | exact Or.inl (by assumption) | exact Or.inr (by assumption) | exact Or.inr (Or.inl (by assumption)) | exact Or.inr (Or.inr (by assumption)) | (simp only [Int32.lt_iff_toInt_lt, Int32.le_iff_toInt_le, i32_0, i32_1, i32_2, i32_3, i32_4, i32_9, i32_10, i32_99, i32_100, i32_1000, i32_9999] at *; omega))] | rw [if_neg (by first | assumption | (rintro (h9 | h9 | h9) <;> contradiction) | (rintro (h9 | h9) <;> contradiction) | (intro h9; exact Bool.noConfusion (Eq.trans (c := false) h9.symm (by assumption))) | (rintro ⟨h8, h9⟩; exact Bool.noConfusion (Eq.trans (c := false) h8.symm (by assumption))) | (rintro ⟨h8, h9⟩; exact Bool.noConfusion (Eq.trans (c := false) h9.symm (by assumption))) | (simp only [Int32.lt_iff_toInt_lt, Int32.le_iff_toInt_le, i32_0, i32_1, i32_2, i32_3, i32_4, i32_9, i32_10, i32_99, i32_100, i32_1000, i32_9999] at *; omega))])); (try rfl)), ⟨by rw [ht]; exact hP, va_K.moved hW.alike hK, hD⟩⟩, hS.F ht⟩) hS.2.2 dX13_logged_58 hlocks
    · first | exact absurd c_3 (by decide) | exact absurd (by decide) c_3
  · skip
    have c_2 : (inC nl x) = true := bI_1 c_2
    obtain ⟨j, hj, rfl⟩ := inC_of2 (by omega) c_2
    have clj : (nI j).toNatClampNeg = j := clN (by omega)
    refine lv_iconst (v := 0) hx hb dX13_logged_17 (by decide) ?_
    refine lv_goto (tgt := 22) hx hb dX13_logged_18 (by decide) ?_
    refine va_put (D := D) (ci := 11) (v := .int 0) (ty := .int) (C := RX13) (T := TX13) (N := 29) hx hb hts kc_RX13 tyX13 tyX13_ok nmX13 hown hK hP hD hS 0 rfl rfl 0 (by decide) k_fieldLink_77 (fun _ h9 => h9) rfl (by decide +kernel) rfl rfl (Nat.le_of_ble_eq_true rfl) dX13_logged_22 (fun H locs hP hD hS => ?_)
    have hP : va_P D vwCl (bMO k q 0 ea fa ch tn he en ln sv wr dg ++ bI83 k (q 1) v) H := hP
    have hD : va_D A (bMO k q 0 ea fa ch tn he en ln sv wr dg ++ bI83 k (q 1) v) := hD
    refine lv_aload_n hx hb dX13_logged_25 rfl (lv_at hl 0 rfl) ?_
    refine va_get (D := D) (ci := 11) (v := .int 0) (C := RX13) (T := TX13) (N := 29) hx hb hts kc_RX13 hown hK hP 0 rfl rfl 0 (by decide) k_fieldLink_77 (fun _ h9 => h9) rfl dX13_logged_26 ?_
    refine lv_if_ne (tgt := 57) hx hb dX13_logged_29 (by decide) (fun c_5 => ?_) (fun c_5 => ?_)
    · first | exact absurd c_5 (by decide) | exact absurd (by decide) c_5
    · skip
      refine lv_aload_n hx hb dX13_logged_32 rfl (lv_at hl 0 rfl) ?_
      refine va_get (D := D) (ci := 11) (v := .ref (q 1)) (C := RX13) (T := TX13) (N := 29) hx hb hts kc_RX13 hown hK hP 0 rfl rfl 5 (by decide) k_fieldLink_16 (fun _ h9 => h9) rfl dX13_logged_33 ?_
      refine lv_bipush (v := 51) hx hb dX13_logged_36 (by decide) ?_
      refine lv_iconst (v := 2) hx hb dX13_logged_38 (by decide) ?_
      refine lv_aload_n hx hb dX13_logged_39 rfl (lv_at hl 0 rfl) ?_
      refine va_get (D := D) (ci := 11) (v := .ref (q 1)) (C := RX13) (T := TX13) (N := 29) hx hb hts kc_RX13 hown hK hP 0 rfl rfl 5 (by decide) k_fieldLink_16 (fun _ h9 => h9) rfl dX13_logged_40 ?_
      refine lv_iconst (v := 4) hx hb dX13_logged_43 (by decide) ?_
      refine ia_ld hx hb hK hP 1 rfl 4 (by omega) (by decide) dX13_logged_44 ?_
      rw [hv4]
      refine lv_iconst (v := 1) hx hb dX13_logged_45 (by decide) ?_
      refine ni_sub hx hb nl 1 (by omega) dX13_logged_46 ?_
      refine lv_iload_n hx hb dX13_logged_47 rfl (lv_at hl 1 rfl) ?_
      refine ni_sub hx hb (nl - 1) j (by omega) dX13_logged_48 ?_
      refine ni_mul hx hb 2 ((nl - 1) - j) dX13_logged_49 ?_
      refine ni_add hx hb 51 (2 * ((nl - 1) - j)) dX13_logged_50 ?_
      refine lv_iload_n hx hb dX13_logged_51 rfl (lv_at hl 2 rfl) ?_
      refine ni_add hx hb (51 + (2 * ((nl - 1) - j))) w9 dX13_logged_52 ?_
      refine ia_ld hx hb hK hP 1 rfl ((51 + (2 * ((nl - 1) - j))) + w9) (by omega) (by decide) dX13_logged_53 ?_
      refine lv_goto (tgt := 58) hx hb dX13_logged_54 (by decide) ?_
      have e_6 : (0 : Int32) = if inC nl (nI j) = true then 0 else 1 := by first | (with_reducible rfl) | ((try simp only [clj]); (repeat (first | rw [if_pos (by first | assumption | exact Eq.trans (b := false) (by assumption) (Eq.symm (by assumption)) | exact Eq.trans (b := true) (by assumption) (Eq.symm (by assumption)) | exact ⟨by assumption, by assumption⟩ | exact Or.inl (by assumption) | exact Or.inr (by assumption) | exact Or.inr (Or.inl (by assumption)) | exact Or.inr (Or.inr (by assumption)) | (simp only [Int32.lt_iff_toInt_lt, Int32.le_iff_toInt_le, i32_0, i32_1, i32_2, i32_3, i32_4, i32_9, i32_10, i32_99, i32_100, i32_1000, i32_9999] at *; omega))] | rw [if_neg (by first | assumption | (rintro (h9 | h9 | h9) <;> contradiction) | (rintro (h9 | h9) <;> contradiction) | (intro h9; exact Bool.noConfusion (Eq.trans (c := false) h9.symm (by assumption))) | (rintro ⟨h8, h9⟩; exact Bool.noConfusion (Eq.trans (c := false) h8.symm (by assumption))) | (rintro ⟨h8, h9⟩; exact Bool.noConfusion (Eq.trans (c := false) h9.symm (by assumption))) | (simp only [Int32.lt_iff_toInt_lt, Int32.le_iff_toInt_le, i32_0, i32_1, i32_2, i32_3, i32_4, i32_9, i32_10, i32_99, i32_100, i32_1000, i32_9999] at *; omega))])); (try rfl))
      have hP := Eq.mp (congrArg (fun z9 => va_P D vwCl (bMO k q z9 ea fa ch tn he en ln sv wr dg ++ bI83 k (q 1) v) H) e_6) hP
      have hD := Eq.mp (congrArg (fun z9 => va_D A (bMO k q z9 ea fa ch tn he en ln sv wr dg ++ bI83 k (q 1) v)) e_6) hD
      exact W.iret (v := v ((51 + (2 * ((nl - 1) - j))) + w9)) hx hb hr (fun t9 ht hW => ⟨⟨_, (), rfl, (by (try simp only [clj]); (repeat (first | rw [if_pos (by first | assumption | exact Eq.trans (b := false) (by assumption) (Eq.symm (by assumption)) | exact Eq.trans (b := true) (by assumption) (Eq.symm (by assumption)) | exact ⟨by assumption, by assumption⟩ | exact Or.inl (by assumption) | exact Or.inr (by assumption) | exact Or.inr (Or.inl (by assumption)) | exact Or.inr (Or.inr (by assumption)) | (simp only [Int32.lt_iff_toInt_lt, Int32.le_iff_toInt_le, i32_0, i32_1, i32_2, i32_3, i32_4, i32_9, i32_10, i32_99, i32_100, i32_1000, i32_9999] at *; omega))] | rw [if_neg (by first | assumption | (rintro (h9 | h9 | h9) <;> contradiction) | (rintro (h9 | h9) <;> contradiction) | (intro h9; exact Bool.noConfusion (Eq.trans (c := false) h9.symm (by assumption))) | (rintro ⟨h8, h9⟩; exact Bool.noConfusion (Eq.trans (c := false) h8.symm (by assumption))) | (rintro ⟨h8, h9⟩; exact Bool.noConfusion (Eq.trans (c := false) h9.symm (by assumption))) | (simp only [Int32.lt_iff_toInt_lt, Int32.le_iff_toInt_le, i32_0, i32_1, i32_2, i32_3, i32_4, i32_9, i32_10, i32_99, i32_100, i32_1000, i32_9999] at *; omega))])); (try rfl)), ⟨by rw [ht]; exact hP, va_K.moved hW.alike hK, hD⟩⟩, hS.F ht⟩) hS.2.2 dX13_logged_58 hlocks

set_option maxHeartbeats 4000000 in
set_option maxRecDepth 100000 in
theorem m_X13_logShift (l9 : Launch) (D : va_G) (k : Nat → ClassId) (sz : Nat) (q : Nat → Nat) (th ea fa : Int32) (ch tn he en ln : Nat) (sv wr dg : Bool) (v : Nat → Int32) (nl : Nat) (x : Int32) (hnl : nl ≤ 16) (hv4 : v 4 = nI nl) : Met l9 yX13_logShift wsX13_logShift ({ frames := 2, cells := 0, slots := 0, locals := 44 }) (WPc D k [.ref (q 0), .int x] (bMO k q th ea fa ch tn he en ln sv wr dg ++ bI83 k (q 1) v) sz) (WI D k (bMO k q (if inC nl x = true then 0 else 1) ea fa ch tn he en ln sv wr dg ++ bI83 k (q 1) v) (if inC nl x = true then v (51 + 2 * (nl - 1 - x.toNatClampNeg) + 0) else 0) (va_A (bMO k q th ea fa ch tn he en ln sv wr dg ++ bI83 k (q 1) v) sz)) 0 0 (va_A (bMO k q th ea fa ch tn he en ln sv wr dg ++ bI83 k (q 1) v) sz) := by
  refine wMet (y := yX13_logShift) (cc := cX13_logShift) (maxL := 2) (ret := (some .int)) (Qc := fun A => WI D k (bMO k q (if inC nl x = true then 0 else 1) ea fa ch tn he en ln sv wr dg ++ bI83 k (q 1) v) (if inC nl x = true then v (51 + 2 * (nl - 1 - x.toNatClampNeg) + 0) else 0) A) [.ref (q 0), .int x] (by decide) rfl (Nat.le_of_ble_eq_true rfl) ?_
  intro p9 e9 s9 m9 bl9 me9 c9 ls A H hF hr hlocks hP hK hN hD hA hS hl hin
  have hl : lv_has ls 2 [(0, .ref (q 0)), (1, .int x)] := hl
  obtain ⟨hx, hb, hml, hown, hts⟩ := id hF
  refine lv_aload_n hx hb dX13_logShift_0 rfl (lv_at hl 0 rfl) ?_
  refine lv_iload_n hx hb dX13_logShift_1 rfl (lv_at hl 1 rfl) ?_
  refine lv_iconst (v := 0) hx hb dX13_logShift_2 (by decide) ?_
  have hFc := va_free (wc := bMO k q th ea fa ch tn he en ln sv wr dg ++ bI83 k (q 1) v) hD hS hA [0, 1] rfl
  refine va_calli (va_runV (As := [.int x, .int 0]) (rest := []) hF (m_X13_logged l9 D k H.size q th ea fa ch tn he en ln sv wr dg v nl x 0 hnl hv4 (by omega)) (cwV 2 hts gX13_logShift_X13_logged rfl rfl rfl (by decide +kernel) ⟨Nat.le_of_ble_eq_true rfl, Nat.le_of_ble_eq_true rfl⟩) (wPreV hK hN hP hD [0, 1] rfl (by decide) rfl 0 11 rfl rfl) rfl rfl hl.1 rfl (lv_room (Nat.le_of_ble_eq_true rfl)) dX13_logShift_3 ⟨Nat.zero_le _, Nat.zero_le _⟩) hS (fun q _ h => hFc q h) hFc (fun r u9 t9 H1 locs ht hvm hw hB hz1 hk1 hS => ?_)
  obtain ⟨hP, hD⟩ := wjoin (wr := []) (wf := bMO k q (if inC nl x = true then 0 else 1) ea fa ch tn he en ln sv wr dg ++ bI83 k (q 1) v) hP hD [0, 1] [] [0, 1] rfl rfl (by decide) (by decide) hk1 hFc hB ht rfl rfl (by decide)
  subst hw
  clear hB hk1 hz1 hvm hFc
  clear ht
  clear t9
  generalize H1 = H at hP hS ⊢
  exact W.iret (v := if inC nl x = true then v (51 + 2 * (nl - 1 - x.toNatClampNeg) + 0) else 0) hx hb hr (fun t9 ht hW => ⟨⟨_, (), rfl, (by rfl), ⟨by rw [ht]; exact hP, va_K.moved hW.alike hK, hD⟩⟩, hS.F ht⟩) hS.2.2 dX13_logShift_6 hlocks

set_option maxHeartbeats 4000000 in
set_option maxRecDepth 100000 in
theorem m_X13_logKind (l9 : Launch) (D : va_G) (k : Nat → ClassId) (sz : Nat) (q : Nat → Nat) (th ea fa : Int32) (ch tn he en ln : Nat) (sv wr dg : Bool) (v : Nat → Int32) (nl : Nat) (x : Int32) (hnl : nl ≤ 16) (hv4 : v 4 = nI nl) : Met l9 yX13_logKind wsX13_logKind ({ frames := 2, cells := 0, slots := 0, locals := 44 }) (WPc D k [.ref (q 0), .int x] (bMO k q th ea fa ch tn he en ln sv wr dg ++ bI83 k (q 1) v) sz) (WI D k (bMO k q (if inC nl x = true then 0 else 1) ea fa ch tn he en ln sv wr dg ++ bI83 k (q 1) v) ((Int32.toUInt32 (if inC nl x = true then v (51 + 2 * (nl - 1 - x.toNatClampNeg) + 1) else 0) % 65536).toInt32) (va_A (bMO k q th ea fa ch tn he en ln sv wr dg ++ bI83 k (q 1) v) sz)) 0 0 (va_A (bMO k q th ea fa ch tn he en ln sv wr dg ++ bI83 k (q 1) v) sz) := by
  refine wMet (y := yX13_logKind) (cc := cX13_logKind) (maxL := 2) (ret := (some .char)) (Qc := fun A => WI D k (bMO k q (if inC nl x = true then 0 else 1) ea fa ch tn he en ln sv wr dg ++ bI83 k (q 1) v) ((Int32.toUInt32 (if inC nl x = true then v (51 + 2 * (nl - 1 - x.toNatClampNeg) + 1) else 0) % 65536).toInt32) A) [.ref (q 0), .int x] (by decide) rfl (Nat.le_of_ble_eq_true rfl) ?_
  intro p9 e9 s9 m9 bl9 me9 c9 ls A H hF hr hlocks hP hK hN hD hA hS hl hin
  have hl : lv_has ls 2 [(0, .ref (q 0)), (1, .int x)] := hl
  obtain ⟨hx, hb, hml, hown, hts⟩ := id hF
  refine lv_aload_n hx hb dX13_logKind_0 rfl (lv_at hl 0 rfl) ?_
  refine lv_iload_n hx hb dX13_logKind_1 rfl (lv_at hl 1 rfl) ?_
  refine lv_iconst (v := 1) hx hb dX13_logKind_2 (by decide) ?_
  have hFc := va_free (wc := bMO k q th ea fa ch tn he en ln sv wr dg ++ bI83 k (q 1) v) hD hS hA [0, 1] rfl
  refine va_calli (va_runV (As := [.int x, .int 1]) (rest := []) hF (m_X13_logged l9 D k H.size q th ea fa ch tn he en ln sv wr dg v nl x 1 hnl hv4 (by omega)) (cwV 2 hts gX13_logKind_X13_logged rfl rfl rfl (by decide +kernel) ⟨Nat.le_of_ble_eq_true rfl, Nat.le_of_ble_eq_true rfl⟩) (wPreV hK hN hP hD [0, 1] rfl (by decide) rfl 0 11 rfl rfl) rfl rfl hl.1 rfl (lv_room (Nat.le_of_ble_eq_true rfl)) dX13_logKind_3 ⟨Nat.zero_le _, Nat.zero_le _⟩) hS (fun q _ h => hFc q h) hFc (fun r u9 t9 H1 locs ht hvm hw hB hz1 hk1 hS => ?_)
  obtain ⟨hP, hD⟩ := wjoin (wr := []) (wf := bMO k q (if inC nl x = true then 0 else 1) ea fa ch tn he en ln sv wr dg ++ bI83 k (q 1) v) hP hD [0, 1] [] [0, 1] rfl rfl (by decide) (by decide) hk1 hFc hB ht rfl rfl (by decide)
  subst hw
  clear hB hk1 hz1 hvm hFc
  clear ht
  clear t9
  generalize H1 = H at hP hS ⊢
  refine lv_i2c hx hb dX13_logKind_6 rfl ?_
  exact W.zret (v := ((if inC nl x = true then v (51 + 2 * (nl - 1 - x.toNatClampNeg) + 1) else 0).toUInt32 % 65536).toInt32) hx hb hr (pk_nc _) (fun t9 ht hW => ⟨⟨_, (), rfl, (by rfl), ⟨by rw [ht]; exact hP, va_K.moved hW.alike hK, hD⟩⟩, hS.F ht⟩) hS.2.2 dX13_logKind_7 hlocks

set_option maxHeartbeats 4000000 in
set_option maxRecDepth 100000 in
theorem m_X13_append (l9 : Launch) (D : va_G) (k : Nat → ClassId) (sz : Nat) (q : Nat → Nat) (th ea fa : Int32) (ch tn he en ln : Nat) (sv wr dg : Bool) (tx : Nat → Int32) (x : Int32) (htn : tn ≤ 60) : Met l9 yX13_append wsX13_append ({ frames := 1, cells := 0, slots := 0, locals := 22 }) (WPc D k [.ref (q 0), .int x] (bMO k q th ea fa ch tn he en ln sv wr dg ++ bI60 k (q 14) tx) sz) (WI D k (bMO k q (if rg 32 x 126 = true then (if tn = 60 then 2 else 0) else 1) ea fa ch (if rg 32 x 126 = true then (if tn = 60 then tn else tn + 1) else tn) he en ln sv wr dg ++ bI60 k (q 14) (if rg 32 x 126 = true then (if tn = 60 then tx else upd tx tn x) else tx)) (if rg 32 x 126 = true then (if tn = 60 then 0 else nI (tn + 1)) else 0) (va_A (bMO k q th ea fa ch tn he en ln sv wr dg ++ bI60 k (q 14) tx) sz)) 0 0 (va_A (bMO k q th ea fa ch tn he en ln sv wr dg ++ bI60 k (q 14) tx) sz) := by
  refine wMet (y := yX13_append) (cc := cX13_append) (maxL := 2) (ret := (some .int)) (Qc := fun A => WI D k (bMO k q (if rg 32 x 126 = true then (if tn = 60 then 2 else 0) else 1) ea fa ch (if rg 32 x 126 = true then (if tn = 60 then tn else tn + 1) else tn) he en ln sv wr dg ++ bI60 k (q 14) (if rg 32 x 126 = true then (if tn = 60 then tx else upd tx tn x) else tx)) (if rg 32 x 126 = true then (if tn = 60 then 0 else nI (tn + 1)) else 0) A) [.ref (q 0), .int x] (by decide) rfl (Nat.le_of_ble_eq_true rfl) ?_
  intro p9 e9 s9 m9 bl9 me9 c9 ls A H hF hr hlocks hP hK hN hD hA hS hl hin
  have hl : lv_has ls 2 [(0, .ref (q 0)), (1, .int x)] := hl
  obtain ⟨hx, hb, hml, hown, hts⟩ := id hF
  have k_fieldLink_229 : (Cond.fieldLink RX13 229 "OpinionReactorModel" "textN" "I").before _ s9 = true := hts (.fieldLink RX13 229 "OpinionReactorModel" "textN" "I") (by decide +kernel)
  have kc_RX13 : ∀ w ∈ u_ws RX13 TX13 29, w ∈ wsX13_append := by decide +kernel
  have k_fieldLink_77 : (Cond.fieldLink RX13 77 "OpinionReactorModel" "thrown" "I").before _ s9 = true := hts (.fieldLink RX13 77 "OpinionReactorModel" "thrown" "I") (by decide +kernel)
  have k_fieldLink_58 : (Cond.fieldLink RX13 58 "OpinionReactorModel" "text" "[I").before _ s9 = true := hts (.fieldLink RX13 58 "OpinionReactorModel" "text" "[I") (by decide +kernel)
  refine lv_aload_n hx hb dX13_append_0 rfl (lv_at hl 0 rfl) ?_
  refine lv_iload_n hx hb dX13_append_1 rfl (lv_at hl 1 rfl) ?_
  refine lv_bipush (v := 32) hx hb dX13_append_2 (by decide) ?_
  refine lv_bipush (v := 126) hx hb dX13_append_4 (by decide) ?_
  refine vp_callSi (W.runS (As := [.int x, .int 32, .int 126]) (rest := [.ref (q 0)]) hF (m_X13_isIn l9 D k x 32 126 ) (va_cwS 3 hts gX13_append_X13_isIn rfl rfl rfl (by decide +kernel) ⟨Nat.le_of_ble_eq_true rfl, Nat.le_of_ble_eq_true rfl⟩) (rPreS hK hN hP [] rfl) rfl rfl hl.1 rfl (lv_room (Nat.le_of_ble_eq_true rfl)) dX13_append_6 ⟨Nat.zero_le _, Nat.zero_le _⟩) (fun r_1 hr_1 => ?_)
  subst hr_1
  refine lv_if_ne (tgt := 16) hx hb dX13_append_9 (by decide) (fun c_2 => ?_) (fun c_2 => ?_)
  · skip
    have c_2 : (rg 32 x 126) = true := bI_1 c_2
    refine lv_aload_n hx hb dX13_append_16 rfl (lv_at hl 0 rfl) ?_
    refine va_get (D := D) (ci := 11) (v := .int (nI tn)) (C := RX13) (T := TX13) (N := 29) hx hb hts kc_RX13 hown hK hP 0 rfl rfl 23 (by decide) k_fieldLink_229 (fun _ h9 => h9) rfl dX13_append_17 ?_
    refine lv_bipush (v := 60) hx hb dX13_append_20 (by decide) ?_
    refine lv_icmp_ne (tgt := 29) hx hb dX13_append_22 (by decide) (fun c_3 => ?_) (fun c_3 => ?_)
    · skip
      have c_3 : ¬ tn = 60 := fun h => c_3 ((nI_eq (a := tn) (b := 60) (by omega) (by omega)).mpr h)
      refine lv_iconst (v := 0) hx hb dX13_append_29 (by decide) ?_
      refine va_put (D := D) (ci := 11) (v := .int 0) (ty := .int) (C := RX13) (T := TX13) (N := 29) hx hb hts kc_RX13 tyX13 tyX13_ok nmX13 hown hK hP hD hS 0 rfl rfl 0 (by decide) k_fieldLink_77 (fun _ h9 => h9) rfl (by decide +kernel) rfl rfl (Nat.le_of_ble_eq_true rfl) dX13_append_30 (fun H locs hP hD hS => ?_)
      have hP : va_P D vwCl (bMO k q 0 ea fa ch tn he en ln sv wr dg ++ bI60 k (q 14) tx) H := hP
      have hD : va_D A (bMO k q 0 ea fa ch tn he en ln sv wr dg ++ bI60 k (q 14) tx) := hD
      refine lv_aload_n hx hb dX13_append_33 rfl (lv_at hl 0 rfl) ?_
      refine va_get (D := D) (ci := 11) (v := .int 0) (C := RX13) (T := TX13) (N := 29) hx hb hts kc_RX13 hown hK hP 0 rfl rfl 0 (by decide) k_fieldLink_77 (fun _ h9 => h9) rfl dX13_append_34 ?_
      refine lv_if_eq (tgt := 42) hx hb dX13_append_37 (by decide) (fun c_4 => ?_) (fun c_4 => ?_)
      · skip
        refine lv_aload_n hx hb dX13_append_42 rfl (lv_at hl 0 rfl) ?_
        refine va_get (D := D) (ci := 11) (v := .ref (q 14)) (C := RX13) (T := TX13) (N := 29) hx hb hts kc_RX13 hown hK hP 0 rfl rfl 18 (by decide) k_fieldLink_58 (fun _ h9 => h9) rfl dX13_append_43 ?_
        refine lv_aload_n hx hb dX13_append_46 rfl (lv_at hl 0 rfl) ?_
        refine va_get (D := D) (ci := 11) (v := .int (nI tn)) (C := RX13) (T := TX13) (N := 29) hx hb hts kc_RX13 hown hK hP 0 rfl rfl 23 (by decide) k_fieldLink_229 (fun _ h9 => h9) rfl dX13_append_47 ?_
        refine lv_iload_n hx hb dX13_append_50 rfl (lv_at hl 1 rfl) ?_
        refine ia_st hx hb hK hP hD hS 1 rfl tn (by omega) (by decide) (bMO k q 0 ea fa ch tn he en ln sv wr dg ++ bI60 k (q 14) (upd tx tn x)) rfl dX13_append_51 (fun H locs hP hD hS => ?_)
        refine lv_aload_n hx hb dX13_append_52 rfl (lv_at hl 0 rfl) ?_
        refine lv_dup hx hb dX13_append_53 rfl ?_
        refine va_get (D := D) (ci := 11) (v := .int (nI tn)) (C := RX13) (T := TX13) (N := 29) hx hb hts kc_RX13 hown hK hP 0 rfl rfl 23 (by decide) k_fieldLink_229 (fun _ h9 => h9) rfl dX13_append_54 ?_
        refine lv_iconst (v := 1) hx hb dX13_append_57 (by decide) ?_
        refine ni_add hx hb tn 1 dX13_append_58 ?_
        refine va_put (D := D) (ci := 11) (v := .int (nI (tn + 1))) (ty := .int) (C := RX13) (T := TX13) (N := 29) hx hb hts kc_RX13 tyX13 tyX13_ok nmX13 hown hK hP hD hS 0 rfl rfl 23 (by decide) k_fieldLink_229 (fun _ h9 => h9) rfl (by decide +kernel) rfl rfl (Nat.le_of_ble_eq_true rfl) dX13_append_59 (fun H locs hP hD hS => ?_)
        have hP : va_P D vwCl (bMO k q 0 ea fa ch (tn + 1) he en ln sv wr dg ++ bI60 k (q 14) (upd tx tn x)) H := hP
        have hD : va_D A (bMO k q 0 ea fa ch (tn + 1) he en ln sv wr dg ++ bI60 k (q 14) (upd tx tn x)) := hD
        refine lv_aload_n hx hb dX13_append_62 rfl (lv_at hl 0 rfl) ?_
        refine va_get (D := D) (ci := 11) (v := .int (nI (tn + 1))) (C := RX13) (T := TX13) (N := 29) hx hb hts kc_RX13 hown hK hP 0 rfl rfl 23 (by decide) k_fieldLink_229 (fun _ h9 => h9) rfl dX13_append_63 ?_
        have e_5 : (0 : Int32) = if rg 32 x 126 = true then (if tn = 60 then 2 else 0) else 1 := by first | (with_reducible rfl) | ((try simp only []); (repeat (first | rw [if_pos (by first | assumption | exact Eq.trans (b := false) (by assumption) (Eq.symm (by assumption)) | exact Eq.trans (b := true) (by assumption) (Eq.symm (by assumption)) | exact ⟨by assumption, by assumption⟩ | exact Or.inl (by assumption) | exact Or.inr (by assumption) | exact Or.inr (Or.inl (by assumption)) | exact Or.inr (Or.inr (by assumption)) | (simp only [Int32.lt_iff_toInt_lt, Int32.le_iff_toInt_le, i32_0, i32_1, i32_2, i32_3, i32_4, i32_9, i32_10, i32_99, i32_100, i32_1000, i32_9999] at *; omega))] | rw [if_neg (by first | assumption | (rintro (h9 | h9 | h9) <;> contradiction) | (rintro (h9 | h9) <;> contradiction) | (intro h9; exact Bool.noConfusion (Eq.trans (c := false) h9.symm (by assumption))) | (rintro ⟨h8, h9⟩; exact Bool.noConfusion (Eq.trans (c := false) h8.symm (by assumption))) | (rintro ⟨h8, h9⟩; exact Bool.noConfusion (Eq.trans (c := false) h9.symm (by assumption))) | (simp only [Int32.lt_iff_toInt_lt, Int32.le_iff_toInt_le, i32_0, i32_1, i32_2, i32_3, i32_4, i32_9, i32_10, i32_99, i32_100, i32_1000, i32_9999] at *; omega))])); (try rfl))
        have hP := Eq.mp (congrArg (fun z9 => va_P D vwCl (bMO k q z9 ea fa ch (tn + 1) he en ln sv wr dg ++ bI60 k (q 14) (upd tx tn x)) H) e_5) hP
        have hD := Eq.mp (congrArg (fun z9 => va_D A (bMO k q z9 ea fa ch (tn + 1) he en ln sv wr dg ++ bI60 k (q 14) (upd tx tn x))) e_5) hD
        have e_6 : (tn + 1 : Nat) = if rg 32 x 126 = true then (if tn = 60 then tn else tn + 1) else tn := by first | (with_reducible rfl) | ((try simp only []); (repeat (first | rw [if_pos (by first | assumption | exact Eq.trans (b := false) (by assumption) (Eq.symm (by assumption)) | exact Eq.trans (b := true) (by assumption) (Eq.symm (by assumption)) | exact ⟨by assumption, by assumption⟩ | exact Or.inl (by assumption) | exact Or.inr (by assumption) | exact Or.inr (Or.inl (by assumption)) | exact Or.inr (Or.inr (by assumption)) | (simp only [Int32.lt_iff_toInt_lt, Int32.le_iff_toInt_le, i32_0, i32_1, i32_2, i32_3, i32_4, i32_9, i32_10, i32_99, i32_100, i32_1000, i32_9999] at *; omega))] | rw [if_neg (by first | assumption | (rintro (h9 | h9 | h9) <;> contradiction) | (rintro (h9 | h9) <;> contradiction) | (intro h9; exact Bool.noConfusion (Eq.trans (c := false) h9.symm (by assumption))) | (rintro ⟨h8, h9⟩; exact Bool.noConfusion (Eq.trans (c := false) h8.symm (by assumption))) | (rintro ⟨h8, h9⟩; exact Bool.noConfusion (Eq.trans (c := false) h9.symm (by assumption))) | (simp only [Int32.lt_iff_toInt_lt, Int32.le_iff_toInt_le, i32_0, i32_1, i32_2, i32_3, i32_4, i32_9, i32_10, i32_99, i32_100, i32_1000, i32_9999] at *; omega))])); (try rfl))
        have hP := Eq.mp (congrArg (fun z9 => va_P D vwCl (bMO k q (if rg 32 x 126 = true then (if tn = 60 then 2 else 0) else 1) ea fa ch z9 he en ln sv wr dg ++ bI60 k (q 14) (upd tx tn x)) H) e_6) hP
        have hD := Eq.mp (congrArg (fun z9 => va_D A (bMO k q (if rg 32 x 126 = true then (if tn = 60 then 2 else 0) else 1) ea fa ch z9 he en ln sv wr dg ++ bI60 k (q 14) (upd tx tn x))) e_6) hD
        have e_7 : (upd tx tn x : Nat → Int32) = if rg 32 x 126 = true then (if tn = 60 then tx else upd tx tn x) else tx := by first | (with_reducible rfl) | ((try simp only []); (repeat (first | rw [if_pos (by first | assumption | exact Eq.trans (b := false) (by assumption) (Eq.symm (by assumption)) | exact Eq.trans (b := true) (by assumption) (Eq.symm (by assumption)) | exact ⟨by assumption, by assumption⟩ | exact Or.inl (by assumption) | exact Or.inr (by assumption) | exact Or.inr (Or.inl (by assumption)) | exact Or.inr (Or.inr (by assumption)) | (simp only [Int32.lt_iff_toInt_lt, Int32.le_iff_toInt_le, i32_0, i32_1, i32_2, i32_3, i32_4, i32_9, i32_10, i32_99, i32_100, i32_1000, i32_9999] at *; omega))] | rw [if_neg (by first | assumption | (rintro (h9 | h9 | h9) <;> contradiction) | (rintro (h9 | h9) <;> contradiction) | (intro h9; exact Bool.noConfusion (Eq.trans (c := false) h9.symm (by assumption))) | (rintro ⟨h8, h9⟩; exact Bool.noConfusion (Eq.trans (c := false) h8.symm (by assumption))) | (rintro ⟨h8, h9⟩; exact Bool.noConfusion (Eq.trans (c := false) h9.symm (by assumption))) | (simp only [Int32.lt_iff_toInt_lt, Int32.le_iff_toInt_le, i32_0, i32_1, i32_2, i32_3, i32_4, i32_9, i32_10, i32_99, i32_100, i32_1000, i32_9999] at *; omega))])); (try rfl))
        have hP := Eq.mp (congrArg (fun z9 => va_P D vwCl (bMO k q (if rg 32 x 126 = true then (if tn = 60 then 2 else 0) else 1) ea fa ch (if rg 32 x 126 = true then (if tn = 60 then tn else tn + 1) else tn) he en ln sv wr dg ++ bI60 k (q 14) z9) H) e_7) hP
        have hD := Eq.mp (congrArg (fun z9 => va_D A (bMO k q (if rg 32 x 126 = true then (if tn = 60 then 2 else 0) else 1) ea fa ch (if rg 32 x 126 = true then (if tn = 60 then tn else tn + 1) else tn) he en ln sv wr dg ++ bI60 k (q 14) z9)) e_7) hD
        exact W.iret (v := nI (tn + 1)) hx hb hr (fun t9 ht hW => ⟨⟨_, (), rfl, (by (try simp only []); (repeat (first | rw [if_pos (by first | assumption | exact Eq.trans (b := false) (by assumption) (Eq.symm (by assumption)) | exact Eq.trans (b := true) (by assumption) (Eq.symm (by assumption)) | exact ⟨by assumption, by assumption⟩ | exact Or.inl (by assumption) | exact Or.inr (by assumption) | exact Or.inr (Or.inl (by assumption)) | exact Or.inr (Or.inr (by assumption)) | (simp only [Int32.lt_iff_toInt_lt, Int32.le_iff_toInt_le, i32_0, i32_1, i32_2, i32_3, i32_4, i32_9, i32_10, i32_99, i32_100, i32_1000, i32_9999] at *; omega))] | rw [if_neg (by first | assumption | (rintro (h9 | h9 | h9) <;> contradiction) | (rintro (h9 | h9) <;> contradiction) | (intro h9; exact Bool.noConfusion (Eq.trans (c := false) h9.symm (by assumption))) | (rintro ⟨h8, h9⟩; exact Bool.noConfusion (Eq.trans (c := false) h8.symm (by assumption))) | (rintro ⟨h8, h9⟩; exact Bool.noConfusion (Eq.trans (c := false) h9.symm (by assumption))) | (simp only [Int32.lt_iff_toInt_lt, Int32.le_iff_toInt_le, i32_0, i32_1, i32_2, i32_3, i32_4, i32_9, i32_10, i32_99, i32_100, i32_1000, i32_9999] at *; omega))])); (try rfl)), ⟨by rw [ht]; exact hP, va_K.moved hW.alike hK, hD⟩⟩, hS.F ht⟩) hS.2.2 dX13_append_66 hlocks
      · first | exact absurd c_4 (by decide) | exact absurd (by decide) c_4
    · skip
      have c_3 : tn = 60 := (nI_eq (a := tn) (b := 60) (by omega) (by omega)).mp c_3
      refine lv_iconst (v := 2) hx hb dX13_append_25 (by decide) ?_
      refine lv_goto (tgt := 30) hx hb dX13_append_26 (by decide) ?_
      refine va_put (D := D) (ci := 11) (v := .int 2) (ty := .int) (C := RX13) (T := TX13) (N := 29) hx hb hts kc_RX13 tyX13 tyX13_ok nmX13 hown hK hP hD hS 0 rfl rfl 0 (by decide) k_fieldLink_77 (fun _ h9 => h9) rfl (by decide +kernel) rfl rfl (Nat.le_of_ble_eq_true rfl) dX13_append_30 (fun H locs hP hD hS => ?_)
      have hP : va_P D vwCl (bMO k q 2 ea fa ch tn he en ln sv wr dg ++ bI60 k (q 14) tx) H := hP
      have hD : va_D A (bMO k q 2 ea fa ch tn he en ln sv wr dg ++ bI60 k (q 14) tx) := hD
      refine lv_aload_n hx hb dX13_append_33 rfl (lv_at hl 0 rfl) ?_
      refine va_get (D := D) (ci := 11) (v := .int 2) (C := RX13) (T := TX13) (N := 29) hx hb hts kc_RX13 hown hK hP 0 rfl rfl 0 (by decide) k_fieldLink_77 (fun _ h9 => h9) rfl dX13_append_34 ?_
      refine lv_if_eq (tgt := 42) hx hb dX13_append_37 (by decide) (fun c_8 => ?_) (fun c_8 => ?_)
      · first | exact absurd c_8 (by decide) | exact absurd (by decide) c_8
      · skip
        refine lv_iconst (v := 0) hx hb dX13_append_40 (by decide) ?_
        have e_9 : (2 : Int32) = if rg 32 x 126 = true then (if tn = 60 then 2 else 0) else 1 := by first | (with_reducible rfl) | ((try simp only []); (repeat (first | rw [if_pos (by first | assumption | exact Eq.trans (b := false) (by assumption) (Eq.symm (by assumption)) | exact Eq.trans (b := true) (by assumption) (Eq.symm (by assumption)) | exact ⟨by assumption, by assumption⟩ | exact Or.inl (by assumption) | exact Or.inr (by assumption) | exact Or.inr (Or.inl (by assumption)) | exact Or.inr (Or.inr (by assumption)) | (simp only [Int32.lt_iff_toInt_lt, Int32.le_iff_toInt_le, i32_0, i32_1, i32_2, i32_3, i32_4, i32_9, i32_10, i32_99, i32_100, i32_1000, i32_9999] at *; omega))] | rw [if_neg (by first | assumption | (rintro (h9 | h9 | h9) <;> contradiction) | (rintro (h9 | h9) <;> contradiction) | (intro h9; exact Bool.noConfusion (Eq.trans (c := false) h9.symm (by assumption))) | (rintro ⟨h8, h9⟩; exact Bool.noConfusion (Eq.trans (c := false) h8.symm (by assumption))) | (rintro ⟨h8, h9⟩; exact Bool.noConfusion (Eq.trans (c := false) h9.symm (by assumption))) | (simp only [Int32.lt_iff_toInt_lt, Int32.le_iff_toInt_le, i32_0, i32_1, i32_2, i32_3, i32_4, i32_9, i32_10, i32_99, i32_100, i32_1000, i32_9999] at *; omega))])); (try rfl))
        have hP := Eq.mp (congrArg (fun z9 => va_P D vwCl (bMO k q z9 ea fa ch tn he en ln sv wr dg ++ bI60 k (q 14) tx) H) e_9) hP
        have hD := Eq.mp (congrArg (fun z9 => va_D A (bMO k q z9 ea fa ch tn he en ln sv wr dg ++ bI60 k (q 14) tx)) e_9) hD
        have e_10 : (tn : Nat) = if rg 32 x 126 = true then (if tn = 60 then tn else tn + 1) else tn := by first | (with_reducible rfl) | ((try simp only []); (repeat (first | rw [if_pos (by first | assumption | exact Eq.trans (b := false) (by assumption) (Eq.symm (by assumption)) | exact Eq.trans (b := true) (by assumption) (Eq.symm (by assumption)) | exact ⟨by assumption, by assumption⟩ | exact Or.inl (by assumption) | exact Or.inr (by assumption) | exact Or.inr (Or.inl (by assumption)) | exact Or.inr (Or.inr (by assumption)) | (simp only [Int32.lt_iff_toInt_lt, Int32.le_iff_toInt_le, i32_0, i32_1, i32_2, i32_3, i32_4, i32_9, i32_10, i32_99, i32_100, i32_1000, i32_9999] at *; omega))] | rw [if_neg (by first | assumption | (rintro (h9 | h9 | h9) <;> contradiction) | (rintro (h9 | h9) <;> contradiction) | (intro h9; exact Bool.noConfusion (Eq.trans (c := false) h9.symm (by assumption))) | (rintro ⟨h8, h9⟩; exact Bool.noConfusion (Eq.trans (c := false) h8.symm (by assumption))) | (rintro ⟨h8, h9⟩; exact Bool.noConfusion (Eq.trans (c := false) h9.symm (by assumption))) | (simp only [Int32.lt_iff_toInt_lt, Int32.le_iff_toInt_le, i32_0, i32_1, i32_2, i32_3, i32_4, i32_9, i32_10, i32_99, i32_100, i32_1000, i32_9999] at *; omega))])); (try rfl))
        have hP := Eq.mp (congrArg (fun z9 => va_P D vwCl (bMO k q (if rg 32 x 126 = true then (if tn = 60 then 2 else 0) else 1) ea fa ch z9 he en ln sv wr dg ++ bI60 k (q 14) tx) H) e_10) hP
        have hD := Eq.mp (congrArg (fun z9 => va_D A (bMO k q (if rg 32 x 126 = true then (if tn = 60 then 2 else 0) else 1) ea fa ch z9 he en ln sv wr dg ++ bI60 k (q 14) tx)) e_10) hD
        have e_11 : (tx : Nat → Int32) = if rg 32 x 126 = true then (if tn = 60 then tx else upd tx tn x) else tx := by first | (with_reducible rfl) | ((try simp only []); (repeat (first | rw [if_pos (by first | assumption | exact Eq.trans (b := false) (by assumption) (Eq.symm (by assumption)) | exact Eq.trans (b := true) (by assumption) (Eq.symm (by assumption)) | exact ⟨by assumption, by assumption⟩ | exact Or.inl (by assumption) | exact Or.inr (by assumption) | exact Or.inr (Or.inl (by assumption)) | exact Or.inr (Or.inr (by assumption)) | (simp only [Int32.lt_iff_toInt_lt, Int32.le_iff_toInt_le, i32_0, i32_1, i32_2, i32_3, i32_4, i32_9, i32_10, i32_99, i32_100, i32_1000, i32_9999] at *; omega))] | rw [if_neg (by first | assumption | (rintro (h9 | h9 | h9) <;> contradiction) | (rintro (h9 | h9) <;> contradiction) | (intro h9; exact Bool.noConfusion (Eq.trans (c := false) h9.symm (by assumption))) | (rintro ⟨h8, h9⟩; exact Bool.noConfusion (Eq.trans (c := false) h8.symm (by assumption))) | (rintro ⟨h8, h9⟩; exact Bool.noConfusion (Eq.trans (c := false) h9.symm (by assumption))) | (simp only [Int32.lt_iff_toInt_lt, Int32.le_iff_toInt_le, i32_0, i32_1, i32_2, i32_3, i32_4, i32_9, i32_10, i32_99, i32_100, i32_1000, i32_9999] at *; omega))])); (try rfl))
        have hP := Eq.mp (congrArg (fun z9 => va_P D vwCl (bMO k q (if rg 32 x 126 = true then (if tn = 60 then 2 else 0) else 1) ea fa ch (if rg 32 x 126 = true then (if tn = 60 then tn else tn + 1) else tn) he en ln sv wr dg ++ bI60 k (q 14) z9) H) e_11) hP
        have hD := Eq.mp (congrArg (fun z9 => va_D A (bMO k q (if rg 32 x 126 = true then (if tn = 60 then 2 else 0) else 1) ea fa ch (if rg 32 x 126 = true then (if tn = 60 then tn else tn + 1) else tn) he en ln sv wr dg ++ bI60 k (q 14) z9)) e_11) hD
        exact W.iret (v := 0) hx hb hr (fun t9 ht hW => ⟨⟨_, (), rfl, (by (try simp only []); (repeat (first | rw [if_pos (by first | assumption | exact Eq.trans (b := false) (by assumption) (Eq.symm (by assumption)) | exact Eq.trans (b := true) (by assumption) (Eq.symm (by assumption)) | exact ⟨by assumption, by assumption⟩ | exact Or.inl (by assumption) | exact Or.inr (by assumption) | exact Or.inr (Or.inl (by assumption)) | exact Or.inr (Or.inr (by assumption)) | (simp only [Int32.lt_iff_toInt_lt, Int32.le_iff_toInt_le, i32_0, i32_1, i32_2, i32_3, i32_4, i32_9, i32_10, i32_99, i32_100, i32_1000, i32_9999] at *; omega))] | rw [if_neg (by first | assumption | (rintro (h9 | h9 | h9) <;> contradiction) | (rintro (h9 | h9) <;> contradiction) | (intro h9; exact Bool.noConfusion (Eq.trans (c := false) h9.symm (by assumption))) | (rintro ⟨h8, h9⟩; exact Bool.noConfusion (Eq.trans (c := false) h8.symm (by assumption))) | (rintro ⟨h8, h9⟩; exact Bool.noConfusion (Eq.trans (c := false) h9.symm (by assumption))) | (simp only [Int32.lt_iff_toInt_lt, Int32.le_iff_toInt_le, i32_0, i32_1, i32_2, i32_3, i32_4, i32_9, i32_10, i32_99, i32_100, i32_1000, i32_9999] at *; omega))])); (try rfl)), ⟨by rw [ht]; exact hP, va_K.moved hW.alike hK, hD⟩⟩, hS.F ht⟩) hS.2.2 dX13_append_41 hlocks
  · skip
    have c_2 : (rg 32 x 126) = false := bI_0 c_2
    refine lv_iconst (v := 1) hx hb dX13_append_12 (by decide) ?_
    refine lv_goto (tgt := 30) hx hb dX13_append_13 (by decide) ?_
    refine va_put (D := D) (ci := 11) (v := .int 1) (ty := .int) (C := RX13) (T := TX13) (N := 29) hx hb hts kc_RX13 tyX13 tyX13_ok nmX13 hown hK hP hD hS 0 rfl rfl 0 (by decide) k_fieldLink_77 (fun _ h9 => h9) rfl (by decide +kernel) rfl rfl (Nat.le_of_ble_eq_true rfl) dX13_append_30 (fun H locs hP hD hS => ?_)
    have hP : va_P D vwCl (bMO k q 1 ea fa ch tn he en ln sv wr dg ++ bI60 k (q 14) tx) H := hP
    have hD : va_D A (bMO k q 1 ea fa ch tn he en ln sv wr dg ++ bI60 k (q 14) tx) := hD
    refine lv_aload_n hx hb dX13_append_33 rfl (lv_at hl 0 rfl) ?_
    refine va_get (D := D) (ci := 11) (v := .int 1) (C := RX13) (T := TX13) (N := 29) hx hb hts kc_RX13 hown hK hP 0 rfl rfl 0 (by decide) k_fieldLink_77 (fun _ h9 => h9) rfl dX13_append_34 ?_
    refine lv_if_eq (tgt := 42) hx hb dX13_append_37 (by decide) (fun c_12 => ?_) (fun c_12 => ?_)
    · first | exact absurd c_12 (by decide) | exact absurd (by decide) c_12
    · skip
      refine lv_iconst (v := 0) hx hb dX13_append_40 (by decide) ?_
      have e_13 : (1 : Int32) = if rg 32 x 126 = true then (if tn = 60 then 2 else 0) else 1 := by first | (with_reducible rfl) | ((try simp only []); (repeat (first | rw [if_pos (by first | assumption | exact Eq.trans (b := false) (by assumption) (Eq.symm (by assumption)) | exact Eq.trans (b := true) (by assumption) (Eq.symm (by assumption)) | exact ⟨by assumption, by assumption⟩ | exact Or.inl (by assumption) | exact Or.inr (by assumption) | exact Or.inr (Or.inl (by assumption)) | exact Or.inr (Or.inr (by assumption)) | (simp only [Int32.lt_iff_toInt_lt, Int32.le_iff_toInt_le, i32_0, i32_1, i32_2, i32_3, i32_4, i32_9, i32_10, i32_99, i32_100, i32_1000, i32_9999] at *; omega))] | rw [if_neg (by first | assumption | (rintro (h9 | h9 | h9) <;> contradiction) | (rintro (h9 | h9) <;> contradiction) | (intro h9; exact Bool.noConfusion (Eq.trans (c := false) h9.symm (by assumption))) | (rintro ⟨h8, h9⟩; exact Bool.noConfusion (Eq.trans (c := false) h8.symm (by assumption))) | (rintro ⟨h8, h9⟩; exact Bool.noConfusion (Eq.trans (c := false) h9.symm (by assumption))) | (simp only [Int32.lt_iff_toInt_lt, Int32.le_iff_toInt_le, i32_0, i32_1, i32_2, i32_3, i32_4, i32_9, i32_10, i32_99, i32_100, i32_1000, i32_9999] at *; omega))])); (try rfl))
      have hP := Eq.mp (congrArg (fun z9 => va_P D vwCl (bMO k q z9 ea fa ch tn he en ln sv wr dg ++ bI60 k (q 14) tx) H) e_13) hP
      have hD := Eq.mp (congrArg (fun z9 => va_D A (bMO k q z9 ea fa ch tn he en ln sv wr dg ++ bI60 k (q 14) tx)) e_13) hD
      have e_14 : (tn : Nat) = if rg 32 x 126 = true then (if tn = 60 then tn else tn + 1) else tn := by first | (with_reducible rfl) | ((try simp only []); (repeat (first | rw [if_pos (by first | assumption | exact Eq.trans (b := false) (by assumption) (Eq.symm (by assumption)) | exact Eq.trans (b := true) (by assumption) (Eq.symm (by assumption)) | exact ⟨by assumption, by assumption⟩ | exact Or.inl (by assumption) | exact Or.inr (by assumption) | exact Or.inr (Or.inl (by assumption)) | exact Or.inr (Or.inr (by assumption)) | (simp only [Int32.lt_iff_toInt_lt, Int32.le_iff_toInt_le, i32_0, i32_1, i32_2, i32_3, i32_4, i32_9, i32_10, i32_99, i32_100, i32_1000, i32_9999] at *; omega))] | rw [if_neg (by first | assumption | (rintro (h9 | h9 | h9) <;> contradiction) | (rintro (h9 | h9) <;> contradiction) | (intro h9; exact Bool.noConfusion (Eq.trans (c := false) h9.symm (by assumption))) | (rintro ⟨h8, h9⟩; exact Bool.noConfusion (Eq.trans (c := false) h8.symm (by assumption))) | (rintro ⟨h8, h9⟩; exact Bool.noConfusion (Eq.trans (c := false) h9.symm (by assumption))) | (simp only [Int32.lt_iff_toInt_lt, Int32.le_iff_toInt_le, i32_0, i32_1, i32_2, i32_3, i32_4, i32_9, i32_10, i32_99, i32_100, i32_1000, i32_9999] at *; omega))])); (try rfl))
      have hP := Eq.mp (congrArg (fun z9 => va_P D vwCl (bMO k q (if rg 32 x 126 = true then (if tn = 60 then 2 else 0) else 1) ea fa ch z9 he en ln sv wr dg ++ bI60 k (q 14) tx) H) e_14) hP
      have hD := Eq.mp (congrArg (fun z9 => va_D A (bMO k q (if rg 32 x 126 = true then (if tn = 60 then 2 else 0) else 1) ea fa ch z9 he en ln sv wr dg ++ bI60 k (q 14) tx)) e_14) hD
      have e_15 : (tx : Nat → Int32) = if rg 32 x 126 = true then (if tn = 60 then tx else upd tx tn x) else tx := by first | (with_reducible rfl) | ((try simp only []); (repeat (first | rw [if_pos (by first | assumption | exact Eq.trans (b := false) (by assumption) (Eq.symm (by assumption)) | exact Eq.trans (b := true) (by assumption) (Eq.symm (by assumption)) | exact ⟨by assumption, by assumption⟩ | exact Or.inl (by assumption) | exact Or.inr (by assumption) | exact Or.inr (Or.inl (by assumption)) | exact Or.inr (Or.inr (by assumption)) | (simp only [Int32.lt_iff_toInt_lt, Int32.le_iff_toInt_le, i32_0, i32_1, i32_2, i32_3, i32_4, i32_9, i32_10, i32_99, i32_100, i32_1000, i32_9999] at *; omega))] | rw [if_neg (by first | assumption | (rintro (h9 | h9 | h9) <;> contradiction) | (rintro (h9 | h9) <;> contradiction) | (intro h9; exact Bool.noConfusion (Eq.trans (c := false) h9.symm (by assumption))) | (rintro ⟨h8, h9⟩; exact Bool.noConfusion (Eq.trans (c := false) h8.symm (by assumption))) | (rintro ⟨h8, h9⟩; exact Bool.noConfusion (Eq.trans (c := false) h9.symm (by assumption))) | (simp only [Int32.lt_iff_toInt_lt, Int32.le_iff_toInt_le, i32_0, i32_1, i32_2, i32_3, i32_4, i32_9, i32_10, i32_99, i32_100, i32_1000, i32_9999] at *; omega))])); (try rfl))
      have hP := Eq.mp (congrArg (fun z9 => va_P D vwCl (bMO k q (if rg 32 x 126 = true then (if tn = 60 then 2 else 0) else 1) ea fa ch (if rg 32 x 126 = true then (if tn = 60 then tn else tn + 1) else tn) he en ln sv wr dg ++ bI60 k (q 14) z9) H) e_15) hP
      have hD := Eq.mp (congrArg (fun z9 => va_D A (bMO k q (if rg 32 x 126 = true then (if tn = 60 then 2 else 0) else 1) ea fa ch (if rg 32 x 126 = true then (if tn = 60 then tn else tn + 1) else tn) he en ln sv wr dg ++ bI60 k (q 14) z9)) e_15) hD
      exact W.iret (v := 0) hx hb hr (fun t9 ht hW => ⟨⟨_, (), rfl, (by (try simp only []); (repeat (first | rw [if_pos (by first | assumption | exact Eq.trans (b := false) (by assumption) (Eq.symm (by assumption)) | exact Eq.trans (b := true) (by assumption) (Eq.symm (by assumption)) | exact ⟨by assumption, by assumption⟩ | exact Or.inl (by assumption) | exact Or.inr (by assumption) | exact Or.inr (Or.inl (by assumption)) | exact Or.inr (Or.inr (by assumption)) | (simp only [Int32.lt_iff_toInt_lt, Int32.le_iff_toInt_le, i32_0, i32_1, i32_2, i32_3, i32_4, i32_9, i32_10, i32_99, i32_100, i32_1000, i32_9999] at *; omega))] | rw [if_neg (by first | assumption | (rintro (h9 | h9 | h9) <;> contradiction) | (rintro (h9 | h9) <;> contradiction) | (intro h9; exact Bool.noConfusion (Eq.trans (c := false) h9.symm (by assumption))) | (rintro ⟨h8, h9⟩; exact Bool.noConfusion (Eq.trans (c := false) h8.symm (by assumption))) | (rintro ⟨h8, h9⟩; exact Bool.noConfusion (Eq.trans (c := false) h9.symm (by assumption))) | (simp only [Int32.lt_iff_toInt_lt, Int32.le_iff_toInt_le, i32_0, i32_1, i32_2, i32_3, i32_4, i32_9, i32_10, i32_99, i32_100, i32_1000, i32_9999] at *; omega))])); (try rfl)), ⟨by rw [ht]; exact hP, va_K.moved hW.alike hK, hD⟩⟩, hS.F ht⟩) hS.2.2 dX13_append_41 hlocks

set_option maxHeartbeats 4000000 in
set_option maxRecDepth 100000 in
theorem m_X13_errorPosition (l9 : Launch) (D : va_G) (k : Nat → ClassId) (sz : Nat) (q : Nat → Nat) (th ea fa : Int32) (ch tn he en ln : Nat) (sv wr dg : Bool) : Met l9 yX13_errorPosition wsX13_errorPosition ({ frames := 0, cells := 0, slots := 0, locals := 0 }) (WPc D k [.ref (q 0)] (bMO k q th ea fa ch tn he en ln sv wr dg) sz) (WI D k (bMO k q (if 0 ≤ ea then 0 else 1) ea fa ch tn he en ln sv wr dg) (if 0 ≤ ea then ea else 0) (va_A (bMO k q th ea fa ch tn he en ln sv wr dg) sz)) 0 0 (va_A (bMO k q th ea fa ch tn he en ln sv wr dg) sz) := by
  refine wMet (y := yX13_errorPosition) (cc := cX13_errorPosition) (maxL := 1) (ret := (some .int)) (Qc := fun A => WI D k (bMO k q (if 0 ≤ ea then 0 else 1) ea fa ch tn he en ln sv wr dg) (if 0 ≤ ea then ea else 0) A) [.ref (q 0)] (by decide) rfl (Nat.le_of_ble_eq_true rfl) ?_
  intro p9 e9 s9 m9 bl9 me9 c9 ls A H hF hr hlocks hP hK hN hD hA hS hl hin
  have hl : lv_has ls 1 [(0, .ref (q 0))] := hl
  obtain ⟨hx, hb, hml, hown, hts⟩ := id hF
  have k_fieldLink_7 : (Cond.fieldLink RX13 7 "OpinionReactorModel" "errorAt" "I").before _ s9 = true := hts (.fieldLink RX13 7 "OpinionReactorModel" "errorAt" "I") (by decide +kernel)
  have kc_RX13 : ∀ w ∈ u_ws RX13 TX13 29, w ∈ wsX13_errorPosition := by decide +kernel
  have k_fieldLink_77 : (Cond.fieldLink RX13 77 "OpinionReactorModel" "thrown" "I").before _ s9 = true := hts (.fieldLink RX13 77 "OpinionReactorModel" "thrown" "I") (by decide +kernel)
  refine lv_aload_n hx hb dX13_errorPosition_0 rfl (lv_at hl 0 rfl) ?_
  refine lv_aload_n hx hb dX13_errorPosition_1 rfl (lv_at hl 0 rfl) ?_
  refine va_get (D := D) (ci := 11) (v := .int ea) (C := RX13) (T := TX13) (N := 29) hx hb hts kc_RX13 hown hK hP 0 rfl rfl 2 (by decide) k_fieldLink_7 (fun _ h9 => h9) rfl dX13_errorPosition_2 ?_
  refine lv_if_ge (tgt := 12) hx hb dX13_errorPosition_5 (by decide) (fun c_1 => ?_) (fun c_1 => ?_)
  · skip
    refine lv_iconst (v := 0) hx hb dX13_errorPosition_12 (by decide) ?_
    refine va_put (D := D) (ci := 11) (v := .int 0) (ty := .int) (C := RX13) (T := TX13) (N := 29) hx hb hts kc_RX13 tyX13 tyX13_ok nmX13 hown hK hP hD hS 0 rfl rfl 0 (by decide) k_fieldLink_77 (fun _ h9 => h9) rfl (by decide +kernel) rfl rfl (Nat.le_of_ble_eq_true rfl) dX13_errorPosition_13 (fun H locs hP hD hS => ?_)
    have hP : va_P D vwCl (bMO k q 0 ea fa ch tn he en ln sv wr dg) H := hP
    have hD : va_D A (bMO k q 0 ea fa ch tn he en ln sv wr dg) := hD
    refine lv_aload_n hx hb dX13_errorPosition_16 rfl (lv_at hl 0 rfl) ?_
    refine va_get (D := D) (ci := 11) (v := .int 0) (C := RX13) (T := TX13) (N := 29) hx hb hts kc_RX13 hown hK hP 0 rfl rfl 0 (by decide) k_fieldLink_77 (fun _ h9 => h9) rfl dX13_errorPosition_17 ?_
    refine lv_if_ne (tgt := 30) hx hb dX13_errorPosition_20 (by decide) (fun c_2 => ?_) (fun c_2 => ?_)
    · first | exact absurd c_2 (by decide) | exact absurd (by decide) c_2
    · skip
      refine lv_aload_n hx hb dX13_errorPosition_23 rfl (lv_at hl 0 rfl) ?_
      refine va_get (D := D) (ci := 11) (v := .int ea) (C := RX13) (T := TX13) (N := 29) hx hb hts kc_RX13 hown hK hP 0 rfl rfl 2 (by decide) k_fieldLink_7 (fun _ h9 => h9) rfl dX13_errorPosition_24 ?_
      refine lv_goto (tgt := 31) hx hb dX13_errorPosition_27 (by decide) ?_
      have e_3 : (0 : Int32) = if 0 ≤ ea then 0 else 1 := by first | (with_reducible rfl) | ((try simp only []); (repeat (first | rw [if_pos (by first | assumption | exact Eq.trans (b := false) (by assumption) (Eq.symm (by assumption)) | exact Eq.trans (b := true) (by assumption) (Eq.symm (by assumption)) | exact ⟨by assumption, by assumption⟩ | exact Or.inl (by assumption) | exact Or.inr (by assumption) | exact Or.inr (Or.inl (by assumption)) | exact Or.inr (Or.inr (by assumption)) | (simp only [Int32.lt_iff_toInt_lt, Int32.le_iff_toInt_le, i32_0, i32_1, i32_2, i32_3, i32_4, i32_9, i32_10, i32_99, i32_100, i32_1000, i32_9999] at *; omega))] | rw [if_neg (by first | assumption | (rintro (h9 | h9 | h9) <;> contradiction) | (rintro (h9 | h9) <;> contradiction) | (intro h9; exact Bool.noConfusion (Eq.trans (c := false) h9.symm (by assumption))) | (rintro ⟨h8, h9⟩; exact Bool.noConfusion (Eq.trans (c := false) h8.symm (by assumption))) | (rintro ⟨h8, h9⟩; exact Bool.noConfusion (Eq.trans (c := false) h9.symm (by assumption))) | (simp only [Int32.lt_iff_toInt_lt, Int32.le_iff_toInt_le, i32_0, i32_1, i32_2, i32_3, i32_4, i32_9, i32_10, i32_99, i32_100, i32_1000, i32_9999] at *; omega))])); (try rfl))
      have hP := Eq.mp (congrArg (fun z9 => va_P D vwCl (bMO k q z9 ea fa ch tn he en ln sv wr dg) H) e_3) hP
      have hD := Eq.mp (congrArg (fun z9 => va_D A (bMO k q z9 ea fa ch tn he en ln sv wr dg)) e_3) hD
      exact W.iret (v := ea) hx hb hr (fun t9 ht hW => ⟨⟨_, (), rfl, (by (try simp only []); (repeat (first | rw [if_pos (by first | assumption | exact Eq.trans (b := false) (by assumption) (Eq.symm (by assumption)) | exact Eq.trans (b := true) (by assumption) (Eq.symm (by assumption)) | exact ⟨by assumption, by assumption⟩ | exact Or.inl (by assumption) | exact Or.inr (by assumption) | exact Or.inr (Or.inl (by assumption)) | exact Or.inr (Or.inr (by assumption)) | (simp only [Int32.lt_iff_toInt_lt, Int32.le_iff_toInt_le, i32_0, i32_1, i32_2, i32_3, i32_4, i32_9, i32_10, i32_99, i32_100, i32_1000, i32_9999] at *; omega))] | rw [if_neg (by first | assumption | (rintro (h9 | h9 | h9) <;> contradiction) | (rintro (h9 | h9) <;> contradiction) | (intro h9; exact Bool.noConfusion (Eq.trans (c := false) h9.symm (by assumption))) | (rintro ⟨h8, h9⟩; exact Bool.noConfusion (Eq.trans (c := false) h8.symm (by assumption))) | (rintro ⟨h8, h9⟩; exact Bool.noConfusion (Eq.trans (c := false) h9.symm (by assumption))) | (simp only [Int32.lt_iff_toInt_lt, Int32.le_iff_toInt_le, i32_0, i32_1, i32_2, i32_3, i32_4, i32_9, i32_10, i32_99, i32_100, i32_1000, i32_9999] at *; omega))])); (try rfl)), ⟨by rw [ht]; exact hP, va_K.moved hW.alike hK, hD⟩⟩, hS.F ht⟩) hS.2.2 dX13_errorPosition_31 hlocks
  · skip
    refine lv_iconst (v := 1) hx hb dX13_errorPosition_8 (by decide) ?_
    refine lv_goto (tgt := 13) hx hb dX13_errorPosition_9 (by decide) ?_
    refine va_put (D := D) (ci := 11) (v := .int 1) (ty := .int) (C := RX13) (T := TX13) (N := 29) hx hb hts kc_RX13 tyX13 tyX13_ok nmX13 hown hK hP hD hS 0 rfl rfl 0 (by decide) k_fieldLink_77 (fun _ h9 => h9) rfl (by decide +kernel) rfl rfl (Nat.le_of_ble_eq_true rfl) dX13_errorPosition_13 (fun H locs hP hD hS => ?_)
    have hP : va_P D vwCl (bMO k q 1 ea fa ch tn he en ln sv wr dg) H := hP
    have hD : va_D A (bMO k q 1 ea fa ch tn he en ln sv wr dg) := hD
    refine lv_aload_n hx hb dX13_errorPosition_16 rfl (lv_at hl 0 rfl) ?_
    refine va_get (D := D) (ci := 11) (v := .int 1) (C := RX13) (T := TX13) (N := 29) hx hb hts kc_RX13 hown hK hP 0 rfl rfl 0 (by decide) k_fieldLink_77 (fun _ h9 => h9) rfl dX13_errorPosition_17 ?_
    refine lv_if_ne (tgt := 30) hx hb dX13_errorPosition_20 (by decide) (fun c_4 => ?_) (fun c_4 => ?_)
    · skip
      refine lv_iconst (v := 0) hx hb dX13_errorPosition_30 (by decide) ?_
      have e_5 : (1 : Int32) = if 0 ≤ ea then 0 else 1 := by first | (with_reducible rfl) | ((try simp only []); (repeat (first | rw [if_pos (by first | assumption | exact Eq.trans (b := false) (by assumption) (Eq.symm (by assumption)) | exact Eq.trans (b := true) (by assumption) (Eq.symm (by assumption)) | exact ⟨by assumption, by assumption⟩ | exact Or.inl (by assumption) | exact Or.inr (by assumption) | exact Or.inr (Or.inl (by assumption)) | exact Or.inr (Or.inr (by assumption)) | (simp only [Int32.lt_iff_toInt_lt, Int32.le_iff_toInt_le, i32_0, i32_1, i32_2, i32_3, i32_4, i32_9, i32_10, i32_99, i32_100, i32_1000, i32_9999] at *; omega))] | rw [if_neg (by first | assumption | (rintro (h9 | h9 | h9) <;> contradiction) | (rintro (h9 | h9) <;> contradiction) | (intro h9; exact Bool.noConfusion (Eq.trans (c := false) h9.symm (by assumption))) | (rintro ⟨h8, h9⟩; exact Bool.noConfusion (Eq.trans (c := false) h8.symm (by assumption))) | (rintro ⟨h8, h9⟩; exact Bool.noConfusion (Eq.trans (c := false) h9.symm (by assumption))) | (simp only [Int32.lt_iff_toInt_lt, Int32.le_iff_toInt_le, i32_0, i32_1, i32_2, i32_3, i32_4, i32_9, i32_10, i32_99, i32_100, i32_1000, i32_9999] at *; omega))])); (try rfl))
      have hP := Eq.mp (congrArg (fun z9 => va_P D vwCl (bMO k q z9 ea fa ch tn he en ln sv wr dg) H) e_5) hP
      have hD := Eq.mp (congrArg (fun z9 => va_D A (bMO k q z9 ea fa ch tn he en ln sv wr dg)) e_5) hD
      exact W.iret (v := 0) hx hb hr (fun t9 ht hW => ⟨⟨_, (), rfl, (by (try simp only []); (repeat (first | rw [if_pos (by first | assumption | exact Eq.trans (b := false) (by assumption) (Eq.symm (by assumption)) | exact Eq.trans (b := true) (by assumption) (Eq.symm (by assumption)) | exact ⟨by assumption, by assumption⟩ | exact Or.inl (by assumption) | exact Or.inr (by assumption) | exact Or.inr (Or.inl (by assumption)) | exact Or.inr (Or.inr (by assumption)) | (simp only [Int32.lt_iff_toInt_lt, Int32.le_iff_toInt_le, i32_0, i32_1, i32_2, i32_3, i32_4, i32_9, i32_10, i32_99, i32_100, i32_1000, i32_9999] at *; omega))] | rw [if_neg (by first | assumption | (rintro (h9 | h9 | h9) <;> contradiction) | (rintro (h9 | h9) <;> contradiction) | (intro h9; exact Bool.noConfusion (Eq.trans (c := false) h9.symm (by assumption))) | (rintro ⟨h8, h9⟩; exact Bool.noConfusion (Eq.trans (c := false) h8.symm (by assumption))) | (rintro ⟨h8, h9⟩; exact Bool.noConfusion (Eq.trans (c := false) h9.symm (by assumption))) | (simp only [Int32.lt_iff_toInt_lt, Int32.le_iff_toInt_le, i32_0, i32_1, i32_2, i32_3, i32_4, i32_9, i32_10, i32_99, i32_100, i32_1000, i32_9999] at *; omega))])); (try rfl)), ⟨by rw [ht]; exact hP, va_K.moved hW.alike hK, hD⟩⟩, hS.F ht⟩) hS.2.2 dX13_errorPosition_31 hlocks
    · first | exact absurd c_4 (by decide) | exact absurd (by decide) c_4

set_option maxHeartbeats 4000000 in
set_option maxRecDepth 100000 in
theorem m_X13_failedCommand (l9 : Launch) (D : va_G) (k : Nat → ClassId) (sz : Nat) (q : Nat → Nat) (th ea fa : Int32) (ch tn he en ln : Nat) (sv wr dg : Bool) : Met l9 yX13_failedCommand wsX13_failedCommand ({ frames := 0, cells := 0, slots := 0, locals := 0 }) (WPc D k [.ref (q 0)] (bMO k q th ea fa ch tn he en ln sv wr dg) sz) (WI D k (bMO k q (if 0 ≤ fa then 0 else 1) ea fa ch tn he en ln sv wr dg) (if 0 ≤ fa then fa else 0) (va_A (bMO k q th ea fa ch tn he en ln sv wr dg) sz)) 0 0 (va_A (bMO k q th ea fa ch tn he en ln sv wr dg) sz) := by
  refine wMet (y := yX13_failedCommand) (cc := cX13_failedCommand) (maxL := 1) (ret := (some .int)) (Qc := fun A => WI D k (bMO k q (if 0 ≤ fa then 0 else 1) ea fa ch tn he en ln sv wr dg) (if 0 ≤ fa then fa else 0) A) [.ref (q 0)] (by decide) rfl (Nat.le_of_ble_eq_true rfl) ?_
  intro p9 e9 s9 m9 bl9 me9 c9 ls A H hF hr hlocks hP hK hN hD hA hS hl hin
  have hl : lv_has ls 1 [(0, .ref (q 0))] := hl
  obtain ⟨hx, hb, hml, hown, hts⟩ := id hF
  have k_fieldLink_13 : (Cond.fieldLink RX13 13 "OpinionReactorModel" "failedAt" "I").before _ s9 = true := hts (.fieldLink RX13 13 "OpinionReactorModel" "failedAt" "I") (by decide +kernel)
  have kc_RX13 : ∀ w ∈ u_ws RX13 TX13 29, w ∈ wsX13_failedCommand := by decide +kernel
  have k_fieldLink_77 : (Cond.fieldLink RX13 77 "OpinionReactorModel" "thrown" "I").before _ s9 = true := hts (.fieldLink RX13 77 "OpinionReactorModel" "thrown" "I") (by decide +kernel)
  refine lv_aload_n hx hb dX13_failedCommand_0 rfl (lv_at hl 0 rfl) ?_
  refine lv_aload_n hx hb dX13_failedCommand_1 rfl (lv_at hl 0 rfl) ?_
  refine va_get (D := D) (ci := 11) (v := .int fa) (C := RX13) (T := TX13) (N := 29) hx hb hts kc_RX13 hown hK hP 0 rfl rfl 3 (by decide) k_fieldLink_13 (fun _ h9 => h9) rfl dX13_failedCommand_2 ?_
  refine lv_if_ge (tgt := 12) hx hb dX13_failedCommand_5 (by decide) (fun c_1 => ?_) (fun c_1 => ?_)
  · skip
    refine lv_iconst (v := 0) hx hb dX13_failedCommand_12 (by decide) ?_
    refine va_put (D := D) (ci := 11) (v := .int 0) (ty := .int) (C := RX13) (T := TX13) (N := 29) hx hb hts kc_RX13 tyX13 tyX13_ok nmX13 hown hK hP hD hS 0 rfl rfl 0 (by decide) k_fieldLink_77 (fun _ h9 => h9) rfl (by decide +kernel) rfl rfl (Nat.le_of_ble_eq_true rfl) dX13_failedCommand_13 (fun H locs hP hD hS => ?_)
    have hP : va_P D vwCl (bMO k q 0 ea fa ch tn he en ln sv wr dg) H := hP
    have hD : va_D A (bMO k q 0 ea fa ch tn he en ln sv wr dg) := hD
    refine lv_aload_n hx hb dX13_failedCommand_16 rfl (lv_at hl 0 rfl) ?_
    refine va_get (D := D) (ci := 11) (v := .int 0) (C := RX13) (T := TX13) (N := 29) hx hb hts kc_RX13 hown hK hP 0 rfl rfl 0 (by decide) k_fieldLink_77 (fun _ h9 => h9) rfl dX13_failedCommand_17 ?_
    refine lv_if_ne (tgt := 30) hx hb dX13_failedCommand_20 (by decide) (fun c_2 => ?_) (fun c_2 => ?_)
    · first | exact absurd c_2 (by decide) | exact absurd (by decide) c_2
    · skip
      refine lv_aload_n hx hb dX13_failedCommand_23 rfl (lv_at hl 0 rfl) ?_
      refine va_get (D := D) (ci := 11) (v := .int fa) (C := RX13) (T := TX13) (N := 29) hx hb hts kc_RX13 hown hK hP 0 rfl rfl 3 (by decide) k_fieldLink_13 (fun _ h9 => h9) rfl dX13_failedCommand_24 ?_
      refine lv_goto (tgt := 31) hx hb dX13_failedCommand_27 (by decide) ?_
      have e_3 : (0 : Int32) = if 0 ≤ fa then 0 else 1 := by first | (with_reducible rfl) | ((try simp only []); (repeat (first | rw [if_pos (by first | assumption | exact Eq.trans (b := false) (by assumption) (Eq.symm (by assumption)) | exact Eq.trans (b := true) (by assumption) (Eq.symm (by assumption)) | exact ⟨by assumption, by assumption⟩ | exact Or.inl (by assumption) | exact Or.inr (by assumption) | exact Or.inr (Or.inl (by assumption)) | exact Or.inr (Or.inr (by assumption)) | (simp only [Int32.lt_iff_toInt_lt, Int32.le_iff_toInt_le, i32_0, i32_1, i32_2, i32_3, i32_4, i32_9, i32_10, i32_99, i32_100, i32_1000, i32_9999] at *; omega))] | rw [if_neg (by first | assumption | (rintro (h9 | h9 | h9) <;> contradiction) | (rintro (h9 | h9) <;> contradiction) | (intro h9; exact Bool.noConfusion (Eq.trans (c := false) h9.symm (by assumption))) | (rintro ⟨h8, h9⟩; exact Bool.noConfusion (Eq.trans (c := false) h8.symm (by assumption))) | (rintro ⟨h8, h9⟩; exact Bool.noConfusion (Eq.trans (c := false) h9.symm (by assumption))) | (simp only [Int32.lt_iff_toInt_lt, Int32.le_iff_toInt_le, i32_0, i32_1, i32_2, i32_3, i32_4, i32_9, i32_10, i32_99, i32_100, i32_1000, i32_9999] at *; omega))])); (try rfl))
      have hP := Eq.mp (congrArg (fun z9 => va_P D vwCl (bMO k q z9 ea fa ch tn he en ln sv wr dg) H) e_3) hP
      have hD := Eq.mp (congrArg (fun z9 => va_D A (bMO k q z9 ea fa ch tn he en ln sv wr dg)) e_3) hD
      exact W.iret (v := fa) hx hb hr (fun t9 ht hW => ⟨⟨_, (), rfl, (by (try simp only []); (repeat (first | rw [if_pos (by first | assumption | exact Eq.trans (b := false) (by assumption) (Eq.symm (by assumption)) | exact Eq.trans (b := true) (by assumption) (Eq.symm (by assumption)) | exact ⟨by assumption, by assumption⟩ | exact Or.inl (by assumption) | exact Or.inr (by assumption) | exact Or.inr (Or.inl (by assumption)) | exact Or.inr (Or.inr (by assumption)) | (simp only [Int32.lt_iff_toInt_lt, Int32.le_iff_toInt_le, i32_0, i32_1, i32_2, i32_3, i32_4, i32_9, i32_10, i32_99, i32_100, i32_1000, i32_9999] at *; omega))] | rw [if_neg (by first | assumption | (rintro (h9 | h9 | h9) <;> contradiction) | (rintro (h9 | h9) <;> contradiction) | (intro h9; exact Bool.noConfusion (Eq.trans (c := false) h9.symm (by assumption))) | (rintro ⟨h8, h9⟩; exact Bool.noConfusion (Eq.trans (c := false) h8.symm (by assumption))) | (rintro ⟨h8, h9⟩; exact Bool.noConfusion (Eq.trans (c := false) h9.symm (by assumption))) | (simp only [Int32.lt_iff_toInt_lt, Int32.le_iff_toInt_le, i32_0, i32_1, i32_2, i32_3, i32_4, i32_9, i32_10, i32_99, i32_100, i32_1000, i32_9999] at *; omega))])); (try rfl)), ⟨by rw [ht]; exact hP, va_K.moved hW.alike hK, hD⟩⟩, hS.F ht⟩) hS.2.2 dX13_failedCommand_31 hlocks
  · skip
    refine lv_iconst (v := 1) hx hb dX13_failedCommand_8 (by decide) ?_
    refine lv_goto (tgt := 13) hx hb dX13_failedCommand_9 (by decide) ?_
    refine va_put (D := D) (ci := 11) (v := .int 1) (ty := .int) (C := RX13) (T := TX13) (N := 29) hx hb hts kc_RX13 tyX13 tyX13_ok nmX13 hown hK hP hD hS 0 rfl rfl 0 (by decide) k_fieldLink_77 (fun _ h9 => h9) rfl (by decide +kernel) rfl rfl (Nat.le_of_ble_eq_true rfl) dX13_failedCommand_13 (fun H locs hP hD hS => ?_)
    have hP : va_P D vwCl (bMO k q 1 ea fa ch tn he en ln sv wr dg) H := hP
    have hD : va_D A (bMO k q 1 ea fa ch tn he en ln sv wr dg) := hD
    refine lv_aload_n hx hb dX13_failedCommand_16 rfl (lv_at hl 0 rfl) ?_
    refine va_get (D := D) (ci := 11) (v := .int 1) (C := RX13) (T := TX13) (N := 29) hx hb hts kc_RX13 hown hK hP 0 rfl rfl 0 (by decide) k_fieldLink_77 (fun _ h9 => h9) rfl dX13_failedCommand_17 ?_
    refine lv_if_ne (tgt := 30) hx hb dX13_failedCommand_20 (by decide) (fun c_4 => ?_) (fun c_4 => ?_)
    · skip
      refine lv_iconst (v := 0) hx hb dX13_failedCommand_30 (by decide) ?_
      have e_5 : (1 : Int32) = if 0 ≤ fa then 0 else 1 := by first | (with_reducible rfl) | ((try simp only []); (repeat (first | rw [if_pos (by first | assumption | exact Eq.trans (b := false) (by assumption) (Eq.symm (by assumption)) | exact Eq.trans (b := true) (by assumption) (Eq.symm (by assumption)) | exact ⟨by assumption, by assumption⟩ | exact Or.inl (by assumption) | exact Or.inr (by assumption) | exact Or.inr (Or.inl (by assumption)) | exact Or.inr (Or.inr (by assumption)) | (simp only [Int32.lt_iff_toInt_lt, Int32.le_iff_toInt_le, i32_0, i32_1, i32_2, i32_3, i32_4, i32_9, i32_10, i32_99, i32_100, i32_1000, i32_9999] at *; omega))] | rw [if_neg (by first | assumption | (rintro (h9 | h9 | h9) <;> contradiction) | (rintro (h9 | h9) <;> contradiction) | (intro h9; exact Bool.noConfusion (Eq.trans (c := false) h9.symm (by assumption))) | (rintro ⟨h8, h9⟩; exact Bool.noConfusion (Eq.trans (c := false) h8.symm (by assumption))) | (rintro ⟨h8, h9⟩; exact Bool.noConfusion (Eq.trans (c := false) h9.symm (by assumption))) | (simp only [Int32.lt_iff_toInt_lt, Int32.le_iff_toInt_le, i32_0, i32_1, i32_2, i32_3, i32_4, i32_9, i32_10, i32_99, i32_100, i32_1000, i32_9999] at *; omega))])); (try rfl))
      have hP := Eq.mp (congrArg (fun z9 => va_P D vwCl (bMO k q z9 ea fa ch tn he en ln sv wr dg) H) e_5) hP
      have hD := Eq.mp (congrArg (fun z9 => va_D A (bMO k q z9 ea fa ch tn he en ln sv wr dg)) e_5) hD
      exact W.iret (v := 0) hx hb hr (fun t9 ht hW => ⟨⟨_, (), rfl, (by (try simp only []); (repeat (first | rw [if_pos (by first | assumption | exact Eq.trans (b := false) (by assumption) (Eq.symm (by assumption)) | exact Eq.trans (b := true) (by assumption) (Eq.symm (by assumption)) | exact ⟨by assumption, by assumption⟩ | exact Or.inl (by assumption) | exact Or.inr (by assumption) | exact Or.inr (Or.inl (by assumption)) | exact Or.inr (Or.inr (by assumption)) | (simp only [Int32.lt_iff_toInt_lt, Int32.le_iff_toInt_le, i32_0, i32_1, i32_2, i32_3, i32_4, i32_9, i32_10, i32_99, i32_100, i32_1000, i32_9999] at *; omega))] | rw [if_neg (by first | assumption | (rintro (h9 | h9 | h9) <;> contradiction) | (rintro (h9 | h9) <;> contradiction) | (intro h9; exact Bool.noConfusion (Eq.trans (c := false) h9.symm (by assumption))) | (rintro ⟨h8, h9⟩; exact Bool.noConfusion (Eq.trans (c := false) h8.symm (by assumption))) | (rintro ⟨h8, h9⟩; exact Bool.noConfusion (Eq.trans (c := false) h9.symm (by assumption))) | (simp only [Int32.lt_iff_toInt_lt, Int32.le_iff_toInt_le, i32_0, i32_1, i32_2, i32_3, i32_4, i32_9, i32_10, i32_99, i32_100, i32_1000, i32_9999] at *; omega))])); (try rfl)), ⟨by rw [ht]; exact hP, va_K.moved hW.alike hK, hD⟩⟩, hS.F ht⟩) hS.2.2 dX13_failedCommand_31 hlocks
    · first | exact absurd c_4 (by decide) | exact absurd (by decide) c_4

set_option maxHeartbeats 4000000 in
set_option maxRecDepth 100000 in
theorem m_X13_writes (l9 : Launch) (D : va_G) (k : Nat → ClassId) (sz : Nat) (q : Nat → Nat) (th ea fa : Int32) (ch tn he en ln : Nat) (sv wr dg : Bool) (li : Nat → Int32) (x : Int32) (hln : ln < 24) : Met l9 yX13_writes wsX13_writes ({ frames := 0, cells := 0, slots := 0, locals := 0 }) (WPc D k [.ref (q 0), .int x] (bMO k q th ea fa ch tn he en ln sv wr dg ++ bI24 k (q 15) li) sz) (WV D k (bMO k q th ea fa ch tn he en ((wrS (li, ln) x).2) sv wr dg ++ bI24 k (q 15) ((wrS (li, ln) x).1)) (va_A (bMO k q th ea fa ch tn he en ln sv wr dg ++ bI24 k (q 15) li) sz)) 0 0 (va_A (bMO k q th ea fa ch tn he en ln sv wr dg ++ bI24 k (q 15) li) sz) := by
  refine wMet (y := yX13_writes) (cc := cX13_writes) (maxL := 2) (ret := none) (Qc := fun A => WV D k (bMO k q th ea fa ch tn he en ((wrS (li, ln) x).2) sv wr dg ++ bI24 k (q 15) ((wrS (li, ln) x).1)) A) [.ref (q 0), .int x] (by decide) rfl (Nat.le_of_ble_eq_true rfl) ?_
  intro p9 e9 s9 m9 bl9 me9 c9 ls A H hF hr hlocks hP hK hN hD hA hS hl hin
  have hl : lv_has ls 2 [(0, .ref (q 0)), (1, .int x)] := hl
  obtain ⟨hx, hb, hml, hown, hts⟩ := id hF
  have k_fieldLink_61 : (Cond.fieldLink RX13 61 "OpinionReactorModel" "line" "[I").before _ s9 = true := hts (.fieldLink RX13 61 "OpinionReactorModel" "line" "[I") (by decide +kernel)
  have kc_RX13 : ∀ w ∈ u_ws RX13 TX13 29, w ∈ wsX13_writes := by decide +kernel
  have k_fieldLink_274 : (Cond.fieldLink RX13 274 "OpinionReactorModel" "lineN" "I").before _ s9 = true := hts (.fieldLink RX13 274 "OpinionReactorModel" "lineN" "I") (by decide +kernel)
  refine lv_aload_n hx hb dX13_writes_0 rfl (lv_at hl 0 rfl) ?_
  refine va_get (D := D) (ci := 11) (v := .ref (q 15)) (C := RX13) (T := TX13) (N := 29) hx hb hts kc_RX13 hown hK hP 0 rfl rfl 19 (by decide) k_fieldLink_61 (fun _ h9 => h9) rfl dX13_writes_1 ?_
  refine lv_aload_n hx hb dX13_writes_4 rfl (lv_at hl 0 rfl) ?_
  refine va_get (D := D) (ci := 11) (v := .int (nI ln)) (C := RX13) (T := TX13) (N := 29) hx hb hts kc_RX13 hown hK hP 0 rfl rfl 26 (by decide) k_fieldLink_274 (fun _ h9 => h9) rfl dX13_writes_5 ?_
  refine lv_iload_n hx hb dX13_writes_8 rfl (lv_at hl 1 rfl) ?_
  refine ia_st hx hb hK hP hD hS 1 rfl ln (by omega) (by decide) (bMO k q th ea fa ch tn he en ln sv wr dg ++ bI24 k (q 15) (upd li ln x)) rfl dX13_writes_9 (fun H locs hP hD hS => ?_)
  refine lv_aload_n hx hb dX13_writes_10 rfl (lv_at hl 0 rfl) ?_
  refine lv_dup hx hb dX13_writes_11 rfl ?_
  refine va_get (D := D) (ci := 11) (v := .int (nI ln)) (C := RX13) (T := TX13) (N := 29) hx hb hts kc_RX13 hown hK hP 0 rfl rfl 26 (by decide) k_fieldLink_274 (fun _ h9 => h9) rfl dX13_writes_12 ?_
  refine lv_iconst (v := 1) hx hb dX13_writes_15 (by decide) ?_
  refine ni_add hx hb ln 1 dX13_writes_16 ?_
  refine va_put (D := D) (ci := 11) (v := .int (nI (ln + 1))) (ty := .int) (C := RX13) (T := TX13) (N := 29) hx hb hts kc_RX13 tyX13 tyX13_ok nmX13 hown hK hP hD hS 0 rfl rfl 26 (by decide) k_fieldLink_274 (fun _ h9 => h9) rfl (by decide +kernel) rfl rfl (Nat.le_of_ble_eq_true rfl) dX13_writes_17 (fun H locs hP hD hS => ?_)
  have hP : va_P D vwCl (bMO k q th ea fa ch tn he en (ln + 1) sv wr dg ++ bI24 k (q 15) (upd li ln x)) H := hP
  have hD : va_D A (bMO k q th ea fa ch tn he en (ln + 1) sv wr dg ++ bI24 k (q 15) (upd li ln x)) := hD
  have e_1 : (ln + 1 : Nat) = (wrS (li, ln) x).2 := by first | (with_reducible rfl) | (rfl)
  have hP := Eq.mp (congrArg (fun z9 => va_P D vwCl (bMO k q th ea fa ch tn he en z9 sv wr dg ++ bI24 k (q 15) (upd li ln x)) H) e_1) hP
  have hD := Eq.mp (congrArg (fun z9 => va_D A (bMO k q th ea fa ch tn he en z9 sv wr dg ++ bI24 k (q 15) (upd li ln x))) e_1) hD
  have e_2 : (upd li ln x : Nat → Int32) = (wrS (li, ln) x).1 := by first | (with_reducible rfl) | (rfl)
  have hP := Eq.mp (congrArg (fun z9 => va_P D vwCl (bMO k q th ea fa ch tn he en ((wrS (li, ln) x).2) sv wr dg ++ bI24 k (q 15) z9) H) e_2) hP
  have hD := Eq.mp (congrArg (fun z9 => va_D A (bMO k q th ea fa ch tn he en ((wrS (li, ln) x).2) sv wr dg ++ bI24 k (q 15) z9)) e_2) hD
  exact W.vret hx hb hr (fun t9 ht hW => ⟨⟨(), rfl, trivial, ⟨by rw [ht]; exact hP, va_K.moved hW.alike hK, hD⟩⟩, hS.F ht⟩) hS.2.2 dX13_writes_20 hlocks

set_option maxHeartbeats 4000000 in
set_option maxRecDepth 100000 in
theorem m_X13_describeClaim (l9 : Launch) (D : va_G) (k : Nat → ClassId) (sz : Nat) (q : Nat → Nat) (th ea fa : Int32) (ch tn he en ln : Nat) (sv wr dg : Bool) (v li : Nat → Int32) (n : Nat) (x : Int32) (hn : n ≤ 10) (hv0 : v 0 = nI n) : Met l9 yX13_describeClaim wsX13_describeClaim ({ frames := 4, cells := 0, slots := 0, locals := 91 }) (WPc D k [.ref (q 0), .int x] (bMO k q th ea fa ch tn he en ln sv wr dg ++ bI83 k (q 1) v ++ bI24 k (q 15) li) sz) (WI D k (bMO k q (if inC n x = true then 0 else 1) ea fa ch tn he en (if inC n x = true then (dcl n v li x.toNatClampNeg n).2 else ln) sv wr dg ++ bI83 k (q 1) v ++ bI24 k (q 15) (if inC n x = true then (dcl n v li x.toNatClampNeg n).1 else li)) (if inC n x = true then nI ((dcl n v li x.toNatClampNeg n).2) else 0) (va_A (bMO k q th ea fa ch tn he en ln sv wr dg ++ bI83 k (q 1) v ++ bI24 k (q 15) li) sz)) 0 0 (va_A (bMO k q th ea fa ch tn he en ln sv wr dg ++ bI83 k (q 1) v ++ bI24 k (q 15) li) sz) := by
  refine wMet (y := yX13_describeClaim) (cc := cX13_describeClaim) (maxL := 4) (ret := (some .int)) (Qc := fun A => WI D k (bMO k q (if inC n x = true then 0 else 1) ea fa ch tn he en (if inC n x = true then (dcl n v li x.toNatClampNeg n).2 else ln) sv wr dg ++ bI83 k (q 1) v ++ bI24 k (q 15) (if inC n x = true then (dcl n v li x.toNatClampNeg n).1 else li)) (if inC n x = true then nI ((dcl n v li x.toNatClampNeg n).2) else 0) A) [.ref (q 0), .int x] (by decide) rfl (Nat.le_of_ble_eq_true rfl) ?_
  intro p9 e9 s9 m9 bl9 me9 c9 ls A H hF hr hlocks hP hK hN hD hA hS hl hin
  have hl : lv_has ls 4 [(0, .ref (q 0)), (1, .int x)] := hl
  obtain ⟨hx, hb, hml, hown, hts⟩ := id hF
  have k_fieldLink_16 : (Cond.fieldLink RX13 16 "OpinionReactorModel" "v" "[I").before _ s9 = true := hts (.fieldLink RX13 16 "OpinionReactorModel" "v" "[I") (by decide +kernel)
  have kc_RX13 : ∀ w ∈ u_ws RX13 TX13 29, w ∈ wsX13_describeClaim := by decide +kernel
  have k_fieldLink_274 : (Cond.fieldLink RX13 274 "OpinionReactorModel" "lineN" "I").before _ s9 = true := hts (.fieldLink RX13 274 "OpinionReactorModel" "lineN" "I") (by decide +kernel)
  have loop_68 : ∀ (fuel : Nat) (i j : Nat) (y : Int32), (i ≤ n) → (j < n) → (x.toNatClampNeg = j) → (inC n x = true) → n - i < fuel → ∀ (ls : Array Slot), ∀ (H : Heap) (locs : List Loc), va_P D vwCl (bMO k q 0 ea fa ch tn he en ((dcl n v li j i).2) sv wr dg ++ bI83 k (q 1) v ++ bI24 k (q 15) ((dcl n v li j i).1)) H → va_D A (bMO k q 0 ea fa ch tn he en ((dcl n v li j i).2) sv wr dg ++ bI83 k (q 1) v ++ bI24 k (q 15) ((dcl n v li j i).1)) → va_S A s9.heap H locs → lv_has ls 4 [(0, .ref (q 0)), (1, .int (nI j)), (2, .int y), (3, .int (nI i))] → W p9 l9 e9 ({ frames := 4, cells := 0, slots := 0, locals := 91 }) s9 m9 ([.ref (q 0), .int x] : List Value).toArray bl9 me9 c9 H locs 0 0 (MQ bl9 (WI D k (bMO k q (if inC n x = true then 0 else 1) ea fa ch tn he en (if inC n x = true then (dcl n v li x.toNatClampNeg n).2 else ln) sv wr dg ++ bI83 k (q 1) v ++ bI24 k (q 15) (if inC n x = true then (dcl n v li x.toNatClampNeg n).1 else li)) (if inC n x = true then nI ((dcl n v li x.toNatClampNeg n).2) else 0) A) ([.ref (q 0), .int x] : List Value).toArray s9 0 0 A) (F0 m9 68 ls []) := by
    intro fuel
    induction fuel with
    | zero => intro i j y hi hj hxc hin hfuel_68; exact absurd hfuel_68 (Nat.not_lt_zero _)
    | succ fuel ih_68 =>
      intro i j y hi hj hxc hin hfuel_68 ls H locs hP hD hS hl
      have hdl := dcl_le n v li j i
      refine lv_iload_n hx hb dX13_describeClaim_68 rfl (lv_at hl 3 rfl) ?_
      refine lv_aload_n hx hb dX13_describeClaim_69 rfl (lv_at hl 0 rfl) ?_
      refine va_get (D := D) (ci := 11) (v := .ref (q 1)) (C := RX13) (T := TX13) (N := 29) hx hb hts kc_RX13 hown hK hP 0 rfl rfl 5 (by decide) k_fieldLink_16 (fun _ h9 => h9) rfl dX13_describeClaim_70 ?_
      refine lv_iconst (v := 0) hx hb dX13_describeClaim_73 (by decide) ?_
      refine ia_ld hx hb hK hP 1 rfl 0 (by omega) (by decide) dX13_describeClaim_74 ?_
      rw [hv0]
      refine lv_icmp_ge (tgt := 101) hx hb dX13_describeClaim_75 (by decide) (fun c_1 => ?_) (fun c_1 => ?_)
      · skip
        have c_1 : n ≤ i := (nI_leI (a := n) (b := i) (by omega) (by omega)).mp c_1
        refine lv_aload_n hx hb dX13_describeClaim_101 rfl (lv_at hl 0 rfl) ?_
        refine va_get (D := D) (ci := 11) (v := .int (nI ((dcl n v li j i).2))) (C := RX13) (T := TX13) (N := 29) hx hb hts kc_RX13 hown hK hP 0 rfl rfl 26 (by decide) k_fieldLink_274 (fun _ h9 => h9) rfl dX13_describeClaim_102 ?_
        have e_2 : (0 : Int32) = if inC n x = true then 0 else 1 := by first | (with_reducible rfl) | (rw [if_pos hin])
        have hP := Eq.mp (congrArg (fun z9 => va_P D vwCl (bMO k q z9 ea fa ch tn he en ((dcl n v li j i).2) sv wr dg ++ bI83 k (q 1) v ++ bI24 k (q 15) ((dcl n v li j i).1)) H) e_2) hP
        have hD := Eq.mp (congrArg (fun z9 => va_D A (bMO k q z9 ea fa ch tn he en ((dcl n v li j i).2) sv wr dg ++ bI83 k (q 1) v ++ bI24 k (q 15) ((dcl n v li j i).1))) e_2) hD
        have e_3 : ((dcl n v li j i).2 : Nat) = if inC n x = true then (dcl n v li x.toNatClampNeg n).2 else ln := by first | (with_reducible rfl) | (rw [if_pos hin, hxc, show i = n by omega])
        have hP := Eq.mp (congrArg (fun z9 => va_P D vwCl (bMO k q (if inC n x = true then 0 else 1) ea fa ch tn he en z9 sv wr dg ++ bI83 k (q 1) v ++ bI24 k (q 15) ((dcl n v li j i).1)) H) e_3) hP
        have hD := Eq.mp (congrArg (fun z9 => va_D A (bMO k q (if inC n x = true then 0 else 1) ea fa ch tn he en z9 sv wr dg ++ bI83 k (q 1) v ++ bI24 k (q 15) ((dcl n v li j i).1))) e_3) hD
        have e_4 : ((dcl n v li j i).1 : Nat → Int32) = if inC n x = true then (dcl n v li x.toNatClampNeg n).1 else li := by first | (with_reducible rfl) | (rw [if_pos hin, hxc, show i = n by omega])
        have hP := Eq.mp (congrArg (fun z9 => va_P D vwCl (bMO k q (if inC n x = true then 0 else 1) ea fa ch tn he en (if inC n x = true then (dcl n v li x.toNatClampNeg n).2 else ln) sv wr dg ++ bI83 k (q 1) v ++ bI24 k (q 15) z9) H) e_4) hP
        have hD := Eq.mp (congrArg (fun z9 => va_D A (bMO k q (if inC n x = true then 0 else 1) ea fa ch tn he en (if inC n x = true then (dcl n v li x.toNatClampNeg n).2 else ln) sv wr dg ++ bI83 k (q 1) v ++ bI24 k (q 15) z9)) e_4) hD
        exact W.iret (v := nI ((dcl n v li j i).2)) hx hb hr (fun t9 ht hW => ⟨⟨_, (), rfl, (by rw [if_pos hin, hxc, show i = n by omega]), ⟨by rw [ht]; exact hP, va_K.moved hW.alike hK, hD⟩⟩, hS.F ht⟩) hS.2.2 dX13_describeClaim_105 hlocks
      · skip
        have c_1 : ¬ n ≤ i := fun h => c_1 ((nI_leI (a := n) (b := i) (by omega) (by omega)).mpr h)
        refine lv_aload_n hx hb dX13_describeClaim_78 rfl (lv_at hl 0 rfl) ?_
        refine lv_iload_n hx hb dX13_describeClaim_79 rfl (lv_at hl 1 rfl) ?_
        refine lv_iload_n hx hb dX13_describeClaim_80 rfl (lv_at hl 3 rfl) ?_
        refine vp_callSi (W.runV (As := [.int (nI j), .int (nI i)]) (rest := []) hF (m_X13_hits l9 D k q 0 ea fa ch tn he en ((dcl n v li j i).2) sv wr dg v n j i hn hv0 hj (by omega)) (cwV 2 hts gX13_describeClaim_X13_hits rfl rfl rfl (by decide +kernel) ⟨Nat.le_of_ble_eq_true rfl, Nat.le_of_ble_eq_true rfl⟩) (rPreV hK hN hP [0, 1] rfl 0 11 rfl rfl) rfl rfl hl.1 rfl (lv_room (Nat.le_of_ble_eq_true rfl)) dX13_describeClaim_81 ⟨Nat.zero_le _, Nat.zero_le _⟩) (fun r_5 hr_5 => ?_)
        subst hr_5
        refine lv_if_eq (tgt := 95) hx hb dX13_describeClaim_84 (by decide) (fun c_6 => ?_) (fun c_6 => ?_)
        · skip
          have c_6 : (tb (vt v j) i) = false := bI_0 c_6
          refine lv_iinc (v := nI (i + 1)) (lv' := [(3, .int (nI (i + 1))), (0, .ref (q 0)), (1, .int (nI j)), (2, .int y)]) hx hb dX13_describeClaim_95 hl (k := 3) rfl (nI_inc i) (by decide) rfl (fun ls hl => ?_)
          refine lv_goto (tgt := 68) hx hb dX13_describeClaim_98 (by decide) ?_
          have e_7 : ((dcl n v li j i).2 : Nat) = (dcl n v li j (i + 1)).2 := by first | (with_reducible rfl) | (rw [dcl_s]; (first | rw [if_pos (by assumption)] | rw [if_neg (by assumption)] | (simp [*]; done)); (try rfl))
          have hP := Eq.mp (congrArg (fun z9 => va_P D vwCl (bMO k q 0 ea fa ch tn he en z9 sv wr dg ++ bI83 k (q 1) v ++ bI24 k (q 15) ((dcl n v li j i).1)) H) e_7) hP
          have hD := Eq.mp (congrArg (fun z9 => va_D A (bMO k q 0 ea fa ch tn he en z9 sv wr dg ++ bI83 k (q 1) v ++ bI24 k (q 15) ((dcl n v li j i).1))) e_7) hD
          have e_8 : ((dcl n v li j i).1 : Nat → Int32) = (dcl n v li j (i + 1)).1 := by first | (with_reducible rfl) | (rw [dcl_s]; (first | rw [if_pos (by assumption)] | rw [if_neg (by assumption)] | (simp [*]; done)); (try rfl))
          have hP := Eq.mp (congrArg (fun z9 => va_P D vwCl (bMO k q 0 ea fa ch tn he en ((dcl n v li j (i + 1)).2) sv wr dg ++ bI83 k (q 1) v ++ bI24 k (q 15) z9) H) e_8) hP
          have hD := Eq.mp (congrArg (fun z9 => va_D A (bMO k q 0 ea fa ch tn he en ((dcl n v li j (i + 1)).2) sv wr dg ++ bI83 k (q 1) v ++ bI24 k (q 15) z9)) e_8) hD
          exact ih_68 (i + 1) j y (by omega) hj hxc hin (by omega) ls _ _ hP hD hS (lv_one hl 1 rfl rfl (lv_one hl 2 rfl rfl (lv_one hl 3 rfl rfl (lv_one hl 0 rfl rfl (lv_nil hl)))))
        · skip
          have c_6 : (tb (vt v j) i) = true := bI_1 c_6
          refine lv_aload_n hx hb dX13_describeClaim_87 rfl (lv_at hl 0 rfl) ?_
          refine lv_bipush (v := 48) hx hb dX13_describeClaim_88 (by decide) ?_
          refine lv_iload_n hx hb dX13_describeClaim_90 rfl (lv_at hl 3 rfl) ?_
          refine ni_add hx hb 48 i dX13_describeClaim_91 ?_
          have hFc := va_free (wc := bMO k q 0 ea fa ch tn he en ((dcl n v li j i).2) sv wr dg ++ bI24 k (q 15) ((dcl n v li j i).1)) hD hS hA [0, 2] rfl
          refine va_callv (va_runV (As := [.int (nI (48 + i))]) (rest := []) hF (m_X13_writes l9 D k H.size q 0 ea fa ch tn he en ((dcl n v li j i).2) sv wr dg ((dcl n v li j i).1) (nI (48 + i)) (by omega)) (cwV 1 hts gX13_describeClaim_X13_writes rfl rfl rfl (by decide +kernel) ⟨Nat.le_of_ble_eq_true rfl, Nat.le_of_ble_eq_true rfl⟩) (wPreV hK hN hP hD [0, 2] rfl (by decide) rfl 0 11 rfl rfl) rfl rfl hl.1 rfl (lv_room (Nat.le_of_ble_eq_true rfl)) dX13_describeClaim_92 ⟨Nat.zero_le _, Nat.zero_le _⟩) hS (fun q _ h => hFc q h) hFc (fun u9 t9 H1 locs ht hvm hw hB hz1 hk1 hS => ?_)
          obtain ⟨hP, hD⟩ := wjoin (wr := bI83 k (q 1) v) (wf := bMO k q 0 ea fa ch tn he en ((wrS (((dcl n v li j i).1), ((dcl n v li j i).2)) (nI (48 + i))).2) sv wr dg ++ bI83 k (q 1) v ++ bI24 k (q 15) ((wrS (((dcl n v li j i).1), ((dcl n v li j i).2)) (nI (48 + i))).1)) hP hD [0, 2] [1] [1, 0, 2] rfl rfl (by decide) (by decide) hk1 hFc hB ht rfl rfl (by decide)
          clear hB hk1 hz1 hvm hFc
          clear ht
          clear t9
          generalize H1 = H at hP hS ⊢
          refine lv_iinc (v := nI (i + 1)) (lv' := [(3, .int (nI (i + 1))), (0, .ref (q 0)), (1, .int (nI j)), (2, .int y)]) hx hb dX13_describeClaim_95 hl (k := 3) rfl (nI_inc i) (by decide) rfl (fun ls hl => ?_)
          refine lv_goto (tgt := 68) hx hb dX13_describeClaim_98 (by decide) ?_
          have e_9 : ((wrS (((dcl n v li j i).1), ((dcl n v li j i).2)) (nI (48 + i))).2 : Nat) = (dcl n v li j (i + 1)).2 := by first | (with_reducible rfl) | (rw [dcl_s]; (first | rw [if_pos (by assumption)] | rw [if_neg (by assumption)] | (simp [*]; done)); (try rfl))
          have hP := Eq.mp (congrArg (fun z9 => va_P D vwCl (bMO k q 0 ea fa ch tn he en z9 sv wr dg ++ bI83 k (q 1) v ++ bI24 k (q 15) ((wrS (((dcl n v li j i).1), ((dcl n v li j i).2)) (nI (48 + i))).1)) H) e_9) hP
          have hD := Eq.mp (congrArg (fun z9 => va_D A (bMO k q 0 ea fa ch tn he en z9 sv wr dg ++ bI83 k (q 1) v ++ bI24 k (q 15) ((wrS (((dcl n v li j i).1), ((dcl n v li j i).2)) (nI (48 + i))).1))) e_9) hD
          have e_10 : ((wrS (((dcl n v li j i).1), ((dcl n v li j i).2)) (nI (48 + i))).1 : Nat → Int32) = (dcl n v li j (i + 1)).1 := by first | (with_reducible rfl) | (rw [dcl_s]; (first | rw [if_pos (by assumption)] | rw [if_neg (by assumption)] | (simp [*]; done)); (try rfl))
          have hP := Eq.mp (congrArg (fun z9 => va_P D vwCl (bMO k q 0 ea fa ch tn he en ((dcl n v li j (i + 1)).2) sv wr dg ++ bI83 k (q 1) v ++ bI24 k (q 15) z9) H) e_10) hP
          have hD := Eq.mp (congrArg (fun z9 => va_D A (bMO k q 0 ea fa ch tn he en ((dcl n v li j (i + 1)).2) sv wr dg ++ bI83 k (q 1) v ++ bI24 k (q 15) z9)) e_10) hD
          exact ih_68 (i + 1) j y (by omega) hj hxc hin (by omega) ls _ _ hP hD hS (lv_one hl 1 rfl rfl (lv_one hl 2 rfl rfl (lv_one hl 3 rfl rfl (lv_one hl 0 rfl rfl (lv_nil hl)))))
  refine lv_aload_n hx hb dX13_describeClaim_0 rfl (lv_at hl 0 rfl) ?_
  refine lv_iload_n hx hb dX13_describeClaim_1 rfl (lv_at hl 1 rfl) ?_
  have hFc := va_free (wc := bMO k q th ea fa ch tn he en ln sv wr dg ++ bI83 k (q 1) v) hD hS hA [0, 1] rfl
  refine va_calli (va_runV (As := [.int x]) (rest := []) hF (m_X13_looks l9 D k H.size q th ea fa ch tn he en ln sv wr dg v n x hn hv0) (cwV 1 hts gX13_describeClaim_X13_looks rfl rfl rfl (by decide +kernel) ⟨Nat.le_of_ble_eq_true rfl, Nat.le_of_ble_eq_true rfl⟩) (wPreV hK hN hP hD [0, 1] rfl (by decide) rfl 0 11 rfl rfl) rfl rfl hl.1 rfl (lv_room (Nat.le_of_ble_eq_true rfl)) dX13_describeClaim_2 ⟨Nat.zero_le _, Nat.zero_le _⟩) hS (fun q _ h => hFc q h) hFc (fun r u9 t9 H1 locs ht hvm hw hB hz1 hk1 hS => ?_)
  obtain ⟨hP, hD⟩ := wjoin (wr := bI24 k (q 15) li) (wf := bMO k q (if inC n x = true then 0 else 1) ea fa ch tn he en ln sv wr dg ++ bI83 k (q 1) v ++ bI24 k (q 15) li) hP hD [0, 1] [2] [1, 2, 0] rfl rfl (by decide) (by decide) hk1 hFc hB ht rfl rfl (by decide)
  subst hw
  clear hB hk1 hz1 hvm hFc
  clear ht
  clear t9
  generalize H1 = H at hP hS ⊢
  refine lv_if_ne (tgt := 10) hx hb dX13_describeClaim_5 (by decide) (fun c_11 => ?_) (fun c_11 => ?_)
  · skip
    have c_11 : (inC n x) = true := bI_1 c_11
    obtain ⟨j, hj, rfl⟩ := inC_of hn c_11
    have clj : (nI j).toNatClampNeg = j := clN (by omega)
    refine lv_aload_n hx hb dX13_describeClaim_10 rfl (lv_at hl 0 rfl) ?_
    refine vp_callSi (W.runV (As := []) (rest := []) hF (m_X13_accepted l9 D k q (if inC n (nI j) = true then 0 else 1) ea fa ch tn he en ln sv wr dg v n hn hv0) (cwV 0 hts gX13_describeClaim_X13_accepted rfl rfl rfl (by decide +kernel) ⟨Nat.le_of_ble_eq_true rfl, Nat.le_of_ble_eq_true rfl⟩) (rPreV hK hN hP [0, 1] rfl 0 11 rfl rfl) rfl rfl hl.1 rfl (lv_room (Nat.le_of_ble_eq_true rfl)) dX13_describeClaim_11 ⟨Nat.zero_le _, Nat.zero_le _⟩) (fun r_12 hr_12 => ?_)
    subst hr_12
    refine lv_istore_n (lv' := [(2, .int (accM n (vt v))), (0, .ref (q 0)), (1, .int (nI j))]) hx hb dX13_describeClaim_14 rfl hl (by decide) rfl (fun ls hl => ?_)
    refine lv_aload_n hx hb dX13_describeClaim_15 rfl (lv_at hl 1 rfl) ?_
    refine lv_iconst (v := 0) hx hb dX13_describeClaim_16 (by decide) ?_
    refine va_put (D := D) (ci := 11) (v := .int 0) (ty := .int) (C := RX13) (T := TX13) (N := 29) hx hb hts kc_RX13 tyX13 tyX13_ok nmX13 hown hK hP hD hS 0 rfl rfl 26 (by decide) k_fieldLink_274 (fun _ h9 => h9) rfl (by decide +kernel) rfl rfl (Nat.le_of_ble_eq_true rfl) dX13_describeClaim_17 (fun H locs hP hD hS => ?_)
    have hP : va_P D vwCl (bMO k q (if inC n (nI j) = true then 0 else 1) ea fa ch tn he en 0 sv wr dg ++ bI83 k (q 1) v ++ bI24 k (q 15) li) H := hP
    have hD : va_D A (bMO k q (if inC n (nI j) = true then 0 else 1) ea fa ch tn he en 0 sv wr dg ++ bI83 k (q 1) v ++ bI24 k (q 15) li) := hD
    refine lv_aload_n hx hb dX13_describeClaim_20 rfl (lv_at hl 1 rfl) ?_
    refine lv_bipush (v := 48) hx hb dX13_describeClaim_21 (by decide) ?_
    refine lv_iload_n hx hb dX13_describeClaim_23 rfl (lv_at hl 2 rfl) ?_
    refine ni_add hx hb 48 j dX13_describeClaim_24 ?_
    have hFc := va_free (wc := bMO k q (if inC n (nI j) = true then 0 else 1) ea fa ch tn he en 0 sv wr dg ++ bI24 k (q 15) li) hD hS hA [0, 2] rfl
    refine va_callv (va_runV (As := [.int (nI (48 + j))]) (rest := []) hF (m_X13_writes l9 D k H.size q (if inC n (nI j) = true then 0 else 1) ea fa ch tn he en 0 sv wr dg li (nI (48 + j)) (by omega)) (cwV 1 hts gX13_describeClaim_X13_writes rfl rfl rfl (by decide +kernel) ⟨Nat.le_of_ble_eq_true rfl, Nat.le_of_ble_eq_true rfl⟩) (wPreV hK hN hP hD [0, 2] rfl (by decide) rfl 0 11 rfl rfl) rfl rfl hl.1 rfl (lv_room (Nat.le_of_ble_eq_true rfl)) dX13_describeClaim_25 ⟨Nat.zero_le _, Nat.zero_le _⟩) hS (fun q _ h => hFc q h) hFc (fun u9 t9 H1 locs ht hvm hw hB hz1 hk1 hS => ?_)
    obtain ⟨hP, hD⟩ := wjoin (wr := bI83 k (q 1) v) (wf := bMO k q (if inC n (nI j) = true then 0 else 1) ea fa ch tn he en ((wrS (li, 0) (nI (48 + j))).2) sv wr dg ++ bI83 k (q 1) v ++ bI24 k (q 15) ((wrS (li, 0) (nI (48 + j))).1)) hP hD [0, 2] [1] [1, 0, 2] rfl rfl (by decide) (by decide) hk1 hFc hB ht rfl rfl (by decide)
    clear hB hk1 hz1 hvm hFc
    clear ht
    clear t9
    generalize H1 = H at hP hS ⊢
    refine lv_aload_n hx hb dX13_describeClaim_28 rfl (lv_at hl 1 rfl) ?_
    refine lv_iload_n hx hb dX13_describeClaim_29 rfl (lv_at hl 0 rfl) ?_
    refine lv_iload_n hx hb dX13_describeClaim_30 rfl (lv_at hl 2 rfl) ?_
    refine lv_ishr hx hb dX13_describeClaim_31 ?_
    refine lv_iconst (v := 1) hx hb dX13_describeClaim_32 (by decide) ?_
    refine lv_iand hx hb dX13_describeClaim_33 ?_
    refine lv_iconst (v := 1) hx hb dX13_describeClaim_34 (by decide) ?_
    refine lv_icmp_ne (tgt := 43) hx hb dX13_describeClaim_35 (by decide) (fun c_13 => ?_) (fun c_13 => ?_)
    · skip
      have c_13 : tb (accM n (vt v)) j = false := (shr_tbf (accM n (vt v)) (by omega)).mp c_13
      refine lv_aload_n hx hb dX13_describeClaim_43 rfl (lv_at hl 1 rfl) ?_
      refine lv_iload_n hx hb dX13_describeClaim_44 rfl (lv_at hl 0 rfl) ?_
      refine vp_callSi (W.runV (As := [.int (accM n (vt v))]) (rest := [.ref (q 0)]) hF (m_X13_hitBy l9 D k q (if inC n (nI j) = true then 0 else 1) ea fa ch tn he en ((wrS (li, 0) (nI (48 + j))).2) sv wr dg v n (accM n (vt v)) hn hv0) (cwV 1 hts gX13_describeClaim_X13_hitBy rfl rfl rfl (by decide +kernel) ⟨Nat.le_of_ble_eq_true rfl, Nat.le_of_ble_eq_true rfl⟩) (rPreV hK hN hP [0, 1] rfl 0 11 rfl rfl) rfl rfl hl.1 rfl (lv_room (Nat.le_of_ble_eq_true rfl)) dX13_describeClaim_45 ⟨Nat.zero_le _, Nat.zero_le _⟩) (fun r_14 hr_14 => ?_)
      subst hr_14
      refine lv_iload_n hx hb dX13_describeClaim_48 rfl (lv_at hl 2 rfl) ?_
      refine lv_ishr hx hb dX13_describeClaim_49 ?_
      refine lv_iconst (v := 1) hx hb dX13_describeClaim_50 (by decide) ?_
      refine lv_iand hx hb dX13_describeClaim_51 ?_
      refine lv_iconst (v := 1) hx hb dX13_describeClaim_52 (by decide) ?_
      refine lv_icmp_ne (tgt := 61) hx hb dX13_describeClaim_53 (by decide) (fun c_15 => ?_) (fun c_15 => ?_)
      · skip
        have c_15 : tb (orS n (vt v) (accM n (vt v))) j = false := (shr_tbf (orS n (vt v) (accM n (vt v))) (by omega)).mp c_15
        refine lv_bipush (v := 63) hx hb dX13_describeClaim_61 (by decide) ?_
        have hFc := va_free (wc := bMO k q (if inC n (nI j) = true then 0 else 1) ea fa ch tn he en ((wrS (li, 0) (nI (48 + j))).2) sv wr dg ++ bI24 k (q 15) ((wrS (li, 0) (nI (48 + j))).1)) hD hS hA [0, 2] rfl
        refine va_callv (va_runV (As := [.int 63]) (rest := []) hF (m_X13_writes l9 D k H.size q (if inC n (nI j) = true then 0 else 1) ea fa ch tn he en ((wrS (li, 0) (nI (48 + j))).2) sv wr dg ((wrS (li, 0) (nI (48 + j))).1) 63 (by show 0 + 1 < 24; omega)) (cwV 1 hts gX13_describeClaim_X13_writes rfl rfl rfl (by decide +kernel) ⟨Nat.le_of_ble_eq_true rfl, Nat.le_of_ble_eq_true rfl⟩) (wPreV hK hN hP hD [0, 2] rfl (by decide) rfl 0 11 rfl rfl) rfl rfl hl.1 rfl (lv_room (Nat.le_of_ble_eq_true rfl)) dX13_describeClaim_63 ⟨Nat.zero_le _, Nat.zero_le _⟩) hS (fun q _ h => hFc q h) hFc (fun u9 t9 H1 locs ht hvm hw hB hz1 hk1 hS => ?_)
        obtain ⟨hP, hD⟩ := wjoin (wr := bI83 k (q 1) v) (wf := bMO k q (if inC n (nI j) = true then 0 else 1) ea fa ch tn he en ((wrS (((wrS (li, 0) (nI (48 + j))).1), ((wrS (li, 0) (nI (48 + j))).2)) 63).2) sv wr dg ++ bI83 k (q 1) v ++ bI24 k (q 15) ((wrS (((wrS (li, 0) (nI (48 + j))).1), ((wrS (li, 0) (nI (48 + j))).2)) 63).1)) hP hD [0, 2] [1] [1, 0, 2] rfl rfl (by decide) (by decide) hk1 hFc hB ht rfl rfl (by decide)
        clear hB hk1 hz1 hvm hFc
        clear ht
        clear t9
        generalize H1 = H at hP hS ⊢
        refine lv_iconst (v := 0) hx hb dX13_describeClaim_66 (by decide) ?_
        refine lv_istore_n (lv' := [(3, .int 0), (2, .int (accM n (vt v))), (0, .ref (q 0)), (1, .int (nI j))]) hx hb dX13_describeClaim_67 rfl hl (by decide) rfl (fun ls hl => ?_)
        have e_16 : ((if inC n (nI j) = true then 0 else 1) : Int32) = 0 := by first | (with_reducible rfl) | (rw [if_pos (by assumption)])
        have hP := Eq.mp (congrArg (fun z9 => va_P D vwCl (bMO k q z9 ea fa ch tn he en ((wrS (((wrS (li, 0) (nI (48 + j))).1), ((wrS (li, 0) (nI (48 + j))).2)) 63).2) sv wr dg ++ bI83 k (q 1) v ++ bI24 k (q 15) ((wrS (((wrS (li, 0) (nI (48 + j))).1), ((wrS (li, 0) (nI (48 + j))).2)) 63).1)) H) e_16) hP
        have hD := Eq.mp (congrArg (fun z9 => va_D A (bMO k q z9 ea fa ch tn he en ((wrS (((wrS (li, 0) (nI (48 + j))).1), ((wrS (li, 0) (nI (48 + j))).2)) 63).2) sv wr dg ++ bI83 k (q 1) v ++ bI24 k (q 15) ((wrS (((wrS (li, 0) (nI (48 + j))).1), ((wrS (li, 0) (nI (48 + j))).2)) 63).1))) e_16) hD
        have e_17 : ((wrS (((wrS (li, 0) (nI (48 + j))).1), ((wrS (li, 0) (nI (48 + j))).2)) 63).2 : Nat) = (dcl n v li j 0).2 := by first | (with_reducible rfl) | (rfl)
        have hP := Eq.mp (congrArg (fun z9 => va_P D vwCl (bMO k q 0 ea fa ch tn he en z9 sv wr dg ++ bI83 k (q 1) v ++ bI24 k (q 15) ((wrS (((wrS (li, 0) (nI (48 + j))).1), ((wrS (li, 0) (nI (48 + j))).2)) 63).1)) H) e_17) hP
        have hD := Eq.mp (congrArg (fun z9 => va_D A (bMO k q 0 ea fa ch tn he en z9 sv wr dg ++ bI83 k (q 1) v ++ bI24 k (q 15) ((wrS (((wrS (li, 0) (nI (48 + j))).1), ((wrS (li, 0) (nI (48 + j))).2)) 63).1))) e_17) hD
        have e_18 : ((wrS (((wrS (li, 0) (nI (48 + j))).1), ((wrS (li, 0) (nI (48 + j))).2)) 63).1 : Nat → Int32) = (dcl n v li j 0).1 := by first | (with_reducible rfl) | (show _ = (wrS (wrS (li, 0) (nI (48 + j))) (sgM n v j)).1; unfold sgM; rw [if_neg (by rw [c_13]; decide), if_neg (by rw [c_15]; decide)])
        have hP := Eq.mp (congrArg (fun z9 => va_P D vwCl (bMO k q 0 ea fa ch tn he en ((dcl n v li j 0).2) sv wr dg ++ bI83 k (q 1) v ++ bI24 k (q 15) z9) H) e_18) hP
        have hD := Eq.mp (congrArg (fun z9 => va_D A (bMO k q 0 ea fa ch tn he en ((dcl n v li j 0).2) sv wr dg ++ bI83 k (q 1) v ++ bI24 k (q 15) z9)) e_18) hD
        exact loop_68 ((n - 0) + 1) 0 j (accM n (vt v)) (by omega) hj clj (by assumption) (Nat.lt_succ_self _) ls _ _ hP hD hS (lv_one hl 2 rfl rfl (lv_one hl 3 rfl rfl (lv_one hl 1 rfl rfl (lv_one hl 0 rfl rfl (lv_nil hl)))))
      · skip
        have c_15 : tb (orS n (vt v) (accM n (vt v))) j = true := (shr_tb1 (orS n (vt v) (accM n (vt v))) (by omega)).mp c_15
        refine lv_bipush (v := 45) hx hb dX13_describeClaim_56 (by decide) ?_
        refine lv_goto (tgt := 63) hx hb dX13_describeClaim_58 (by decide) ?_
        have hFc := va_free (wc := bMO k q (if inC n (nI j) = true then 0 else 1) ea fa ch tn he en ((wrS (li, 0) (nI (48 + j))).2) sv wr dg ++ bI24 k (q 15) ((wrS (li, 0) (nI (48 + j))).1)) hD hS hA [0, 2] rfl
        refine va_callv (va_runV (As := [.int 45]) (rest := []) hF (m_X13_writes l9 D k H.size q (if inC n (nI j) = true then 0 else 1) ea fa ch tn he en ((wrS (li, 0) (nI (48 + j))).2) sv wr dg ((wrS (li, 0) (nI (48 + j))).1) 45 (by show 0 + 1 < 24; omega)) (cwV 1 hts gX13_describeClaim_X13_writes rfl rfl rfl (by decide +kernel) ⟨Nat.le_of_ble_eq_true rfl, Nat.le_of_ble_eq_true rfl⟩) (wPreV hK hN hP hD [0, 2] rfl (by decide) rfl 0 11 rfl rfl) rfl rfl hl.1 rfl (lv_room (Nat.le_of_ble_eq_true rfl)) dX13_describeClaim_63 ⟨Nat.zero_le _, Nat.zero_le _⟩) hS (fun q _ h => hFc q h) hFc (fun u9 t9 H1 locs ht hvm hw hB hz1 hk1 hS => ?_)
        obtain ⟨hP, hD⟩ := wjoin (wr := bI83 k (q 1) v) (wf := bMO k q (if inC n (nI j) = true then 0 else 1) ea fa ch tn he en ((wrS (((wrS (li, 0) (nI (48 + j))).1), ((wrS (li, 0) (nI (48 + j))).2)) 45).2) sv wr dg ++ bI83 k (q 1) v ++ bI24 k (q 15) ((wrS (((wrS (li, 0) (nI (48 + j))).1), ((wrS (li, 0) (nI (48 + j))).2)) 45).1)) hP hD [0, 2] [1] [1, 0, 2] rfl rfl (by decide) (by decide) hk1 hFc hB ht rfl rfl (by decide)
        clear hB hk1 hz1 hvm hFc
        clear ht
        clear t9
        generalize H1 = H at hP hS ⊢
        refine lv_iconst (v := 0) hx hb dX13_describeClaim_66 (by decide) ?_
        refine lv_istore_n (lv' := [(3, .int 0), (2, .int (accM n (vt v))), (0, .ref (q 0)), (1, .int (nI j))]) hx hb dX13_describeClaim_67 rfl hl (by decide) rfl (fun ls hl => ?_)
        have e_19 : ((if inC n (nI j) = true then 0 else 1) : Int32) = 0 := by first | (with_reducible rfl) | (rw [if_pos (by assumption)])
        have hP := Eq.mp (congrArg (fun z9 => va_P D vwCl (bMO k q z9 ea fa ch tn he en ((wrS (((wrS (li, 0) (nI (48 + j))).1), ((wrS (li, 0) (nI (48 + j))).2)) 45).2) sv wr dg ++ bI83 k (q 1) v ++ bI24 k (q 15) ((wrS (((wrS (li, 0) (nI (48 + j))).1), ((wrS (li, 0) (nI (48 + j))).2)) 45).1)) H) e_19) hP
        have hD := Eq.mp (congrArg (fun z9 => va_D A (bMO k q z9 ea fa ch tn he en ((wrS (((wrS (li, 0) (nI (48 + j))).1), ((wrS (li, 0) (nI (48 + j))).2)) 45).2) sv wr dg ++ bI83 k (q 1) v ++ bI24 k (q 15) ((wrS (((wrS (li, 0) (nI (48 + j))).1), ((wrS (li, 0) (nI (48 + j))).2)) 45).1))) e_19) hD
        have e_20 : ((wrS (((wrS (li, 0) (nI (48 + j))).1), ((wrS (li, 0) (nI (48 + j))).2)) 45).2 : Nat) = (dcl n v li j 0).2 := by first | (with_reducible rfl) | (rfl)
        have hP := Eq.mp (congrArg (fun z9 => va_P D vwCl (bMO k q 0 ea fa ch tn he en z9 sv wr dg ++ bI83 k (q 1) v ++ bI24 k (q 15) ((wrS (((wrS (li, 0) (nI (48 + j))).1), ((wrS (li, 0) (nI (48 + j))).2)) 45).1)) H) e_20) hP
        have hD := Eq.mp (congrArg (fun z9 => va_D A (bMO k q 0 ea fa ch tn he en z9 sv wr dg ++ bI83 k (q 1) v ++ bI24 k (q 15) ((wrS (((wrS (li, 0) (nI (48 + j))).1), ((wrS (li, 0) (nI (48 + j))).2)) 45).1))) e_20) hD
        have e_21 : ((wrS (((wrS (li, 0) (nI (48 + j))).1), ((wrS (li, 0) (nI (48 + j))).2)) 45).1 : Nat → Int32) = (dcl n v li j 0).1 := by first | (with_reducible rfl) | (show _ = (wrS (wrS (li, 0) (nI (48 + j))) (sgM n v j)).1; unfold sgM; rw [if_neg (by rw [c_13]; decide), if_pos c_15])
        have hP := Eq.mp (congrArg (fun z9 => va_P D vwCl (bMO k q 0 ea fa ch tn he en ((dcl n v li j 0).2) sv wr dg ++ bI83 k (q 1) v ++ bI24 k (q 15) z9) H) e_21) hP
        have hD := Eq.mp (congrArg (fun z9 => va_D A (bMO k q 0 ea fa ch tn he en ((dcl n v li j 0).2) sv wr dg ++ bI83 k (q 1) v ++ bI24 k (q 15) z9)) e_21) hD
        exact loop_68 ((n - 0) + 1) 0 j (accM n (vt v)) (by omega) hj clj (by assumption) (Nat.lt_succ_self _) ls _ _ hP hD hS (lv_one hl 2 rfl rfl (lv_one hl 3 rfl rfl (lv_one hl 1 rfl rfl (lv_one hl 0 rfl rfl (lv_nil hl)))))
    · skip
      have c_13 : tb (accM n (vt v)) j = true := (shr_tb1 (accM n (vt v)) (by omega)).mp c_13
      refine lv_bipush (v := 43) hx hb dX13_describeClaim_38 (by decide) ?_
      refine lv_goto (tgt := 63) hx hb dX13_describeClaim_40 (by decide) ?_
      have hFc := va_free (wc := bMO k q (if inC n (nI j) = true then 0 else 1) ea fa ch tn he en ((wrS (li, 0) (nI (48 + j))).2) sv wr dg ++ bI24 k (q 15) ((wrS (li, 0) (nI (48 + j))).1)) hD hS hA [0, 2] rfl
      refine va_callv (va_runV (As := [.int 43]) (rest := []) hF (m_X13_writes l9 D k H.size q (if inC n (nI j) = true then 0 else 1) ea fa ch tn he en ((wrS (li, 0) (nI (48 + j))).2) sv wr dg ((wrS (li, 0) (nI (48 + j))).1) 43 (by show 0 + 1 < 24; omega)) (cwV 1 hts gX13_describeClaim_X13_writes rfl rfl rfl (by decide +kernel) ⟨Nat.le_of_ble_eq_true rfl, Nat.le_of_ble_eq_true rfl⟩) (wPreV hK hN hP hD [0, 2] rfl (by decide) rfl 0 11 rfl rfl) rfl rfl hl.1 rfl (lv_room (Nat.le_of_ble_eq_true rfl)) dX13_describeClaim_63 ⟨Nat.zero_le _, Nat.zero_le _⟩) hS (fun q _ h => hFc q h) hFc (fun u9 t9 H1 locs ht hvm hw hB hz1 hk1 hS => ?_)
      obtain ⟨hP, hD⟩ := wjoin (wr := bI83 k (q 1) v) (wf := bMO k q (if inC n (nI j) = true then 0 else 1) ea fa ch tn he en ((wrS (((wrS (li, 0) (nI (48 + j))).1), ((wrS (li, 0) (nI (48 + j))).2)) 43).2) sv wr dg ++ bI83 k (q 1) v ++ bI24 k (q 15) ((wrS (((wrS (li, 0) (nI (48 + j))).1), ((wrS (li, 0) (nI (48 + j))).2)) 43).1)) hP hD [0, 2] [1] [1, 0, 2] rfl rfl (by decide) (by decide) hk1 hFc hB ht rfl rfl (by decide)
      clear hB hk1 hz1 hvm hFc
      clear ht
      clear t9
      generalize H1 = H at hP hS ⊢
      refine lv_iconst (v := 0) hx hb dX13_describeClaim_66 (by decide) ?_
      refine lv_istore_n (lv' := [(3, .int 0), (2, .int (accM n (vt v))), (0, .ref (q 0)), (1, .int (nI j))]) hx hb dX13_describeClaim_67 rfl hl (by decide) rfl (fun ls hl => ?_)
      have e_22 : ((if inC n (nI j) = true then 0 else 1) : Int32) = 0 := by first | (with_reducible rfl) | (rw [if_pos (by assumption)])
      have hP := Eq.mp (congrArg (fun z9 => va_P D vwCl (bMO k q z9 ea fa ch tn he en ((wrS (((wrS (li, 0) (nI (48 + j))).1), ((wrS (li, 0) (nI (48 + j))).2)) 43).2) sv wr dg ++ bI83 k (q 1) v ++ bI24 k (q 15) ((wrS (((wrS (li, 0) (nI (48 + j))).1), ((wrS (li, 0) (nI (48 + j))).2)) 43).1)) H) e_22) hP
      have hD := Eq.mp (congrArg (fun z9 => va_D A (bMO k q z9 ea fa ch tn he en ((wrS (((wrS (li, 0) (nI (48 + j))).1), ((wrS (li, 0) (nI (48 + j))).2)) 43).2) sv wr dg ++ bI83 k (q 1) v ++ bI24 k (q 15) ((wrS (((wrS (li, 0) (nI (48 + j))).1), ((wrS (li, 0) (nI (48 + j))).2)) 43).1))) e_22) hD
      have e_23 : ((wrS (((wrS (li, 0) (nI (48 + j))).1), ((wrS (li, 0) (nI (48 + j))).2)) 43).2 : Nat) = (dcl n v li j 0).2 := by first | (with_reducible rfl) | (rfl)
      have hP := Eq.mp (congrArg (fun z9 => va_P D vwCl (bMO k q 0 ea fa ch tn he en z9 sv wr dg ++ bI83 k (q 1) v ++ bI24 k (q 15) ((wrS (((wrS (li, 0) (nI (48 + j))).1), ((wrS (li, 0) (nI (48 + j))).2)) 43).1)) H) e_23) hP
      have hD := Eq.mp (congrArg (fun z9 => va_D A (bMO k q 0 ea fa ch tn he en z9 sv wr dg ++ bI83 k (q 1) v ++ bI24 k (q 15) ((wrS (((wrS (li, 0) (nI (48 + j))).1), ((wrS (li, 0) (nI (48 + j))).2)) 43).1))) e_23) hD
      have e_24 : ((wrS (((wrS (li, 0) (nI (48 + j))).1), ((wrS (li, 0) (nI (48 + j))).2)) 43).1 : Nat → Int32) = (dcl n v li j 0).1 := by first | (with_reducible rfl) | (show _ = (wrS (wrS (li, 0) (nI (48 + j))) (sgM n v j)).1; unfold sgM; rw [if_pos c_13])
      have hP := Eq.mp (congrArg (fun z9 => va_P D vwCl (bMO k q 0 ea fa ch tn he en ((dcl n v li j 0).2) sv wr dg ++ bI83 k (q 1) v ++ bI24 k (q 15) z9) H) e_24) hP
      have hD := Eq.mp (congrArg (fun z9 => va_D A (bMO k q 0 ea fa ch tn he en ((dcl n v li j 0).2) sv wr dg ++ bI83 k (q 1) v ++ bI24 k (q 15) z9)) e_24) hD
      exact loop_68 ((n - 0) + 1) 0 j (accM n (vt v)) (by omega) hj clj (by assumption) (Nat.lt_succ_self _) ls _ _ hP hD hS (lv_one hl 2 rfl rfl (lv_one hl 3 rfl rfl (lv_one hl 1 rfl rfl (lv_one hl 0 rfl rfl (lv_nil hl)))))
  · skip
    have c_11 : (inC n x) = false := bI_0 c_11
    refine lv_iconst (v := 0) hx hb dX13_describeClaim_8 (by decide) ?_
    have e_25 : (ln : Nat) = if inC n x = true then (dcl n v li x.toNatClampNeg n).2 else ln := by first | (with_reducible rfl) | ((try simp only []); (repeat (first | rw [if_pos (by first | assumption | exact Eq.trans (b := false) (by assumption) (Eq.symm (by assumption)) | exact Eq.trans (b := true) (by assumption) (Eq.symm (by assumption)) | exact ⟨by assumption, by assumption⟩ | exact Or.inl (by assumption) | exact Or.inr (by assumption) | exact Or.inr (Or.inl (by assumption)) | exact Or.inr (Or.inr (by assumption)) | (simp only [Int32.lt_iff_toInt_lt, Int32.le_iff_toInt_le, i32_0, i32_1, i32_2, i32_3, i32_4, i32_9, i32_10, i32_99, i32_100, i32_1000, i32_9999] at *; omega))] | rw [if_neg (by first | assumption | (rintro (h9 | h9 | h9) <;> contradiction) | (rintro (h9 | h9) <;> contradiction) | (intro h9; exact Bool.noConfusion (Eq.trans (c := false) h9.symm (by assumption))) | (rintro ⟨h8, h9⟩; exact Bool.noConfusion (Eq.trans (c := false) h8.symm (by assumption))) | (rintro ⟨h8, h9⟩; exact Bool.noConfusion (Eq.trans (c := false) h9.symm (by assumption))) | (simp only [Int32.lt_iff_toInt_lt, Int32.le_iff_toInt_le, i32_0, i32_1, i32_2, i32_3, i32_4, i32_9, i32_10, i32_99, i32_100, i32_1000, i32_9999] at *; omega))])); (try rfl))
    have hP := Eq.mp (congrArg (fun z9 => va_P D vwCl (bMO k q (if inC n x = true then 0 else 1) ea fa ch tn he en z9 sv wr dg ++ bI83 k (q 1) v ++ bI24 k (q 15) li) H) e_25) hP
    have hD := Eq.mp (congrArg (fun z9 => va_D A (bMO k q (if inC n x = true then 0 else 1) ea fa ch tn he en z9 sv wr dg ++ bI83 k (q 1) v ++ bI24 k (q 15) li)) e_25) hD
    have e_26 : (li : Nat → Int32) = if inC n x = true then (dcl n v li x.toNatClampNeg n).1 else li := by first | (with_reducible rfl) | ((try simp only []); (repeat (first | rw [if_pos (by first | assumption | exact Eq.trans (b := false) (by assumption) (Eq.symm (by assumption)) | exact Eq.trans (b := true) (by assumption) (Eq.symm (by assumption)) | exact ⟨by assumption, by assumption⟩ | exact Or.inl (by assumption) | exact Or.inr (by assumption) | exact Or.inr (Or.inl (by assumption)) | exact Or.inr (Or.inr (by assumption)) | (simp only [Int32.lt_iff_toInt_lt, Int32.le_iff_toInt_le, i32_0, i32_1, i32_2, i32_3, i32_4, i32_9, i32_10, i32_99, i32_100, i32_1000, i32_9999] at *; omega))] | rw [if_neg (by first | assumption | (rintro (h9 | h9 | h9) <;> contradiction) | (rintro (h9 | h9) <;> contradiction) | (intro h9; exact Bool.noConfusion (Eq.trans (c := false) h9.symm (by assumption))) | (rintro ⟨h8, h9⟩; exact Bool.noConfusion (Eq.trans (c := false) h8.symm (by assumption))) | (rintro ⟨h8, h9⟩; exact Bool.noConfusion (Eq.trans (c := false) h9.symm (by assumption))) | (simp only [Int32.lt_iff_toInt_lt, Int32.le_iff_toInt_le, i32_0, i32_1, i32_2, i32_3, i32_4, i32_9, i32_10, i32_99, i32_100, i32_1000, i32_9999] at *; omega))])); (try rfl))
    have hP := Eq.mp (congrArg (fun z9 => va_P D vwCl (bMO k q (if inC n x = true then 0 else 1) ea fa ch tn he en (if inC n x = true then (dcl n v li x.toNatClampNeg n).2 else ln) sv wr dg ++ bI83 k (q 1) v ++ bI24 k (q 15) z9) H) e_26) hP
    have hD := Eq.mp (congrArg (fun z9 => va_D A (bMO k q (if inC n x = true then 0 else 1) ea fa ch tn he en (if inC n x = true then (dcl n v li x.toNatClampNeg n).2 else ln) sv wr dg ++ bI83 k (q 1) v ++ bI24 k (q 15) z9)) e_26) hD
    exact W.iret (v := 0) hx hb hr (fun t9 ht hW => ⟨⟨_, (), rfl, (by (try simp only []); (repeat (first | rw [if_pos (by first | assumption | exact Eq.trans (b := false) (by assumption) (Eq.symm (by assumption)) | exact Eq.trans (b := true) (by assumption) (Eq.symm (by assumption)) | exact ⟨by assumption, by assumption⟩ | exact Or.inl (by assumption) | exact Or.inr (by assumption) | exact Or.inr (Or.inl (by assumption)) | exact Or.inr (Or.inr (by assumption)) | (simp only [Int32.lt_iff_toInt_lt, Int32.le_iff_toInt_le, i32_0, i32_1, i32_2, i32_3, i32_4, i32_9, i32_10, i32_99, i32_100, i32_1000, i32_9999] at *; omega))] | rw [if_neg (by first | assumption | (rintro (h9 | h9 | h9) <;> contradiction) | (rintro (h9 | h9) <;> contradiction) | (intro h9; exact Bool.noConfusion (Eq.trans (c := false) h9.symm (by assumption))) | (rintro ⟨h8, h9⟩; exact Bool.noConfusion (Eq.trans (c := false) h8.symm (by assumption))) | (rintro ⟨h8, h9⟩; exact Bool.noConfusion (Eq.trans (c := false) h9.symm (by assumption))) | (simp only [Int32.lt_iff_toInt_lt, Int32.le_iff_toInt_le, i32_0, i32_1, i32_2, i32_3, i32_4, i32_9, i32_10, i32_99, i32_100, i32_1000, i32_9999] at *; omega))])); (try rfl)), ⟨by rw [ht]; exact hP, va_K.moved hW.alike hK, hD⟩⟩, hS.F ht⟩) hS.2.2 dX13_describeClaim_9 hlocks

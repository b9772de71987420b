/-! Floats: not negative, and no NaN. -/
def posD : FP.Core.Datum → Bool
  | .nan => false
  | .inf s => !s
  | .fin s _ _ => !s
def okF (x : UInt32) : Prop := posD (FP.Core.val32 x) = true
theorem posD_roundRatio (f : FP.Core.Fmt) (n d : Nat) (e : Int) : posD (FP.Core.roundRatio f false n d e) = true := by
  unfold FP.Core.roundRatio
  split
  · rfl
  · unfold FP.Core.roundAt FP.Core.settle FP.Core.bound
    split <;> split <;> rfl
theorem posD_round (f : FP.Core.Fmt) {d : FP.Core.Datum} (h : posD d = true) : posD (FP.Core.round f d) = true := by
  cases d with
  | nan => cases h
  | inf s => exact h
  | fin s c q =>
    cases s with
    | false => exact posD_roundRatio f c 1 q
    | true => cases h
theorem posD_sum {a b : FP.Core.Datum} (ha : posD a = true) (hb : posD b = true) : posD (FP.Core.exactSum a b) = true := by
  cases a with
  | nan => cases ha
  | inf s =>
    cases s with
    | true => cases ha
    | false =>
      cases b with
      | nan => cases hb
      | inf t =>
        cases t with
        | true => cases hb
        | false => rfl
      | fin t d r => rfl
  | fin s c q =>
    cases s with
    | true => cases ha
    | false =>
      cases b with
      | nan => cases hb
      | inf t => exact hb
      | fin t d r =>
        cases t with
        | true => cases hb
        | false =>
          show (!FP.Core.sumSign false false _) = true
          unfold FP.Core.sumSign
          split
          · rfl
          · rename_i h0
            have : ¬ FP.Core.sumUnits false c q false d r (min q r) < 0 := by
              unfold FP.Core.sumUnits FP.Core.signed
              simp only [Bool.false_eq_true, if_false]
              omega
            rw [decide_eq_false this]; rfl
theorem posD_prod {a : FP.Core.Datum} {d : Nat} {r : Int} (ha : posD a = true) (hd : d ≠ 0) : posD (FP.Core.exactProduct a (.fin false d r)) = true := by
  cases a with
  | nan => cases ha
  | inf s =>
    show posD (if d = 0 then _ else _) = true
    rw [if_neg hd]
    cases s with
    | true => cases ha
    | false => rfl
  | fin s c q =>
    cases s with
    | true => cases ha
    | false => rfl
theorem posD_quot {f : FP.Core.Fmt} {a : FP.Core.Datum} {d : Nat} {r : Int} (ha : posD a = true) (hd : d ≠ 0) : posD (FP.Core.quotient f a (.fin false d r)) = true := by
  cases a with
  | nan => cases ha
  | inf s =>
    cases s with
    | true => cases ha
    | false => rfl
  | fin s c q =>
    cases s with
    | true => cases ha
    | false =>
      show posD (if d = 0 then _ else _) = true
      rw [if_neg hd]
      exact posD_roundRatio f c d (q - r)
theorem okF_add {a b : UInt32} (ha : okF a) (hb : okF b) : okF (FP.fadd a b) := by
  unfold okF at *
  rw [show FP.Core.val32 (FP.fadd a b) = _ from FP.Core.val32_fadd a b]
  exact posD_round _ (posD_sum ha hb)
/-- a positive number -/
def psF (y : UInt32) : Prop := ∃ d r, d ≠ 0 ∧ FP.Core.val32 y = .fin false d r
theorem okF_mul {a b : UInt32} (ha : okF a) (hb : psF b) : okF (FP.fmul a b) := by
  obtain ⟨d, r, hd, e⟩ := hb
  unfold okF at *
  rw [show FP.Core.val32 (FP.fmul a b) = _ from FP.Core.val32_fmul a b, e]
  exact posD_round _ (posD_prod ha hd)
theorem okF_div {a b : UInt32} (ha : okF a) (hb : psF b) : okF (FP.fdiv a b) := by
  obtain ⟨d, r, hd, e⟩ := hb
  unfold okF at *
  rw [show FP.Core.val32 (FP.fdiv a b) = _ from FP.Core.val32_fdiv a b, e]
  exact posD_quot ha hd
theorem okF_notNaN {a : UInt32} (h : okF a) : FP.Core.val32 a ≠ .nan := fun e => by
  unfold okF at h
  rw [e] at h
  cases h
theorem okF_n32 {a : UInt32} (h : okF a) : vf_n32 a := by
  have hn := okF_notNaN h
  have hm : (a &&& 0x7fffffff).toNat ≤ 0x7f800000 := by
    rw [FP.Core.mask_toNat32]
    apply Classical.byContradiction
    intro q
    apply hn
    unfold FP.Core.val32 FP.Core.decode
    have h1 : FP.Core.fieldE FP.Core.b32 a.toNat = FP.Core.b32.exps - 1 := by
      show a.toNat / 2 ^ 23 % 2 ^ 8 = 2 ^ 8 - 1
      omega
    have h2 : ¬ FP.Core.fieldT FP.Core.b32 a.toNat = 0 := by
      show ¬ a.toNat % 2 ^ 23 = 0
      omega
    rw [if_pos h1, if_neg h2]
  exact UInt32.le_iff_toNat_le.mpr hm
theorem okF_sign {a : UInt32} (h : okF a) : a.toNat < 2 ^ 31 := by
  have ha := a.toNat_lt
  apply Classical.byContradiction
  intro q
  unfold okF FP.Core.val32 FP.Core.decode at h
  have hs : FP.Core.fieldS FP.Core.b32 a.toNat = true := by
    show (a.toNat / 2 ^ 23 / 2 ^ 8 % 2 == 1) = true
    have : a.toNat / 2 ^ 23 / 2 ^ 8 % 2 = 1 := by omega
    rw [this]; rfl
  rw [hs] at h
  split at h
  · split at h
    · cases h
    · cases h
  · split at h
    · cases h
    · cases h
theorem okF_0 : okF FP.fconst0 := by unfold okF; decide +kernel
theorem psF_half : psF 1056964608 := ⟨_, _, by decide, (by decide +kernel : FP.Core.val32 1056964608 = .fin false 8388608 (-24))⟩
theorem psF_quarter : psF 1048576000 := ⟨_, _, by decide, (by decide +kernel : FP.Core.val32 1048576000 = .fin false 8388608 (-25))⟩
theorem psF_ten : psF 1092616192 := ⟨_, _, by decide, (by decide +kernel : FP.Core.val32 1092616192 = .fin false 10485760 (-20))⟩
def isPs : FP.Core.Datum → Bool
  | .fin false d _ => d != 0
  | _ => false
theorem isPs_ex {y : UInt32} (h : isPs (FP.Core.val32 y) = true) : psF y := by
  unfold psF
  cases e : FP.Core.val32 y with
  | nan => rw [e] at h; cases h
  | inf s => rw [e] at h; cases h
  | fin s d r =>
    rw [e] at h
    cases s with
    | true => cases h
    | false => exact ⟨d, r, by simpa [isPs] using h, rfl⟩
theorem psF_i2f {j : Nat} (h0 : 1 ≤ j) (h : j ≤ 10) : psF (FP.i2f (nI j)) := by
  have : ∀ j : Nat, j ≤ 10 → 1 ≤ j → isPs (FP.Core.val32 (FP.i2f (nI j))) = true := by decide +kernel
  exact isPs_ex (this j h h0)
/-- no more than 99999 -/
def cpF (x : UInt32) : UInt32 := if FP.fcmp x 1203982208 = some .gt then 1203982208 else x
theorem okF_cap {x : UInt32} (h : okF x) : okF (cpF x) := by
  unfold cpF
  split
  · unfold okF; decide +kernel
  · exact h
/-- the sum of the first m fluxes -/
def smF (f : Nat → UInt32) (m : Nat) : UInt32 := up (fun c x => FP.fadd x (f c)) FP.fconst0 m
theorem smF_s (f : Nat → UInt32) (m : Nat) : smF f (m + 1) = FP.fadd (smF f m) (f m) := rfl
theorem okF_sm {f : Nat → UInt32} {m : Nat} (h : ∀ c, c < m → okF (f c)) : okF (smF f m) := by
  induction m with
  | zero => exact okF_0
  | succ m ih => exact okF_add (ih (fun c hc => h c (Nat.lt_succ_of_lt hc))) (h m (Nat.lt_succ_self m))
/-- o stands ahead of c: by the flux, the weight, the number -/
def ahS (f : Nat → UInt32) (w : Nat → Int32) (o c : Nat) : Bool :=
  if FP.fcmp (f o) (f c) = some .eq then (if w o = w c then decide (o < c) else decide (w c < w o)) else decide (FP.fcmp (f o) (f c) = some .gt)
def cntA (f : Nat → UInt32) (w : Nat → Int32) (c m : Nat) : Nat := up (fun o k => if ahS f w o c then k + 1 else k) 0 m
theorem cntA_s (f : Nat → UInt32) (w : Nat → Int32) (c m : Nat) : cntA f w c (m + 1) = if ahS f w m c then cntA f w c m + 1 else cntA f w c m := rfl
theorem cmv_eq (o : Option Ordering) (op : CmpOp) : Op.cmpValue o op = 0 ↔ o = some .eq := by
  cases o with
  | none => cases op <;> simp [Op.cmpValue] <;> decide
  | some o => cases o <;> cases op <;> simp [Op.cmpValue] <;> decide
theorem cmv_le (o : Option Ordering) : Op.cmpValue o .l ≤ 0 ↔ ¬ o = some .gt := by
  cases o with
  | none => simp [Op.cmpValue] <;> decide
  | some o => cases o <;> simp [Op.cmpValue] <;> decide
theorem cmv_gt (o : Option Ordering) : 0 < Op.cmpValue o .l ↔ o = some .gt := by
  cases o with
  | none => simp [Op.cmpValue] <;> decide
  | some o => cases o <;> simp [Op.cmpValue] <;> decide
theorem cmv_ltg (o : Option Ordering) : Op.cmpValue o .g < 0 ↔ o = some .lt := by
  cases o with
  | none => simp [Op.cmpValue] <;> decide
  | some o => cases o <;> simp [Op.cmpValue] <;> decide
theorem lv_tope {p : Program} {l : Launch} {e : Env} {R : Room} {s : State} {m : MethodId} {args : Array Value} {below : List Frame} {meth : Method} {c : Code} {H : Heap} {locs : List Loc} {cells slots : Nat} {Q : State → Prop} {pc : Nat} {ls : Array Slot} {rest : List Value} {v v2 : Value} (h : v = v2) (k : W p l e R s m args below meth c H locs cells slots Q (F0 m pc ls (v2 :: rest))) : W p l e R s m args below meth c H locs cells slots Q (F0 m pc ls (v :: rest)) := by
  subst h
  exact k
theorem lv_ldcwf {p : Program} {l : Launch} {e : Env} {R : Room} {s : State} {m : MethodId} {args : Array Value} {below : List Frame} {meth : Method} {c : Code} {H : Heap} {locs : List Loc} {cells slots : Nat} {Q : State → Prop} {cc : ByteArray} {pc : Nat} {ls : Array Slot} {rest : List Value} (hexec : p.tables.exec = Jvm.exec) (hb : c.code = cc) {own : String} {index : Nat} {v : UInt32} (hown : s.vm.findClass own = some m.cls) (hconst : (Jvm.Cond.constantFloat own index v).before args s = true) (hdg : decode cc pc = .ok (.ldc_w index, 3)) (k : W p l e R s m args below meth c H locs cells slots Q (F0 m (pc + 3) ls (.float v :: rest))) : W p l e R s m args below meth c H locs cells slots Q (F0 m pc ls rest) := by
  intro T hT X
  obtain ⟨t, a, b⟩ := k T hT X
  refine ⟨t, ?_, b⟩
  obtain ⟨kk, cf, hk, hcf, hcp⟩ := Cond.constantFloat_spec hown hconst
  obtain ⟨k', hk', he⟩ := X.warmed.alike.2.2 _ _ hk
  jvm_step X.here [hexec, hb, hdg, ldc_w.wp_float (s := T) (f := F0 m pc ls rest) X.here.top hk' (by rw [he]; exact hcf) hcp]
  exact a
theorem stg_nI (x : Int32) : ∃ d, d ≤ 3 ∧ stg x = nI d := by
  unfold stg
  split
  · exact ⟨3, by decide, rfl⟩
  · split
    · exact ⟨2, by decide, rfl⟩
    · exact ⟨0, by decide, rfl⟩
theorem dpS_nI (rk : Nat → Int32) (j : Nat) : ∃ d, d ≤ 9 ∧ dpS rk j = nI d := by
  obtain ⟨a, ha, ea⟩ := stg_nI (rk (j * 3 + 0))
  obtain ⟨b, hb, eb⟩ := stg_nI (rk (j * 3 + 1))
  obtain ⟨c, hc, ec⟩ := stg_nI (rk (j * 3 + 2))
  refine ⟨a + b + c, by omega, ?_⟩
  show ((0 + stg _) + stg _) + stg _ = _
  rw [ea, eb, ec, show (0 : Int32) = nI 0 from rfl, nI_add, nI_add, nI_add, Nat.zero_add]
theorem psF_dp (rk : Nat → Int32) (j : Nat) : psF (FP.i2f (10 - dpS rk j)) := by
  obtain ⟨d, hd, e⟩ := dpS_nI rk j
  rw [e, show (10 : Int32) = nI 10 from rfl, pk_sub (by omega)]
  exact psF_i2f (by omega) (by omega)
/-- the halves and quarters that come to the claim c from the first m -/
def nxm (a : Nat → Int32) (f : Nat → UInt32) (c m : Nat) : UInt32 := up (fun o x => if tb (a c) o then FP.fadd x (FP.fmul (f o) 1048576000) else x) (FP.fmul (f c) 1056964608) m
theorem nxm_s (a : Nat → Int32) (f : Nat → UInt32) (c m : Nat) : nxm a f c (m + 1) = if tb (a c) m then FP.fadd (nxm a f c m) (FP.fmul (f m) 1048576000) else nxm a f c m := rfl
theorem okF_nxm {n : Nat} {a : Nat → Int32} {f : Nat → UInt32} (hf : ∀ c, c < n → okF (f c)) {c : Nat} (hc : c < n) {m : Nat} (hm : m ≤ n) : okF (nxm a f c m) := by
  induction m with
  | zero => exact okF_mul (hf c hc) psF_half
  | succ m ih =>
    rw [nxm_s]
    split
    · exact okF_add (ih (by omega)) (okF_mul (hf m (by omega)) psF_quarter)
    · exact ih (by omega)
/-- the flux of the claim c a shift later; dp: the depth of its layer -/
def nxF (n : Nat) (a : Nat → Int32) (f : Nat → UInt32) (dp : Int32) (c : Nat) : UInt32 := cpF (FP.fdiv (FP.fmul (nxm a f c n) (FP.i2f (10 - dp))) 1092616192)
theorem okF_nx {n : Nat} {a : Nat → Int32} {f : Nat → UInt32} (hf : ∀ c, c < n → okF (f c)) {c : Nat} (hc : c < n) (rk : Nat → Int32) (j : Nat) : okF (nxF n a f (dpS rk j) c) :=
  okF_cap (okF_div (okF_mul (okF_nxm hf hc (Nat.le_refl n)) (psF_dp rk j)) psF_ten)
/-- the layers of the claims are layers -/
def lyOk (n : Nat) (ly : Nat → Int32) : Prop := ∀ c, c < n → ly c = nI (ly c).toNatClampNeg ∧ (ly c).toNatClampNeg < 4
theorem okF_am {x : Int32} (h1 : 1 ≤ x) (h2 : x ≤ 1000) : okF (FP.i2f x) := by
  have : ∀ j : Nat, j ≤ 1000 → okF (FP.i2f (nI j)) := by
    have h : ∀ j : Nat, j ≤ 1000 → posD (FP.Core.val32 (FP.i2f (nI j))) = true := by decide +kernel
    exact h
  have hx : ¬ x < 0 := by
    intro q
    rw [Int32.le_iff_toInt_le] at h1
    rw [Int32.lt_iff_toInt_lt] at q
    rw [i32_1] at h1
    rw [i32_0] at q
    omega
  obtain ⟨j, hj, rfl⟩ := nI_of hx
  exact this j ((nI_leI hj (by decide)).mp h2)
theorem cmv_ltl (o : Option Ordering) : Op.cmpValue o .l < 0 ↔ (o = some .lt ∨ o = none) := by
  cases o with
  | none => simp [Op.cmpValue] <;> decide
  | some o => cases o <;> simp [Op.cmpValue] <;> decide

set_option maxHeartbeats 4000000 in
set_option maxRecDepth 100000 in
theorem m_X12_capped (l9 : Launch) (D : va_G) (k : Nat → ClassId) (x : UInt32) : Met l9 yX12_capped wsX12_capped ({ frames := 0, cells := 0, slots := 0, locals := 0 }) (RPc D k [.float x] ([])) (EF (cpF x)) 0 0 noA := by
  refine rMet (y := yX12_capped) (cc := cX12_capped) (maxL := 1) (ret := (some .float)) [.float x] (by decide) rfl (Nat.le_of_ble_eq_true rfl) ?_
  intro p9 e9 s9 m9 bl9 me9 c9 ls hF hr hlocks hP hK hN hl
  have hl : lv_has ls 1 [(0, .float x)] := hl
  obtain ⟨hx, hb, hml, hown, hts⟩ := id hF
  have k_constantFloat_442 : (Cond.constantFloat RX12 442 (1203982208)).before _ s9 = true := hts (.constantFloat RX12 442 (1203982208)) (by decide +kernel)
  refine lv_fload_n hx hb dX12_capped_0 rfl (lv_at hl 0 rfl) ?_
  refine lv_ldcwf hx hb hown k_constantFloat_442 dX12_capped_1 ?_
  refine lv_fcmp hx hb dX12_capped_4 ?_
  refine lv_if_le (tgt := 14) hx hb dX12_capped_5 (by decide) (fun c_1 => ?_) (fun c_1 => ?_)
  · skip
    have c_1 : ¬ (FP.fcmp x 1203982208) = some .gt := (cmv_le _).mp c_1
    refine lv_fload_n hx hb dX12_capped_14 rfl (lv_at hl 0 rfl) ?_
    exact W.fret (v := x) hx hb hr (fun t9 ht hW => ⟨_, rfl, (by (try simp only [cpF]); (repeat (first | rw [if_pos (by first | assumption | exact Eq.trans (b := false) (by assumption) (Eq.symm (by assumption)) | exact Eq.trans (b := true) (by assumption) (Eq.symm (by assumption)) | exact ⟨by assumption, by assumption⟩ | exact Or.inl (by assumption) | exact Or.inr (by assumption) | exact Or.inr (Or.inl (by assumption)) | exact Or.inr (Or.inr (by assumption)) | (simp only [Int32.lt_iff_toInt_lt, Int32.le_iff_toInt_le, i32_0, i32_1, i32_2, i32_3, i32_4, i32_9, i32_10, i32_99, i32_100, i32_1000, i32_9999] at *; omega))] | rw [if_neg (by first | assumption | (rintro (h9 | h9 | h9) <;> contradiction) | (rintro (h9 | h9) <;> contradiction) | (intro h9; exact Bool.noConfusion (Eq.trans (c := false) h9.symm (by assumption))) | (rintro ⟨h8, h9⟩; exact Bool.noConfusion (Eq.trans (c := false) h8.symm (by assumption))) | (rintro ⟨h8, h9⟩; exact Bool.noConfusion (Eq.trans (c := false) h9.symm (by assumption))) | (simp only [Int32.lt_iff_toInt_lt, Int32.le_iff_toInt_le, i32_0, i32_1, i32_2, i32_3, i32_4, i32_9, i32_10, i32_99, i32_100, i32_1000, i32_9999] at *; omega))])); (try rfl)), ht⟩) (fun _ h => by cases h) dX12_capped_15 hlocks
  · skip
    have c_1 : (FP.fcmp x 1203982208) = some .gt := Classical.byContradiction (fun h => c_1 ((cmv_le _).mpr h))
    refine lv_ldcwf hx hb hown k_constantFloat_442 dX12_capped_8 ?_
    refine lv_goto (tgt := 15) hx hb dX12_capped_11 (by decide) ?_
    exact W.fret (v := 1203982208) hx hb hr (fun t9 ht hW => ⟨_, rfl, (by (try simp only [cpF]); (repeat (first | rw [if_pos (by first | assumption | exact Eq.trans (b := false) (by assumption) (Eq.symm (by assumption)) | exact Eq.trans (b := true) (by assumption) (Eq.symm (by assumption)) | exact ⟨by assumption, by assumption⟩ | exact Or.inl (by assumption) | exact Or.inr (by assumption) | exact Or.inr (Or.inl (by assumption)) | exact Or.inr (Or.inr (by assumption)) | (simp only [Int32.lt_iff_toInt_lt, Int32.le_iff_toInt_le, i32_0, i32_1, i32_2, i32_3, i32_4, i32_9, i32_10, i32_99, i32_100, i32_1000, i32_9999] at *; omega))] | rw [if_neg (by first | assumption | (rintro (h9 | h9 | h9) <;> contradiction) | (rintro (h9 | h9) <;> contradiction) | (intro h9; exact Bool.noConfusion (Eq.trans (c := false) h9.symm (by assumption))) | (rintro ⟨h8, h9⟩; exact Bool.noConfusion (Eq.trans (c := false) h8.symm (by assumption))) | (rintro ⟨h8, h9⟩; exact Bool.noConfusion (Eq.trans (c := false) h9.symm (by assumption))) | (simp only [Int32.lt_iff_toInt_lt, Int32.le_iff_toInt_le, i32_0, i32_1, i32_2, i32_3, i32_4, i32_9, i32_10, i32_99, i32_100, i32_1000, i32_9999] at *; omega))])); (try rfl)), ht⟩) (fun _ h => by cases h) dX12_capped_15 hlocks

set_option maxHeartbeats 4000000 in
set_option maxRecDepth 100000 in
theorem m_X5_sumOfFluxes (l9 : Launch) (D : va_G) (k : Nat → ClassId) (q : Nat → Nat) (n : Nat) (w ly t a : Nat → Int32) (fx : Nat → UInt32) (hn : n ≤ 10) (hf : ∀ c, c < n → okF (fx c)) : Met l9 yX5_sumOfFluxes wsX5_sumOfFluxes ({ frames := 0, cells := 0, slots := 0, locals := 0 }) (RPc D k [.ref (q 0)] (bClaims k q n w ly t a fx)) (EF (smF fx n)) 0 0 noA := by
  refine rMet (y := yX5_sumOfFluxes) (cc := cX5_sumOfFluxes) (maxL := 3) (ret := (some .float)) [.ref (q 0)] (by decide) rfl (Nat.le_of_ble_eq_true rfl) ?_
  intro p9 e9 s9 m9 bl9 me9 c9 ls hF hr hlocks hP hK hN hl
  have hl : lv_has ls 3 [(0, .ref (q 0))] := hl
  obtain ⟨hx, hb, hml, hown, hts⟩ := id hF
  have k_fieldLink_9 : (Cond.fieldLink RX5 9 "OpinionReactor$Claims" "count" "I").before _ s9 = true := hts (.fieldLink RX5 9 "OpinionReactor$Claims" "count" "I") (by decide +kernel)
  have kc_RX5 : ∀ w ∈ u_ws RX5 TX5 6, w ∈ wsX5_sumOfFluxes := by decide +kernel
  have k_fieldLink_28 : (Cond.fieldLink RX5 28 "OpinionReactor$Claims" "fluxes" "[F").before _ s9 = true := hts (.fieldLink RX5 28 "OpinionReactor$Claims" "fluxes" "[F") (by decide +kernel)
  have loop_4 : ∀ (fuel : Nat) (i : Nat), (i ≤ n) → n - i < fuel → ∀ (ls : Array Slot), lv_has ls 3 [(0, .ref (q 0)), (1, .float (smF fx i)), (2, .int (nI i))] → W p9 l9 e9 ({ frames := 0, cells := 0, slots := 0, locals := 0 }) s9 m9 ([.ref (q 0)] : List Value).toArray bl9 me9 c9 s9.heap [] 0 0 (MQ bl9 (EF (smF fx n)) ([.ref (q 0)] : List Value).toArray s9 0 0 noA) (F0 m9 4 ls []) := by
    intro fuel
    induction fuel with
    | zero => intro i hi hfuel_4; exact absurd hfuel_4 (Nat.not_lt_zero _)
    | succ fuel ih_4 =>
      intro i hi hfuel_4 ls hl
      refine lv_iload_n hx hb dX5_sumOfFluxes_4 rfl (lv_at hl 2 rfl) ?_
      refine lv_aload_n hx hb dX5_sumOfFluxes_5 rfl (lv_at hl 0 rfl) ?_
      refine va_get (D := D) (ci := 7) (v := .int (nI n)) (C := RX5) (T := TX5) (N := 6) hx hb hts kc_RX5 hown hK hP 0 rfl rfl 0 (by decide) k_fieldLink_9 (fun _ h9 => h9) rfl dX5_sumOfFluxes_6 ?_
      refine lv_icmp_ge (tgt := 27) hx hb dX5_sumOfFluxes_9 (by decide) (fun c_1 => ?_) (fun c_1 => ?_)
      · skip
        have c_1 : n ≤ i := (nI_leI (a := n) (b := i) (by omega) (by omega)).mp c_1
        refine lv_fload_n hx hb dX5_sumOfFluxes_27 rfl (lv_at hl 1 rfl) ?_
        exact W.fret (v := smF fx i) hx hb hr (fun t9 ht hW => ⟨_, rfl, (by rw [show i = n by omega]), ht⟩) (fun _ h => by cases h) dX5_sumOfFluxes_28 hlocks
      · skip
        have c_1 : ¬ n ≤ i := fun h => c_1 ((nI_leI (a := n) (b := i) (by omega) (by omega)).mpr h)
        refine lv_fload_n hx hb dX5_sumOfFluxes_12 rfl (lv_at hl 1 rfl) ?_
        refine lv_aload_n hx hb dX5_sumOfFluxes_13 rfl (lv_at hl 0 rfl) ?_
        refine va_get (D := D) (ci := 7) (v := .ref (q 5)) (C := RX5) (T := TX5) (N := 6) hx hb hts kc_RX5 hown hK hP 0 rfl rfl 5 (by decide) k_fieldLink_28 (fun _ h9 => h9) rfl dX5_sumOfFluxes_14 ?_
        refine lv_iload_n hx hb dX5_sumOfFluxes_17 rfl (lv_at hl 2 rfl) ?_
        refine fa_ld hx hb hK hP 5 rfl i (by omega) (by decide) dX5_sumOfFluxes_18 ?_
        refine lv_fadd hx hb dX5_sumOfFluxes_19 (okF_n32 (okF_add (okF_sm (fun c hc => hf c (by omega))) (hf i (by omega)))) ?_
        refine lv_fstore_n (lv' := [(1, .float (FP.fadd (smF fx i) (fx i))), (0, .ref (q 0)), (2, .int (nI i))]) hx hb dX5_sumOfFluxes_20 rfl hl (by decide) rfl (fun ls hl => ?_)
        refine lv_iinc (v := nI (i + 1)) (lv' := [(2, .int (nI (i + 1))), (1, .float (FP.fadd (smF fx i) (fx i))), (0, .ref (q 0))]) hx hb dX5_sumOfFluxes_21 hl (k := 2) rfl (nI_inc i) (by decide) rfl (fun ls hl => ?_)
        refine lv_goto (tgt := 4) hx hb dX5_sumOfFluxes_24 (by decide) ?_
        have e_2 : (FP.fadd (smF fx i) (fx i) : UInt32) = smF fx (i + 1) := by first | (with_reducible rfl) | (rfl)
        exact ih_4 (i + 1) (by omega) (by omega) ls (lv_one hl 2 rfl rfl (lv_one hl 1 rfl (congrArg Value.float e_2) (lv_one hl 0 rfl rfl (lv_nil hl))))
  refine lv_fconst0 hx hb dX5_sumOfFluxes_0 ?_
  refine lv_fstore_n (lv' := [(1, .float FP.fconst0), (0, .ref (q 0))]) hx hb dX5_sumOfFluxes_1 rfl hl (by decide) rfl (fun ls hl => ?_)
  refine lv_iconst (v := 0) hx hb dX5_sumOfFluxes_2 (by decide) ?_
  refine lv_istore_n (lv' := [(2, .int 0), (1, .float FP.fconst0), (0, .ref (q 0))]) hx hb dX5_sumOfFluxes_3 rfl hl (by decide) rfl (fun ls hl => ?_)
  have e_3 : (FP.fconst0 : UInt32) = smF fx 0 := by first | (with_reducible rfl) | (rfl)
  exact loop_4 ((n - 0) + 1) 0 (by omega) (Nat.lt_succ_self _) ls (lv_one hl 2 rfl rfl (lv_one hl 1 rfl (congrArg Value.float e_3) (lv_one hl 0 rfl rfl (lv_nil hl))))

set_option maxHeartbeats 4000000 in
set_option maxRecDepth 100000 in
theorem m_X5_isAhead (l9 : Launch) (D : va_G) (k : Nat → ClassId) (q : Nat → Nat) (n : Nat) (w ly t a : Nat → Int32) (fx : Nat → UInt32) (i j : Nat) (hn : n ≤ 10) (hi : i < n) (hj : j < n) : Met l9 yX5_isAhead wsX5_isAhead ({ frames := 0, cells := 0, slots := 0, locals := 0 }) (RPc D k [.ref (q 0), .int (nI i), .int (nI j)] (bClaims k q n w ly t a fx)) (EI (bI (ahS fx w i j))) 0 0 noA := by
  refine rMet (y := yX5_isAhead) (cc := cX5_isAhead) (maxL := 3) (ret := (some .boolean)) [.ref (q 0), .int (nI i), .int (nI j)] (by decide) rfl (Nat.le_of_ble_eq_true rfl) ?_
  intro p9 e9 s9 m9 bl9 me9 c9 ls hF hr hlocks hP hK hN hl
  have hl : lv_has ls 3 [(0, .ref (q 0)), (1, .int (nI i)), (2, .int (nI j))] := hl
  obtain ⟨hx, hb, hml, hown, hts⟩ := id hF
  have k_fieldLink_28 : (Cond.fieldLink RX5 28 "OpinionReactor$Claims" "fluxes" "[F").before _ s9 = true := hts (.fieldLink RX5 28 "OpinionReactor$Claims" "fluxes" "[F") (by decide +kernel)
  have kc_RX5 : ∀ w ∈ u_ws RX5 TX5 6, w ∈ wsX5_isAhead := by decide +kernel
  have k_fieldLink_15 : (Cond.fieldLink RX5 15 "OpinionReactor$Claims" "weights" "[I").before _ s9 = true := hts (.fieldLink RX5 15 "OpinionReactor$Claims" "weights" "[I") (by decide +kernel)
  refine lv_aload_n hx hb dX5_isAhead_0 rfl (lv_at hl 0 rfl) ?_
  refine va_get (D := D) (ci := 7) (v := .ref (q 5)) (C := RX5) (T := TX5) (N := 6) hx hb hts kc_RX5 hown hK hP 0 rfl rfl 5 (by decide) k_fieldLink_28 (fun _ h9 => h9) rfl dX5_isAhead_1 ?_
  refine lv_iload_n hx hb dX5_isAhead_4 rfl (lv_at hl 1 rfl) ?_
  refine fa_ld hx hb hK hP 5 rfl i (by omega) (by decide) dX5_isAhead_5 ?_
  refine lv_aload_n hx hb dX5_isAhead_6 rfl (lv_at hl 0 rfl) ?_
  refine va_get (D := D) (ci := 7) (v := .ref (q 5)) (C := RX5) (T := TX5) (N := 6) hx hb hts kc_RX5 hown hK hP 0 rfl rfl 5 (by decide) k_fieldLink_28 (fun _ h9 => h9) rfl dX5_isAhead_7 ?_
  refine lv_iload_n hx hb dX5_isAhead_10 rfl (lv_at hl 2 rfl) ?_
  refine fa_ld hx hb hK hP 5 rfl j (by omega) (by decide) dX5_isAhead_11 ?_
  refine lv_fcmp hx hb dX5_isAhead_12 ?_
  refine lv_if_eq (tgt := 38) hx hb dX5_isAhead_13 (by decide) (fun c_1 => ?_) (fun c_1 => ?_)
  · skip
    have c_1 : (FP.fcmp (fx i) (fx j)) = some .eq := (cmv_eq _ _).mp c_1
    refine lv_aload_n hx hb dX5_isAhead_38 rfl (lv_at hl 0 rfl) ?_
    refine va_get (D := D) (ci := 7) (v := .ref (q 1)) (C := RX5) (T := TX5) (N := 6) hx hb hts kc_RX5 hown hK hP 0 rfl rfl 1 (by decide) k_fieldLink_15 (fun _ h9 => h9) rfl dX5_isAhead_39 ?_
    refine lv_iload_n hx hb dX5_isAhead_42 rfl (lv_at hl 1 rfl) ?_
    refine ia_ld hx hb hK hP 1 rfl i (by omega) (by decide) dX5_isAhead_43 ?_
    refine lv_aload_n hx hb dX5_isAhead_44 rfl (lv_at hl 0 rfl) ?_
    refine va_get (D := D) (ci := 7) (v := .ref (q 1)) (C := RX5) (T := TX5) (N := 6) hx hb hts kc_RX5 hown hK hP 0 rfl rfl 1 (by decide) k_fieldLink_15 (fun _ h9 => h9) rfl dX5_isAhead_45 ?_
    refine lv_iload_n hx hb dX5_isAhead_48 rfl (lv_at hl 2 rfl) ?_
    refine ia_ld hx hb hK hP 1 rfl j (by omega) (by decide) dX5_isAhead_49 ?_
    refine lv_icmp_eq (tgt := 74) hx hb dX5_isAhead_50 (by decide) (fun c_2 => ?_) (fun c_2 => ?_)
    · skip
      refine lv_iload_n hx hb dX5_isAhead_74 rfl (lv_at hl 1 rfl) ?_
      refine lv_iload_n hx hb dX5_isAhead_75 rfl (lv_at hl 2 rfl) ?_
      refine lv_icmp_ge (tgt := 83) hx hb dX5_isAhead_76 (by decide) (fun c_3 => ?_) (fun c_3 => ?_)
      · skip
        have c_3 : j ≤ i := (nI_leI (a := j) (b := i) (by omega) (by omega)).mp c_3
        refine lv_iconst (v := 0) hx hb dX5_isAhead_83 (by decide) ?_
        exact W.zret (v := 0) hx hb hr (rfl) (fun t9 ht hW => ⟨_, rfl, (by simp [ahS, bI, c_1, c_2, c_3]), ht⟩) (fun _ h => by cases h) dX5_isAhead_84 hlocks
      · skip
        have c_3 : ¬ j ≤ i := fun h => c_3 ((nI_leI (a := j) (b := i) (by omega) (by omega)).mpr h)
        refine lv_iconst (v := 1) hx hb dX5_isAhead_79 (by decide) ?_
        refine lv_goto (tgt := 84) hx hb dX5_isAhead_80 (by decide) ?_
        exact W.zret (v := 1) hx hb hr (rfl) (fun t9 ht hW => ⟨_, rfl, (by simp [ahS, bI, c_1, c_2, c_3]), ht⟩) (fun _ h => by cases h) dX5_isAhead_84 hlocks
    · skip
      refine lv_aload_n hx hb dX5_isAhead_53 rfl (lv_at hl 0 rfl) ?_
      refine va_get (D := D) (ci := 7) (v := .ref (q 1)) (C := RX5) (T := TX5) (N := 6) hx hb hts kc_RX5 hown hK hP 0 rfl rfl 1 (by decide) k_fieldLink_15 (fun _ h9 => h9) rfl dX5_isAhead_54 ?_
      refine lv_iload_n hx hb dX5_isAhead_57 rfl (lv_at hl 1 rfl) ?_
      refine ia_ld hx hb hK hP 1 rfl i (by omega) (by decide) dX5_isAhead_58 ?_
      refine lv_aload_n hx hb dX5_isAhead_59 rfl (lv_at hl 0 rfl) ?_
      refine va_get (D := D) (ci := 7) (v := .ref (q 1)) (C := RX5) (T := TX5) (N := 6) hx hb hts kc_RX5 hown hK hP 0 rfl rfl 1 (by decide) k_fieldLink_15 (fun _ h9 => h9) rfl dX5_isAhead_60 ?_
      refine lv_iload_n hx hb dX5_isAhead_63 rfl (lv_at hl 2 rfl) ?_
      refine ia_ld hx hb hK hP 1 rfl j (by omega) (by decide) dX5_isAhead_64 ?_
      refine lv_icmp_le (tgt := 72) hx hb dX5_isAhead_65 (by decide) (fun c_4 => ?_) (fun c_4 => ?_)
      · skip
        refine lv_iconst (v := 0) hx hb dX5_isAhead_72 (by decide) ?_
        exact W.zret (v := 0) hx hb hr (rfl) (fun t9 ht hW => ⟨_, rfl, (by simp [ahS, bI, c_1, c_2, c_4]), ht⟩) (fun _ h => by cases h) dX5_isAhead_73 hlocks
      · skip
        refine lv_iconst (v := 1) hx hb dX5_isAhead_68 (by decide) ?_
        refine lv_goto (tgt := 73) hx hb dX5_isAhead_69 (by decide) ?_
        exact W.zret (v := 1) hx hb hr (rfl) (fun t9 ht hW => ⟨_, rfl, (by simp [ahS, bI, c_1, c_2, c_4]), ht⟩) (fun _ h => by cases h) dX5_isAhead_73 hlocks
  · skip
    have c_1 : ¬ (FP.fcmp (fx i) (fx j)) = some .eq := fun h => c_1 ((cmv_eq _ _).mpr h)
    refine lv_aload_n hx hb dX5_isAhead_16 rfl (lv_at hl 0 rfl) ?_
    refine va_get (D := D) (ci := 7) (v := .ref (q 5)) (C := RX5) (T := TX5) (N := 6) hx hb hts kc_RX5 hown hK hP 0 rfl rfl 5 (by decide) k_fieldLink_28 (fun _ h9 => h9) rfl dX5_isAhead_17 ?_
    refine lv_iload_n hx hb dX5_isAhead_20 rfl (lv_at hl 1 rfl) ?_
    refine fa_ld hx hb hK hP 5 rfl i (by omega) (by decide) dX5_isAhead_21 ?_
    refine lv_aload_n hx hb dX5_isAhead_22 rfl (lv_at hl 0 rfl) ?_
    refine va_get (D := D) (ci := 7) (v := .ref (q 5)) (C := RX5) (T := TX5) (N := 6) hx hb hts kc_RX5 hown hK hP 0 rfl rfl 5 (by decide) k_fieldLink_28 (fun _ h9 => h9) rfl dX5_isAhead_23 ?_
    refine lv_iload_n hx hb dX5_isAhead_26 rfl (lv_at hl 2 rfl) ?_
    refine fa_ld hx hb hK hP 5 rfl j (by omega) (by decide) dX5_isAhead_27 ?_
    refine lv_fcmp hx hb dX5_isAhead_28 ?_
    refine lv_if_le (tgt := 36) hx hb dX5_isAhead_29 (by decide) (fun c_5 => ?_) (fun c_5 => ?_)
    · skip
      have c_5 : ¬ (FP.fcmp (fx i) (fx j)) = some .gt := (cmv_le _).mp c_5
      refine lv_iconst (v := 0) hx hb dX5_isAhead_36 (by decide) ?_
      exact W.zret (v := 0) hx hb hr (rfl) (fun t9 ht hW => ⟨_, rfl, (by simp [ahS, bI, c_1, c_5]), ht⟩) (fun _ h => by cases h) dX5_isAhead_37 hlocks
    · skip
      have c_5 : (FP.fcmp (fx i) (fx j)) = some .gt := Classical.byContradiction (fun h => c_5 ((cmv_le _).mpr h))
      refine lv_iconst (v := 1) hx hb dX5_isAhead_32 (by decide) ?_
      refine lv_goto (tgt := 37) hx hb dX5_isAhead_33 (by decide) ?_
      exact W.zret (v := 1) hx hb hr (rfl) (fun t9 ht hW => ⟨_, rfl, (by simp [ahS, bI, c_1, c_5]), ht⟩) (fun _ h => by cases h) dX5_isAhead_37 hlocks

set_option maxHeartbeats 4000000 in
set_option maxRecDepth 100000 in
theorem m_X5_countAhead (l9 : Launch) (D : va_G) (k : Nat → ClassId) (q : Nat → Nat) (n : Nat) (w ly t a : Nat → Int32) (fx : Nat → UInt32) (j : Nat) (hn : n ≤ 10) (hj : j < n) : Met l9 yX5_countAhead wsX5_countAhead ({ frames := 1, cells := 0, slots := 0, locals := 22 }) (RPc D k [.ref (q 0), .int (nI j)] (bClaims k q n w ly t a fx)) (EI (nI (cntA fx w j n))) 0 0 noA := by
  refine rMet (y := yX5_countAhead) (cc := cX5_countAhead) (maxL := 4) (ret := (some .int)) [.ref (q 0), .int (nI j)] (by decide) rfl (Nat.le_of_ble_eq_true rfl) ?_
  intro p9 e9 s9 m9 bl9 me9 c9 ls hF hr hlocks hP hK hN hl
  have hl : lv_has ls 4 [(0, .ref (q 0)), (1, .int (nI j))] := hl
  obtain ⟨hx, hb, hml, hown, hts⟩ := id hF
  have k_fieldLink_9 : (Cond.fieldLink RX5 9 "OpinionReactor$Claims" "count" "I").before _ s9 = true := hts (.fieldLink RX5 9 "OpinionReactor$Claims" "count" "I") (by decide +kernel)
  have kc_RX5 : ∀ w ∈ u_ws RX5 TX5 6, w ∈ wsX5_countAhead := by decide +kernel
  have loop_4 : ∀ (fuel : Nat) (i : Nat), (i ≤ n) → n - i < fuel → ∀ (ls : Array Slot), lv_has ls 4 [(0, .ref (q 0)), (1, .int (nI j)), (2, .int (nI (cntA fx w j i))), (3, .int (nI i))] → W p9 l9 e9 ({ frames := 1, cells := 0, slots := 0, locals := 22 }) s9 m9 ([.ref (q 0), .int (nI j)] : List Value).toArray bl9 me9 c9 s9.heap [] 0 0 (MQ bl9 (EI (nI (cntA fx w j n))) ([.ref (q 0), .int (nI j)] : List Value).toArray s9 0 0 noA) (F0 m9 4 ls []) := by
    intro fuel
    induction fuel with
    | zero => intro i hi hfuel_4; exact absurd hfuel_4 (Nat.not_lt_zero _)
    | succ fuel ih_4 =>
      intro i hi hfuel_4 ls hl
      refine lv_iload_n hx hb dX5_countAhead_4 rfl (lv_at hl 3 rfl) ?_
      refine lv_aload_n hx hb dX5_countAhead_5 rfl (lv_at hl 0 rfl) ?_
      refine va_get (D := D) (ci := 7) (v := .int (nI n)) (C := RX5) (T := TX5) (N := 6) hx hb hts kc_RX5 hown hK hP 0 rfl rfl 0 (by decide) k_fieldLink_9 (fun _ h9 => h9) rfl dX5_countAhead_6 ?_
      refine lv_icmp_ge (tgt := 30) hx hb dX5_countAhead_9 (by decide) (fun c_1 => ?_) (fun c_1 => ?_)
      · skip
        have c_1 : n ≤ i := (nI_leI (a := n) (b := i) (by omega) (by omega)).mp c_1
        refine lv_iload_n hx hb dX5_countAhead_30 rfl (lv_at hl 2 rfl) ?_
        exact W.iret (v := nI (cntA fx w j i)) hx hb hr (fun t9 ht hW => ⟨_, rfl, (by rw [show i = n by omega]), ht⟩) (fun _ h => by cases h) dX5_countAhead_31 hlocks
      · skip
        have c_1 : ¬ n ≤ i := fun h => c_1 ((nI_leI (a := n) (b := i) (by omega) (by omega)).mpr h)
        refine lv_aload_n hx hb dX5_countAhead_12 rfl (lv_at hl 0 rfl) ?_
        refine lv_iload_n hx hb dX5_countAhead_13 rfl (lv_at hl 3 rfl) ?_
        refine lv_iload_n hx hb dX5_countAhead_14 rfl (lv_at hl 1 rfl) ?_
        refine vp_callSi (W.runV (As := [.int (nI i), .int (nI j)]) (rest := []) hF (m_X5_isAhead l9 D k q n w ly t a fx i j hn (by omega) (by omega)) (cwV 2 hts gX5_countAhead_X5_isAhead rfl rfl rfl (by decide +kernel) ⟨Nat.le_of_ble_eq_true rfl, Nat.le_of_ble_eq_true rfl⟩) (rPreV hK hN hP [0, 1, 2, 3, 4, 5] rfl 0 7 rfl rfl) rfl rfl hl.1 rfl (lv_room (Nat.le_of_ble_eq_true rfl)) dX5_countAhead_15 ⟨Nat.zero_le _, Nat.zero_le _⟩) (fun r_2 hr_2 => ?_)
        subst hr_2
        refine lv_if_eq (tgt := 24) hx hb dX5_countAhead_18 (by decide) (fun c_3 => ?_) (fun c_3 => ?_)
        · skip
          have c_3 : (ahS fx w i j) = false := bI_0 c_3
          refine lv_iinc (v := nI (i + 1)) (lv' := [(3, .int (nI (i + 1))), (0, .ref (q 0)), (1, .int (nI j)), (2, .int (nI (cntA fx w j i)))]) hx hb dX5_countAhead_24 hl (k := 3) rfl (nI_inc i) (by decide) rfl (fun ls hl => ?_)
          refine lv_goto (tgt := 4) hx hb dX5_countAhead_27 (by decide) ?_
          have e_4 : (nI (cntA fx w j i) : Int32) = nI (cntA fx w j (i + 1)) := by first | (with_reducible rfl) | (rw [cntA_s]; (first | rw [if_pos (by assumption)] | rw [if_neg (by assumption)] | (simp [*]; done)); (try rfl))
          exact ih_4 (i + 1) (by omega) (by omega) ls (lv_one hl 1 rfl rfl (lv_one hl 2 rfl rfl (lv_one hl 3 rfl (congrArg Value.int e_4) (lv_one hl 0 rfl rfl (lv_nil hl)))))
        · skip
          have c_3 : (ahS fx w i j) = true := bI_1 c_3
          refine lv_iinc (v := nI ((cntA fx w j i) + 1)) (lv' := [(2, .int (nI ((cntA fx w j i) + 1))), (0, .ref (q 0)), (1, .int (nI j)), (3, .int (nI i))]) hx hb dX5_countAhead_21 hl (k := 2) rfl (nI_inc (cntA fx w j i)) (by decide) rfl (fun ls hl => ?_)
          refine lv_iinc (v := nI (i + 1)) (lv' := [(3, .int (nI (i + 1))), (2, .int (nI ((cntA fx w j i) + 1))), (0, .ref (q 0)), (1, .int (nI j))]) hx hb dX5_countAhead_24 hl (k := 3) rfl (nI_inc i) (by decide) rfl (fun ls hl => ?_)
          refine lv_goto (tgt := 4) hx hb dX5_countAhead_27 (by decide) ?_
          have e_5 : (nI ((cntA fx w j i) + 1) : Int32) = nI (cntA fx w j (i + 1)) := by first | (with_reducible rfl) | (rw [cntA_s]; (first | rw [if_pos (by assumption)] | rw [if_neg (by assumption)] | (simp [*]; done)); (try rfl))
          exact ih_4 (i + 1) (by omega) (by omega) ls (lv_one hl 2 rfl rfl (lv_one hl 3 rfl rfl (lv_one hl 1 rfl (congrArg Value.int e_5) (lv_one hl 0 rfl rfl (lv_nil hl)))))
  refine lv_iconst (v := 0) hx hb dX5_countAhead_0 (by decide) ?_
  refine lv_istore_n (lv' := [(2, .int 0), (0, .ref (q 0)), (1, .int (nI j))]) hx hb dX5_countAhead_1 rfl hl (by decide) rfl (fun ls hl => ?_)
  refine lv_iconst (v := 0) hx hb dX5_countAhead_2 (by decide) ?_
  refine lv_istore_n (lv' := [(3, .int 0), (2, .int 0), (0, .ref (q 0)), (1, .int (nI j))]) hx hb dX5_countAhead_3 rfl hl (by decide) rfl (fun ls hl => ?_)
  have e_6 : (0 : Int32) = nI (cntA fx w j 0) := by first | (with_reducible rfl) | (rfl)
  exact loop_4 ((n - 0) + 1) 0 (by omega) (Nat.lt_succ_self _) ls (lv_one hl 2 rfl rfl (lv_one hl 3 rfl rfl (lv_one hl 1 rfl (congrArg Value.int e_6) (lv_one hl 0 rfl rfl (lv_nil hl)))))

set_option maxHeartbeats 4000000 in
set_option maxRecDepth 100000 in
theorem m_X11_nextFlux (l9 : Launch) (D : va_G) (k : Nat → ClassId) (qs qc qr ql : Nat → Nat) (lim sh sc : Int32) (fr : Nat → UInt32) (n : Nat) (w ly t a : Nat → Int32) (fx : Nat → UInt32) (kd rk : Nat → Int32) (j : Nat) (hn : n ≤ 10) (hf : ∀ c, c < n → okF (fx c)) (hly : lyOk n ly) (hj : j < n) : Met l9 yX11_nextFlux wsX11_nextFlux ({ frames := 2, cells := 0, slots := 0, locals := 43 }) (RPc D k [.ref (qs 0), .int (nI j)] (bSt k qs qc qr ql lim sh sc fr ++ bClaims k qc n w ly t a fx ++ bRacks k qr kd rk)) (EF (nxF n a fx (dpS rk (ly j).toNatClampNeg) j)) 0 0 noA := by
  refine rMet (y := yX11_nextFlux) (cc := cX11_nextFlux) (maxL := 4) (ret := (some .float)) [.ref (qs 0), .int (nI j)] (by decide) rfl (Nat.le_of_ble_eq_true rfl) ?_
  intro p9 e9 s9 m9 bl9 me9 c9 ls hF hr hlocks hP hK hN hl
  have hl : lv_has ls 4 [(0, .ref (qs 0)), (1, .int (nI j))] := hl
  obtain ⟨hx, hb, hml, hown, hts⟩ := id hF
  have k_fieldLink_12 : (Cond.fieldLink RX11 12 "OpinionReactor$State" "claims" "LOpinionReactor$Claims;").before _ s9 = true := hts (.fieldLink RX11 12 "OpinionReactor$State" "claims" "LOpinionReactor$Claims;") (by decide +kernel)
  have kc_RX11 : ∀ w ∈ u_ws RX11 TX11 7, w ∈ wsX11_nextFlux := by decide +kernel
  have k_fieldLink_82 : (Cond.fieldLink RX11 82 "OpinionReactor$Claims" "count" "I").before _ s9 = true := hts (.fieldLink RX11 82 "OpinionReactor$Claims" "count" "I") (by decide +kernel)
  have kc_RX5 : ∀ w ∈ u_ws RX5 TX5 6, w ∈ wsX11_nextFlux := by decide +kernel
  have k_fieldLink_21 : (Cond.fieldLink RX11 21 "OpinionReactor$State" "racks" "LOpinionReactor$Racks;").before _ s9 = true := hts (.fieldLink RX11 21 "OpinionReactor$State" "racks" "LOpinionReactor$Racks;") (by decide +kernel)
  have k_fieldLink_112 : (Cond.fieldLink RX11 112 "OpinionReactor$Claims" "layers" "[I").before _ s9 = true := hts (.fieldLink RX11 112 "OpinionReactor$Claims" "layers" "[I") (by decide +kernel)
  have k_constantFloat_119 : (Cond.constantFloat RX11 119 (1092616192)).before _ s9 = true := hts (.constantFloat RX11 119 (1092616192)) (by decide +kernel)
  have k_fieldLink_103 : (Cond.fieldLink RX11 103 "OpinionReactor$Claims" "attackers" "[I").before _ s9 = true := hts (.fieldLink RX11 103 "OpinionReactor$Claims" "attackers" "[I") (by decide +kernel)
  have k_fieldLink_72 : (Cond.fieldLink RX11 72 "OpinionReactor$Claims" "fluxes" "[F").before _ s9 = true := hts (.fieldLink RX11 72 "OpinionReactor$Claims" "fluxes" "[F") (by decide +kernel)
  have k_constantFloat_111 : (Cond.constantFloat RX11 111 (1048576000)).before _ s9 = true := hts (.constantFloat RX11 111 (1048576000)) (by decide +kernel)
  have k_constantFloat_102 : (Cond.constantFloat RX11 102 (1056964608)).before _ s9 = true := hts (.constantFloat RX11 102 (1056964608)) (by decide +kernel)
  have loop_15 : ∀ (fuel : Nat) (i : Nat), (i ≤ n) → n - i < fuel → ∀ (ls : Array Slot), lv_has ls 4 [(0, .ref (qs 0)), (1, .int (nI j)), (2, .float (nxm a fx j i)), (3, .int (nI i))] → W p9 l9 e9 ({ frames := 2, cells := 0, slots := 0, locals := 43 }) s9 m9 ([.ref (qs 0), .int (nI j)] : List Value).toArray bl9 me9 c9 s9.heap [] 0 0 (MQ bl9 (EF (nxF n a fx (dpS rk (ly j).toNatClampNeg) j)) ([.ref (qs 0), .int (nI j)] : List Value).toArray s9 0 0 noA) (F0 m9 15 ls []) := by
    intro fuel
    induction fuel with
    | zero => intro i hi hfuel_15; exact absurd hfuel_15 (Nat.not_lt_zero _)
    | succ fuel ih_15 =>
      intro i hi hfuel_15 ls hl
      refine lv_iload_n hx hb dX11_nextFlux_15 rfl (lv_at hl 3 rfl) ?_
      refine lv_aload_n hx hb dX11_nextFlux_16 rfl (lv_at hl 0 rfl) ?_
      refine va_get (D := D) (ci := 11) (v := .ref (qc 0)) (C := RX11) (T := TX11) (N := 7) hx hb hts kc_RX11 hown hK hP 0 rfl rfl 0 (by decide) k_fieldLink_12 (fun _ h9 => h9) rfl dX11_nextFlux_17 ?_
      refine va_get (D := D) (ci := 7) (v := .int (nI n)) (C := RX5) (T := TX5) (N := 6) hx hb hts kc_RX5 hown hK hP 2 rfl rfl 0 (by decide) k_fieldLink_82 (fun _ h9 => h9) rfl dX11_nextFlux_20 ?_
      refine lv_icmp_ge (tgt := 63) hx hb dX11_nextFlux_23 (by decide) (fun c_1 => ?_) (fun c_1 => ?_)
      · skip
        have c_1 : n ≤ i := (nI_leI (a := n) (b := i) (by omega) (by omega)).mp c_1
        refine lv_bipush (v := 10) hx hb dX11_nextFlux_63 (by decide) ?_
        refine lv_aload_n hx hb dX11_nextFlux_65 rfl (lv_at hl 0 rfl) ?_
        refine va_get (D := D) (ci := 11) (v := .ref (qr 0)) (C := RX11) (T := TX11) (N := 7) hx hb hts kc_RX11 hown hK hP 0 rfl rfl 1 (by decide) k_fieldLink_21 (fun _ h9 => h9) rfl dX11_nextFlux_66 ?_
        refine lv_aload_n hx hb dX11_nextFlux_69 rfl (lv_at hl 0 rfl) ?_
        refine va_get (D := D) (ci := 11) (v := .ref (qc 0)) (C := RX11) (T := TX11) (N := 7) hx hb hts kc_RX11 hown hK hP 0 rfl rfl 0 (by decide) k_fieldLink_12 (fun _ h9 => h9) rfl dX11_nextFlux_70 ?_
        refine va_get (D := D) (ci := 7) (v := .ref (qc 2)) (C := RX5) (T := TX5) (N := 6) hx hb hts kc_RX5 hown hK hP 2 rfl rfl 2 (by decide) k_fieldLink_112 (fun _ h9 => h9) rfl dX11_nextFlux_73 ?_
        refine lv_iload_n hx hb dX11_nextFlux_76 rfl (lv_at hl 1 rfl) ?_
        refine ia_ld hx hb hK hP 4 rfl j (by omega) (by decide) dX11_nextFlux_77 ?_
        refine lv_tope (show Value.int (ly j) = Value.int (nI ((ly j).toNatClampNeg)) from congrArg Value.int (by exact (hly j hj).1)) ?_
        refine vp_callSi (W.runV (As := [.int (nI ((ly j).toNatClampNeg))]) (rest := [.int 10]) hF (m_X10_depth l9 D k qr kd rk ((ly j).toNatClampNeg) (hly j hj).2) (cwV 1 hts gX11_nextFlux_X10_depth rfl rfl rfl (by decide +kernel) ⟨Nat.le_of_ble_eq_true rfl, Nat.le_of_ble_eq_true rfl⟩) (rPreV hK hN hP [8, 9, 10] rfl 8 10 rfl rfl) rfl rfl hl.1 rfl (lv_room (Nat.le_of_ble_eq_true rfl)) dX11_nextFlux_78 ⟨Nat.zero_le _, Nat.zero_le _⟩) (fun r_2 hr_2 => ?_)
        subst hr_2
        refine lv_isub hx hb dX11_nextFlux_81 ?_
        refine lv_i2f hx hb dX11_nextFlux_82 ?_
        refine lv_fstore_n (lv' := [(3, .float (FP.i2f (10 - (dpS rk ((ly j).toNatClampNeg))))), (0, .ref (qs 0)), (1, .int (nI j)), (2, .float (nxm a fx j i))]) hx hb dX11_nextFlux_83 rfl hl (by decide) rfl (fun ls hl => ?_)
        refine lv_fload_n hx hb dX11_nextFlux_84 rfl (lv_at hl 3 rfl) ?_
        refine lv_fload_n hx hb dX11_nextFlux_85 rfl (lv_at hl 0 rfl) ?_
        refine lv_fmul hx hb dX11_nextFlux_86 (okF_n32 (okF_mul (okF_nxm hf hj hi) (psF_dp rk _))) ?_
        refine lv_ldcf hx hb hown k_constantFloat_119 dX11_nextFlux_87 ?_
        refine lv_fdiv hx hb dX11_nextFlux_89 (okF_n32 (okF_div (okF_mul (okF_nxm hf hj hi) (psF_dp rk _)) psF_ten)) ?_
        refine vp_callSf (va_Run.run (va_runSN (As := [.float (FP.fdiv (FP.fmul (nxm a fx j i) (FP.i2f (10 - (dpS rk ((ly j).toNatClampNeg))))) 1092616192)]) (rest := []) hF (m_X12_capped l9 D k (FP.fdiv (FP.fmul (nxm a fx j i) (FP.i2f (10 - (dpS rk ((ly j).toNatClampNeg))))) 1092616192) ) ⟨va_cnB 1 hts gX11_nextFlux_X12_capped_n75 rfl rfl rfl (hN (.methodLinkNest RX11 75 yX12_capped RX12) (by decide +kernel)) (hts (.initialized RX12) (by decide +kernel)) (by decide +kernel) ⟨Nat.le_of_ble_eq_true rfl, Nat.le_of_ble_eq_true rfl⟩, hts (.static yX12_capped) (by decide +kernel), trivial⟩ (rPreS hK hN hP [] rfl) rfl rfl hl.1 rfl (lv_room (Nat.le_of_ble_eq_true rfl)) dX11_nextFlux_90 ⟨Nat.zero_le _, Nat.zero_le _⟩)) (fun r_3 hr_3 => ?_)
        subst hr_3
        exact W.fret (v := cpF (FP.fdiv (FP.fmul (nxm a fx j i) (FP.i2f (10 - (dpS rk ((ly j).toNatClampNeg))))) 1092616192)) hx hb hr (fun t9 ht hW => ⟨_, rfl, (by unfold nxF; rw [show i = n by omega]), ht⟩) (fun _ h => by cases h) dX11_nextFlux_93 hlocks
      · skip
        have c_1 : ¬ n ≤ i := fun h => c_1 ((nI_leI (a := n) (b := i) (by omega) (by omega)).mpr h)
        refine lv_aload_n hx hb dX11_nextFlux_26 rfl (lv_at hl 0 rfl) ?_
        refine va_get (D := D) (ci := 11) (v := .ref (qc 0)) (C := RX11) (T := TX11) (N := 7) hx hb hts kc_RX11 hown hK hP 0 rfl rfl 0 (by decide) k_fieldLink_12 (fun _ h9 => h9) rfl dX11_nextFlux_27 ?_
        refine va_get (D := D) (ci := 7) (v := .ref (qc 4)) (C := RX5) (T := TX5) (N := 6) hx hb hts kc_RX5 hown hK hP 2 rfl rfl 4 (by decide) k_fieldLink_103 (fun _ h9 => h9) rfl dX11_nextFlux_30 ?_
        refine lv_iload_n hx hb dX11_nextFlux_33 rfl (lv_at hl 1 rfl) ?_
        refine ia_ld hx hb hK hP 6 rfl j (by omega) (by decide) dX11_nextFlux_34 ?_
        refine lv_iload_n hx hb dX11_nextFlux_35 rfl (lv_at hl 3 rfl) ?_
        refine vp_callSi (va_Run.run (va_runSN (As := [.int (a j), .int (nI i)]) (rest := []) hF (m_X12_contains l9 D k (a j) i (by omega)) ⟨va_cnB 2 hts gX11_nextFlux_X12_contains_n107 rfl rfl rfl (hN (.methodLinkNest RX11 107 yX12_contains RX12) (by decide +kernel)) (hts (.initialized RX12) (by decide +kernel)) (by decide +kernel) ⟨Nat.le_of_ble_eq_true rfl, Nat.le_of_ble_eq_true rfl⟩, hts (.static yX12_contains) (by decide +kernel), trivial⟩ (rPreS hK hN hP [] rfl) rfl rfl hl.1 rfl (lv_room (Nat.le_of_ble_eq_true rfl)) dX11_nextFlux_36 ⟨Nat.zero_le _, Nat.zero_le _⟩)) (fun r_4 hr_4 => ?_)
        subst hr_4
        refine lv_if_eq (tgt := 57) hx hb dX11_nextFlux_39 (by decide) (fun c_5 => ?_) (fun c_5 => ?_)
        · skip
          have c_5 : (tb (a j) i) = false := bI_0 c_5
          refine lv_iinc (v := nI (i + 1)) (lv' := [(3, .int (nI (i + 1))), (0, .ref (qs 0)), (1, .int (nI j)), (2, .float (nxm a fx j i))]) hx hb dX11_nextFlux_57 hl (k := 3) rfl (nI_inc i) (by decide) rfl (fun ls hl => ?_)
          refine lv_goto (tgt := 15) hx hb dX11_nextFlux_60 (by decide) ?_
          have e_6 : (nxm a fx j i : UInt32) = nxm a fx j (i + 1) := by first | (with_reducible rfl) | (rw [nxm_s]; (first | rw [if_pos (by assumption)] | rw [if_neg (by assumption)] | (simp [*]; done)); (try rfl))
          exact ih_15 (i + 1) (by omega) (by omega) ls (lv_one hl 1 rfl rfl (lv_one hl 2 rfl rfl (lv_one hl 3 rfl (congrArg Value.float e_6) (lv_one hl 0 rfl rfl (lv_nil hl)))))
        · skip
          have c_5 : (tb (a j) i) = true := bI_1 c_5
          refine lv_fload_n hx hb dX11_nextFlux_42 rfl (lv_at hl 2 rfl) ?_
          refine lv_aload_n hx hb dX11_nextFlux_43 rfl (lv_at hl 0 rfl) ?_
          refine va_get (D := D) (ci := 11) (v := .ref (qc 0)) (C := RX11) (T := TX11) (N := 7) hx hb hts kc_RX11 hown hK hP 0 rfl rfl 0 (by decide) k_fieldLink_12 (fun _ h9 => h9) rfl dX11_nextFlux_44 ?_
          refine va_get (D := D) (ci := 7) (v := .ref (qc 5)) (C := RX5) (T := TX5) (N := 6) hx hb hts kc_RX5 hown hK hP 2 rfl rfl 5 (by decide) k_fieldLink_72 (fun _ h9 => h9) rfl dX11_nextFlux_47 ?_
          refine lv_iload_n hx hb dX11_nextFlux_50 rfl (lv_at hl 3 rfl) ?_
          refine fa_ld hx hb hK hP 7 rfl i (by omega) (by decide) dX11_nextFlux_51 ?_
          refine lv_ldcf hx hb hown k_constantFloat_111 dX11_nextFlux_52 ?_
          refine lv_fmul hx hb dX11_nextFlux_54 (okF_n32 (okF_mul (hf i (by omega)) psF_quarter)) ?_
          refine lv_fadd hx hb dX11_nextFlux_55 (okF_n32 (okF_add (okF_nxm hf hj hi) (okF_mul (hf i (by omega)) psF_quarter))) ?_
          refine lv_fstore_n (lv' := [(2, .float (FP.fadd (nxm a fx j i) (FP.fmul (fx i) 1048576000))), (0, .ref (qs 0)), (1, .int (nI j)), (3, .int (nI i))]) hx hb dX11_nextFlux_56 rfl hl (by decide) rfl (fun ls hl => ?_)
          refine lv_iinc (v := nI (i + 1)) (lv' := [(3, .int (nI (i + 1))), (2, .float (FP.fadd (nxm a fx j i) (FP.fmul (fx i) 1048576000))), (0, .ref (qs 0)), (1, .int (nI j))]) hx hb dX11_nextFlux_57 hl (k := 3) rfl (nI_inc i) (by decide) rfl (fun ls hl => ?_)
          refine lv_goto (tgt := 15) hx hb dX11_nextFlux_60 (by decide) ?_
          have e_7 : (FP.fadd (nxm a fx j i) (FP.fmul (fx i) 1048576000) : UInt32) = nxm a fx j (i + 1) := by first | (with_reducible rfl) | (rw [nxm_s]; (first | rw [if_pos (by assumption)] | rw [if_neg (by assumption)] | (simp [*]; done)); (try rfl))
          exact ih_15 (i + 1) (by omega) (by omega) ls (lv_one hl 2 rfl rfl (lv_one hl 3 rfl rfl (lv_one hl 1 rfl (congrArg Value.float e_7) (lv_one hl 0 rfl rfl (lv_nil hl)))))
  refine lv_aload_n hx hb dX11_nextFlux_0 rfl (lv_at hl 0 rfl) ?_
  refine va_get (D := D) (ci := 11) (v := .ref (qc 0)) (C := RX11) (T := TX11) (N := 7) hx hb hts kc_RX11 hown hK hP 0 rfl rfl 0 (by decide) k_fieldLink_12 (fun _ h9 => h9) rfl dX11_nextFlux_1 ?_
  refine va_get (D := D) (ci := 7) (v := .ref (qc 5)) (C := RX5) (T := TX5) (N := 6) hx hb hts kc_RX5 hown hK hP 2 rfl rfl 5 (by decide) k_fieldLink_72 (fun _ h9 => h9) rfl dX11_nextFlux_4 ?_
  refine lv_iload_n hx hb dX11_nextFlux_7 rfl (lv_at hl 1 rfl) ?_
  refine fa_ld hx hb hK hP 7 rfl j (by omega) (by decide) dX11_nextFlux_8 ?_
  refine lv_ldcf hx hb hown k_constantFloat_102 dX11_nextFlux_9 ?_
  refine lv_fmul hx hb dX11_nextFlux_11 (okF_n32 (okF_mul (hf j hj) psF_half)) ?_
  refine lv_fstore_n (lv' := [(2, .float (FP.fmul (fx j) 1056964608)), (0, .ref (qs 0)), (1, .int (nI j))]) hx hb dX11_nextFlux_12 rfl hl (by decide) rfl (fun ls hl => ?_)
  refine lv_iconst (v := 0) hx hb dX11_nextFlux_13 (by decide) ?_
  refine lv_istore_n (lv' := [(3, .int 0), (2, .float (FP.fmul (fx j) 1056964608)), (0, .ref (qs 0)), (1, .int (nI j))]) hx hb dX11_nextFlux_14 rfl hl (by decide) rfl (fun ls hl => ?_)
  have e_8 : (FP.fmul (fx j) 1056964608 : UInt32) = nxm a fx j 0 := by first | (with_reducible rfl) | (rfl)
  exact loop_15 ((n - 0) + 1) 0 (by omega) (Nat.lt_succ_self _) ls (lv_one hl 2 rfl rfl (lv_one hl 3 rfl rfl (lv_one hl 1 rfl (congrArg Value.float e_8) (lv_one hl 0 rfl rfl (lv_nil hl)))))


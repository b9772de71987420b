/-! A float as a text: what FloatToDecimal does, as functions. -/
/-- the index that stands in the object: n letters are laid -/
def im (n : Nat) : Int32 := nI n + (-1)
theorem im_1 (n : Nat) : im n + 1 = nI n := by
  unfold im
  rw [Int32.add_assoc, show (-1 : Int32) + 1 = 0 by decide, Int32.add_zero]
theorem im_s (n : Nat) : nI n = im (n + 1) := (pk_m1 n).symm
theorem im_0 : (-1 : Int32) = im 0 := by decide
abbrev b8 (x : Int32) : Int32 := x.toInt8.toInt32
abbrev FS : Type := (Nat → Int32) × Nat
def apc (s : FS) (c : Int32) : FS := (upd s.1 s.2 (b8 c), s.2 + 1)
def apd (s : FS) (d : Int32) : FS := apc s (48 + d)
def hi10 (y : Int32) : Int32 := ((10 * y).toUInt32 >>> ((28 : Int32).toUInt32 &&& Int32.toUInt32 31)).toInt32
def lo10 (y : Int32) : Int32 := (10 * y) &&& 268435455
def dgs (s : FS) (y : Int32) : Nat → FS × Int32 := up (fun _ p => (apd p.1 (hi10 p.2), lo10 p.2)) (s, y)
theorem dgs_s (s : FS) (y : Int32) (k : Nat) : dgs s y (k + 1) = (apd (dgs s y k).1 (hi10 (dgs s y k).2), lo10 (dgs s y k).2) := rfl
theorem dgs_n (s : FS) (y : Int32) (k : Nat) : (dgs s y k).1.2 = s.2 + k := by
  induction k with
  | zero => rfl
  | succ k ih => rw [dgs_s]; show (dgs s y k).1.2 + 1 = _; rw [ih]; rfl
/-- the last place that isn't '0', from i down -/
def rzN (f : Nat → Int32) : Nat → Nat
  | 0 => 0
  | i + 1 => if f (i + 1) = 48 then rzN f i else i + 1
def rzF (s : FS) : FS := (s.1, if s.1 (rzN s.1 (s.2 - 1)) = 46 then rzN s.1 (s.2 - 1) + 2 else rzN s.1 (s.2 - 1) + 1)
theorem rzN_le (f : Nat → Int32) (i : Nat) : rzN f i ≤ i := by
  induction i with
  | zero => exact Nat.le_refl 0
  | succ i ih => unfold rzN; split <;> omega
theorem rzN_ge (f : Nat → Int32) {p : Nat} (h : f p = 46) : ∀ i, p ≤ i → p ≤ rzN f i := by
  intro i
  induction i with
  | zero => intro h1; unfold rzN; exact h1
  | succ i ih =>
    intro h1
    unfold rzN
    split
    · rename_i h2
      refine ih ?_
      apply Classical.byContradiction
      intro q
      have : p = i + 1 := by omega
      rw [this, h2] at h
      exact absurd h (by decide)
    · exact h1
theorem rzN_step {f : Nat → Int32} {i : Nat} (h : f (i + 1) = 48) : rzN f (i + 1) = rzN f i := by
  show (if f (i + 1) = 48 then rzN f i else i + 1) = _
  rw [if_pos h]
theorem rzN_stop {f : Nat → Int32} {i : Nat} (h : ¬ f i = 48) : rzN f i = i := by
  cases i with
  | zero => rfl
  | succ i =>
    show (if f (i + 1) = 48 then rzN f i else i + 1) = _
    rw [if_neg h]
/-- an exponent behind the digits -/
def exS (s : FS) (e : Int32) : FS := if e < 10 then apd s e else apd (apd s (((e * 103).toUInt32 >>> ((10 : Int32).toUInt32 &&& Int32.toUInt32 31)).toInt32)) (e - 10 * (((e * 103).toUInt32 >>> ((10 : Int32).toUInt32 &&& Int32.toUInt32 31)).toInt32))
def exF (s : FS) (e : Int32) : FS := if e < 0 then exS (apc (apc s 69) 45) (-e) else exS (apc s 69) e
theorem im_p {n : Nat} (h : 1 ≤ n) : im n = nI (n - 1) := by
  obtain ⟨m, rfl⟩ : ∃ m, n = m + 1 := ⟨n - 1, by omega⟩
  exact (im_s m).symm
theorem rzN_dec {f : Nat → Int32} {j : Nat} (h : 1 ≤ j) (h2 : f j = 48) : rzN f j = rzN f (j - 1) := by
  obtain ⟨m, rfl⟩ : ∃ m, j = m + 1 := ⟨j - 1, by omega⟩
  exact rzN_step h2
theorem rz_e1 {f : Nat → Int32} {n j : Nat} (h : rzN f (n - 1) = j) (h2 : ¬ f j = 46) : nI j = im (rzF (f, n)).2 := by
  show nI j = im (if f (rzN f (n - 1)) = 46 then rzN f (n - 1) + 2 else rzN f (n - 1) + 1)
  rw [h, if_neg h2]
  exact im_s j
theorem rz_e2 {f : Nat → Int32} {n j : Nat} (h : rzN f (n - 1) = j) (h2 : ¬ ¬ f j = 46) : nI (j + 1) = im (rzF (f, n)).2 := by
  show nI (j + 1) = im (if f (rzN f (n - 1)) = 46 then rzN f (n - 1) + 2 else rzN f (n - 1) + 1)
  rw [h, if_pos (Classical.not_not.mp h2)]
  exact im_s (j + 1)
theorem dgs_old (s : FS) (y : Int32) (k j : Nat) (h : j < s.2) : (dgs s y k).1.1 j = s.1 j := by
  induction k with
  | zero => rfl
  | succ k ih =>
    rw [dgs_s]
    show upd (dgs s y k).1.1 (dgs s y k).1.2 _ j = _
    rw [upd_at, if_neg (by rw [dgs_n]; omega)]
    exact ih

def mulH (x y : Int64) : Int64 := (((x >>> (Int32.toInt64 32 &&& 63)) * (y >>> (Int32.toInt64 32 &&& 63))) + ((((x >>> (Int32.toInt64 32 &&& 63)) * (y &&& 4294967295)) + ((Int64.toUInt64 ((x &&& 4294967295) * (y &&& 4294967295)) >>> (Int64.toUInt64 (Int32.toInt64 32) &&& Int64.toUInt64 63)).toInt64)) >>> (Int32.toInt64 32 &&& 63))) + ((((((x >>> (Int32.toInt64 32 &&& 63)) * (y &&& 4294967295)) + ((Int64.toUInt64 ((x &&& 4294967295) * (y &&& 4294967295)) >>> (Int64.toUInt64 (Int32.toInt64 32) &&& Int64.toUInt64 63)).toInt64)) &&& 4294967295) + ((x &&& 4294967295) * (y >>> (Int32.toInt64 32 &&& 63)))) >>> (Int32.toInt64 32 &&& 63))

set_option maxHeartbeats 4000000 in
set_option maxRecDepth 100000 in
theorem t_J9_multiplyHigh_f86c9 (l9 : Launch) (hl9 : l9.stackTraces = false) (E : EK) (D : va_G) (k : Nat → ClassId) (sz : Nat) (x y : Int64) : Met l9 yJ9_multiplyHigh_f86c9 wsJ9_multiplyHigh_f86c9 ({ frames := 0, cells := 0, slots := 0, locals := 0 }) (TPc E D k [.long x, .long y] ([]) sz) (va_Ql (fun (r : Int64) (u9 : Unit) => r = mulH x y) (TB D k (va_A ([]) sz) (fun u9 : Unit => [])) (va_A ([]) sz)) (0) (0) (va_A ([]) sz) := by
  refine tMetF (y := yJ9_multiplyHigh_f86c9) (cc := cJ9_multiplyHigh_f86c9) (maxL := 20) (ret := (some .long)) (Qc := fun A => va_Ql (fun (r : Int64) (u9 : Unit) => r = mulH x y) (TB D k (A) (fun u9 : Unit => [])) (A)) [.long x, .long y] (by decide +kernel) rfl (Nat.le_of_ble_eq_true rfl) ?_
  intro p9 e9 s9 m9 bl9 me9 c9 ls A H hF hr hlocks hP hK hE hD hA hS hl hin
  have hl : lv_has ls 20 [(0, .long x), (2, .long y)] := hl
  obtain ⟨hx, hb, hml, hown, hts⟩ := id hF
  have k_constantLong_138 : (Cond.constantLong RJ9 138 (4294967295)).before _ s9 = true := hts (.constantLong RJ9 138 (4294967295)) (by decide +kernel)
  refine lv_lload_n hx hb dJ9_multiplyHigh_f86c9_0 rfl (lv_at hl 0 rfl) ?_
  refine lv_bipush (v := 32) hx hb dJ9_multiplyHigh_f86c9_1 (by decide) ?_
  refine lv_lshr (v := x >>> (Int32.toInt64 32 &&& 63)) hx hb dJ9_multiplyHigh_f86c9_3 rfl ?_
  refine lv_lstore (lv' := [(4, .long (x >>> (Int32.toInt64 32 &&& 63))), (0, .long x), (2, .long y)]) hx hb dJ9_multiplyHigh_f86c9_4 hl (by decide) rfl (fun ls hl => ?_)
  refine lv_lload_n hx hb dJ9_multiplyHigh_f86c9_6 rfl (lv_at hl 1 rfl) ?_
  refine lv_ldc2 hx hb hown k_constantLong_138 dJ9_multiplyHigh_f86c9_7 ?_
  refine lv_land hx hb dJ9_multiplyHigh_f86c9_10 ?_
  refine lv_lstore (lv' := [(6, .long (x &&& 4294967295)), (4, .long (x >>> (Int32.toInt64 32 &&& 63))), (0, .long x), (2, .long y)]) hx hb dJ9_multiplyHigh_f86c9_11 hl (by decide) rfl (fun ls hl => ?_)
  refine lv_lload_n hx hb dJ9_multiplyHigh_f86c9_13 rfl (lv_at hl 3 rfl) ?_
  refine lv_bipush (v := 32) hx hb dJ9_multiplyHigh_f86c9_14 (by decide) ?_
  refine lv_lshr (v := y >>> (Int32.toInt64 32 &&& 63)) hx hb dJ9_multiplyHigh_f86c9_16 rfl ?_
  refine lv_lstore (lv' := [(8, .long (y >>> (Int32.toInt64 32 &&& 63))), (6, .long (x &&& 4294967295)), (4, .long (x >>> (Int32.toInt64 32 &&& 63))), (0, .long x), (2, .long y)]) hx hb dJ9_multiplyHigh_f86c9_17 hl (by decide) rfl (fun ls hl => ?_)
  refine lv_lload_n hx hb dJ9_multiplyHigh_f86c9_19 rfl (lv_at hl 4 rfl) ?_
  refine lv_ldc2 hx hb hown k_constantLong_138 dJ9_multiplyHigh_f86c9_20 ?_
  refine lv_land hx hb dJ9_multiplyHigh_f86c9_23 ?_
  refine lv_lstore (lv' := [(10, .long (y &&& 4294967295)), (8, .long (y >>> (Int32.toInt64 32 &&& 63))), (6, .long (x &&& 4294967295)), (4, .long (x >>> (Int32.toInt64 32 &&& 63))), (0, .long x), (2, .long y)]) hx hb dJ9_multiplyHigh_f86c9_24 hl (by decide) rfl (fun ls hl => ?_)
  refine lv_lload hx hb dJ9_multiplyHigh_f86c9_26 (lv_at hl 2 rfl) ?_
  refine lv_lload hx hb dJ9_multiplyHigh_f86c9_28 (lv_at hl 0 rfl) ?_
  refine lv_lmul hx hb dJ9_multiplyHigh_f86c9_30 ?_
  refine lv_lstore (lv' := [(12, .long ((x &&& 4294967295) * (y &&& 4294967295))), (10, .long (y &&& 4294967295)), (8, .long (y >>> (Int32.toInt64 32 &&& 63))), (6, .long (x &&& 4294967295)), (4, .long (x >>> (Int32.toInt64 32 &&& 63))), (0, .long x), (2, .long y)]) hx hb dJ9_multiplyHigh_f86c9_31 hl (by decide) rfl (fun ls hl => ?_)
  refine lv_lload hx hb dJ9_multiplyHigh_f86c9_33 (lv_at hl 4 rfl) ?_
  refine lv_lload hx hb dJ9_multiplyHigh_f86c9_35 (lv_at hl 1 rfl) ?_
  refine lv_lmul hx hb dJ9_multiplyHigh_f86c9_37 ?_
  refine lv_lload hx hb dJ9_multiplyHigh_f86c9_38 (lv_at hl 0 rfl) ?_
  refine lv_bipush (v := 32) hx hb dJ9_multiplyHigh_f86c9_40 (by decide) ?_
  refine lv_lushr (v := (Int64.toUInt64 ((x &&& 4294967295) * (y &&& 4294967295)) >>> (Int64.toUInt64 (Int32.toInt64 32) &&& Int64.toUInt64 63)).toInt64) hx hb dJ9_multiplyHigh_f86c9_42 rfl ?_
  refine lv_ladd hx hb dJ9_multiplyHigh_f86c9_43 ?_
  refine lv_lstore (lv' := [(14, .long (((x >>> (Int32.toInt64 32 &&& 63)) * (y &&& 4294967295)) + ((Int64.toUInt64 ((x &&& 4294967295) * (y &&& 4294967295)) >>> (Int64.toUInt64 (Int32.toInt64 32) &&& Int64.toUInt64 63)).toInt64))), (12, .long ((x &&& 4294967295) * (y &&& 4294967295))), (10, .long (y &&& 4294967295)), (8, .long (y >>> (Int32.toInt64 32 &&& 63))), (6, .long (x &&& 4294967295)), (4, .long (x >>> (Int32.toInt64 32 &&& 63))), (0, .long x), (2, .long y)]) hx hb dJ9_multiplyHigh_f86c9_44 hl (by decide) rfl (fun ls hl => ?_)
  refine lv_lload hx hb dJ9_multiplyHigh_f86c9_46 (lv_at hl 0 rfl) ?_
  refine lv_ldc2 hx hb hown k_constantLong_138 dJ9_multiplyHigh_f86c9_48 ?_
  refine lv_land hx hb dJ9_multiplyHigh_f86c9_51 ?_
  refine lv_lstore (lv' := [(16, .long ((((x >>> (Int32.toInt64 32 &&& 63)) * (y &&& 4294967295)) + ((Int64.toUInt64 ((x &&& 4294967295) * (y &&& 4294967295)) >>> (Int64.toUInt64 (Int32.toInt64 32) &&& Int64.toUInt64 63)).toInt64)) &&& 4294967295)), (14, .long (((x >>> (Int32.toInt64 32 &&& 63)) * (y &&& 4294967295)) + ((Int64.toUInt64 ((x &&& 4294967295) * (y &&& 4294967295)) >>> (Int64.toUInt64 (Int32.toInt64 32) &&& Int64.toUInt64 63)).toInt64))), (12, .long ((x &&& 4294967295) * (y &&& 4294967295))), (10, .long (y &&& 4294967295)), (8, .long (y >>> (Int32.toInt64 32 &&& 63))), (6, .long (x &&& 4294967295)), (4, .long (x >>> (Int32.toInt64 32 &&& 63))), (0, .long x), (2, .long y)]) hx hb dJ9_multiplyHigh_f86c9_52 hl (by decide) rfl (fun ls hl => ?_)
  refine lv_lload hx hb dJ9_multiplyHigh_f86c9_54 (lv_at hl 1 rfl) ?_
  refine lv_bipush (v := 32) hx hb dJ9_multiplyHigh_f86c9_56 (by decide) ?_
  refine lv_lshr (v := (((x >>> (Int32.toInt64 32 &&& 63)) * (y &&& 4294967295)) + ((Int64.toUInt64 ((x &&& 4294967295) * (y &&& 4294967295)) >>> (Int64.toUInt64 (Int32.toInt64 32) &&& Int64.toUInt64 63)).toInt64)) >>> (Int32.toInt64 32 &&& 63)) hx hb dJ9_multiplyHigh_f86c9_58 rfl ?_
  refine lv_lstore (lv' := [(18, .long ((((x >>> (Int32.toInt64 32 &&& 63)) * (y &&& 4294967295)) + ((Int64.toUInt64 ((x &&& 4294967295) * (y &&& 4294967295)) >>> (Int64.toUInt64 (Int32.toInt64 32) &&& Int64.toUInt64 63)).toInt64)) >>> (Int32.toInt64 32 &&& 63))), (16, .long ((((x >>> (Int32.toInt64 32 &&& 63)) * (y &&& 4294967295)) + ((Int64.toUInt64 ((x &&& 4294967295) * (y &&& 4294967295)) >>> (Int64.toUInt64 (Int32.toInt64 32) &&& Int64.toUInt64 63)).toInt64)) &&& 4294967295)), (14, .long (((x >>> (Int32.toInt64 32 &&& 63)) * (y &&& 4294967295)) + ((Int64.toUInt64 ((x &&& 4294967295) * (y &&& 4294967295)) >>> (Int64.toUInt64 (Int32.toInt64 32) &&& Int64.toUInt64 63)).toInt64))), (12, .long ((x &&& 4294967295) * (y &&& 4294967295))), (10, .long (y &&& 4294967295)), (8, .long (y >>> (Int32.toInt64 32 &&& 63))), (6, .long (x &&& 4294967295)), (4, .long (x >>> (Int32.toInt64 32 &&& 63))), (0, .long x), (2, .long y)]) hx hb dJ9_multiplyHigh_f86c9_59 hl (by decide) rfl (fun ls hl => ?_)
  refine lv_lload hx hb dJ9_multiplyHigh_f86c9_61 (lv_at hl 1 rfl) ?_
  refine lv_lload hx hb dJ9_multiplyHigh_f86c9_63 (lv_at hl 6 rfl) ?_
  refine lv_lload hx hb dJ9_multiplyHigh_f86c9_65 (lv_at hl 5 rfl) ?_
  refine lv_lmul hx hb dJ9_multiplyHigh_f86c9_67 ?_
  refine lv_ladd hx hb dJ9_multiplyHigh_f86c9_68 ?_
  refine lv_lstore (lv' := [(16, .long (((((x >>> (Int32.toInt64 32 &&& 63)) * (y &&& 4294967295)) + ((Int64.toUInt64 ((x &&& 4294967295) * (y &&& 4294967295)) >>> (Int64.toUInt64 (Int32.toInt64 32) &&& Int64.toUInt64 63)).toInt64)) &&& 4294967295) + ((x &&& 4294967295) * (y >>> (Int32.toInt64 32 &&& 63))))), (18, .long ((((x >>> (Int32.toInt64 32 &&& 63)) * (y &&& 4294967295)) + ((Int64.toUInt64 ((x &&& 4294967295) * (y &&& 4294967295)) >>> (Int64.toUInt64 (Int32.toInt64 32) &&& Int64.toUInt64 63)).toInt64)) >>> (Int32.toInt64 32 &&& 63))), (14, .long (((x >>> (Int32.toInt64 32 &&& 63)) * (y &&& 4294967295)) + ((Int64.toUInt64 ((x &&& 4294967295) * (y &&& 4294967295)) >>> (Int64.toUInt64 (Int32.toInt64 32) &&& Int64.toUInt64 63)).toInt64))), (12, .long ((x &&& 4294967295) * (y &&& 4294967295))), (10, .long (y &&& 4294967295)), (8, .long (y >>> (Int32.toInt64 32 &&& 63))), (6, .long (x &&& 4294967295)), (4, .long (x >>> (Int32.toInt64 32 &&& 63))), (0, .long x), (2, .long y)]) hx hb dJ9_multiplyHigh_f86c9_69 hl (by decide) rfl (fun ls hl => ?_)
  refine lv_lload hx hb dJ9_multiplyHigh_f86c9_71 (lv_at hl 7 rfl) ?_
  refine lv_lload hx hb dJ9_multiplyHigh_f86c9_73 (lv_at hl 5 rfl) ?_
  refine lv_lmul hx hb dJ9_multiplyHigh_f86c9_75 ?_
  refine lv_lload hx hb dJ9_multiplyHigh_f86c9_76 (lv_at hl 1 rfl) ?_
  refine lv_ladd hx hb dJ9_multiplyHigh_f86c9_78 ?_
  refine lv_lload hx hb dJ9_multiplyHigh_f86c9_79 (lv_at hl 0 rfl) ?_
  refine lv_bipush (v := 32) hx hb dJ9_multiplyHigh_f86c9_81 (by decide) ?_
  refine lv_lshr (v := (((((x >>> (Int32.toInt64 32 &&& 63)) * (y &&& 4294967295)) + ((Int64.toUInt64 ((x &&& 4294967295) * (y &&& 4294967295)) >>> (Int64.toUInt64 (Int32.toInt64 32) &&& Int64.toUInt64 63)).toInt64)) &&& 4294967295) + ((x &&& 4294967295) * (y >>> (Int32.toInt64 32 &&& 63)))) >>> (Int32.toInt64 32 &&& 63)) hx hb dJ9_multiplyHigh_f86c9_83 rfl ?_
  refine lv_ladd hx hb dJ9_multiplyHigh_f86c9_84 ?_
  exact W.lret (v := (((x >>> (Int32.toInt64 32 &&& 63)) * (y >>> (Int32.toInt64 32 &&& 63))) + ((((x >>> (Int32.toInt64 32 &&& 63)) * (y &&& 4294967295)) + ((Int64.toUInt64 ((x &&& 4294967295) * (y &&& 4294967295)) >>> (Int64.toUInt64 (Int32.toInt64 32) &&& Int64.toUInt64 63)).toInt64)) >>> (Int32.toInt64 32 &&& 63))) + ((((((x >>> (Int32.toInt64 32 &&& 63)) * (y &&& 4294967295)) + ((Int64.toUInt64 ((x &&& 4294967295) * (y &&& 4294967295)) >>> (Int64.toUInt64 (Int32.toInt64 32) &&& Int64.toUInt64 63)).toInt64)) &&& 4294967295) + ((x &&& 4294967295) * (y >>> (Int32.toInt64 32 &&& 63)))) >>> (Int32.toInt64 32 &&& 63))) hx hb hr (fun t9 ht hW => ⟨⟨_, (), rfl, (by rfl), ⟨by rw [ht]; exact hP, va_K.moved hW.alike hK, hD⟩⟩, hS.F ht⟩) hS.2.2 dJ9_multiplyHigh_f86c9_85 hlocks

def ropF (x y : Int64) : Int32 := (((Int64.toUInt64 (mulH x y) >>> (Int64.toUInt64 (Int32.toInt64 31) &&& Int64.toUInt64 63)).toInt64) ||| ((Int64.toUInt64 (((mulH x y) &&& 4294967295) + 4294967295) >>> (Int64.toUInt64 (Int32.toInt64 32) &&& Int64.toUInt64 63)).toInt64)).toInt32

set_option maxHeartbeats 4000000 in
set_option maxRecDepth 100000 in
theorem t_Jx40b00_rop_74951 (l9 : Launch) (hl9 : l9.stackTraces = false) (E : EK) (D : va_G) (k : Nat → ClassId) (sz : Nat) (x y : Int64) : Met l9 yJx40b00_rop_74951 wsJx40b00_rop_74951 ({ frames := 1, cells := 0, slots := 0, locals := 39 }) (TPc E D k [.long x, .long y] ([]) sz) (va_Qi (fun (r : Int32) (u9 : Unit) => r = ropF x y) (TB D k (va_A ([]) sz) (fun u9 : Unit => [])) (va_A ([]) sz)) (0) (0) (va_A ([]) sz) := by
  refine tMet (y := yJx40b00_rop_74951) (cc := cJx40b00_rop_74951) (maxL := 8) (ret := (some .int)) (Qc := fun A => va_Qi (fun (r : Int32) (u9 : Unit) => r = ropF x y) (TB D k (A) (fun u9 : Unit => [])) (A)) [.long x, .long y] (by decide) rfl (Nat.le_of_ble_eq_true rfl) ?_
  intro p9 e9 s9 m9 bl9 me9 c9 ls A H hF hr hlocks hP hK hE hD hA hS hl hin
  have hl : lv_has ls 8 [(0, .long x), (2, .long y)] := hl
  obtain ⟨hx, hb, hml, hown, hts⟩ := id hF
  have k_constantLong_110 : (Cond.constantLong RJx40b00 110 (4294967295)).before _ s9 = true := hts (.constantLong RJx40b00 110 (4294967295)) (by decide +kernel)
  refine lv_lload_n hx hb dJx40b00_rop_74951_0 rfl (lv_at hl 0 rfl) ?_
  refine lv_lload_n hx hb dJx40b00_rop_74951_1 rfl (lv_at hl 1 rfl) ?_
  have hP : va_P D vwCl ([] ++ ([])) H := hP
  have hD : va_D A ([] ++ ([])) := hD
  have hFc := tFree hD hS hA
  refine va_calll (va_runS (As := [.long x, .long y]) (rest := []) hF (t_J9_multiplyHigh_f86c9 l9 hl9 E D k H.size x y ) (va_cwS 2 hts gJx40b00_rop_74951_J9_multiplyHigh_f86c9 rfl rfl rfl (by decide +kernel) ⟨Nat.le_of_ble_eq_true rfl, Nat.le_of_ble_eq_true rfl⟩) (tPreS hK hE hS hA hP hD) rfl rfl hl.1 rfl (lv_room (Nat.le_of_ble_eq_true rfl)) dJx40b00_rop_74951_2 ⟨(Nat.le_of_ble_eq_true rfl), (Nat.le_of_ble_eq_true rfl)⟩) hS (fun q _ h => hFc q h) hFc (fun r_2 u_3 t9 H1 locs ht hvm hw_4 hB hz1 hk1 hS => ?_)
  obtain ⟨hP, -, hD⟩ := hB
  rw [ht] at hP
  replace hP : va_P D vwCl ([]) H1 := hP
  replace hD : va_D A ([]) := hD.weaken (fun _ q _ h => hFc q.1 h)
  replace hw_4 : r_2 = mulH x y := hw_4
  clear hz1 hvm hFc hk1 ht
  clear t9
  generalize H1 = H at hP hS ⊢
  refine lv_tope (v2 := .long (mulH x y)) (by rw [hw_4]) ?_
  refine lv_lstore (lv' := [(4, .long (mulH x y)), (0, .long x), (2, .long y)]) hx hb dJx40b00_rop_74951_5 hl (by decide) rfl (fun ls hl => ?_)
  refine lv_lload hx hb dJx40b00_rop_74951_7 (lv_at hl 0 rfl) ?_
  refine lv_bipush (v := 31) hx hb dJx40b00_rop_74951_9 (by decide) ?_
  refine lv_lushr (v := (Int64.toUInt64 (mulH x y) >>> (Int64.toUInt64 (Int32.toInt64 31) &&& Int64.toUInt64 63)).toInt64) hx hb dJx40b00_rop_74951_11 rfl ?_
  refine lv_lstore (lv' := [(6, .long ((Int64.toUInt64 (mulH x y) >>> (Int64.toUInt64 (Int32.toInt64 31) &&& Int64.toUInt64 63)).toInt64)), (4, .long (mulH x y)), (0, .long x), (2, .long y)]) hx hb dJx40b00_rop_74951_12 hl (by decide) rfl (fun ls hl => ?_)
  refine lv_lload hx hb dJx40b00_rop_74951_14 (lv_at hl 0 rfl) ?_
  refine lv_lload hx hb dJx40b00_rop_74951_16 (lv_at hl 1 rfl) ?_
  refine lv_ldc2 hx hb hown k_constantLong_110 dJx40b00_rop_74951_18 ?_
  refine lv_land hx hb dJx40b00_rop_74951_21 ?_
  refine lv_ldc2 hx hb hown k_constantLong_110 dJx40b00_rop_74951_22 ?_
  refine lv_ladd hx hb dJx40b00_rop_74951_25 ?_
  refine lv_bipush (v := 32) hx hb dJx40b00_rop_74951_26 (by decide) ?_
  refine lv_lushr (v := (Int64.toUInt64 (((mulH x y) &&& 4294967295) + 4294967295) >>> (Int64.toUInt64 (Int32.toInt64 32) &&& Int64.toUInt64 63)).toInt64) hx hb dJx40b00_rop_74951_28 rfl ?_
  refine lv_lor hx hb dJx40b00_rop_74951_29 ?_
  refine lv_l2i hx hb dJx40b00_rop_74951_30 rfl ?_
  exact W.iret (v := (((Int64.toUInt64 (mulH x y) >>> (Int64.toUInt64 (Int32.toInt64 31) &&& Int64.toUInt64 63)).toInt64) ||| ((Int64.toUInt64 (((mulH x y) &&& 4294967295) + 4294967295) >>> (Int64.toUInt64 (Int32.toInt64 32) &&& Int64.toUInt64 63)).toInt64)).toInt32) hx hb hr (fun t9 ht hW => ⟨⟨_, (), rfl, (by rfl), ⟨by rw [ht]; exact hP, va_K.moved hW.alike hK, hD⟩⟩, hS.F ht⟩) hS.2.2 dJx40b00_rop_74951_31 hlocks

def f10 (x : Int32) : Int32 := ((x.toInt64 * 661971961083) >>> (Int32.toInt64 41 &&& 63)).toInt32

set_option maxHeartbeats 4000000 in
set_option maxRecDepth 100000 in
theorem t_Jx25f51_flog10pow2_0f7a4 (l9 : Launch) (hl9 : l9.stackTraces = false) (E : EK) (D : va_G) (k : Nat → ClassId) (sz : Nat) (x : Int32) : Met l9 yJx25f51_flog10pow2_0f7a4 wsJx25f51_flog10pow2_0f7a4 ({ frames := 0, cells := 0, slots := 0, locals := 0 }) (TPc E D k [.int x] ([]) sz) (va_Qi (fun (r : Int32) (u9 : Unit) => r = f10 x) (TB D k (va_A ([]) sz) (fun u9 : Unit => [])) (va_A ([]) sz)) (0) (0) (va_A ([]) sz) := by
  refine tMet (y := yJx25f51_flog10pow2_0f7a4) (cc := cJx25f51_flog10pow2_0f7a4) (maxL := 1) (ret := (some .int)) (Qc := fun A => va_Qi (fun (r : Int32) (u9 : Unit) => r = f10 x) (TB D k (A) (fun u9 : Unit => [])) (A)) [.int x] (by decide) rfl (Nat.le_of_ble_eq_true rfl) ?_
  intro p9 e9 s9 m9 bl9 me9 c9 ls A H hF hr hlocks hP hK hE hD hA hS hl hin
  have hl : lv_has ls 1 [(0, .int x)] := hl
  obtain ⟨hx, hb, hml, hown, hts⟩ := id hF
  have k_constantLong_20 : (Cond.constantLong RJx25f51 20 (661971961083)).before _ s9 = true := hts (.constantLong RJx25f51 20 (661971961083)) (by decide +kernel)
  refine lv_iload_n hx hb dJx25f51_flog10pow2_0f7a4_0 rfl (lv_at hl 0 rfl) ?_
  refine lv_i2l hx hb dJx25f51_flog10pow2_0f7a4_1 rfl ?_
  refine lv_ldc2 hx hb hown k_constantLong_20 dJx25f51_flog10pow2_0f7a4_2 ?_
  refine lv_lmul hx hb dJx25f51_flog10pow2_0f7a4_5 ?_
  refine lv_bipush (v := 41) hx hb dJx25f51_flog10pow2_0f7a4_6 (by decide) ?_
  refine lv_lshr (v := (x.toInt64 * 661971961083) >>> (Int32.toInt64 41 &&& 63)) hx hb dJx25f51_flog10pow2_0f7a4_8 rfl ?_
  refine lv_l2i hx hb dJx25f51_flog10pow2_0f7a4_9 rfl ?_
  exact W.iret (v := ((x.toInt64 * 661971961083) >>> (Int32.toInt64 41 &&& 63)).toInt32) hx hb hr (fun t9 ht hW => ⟨⟨_, (), rfl, (by rfl), ⟨by rw [ht]; exact hP, va_K.moved hW.alike hK, hD⟩⟩, hS.F ht⟩) hS.2.2 dJx25f51_flog10pow2_0f7a4_10 hlocks

def f34 (x : Int32) : Int32 := (((x.toInt64 * 661971961083) + (-274743187321)) >>> (Int32.toInt64 41 &&& 63)).toInt32

set_option maxHeartbeats 4000000 in
set_option maxRecDepth 100000 in
theorem t_Jx25f51_flog10threeQuartersPow2_0f7a4 (l9 : Launch) (hl9 : l9.stackTraces = false) (E : EK) (D : va_G) (k : Nat → ClassId) (sz : Nat) (x : Int32) : Met l9 yJx25f51_flog10threeQuartersPow2_0f7a4 wsJx25f51_flog10threeQuartersPow2_0f7a4 ({ frames := 0, cells := 0, slots := 0, locals := 0 }) (TPc E D k [.int x] ([]) sz) (va_Qi (fun (r : Int32) (u9 : Unit) => r = f34 x) (TB D k (va_A ([]) sz) (fun u9 : Unit => [])) (va_A ([]) sz)) (0) (0) (va_A ([]) sz) := by
  refine tMet (y := yJx25f51_flog10threeQuartersPow2_0f7a4) (cc := cJx25f51_flog10threeQuartersPow2_0f7a4) (maxL := 1) (ret := (some .int)) (Qc := fun A => va_Qi (fun (r : Int32) (u9 : Unit) => r = f34 x) (TB D k (A) (fun u9 : Unit => [])) (A)) [.int x] (by decide) rfl (Nat.le_of_ble_eq_true rfl) ?_
  intro p9 e9 s9 m9 bl9 me9 c9 ls A H hF hr hlocks hP hK hE hD hA hS hl hin
  have hl : lv_has ls 1 [(0, .int x)] := hl
  obtain ⟨hx, hb, hml, hown, hts⟩ := id hF
  have k_constantLong_20 : (Cond.constantLong RJx25f51 20 (661971961083)).before _ s9 = true := hts (.constantLong RJx25f51 20 (661971961083)) (by decide +kernel)
  have k_constantLong_22 : (Cond.constantLong RJx25f51 22 (-274743187321)).before _ s9 = true := hts (.constantLong RJx25f51 22 (-274743187321)) (by decide +kernel)
  refine lv_iload_n hx hb dJx25f51_flog10threeQuartersPow2_0f7a4_0 rfl (lv_at hl 0 rfl) ?_
  refine lv_i2l hx hb dJx25f51_flog10threeQuartersPow2_0f7a4_1 rfl ?_
  refine lv_ldc2 hx hb hown k_constantLong_20 dJx25f51_flog10threeQuartersPow2_0f7a4_2 ?_
  refine lv_lmul hx hb dJx25f51_flog10threeQuartersPow2_0f7a4_5 ?_
  refine lv_ldc2 hx hb hown k_constantLong_22 dJx25f51_flog10threeQuartersPow2_0f7a4_6 ?_
  refine lv_ladd hx hb dJx25f51_flog10threeQuartersPow2_0f7a4_9 ?_
  refine lv_bipush (v := 41) hx hb dJx25f51_flog10threeQuartersPow2_0f7a4_10 (by decide) ?_
  refine lv_lshr (v := ((x.toInt64 * 661971961083) + (-274743187321)) >>> (Int32.toInt64 41 &&& 63)) hx hb dJx25f51_flog10threeQuartersPow2_0f7a4_12 rfl ?_
  refine lv_l2i hx hb dJx25f51_flog10threeQuartersPow2_0f7a4_13 rfl ?_
  exact W.iret (v := (((x.toInt64 * 661971961083) + (-274743187321)) >>> (Int32.toInt64 41 &&& 63)).toInt32) hx hb hr (fun t9 ht hW => ⟨⟨_, (), rfl, (by rfl), ⟨by rw [ht]; exact hP, va_K.moved hW.alike hK, hD⟩⟩, hS.F ht⟩) hS.2.2 dJx25f51_flog10threeQuartersPow2_0f7a4_14 hlocks

def f2p (x : Int32) : Int32 := ((x.toInt64 * 913124641741) >>> (Int32.toInt64 38 &&& 63)).toInt32

set_option maxHeartbeats 4000000 in
set_option maxRecDepth 100000 in
theorem t_Jx25f51_flog2pow10_0f7a4 (l9 : Launch) (hl9 : l9.stackTraces = false) (E : EK) (D : va_G) (k : Nat → ClassId) (sz : Nat) (x : Int32) : Met l9 yJx25f51_flog2pow10_0f7a4 wsJx25f51_flog2pow10_0f7a4 ({ frames := 0, cells := 0, slots := 0, locals := 0 }) (TPc E D k [.int x] ([]) sz) (va_Qi (fun (r : Int32) (u9 : Unit) => r = f2p x) (TB D k (va_A ([]) sz) (fun u9 : Unit => [])) (va_A ([]) sz)) (0) (0) (va_A ([]) sz) := by
  refine tMet (y := yJx25f51_flog2pow10_0f7a4) (cc := cJx25f51_flog2pow10_0f7a4) (maxL := 1) (ret := (some .int)) (Qc := fun A => va_Qi (fun (r : Int32) (u9 : Unit) => r = f2p x) (TB D k (A) (fun u9 : Unit => [])) (A)) [.int x] (by decide) rfl (Nat.le_of_ble_eq_true rfl) ?_
  intro p9 e9 s9 m9 bl9 me9 c9 ls A H hF hr hlocks hP hK hE hD hA hS hl hin
  have hl : lv_has ls 1 [(0, .int x)] := hl
  obtain ⟨hx, hb, hml, hown, hts⟩ := id hF
  have k_constantLong_24 : (Cond.constantLong RJx25f51 24 (913124641741)).before _ s9 = true := hts (.constantLong RJx25f51 24 (913124641741)) (by decide +kernel)
  refine lv_iload_n hx hb dJx25f51_flog2pow10_0f7a4_0 rfl (lv_at hl 0 rfl) ?_
  refine lv_i2l hx hb dJx25f51_flog2pow10_0f7a4_1 rfl ?_
  refine lv_ldc2 hx hb hown k_constantLong_24 dJx25f51_flog2pow10_0f7a4_2 ?_
  refine lv_lmul hx hb dJx25f51_flog2pow10_0f7a4_5 ?_
  refine lv_bipush (v := 38) hx hb dJx25f51_flog2pow10_0f7a4_6 (by decide) ?_
  refine lv_lshr (v := (x.toInt64 * 913124641741) >>> (Int32.toInt64 38 &&& 63)) hx hb dJx25f51_flog2pow10_0f7a4_8 rfl ?_
  refine lv_l2i hx hb dJx25f51_flog2pow10_0f7a4_9 rfl ?_
  exact W.iret (v := ((x.toInt64 * 913124641741) >>> (Int32.toInt64 38 &&& 63)).toInt32) hx hb hr (fun t9 ht hW => ⟨⟨_, (), rfl, (by rfl), ⟨by rw [ht]; exact hP, va_K.moved hW.alike hK, hD⟩⟩, hS.F ht⟩) hS.2.2 dJx25f51_flog2pow10_0f7a4_10 hlocks

set_option maxHeartbeats 4000000 in
set_option maxRecDepth 100000 in
theorem t_Jx25f51_g1_3e8ac (l9 : Launch) (hl9 : l9.stackTraces = false) (E : EK) (D : va_G) (k : Nat → ClassId) (sz : Nat) (x : Int32) (j : Nat) (hk : (x - (-324)) <<< (1 &&& 31) = nI j) (hj : j < 1234) : Met l9 yJx25f51_g1_3e8ac wsJx25f51_g1_3e8ac ({ frames := 0, cells := 0, slots := 0, locals := 0 }) (TPc E D k [.int x] ([]) sz) (va_Ql (fun (r : Int64) (u9 : Unit) => r = kgf E j) (TB D k (va_A ([]) sz) (fun u9 : Unit => [])) (va_A ([]) sz)) (0) (0) (va_A ([]) sz) := by
  refine tMet (y := yJx25f51_g1_3e8ac) (cc := cJx25f51_g1_3e8ac) (maxL := 1) (ret := (some .long)) (Qc := fun A => va_Ql (fun (r : Int64) (u9 : Unit) => r = kgf E j) (TB D k (A) (fun u9 : Unit => [])) (A)) [.int x] (by decide) rfl (Nat.le_of_ble_eq_true rfl) ?_
  intro p9 e9 s9 m9 bl9 me9 c9 ls A H hF hr hlocks hP hK hE hD hA hS hl hin
  have hl : lv_has ls 1 [(0, .int x)] := hl
  obtain ⟨hx, hb, hml, hown, hts⟩ := id hF
  have k_fieldLink_26 : (Cond.fieldLink RJx25f51 26 "jdk/internal/math/MathUtils" "g" "[J").before _ s9 = true := hts (.fieldLink RJx25f51 26 "jdk/internal/math/MathUtils" "g" "[J") (by decide +kernel)
  refine va_gets hx hb hE.2.2.2.2.2.2.2.2.2.2.2.1 hS hown k_fieldLink_26 (fun _ h9 => h9) dJx25f51_g1_3e8ac_0 ?_
  refine lv_iload_n hx hb dJx25f51_g1_3e8ac_3 rfl (lv_at hl 0 rfl) ?_
  refine lv_sipush (v := (-324)) hx hb dJx25f51_g1_3e8ac_4 (by decide) ?_
  refine lv_isub hx hb dJx25f51_g1_3e8ac_7 ?_
  refine lv_iconst (v := 1) hx hb dJx25f51_g1_3e8ac_8 (by decide) ?_
  refine lv_ishl hx hb dJx25f51_g1_3e8ac_9 ?_
  refine lv_tope (v2 := .int (nI j)) (congrArg Value.int (by exact hk)) ?_
  refine va_tl hx hb hE.2.2.2.2.2.2.2.2.2.2.2.2.1 hS (nI_vin (j := j) hj (by decide)) (by rw [nI_clamp (Nat.lt_trans hj (show 1234 < 2 ^ 31 by decide))]) dJx25f51_g1_3e8ac_10 ?_
  exact W.lret (v := kgf E j) hx hb hr (fun t9 ht hW => ⟨⟨_, (), rfl, (by rfl), ⟨by rw [ht]; exact hP, va_K.moved hW.alike hK, hD⟩⟩, hS.F ht⟩) hS.2.2 dJx25f51_g1_3e8ac_11 hlocks

set_option maxHeartbeats 4000000 in
set_option maxRecDepth 100000 in
theorem t_Jx25f51_pow10_3e8ac (l9 : Launch) (hl9 : l9.stackTraces = false) (E : EK) (D : va_G) (k : Nat → ClassId) (sz : Nat) (j : Nat) (hj : j < 18) : Met l9 yJx25f51_pow10_3e8ac wsJx25f51_pow10_3e8ac ({ frames := 0, cells := 0, slots := 0, locals := 0 }) (TPc E D k [.int (nI j)] ([]) sz) (va_Ql (fun (r : Int64) (u9 : Unit) => r = p10L j) (TB D k (va_A ([]) sz) (fun u9 : Unit => [])) (va_A ([]) sz)) (0) (0) (va_A ([]) sz) := by
  refine tMet (y := yJx25f51_pow10_3e8ac) (cc := cJx25f51_pow10_3e8ac) (maxL := 1) (ret := (some .long)) (Qc := fun A => va_Ql (fun (r : Int64) (u9 : Unit) => r = p10L j) (TB D k (A) (fun u9 : Unit => [])) (A)) [.int (nI j)] (by decide) rfl (Nat.le_of_ble_eq_true rfl) ?_
  intro p9 e9 s9 m9 bl9 me9 c9 ls A H hF hr hlocks hP hK hE hD hA hS hl hin
  have hl : lv_has ls 1 [(0, .int (nI j))] := hl
  obtain ⟨hx, hb, hml, hown, hts⟩ := id hF
  have k_fieldLink_14 : (Cond.fieldLink RJx25f51 14 "jdk/internal/math/MathUtils" "pow10" "[J").before _ s9 = true := hts (.fieldLink RJx25f51 14 "jdk/internal/math/MathUtils" "pow10" "[J") (by decide +kernel)
  refine va_gets hx hb hE.2.2.2.2.2.2.2.2.2.2.2.2.2.1 hS hown k_fieldLink_14 (fun _ h9 => h9) dJx25f51_pow10_3e8ac_0 ?_
  refine lv_iload_n hx hb dJx25f51_pow10_3e8ac_3 rfl (lv_at hl 0 rfl) ?_
  refine va_tl hx hb hE.2.2.2.2.2.2.2.2.2.2.2.2.2.2.1 hS (nI_vin (j := j) hj (by decide)) (by rw [nI_clamp (Nat.lt_trans hj (show 18 < 2 ^ 31 by decide))]) dJx25f51_pow10_3e8ac_4 ?_
  exact W.lret (v := p10L j) hx hb hr (fun t9 ht hW => ⟨⟨_, (), rfl, (by rfl), ⟨by rw [ht]; exact hP, va_K.moved hW.alike hK, hD⟩⟩, hS.F ht⟩) hS.2.2 dJx25f51_pow10_3e8ac_5 hlocks

def yF (x : Int32) : Int32 := (((Int64.toUInt64 (mulH (((x + 1).toInt64) <<< (Int32.toInt64 28 &&& 63)) 193428131138340668) >>> (Int64.toUInt64 (Int32.toInt64 20) &&& Int64.toUInt64 63)).toInt64).toInt32) - 1

set_option maxHeartbeats 4000000 in
set_option maxRecDepth 100000 in
theorem t_Jx40b00_y_0f7a4 (l9 : Launch) (hl9 : l9.stackTraces = false) (E : EK) (D : va_G) (k : Nat → ClassId) (sz : Nat) (a b n : Nat) (f : Nat → Int32) (x : Int32) : Met l9 yJx40b00_y_0f7a4 wsJx40b00_y_0f7a4 ({ frames := 1, cells := 0, slots := 0, locals := 39 }) (TPc E D k [.ref a, .int x] (bFO9 k a b (im n) ++ bAB k b 15 f) sz) (va_Qi (fun (r : Int32) (u9 : Unit) => r = yF x) (TB D k (va_A (bFO9 k a b (im n) ++ bAB k b 15 f) sz) (fun u9 : Unit => bFO9 k a b (im n) ++ bAB k b 15 f)) (va_A (bFO9 k a b (im n) ++ bAB k b 15 f) sz)) (0) (0) (va_A (bFO9 k a b (im n) ++ bAB k b 15 f) sz) := by
  refine tMet (y := yJx40b00_y_0f7a4) (cc := cJx40b00_y_0f7a4) (maxL := 2) (ret := (some .int)) (Qc := fun A => va_Qi (fun (r : Int32) (u9 : Unit) => r = yF x) (TB D k (A) (fun u9 : Unit => bFO9 k a b (im n) ++ bAB k b 15 f)) (A)) [.ref a, .int x] (by decide) rfl (Nat.le_of_ble_eq_true rfl) ?_
  intro p9 e9 s9 m9 bl9 me9 c9 ls A H hF hr hlocks hP hK hE hD hA hS hl hin
  have hl : lv_has ls 2 [(0, .ref a), (1, .int x)] := hl
  obtain ⟨hx, hb, hml, hown, hts⟩ := id hF
  have k_constantLong_148 : (Cond.constantLong RJx40b00 148 (193428131138340668)).before _ s9 = true := hts (.constantLong RJx40b00 148 (193428131138340668)) (by decide +kernel)
  refine lv_iload_n hx hb dJx40b00_y_0f7a4_0 rfl (lv_at hl 1 rfl) ?_
  refine lv_iconst (v := 1) hx hb dJx40b00_y_0f7a4_1 (by decide) ?_
  refine lv_iadd hx hb dJx40b00_y_0f7a4_2 ?_
  refine lv_i2l hx hb dJx40b00_y_0f7a4_3 rfl ?_
  refine lv_bipush (v := 28) hx hb dJx40b00_y_0f7a4_4 (by decide) ?_
  refine lv_lshl (v := ((x + 1).toInt64) <<< (Int32.toInt64 28 &&& 63)) hx hb dJx40b00_y_0f7a4_6 rfl ?_
  refine lv_ldc2 hx hb hown k_constantLong_148 dJx40b00_y_0f7a4_7 ?_
  have hP : va_P D vwCl ([] ++ (bFO9 k a b (im n) ++ bAB k b 15 f)) H := hP
  have hD : va_D A ([] ++ (bFO9 k a b (im n) ++ bAB k b 15 f)) := hD
  have hFc := tFree hD hS hA
  refine va_calll (va_runS (As := [.long (((x + 1).toInt64) <<< (Int32.toInt64 28 &&& 63)), .long 193428131138340668]) (rest := []) hF (fr_l (bFO9 k a b (im n) ++ bAB k b 15 f) (t_J9_multiplyHigh_f86c9 l9 hl9 E D k H.size (((x + 1).toInt64) <<< (Int32.toInt64 28 &&& 63)) 193428131138340668 )) (va_cwS 2 hts gJx40b00_y_0f7a4_J9_multiplyHigh_f86c9 rfl rfl rfl (by decide +kernel) ⟨Nat.le_of_ble_eq_true rfl, Nat.le_of_ble_eq_true rfl⟩) (tPreS hK hE hS hA hP hD) rfl rfl hl.1 rfl (lv_room (Nat.le_of_ble_eq_true rfl)) dJx40b00_y_0f7a4_10 ⟨(Nat.le_of_ble_eq_true rfl), (Nat.le_of_ble_eq_true rfl)⟩) hS (fun q _ h => hFc q h) hFc (fun r_2 u_3 t9 H1 locs ht hvm hw_4 hB hz1 hk1 hS => ?_)
  obtain ⟨hP, -, hD⟩ := hB
  rw [ht] at hP
  replace hP : va_P D vwCl (([]) ++ (bFO9 k a b (im n) ++ bAB k b 15 f)) H1 := hP
  replace hD : va_D A (([]) ++ (bFO9 k a b (im n) ++ bAB k b 15 f)) := hD.weaken (fun _ q _ h => hFc q.1 h)
  replace hP : va_P D vwCl (bFO9 k a b (im n) ++ bAB k b 15 f) H1 := hP
  replace hD : va_D A (bFO9 k a b (im n) ++ bAB k b 15 f) := hD
  replace hw_4 : r_2 = mulH (((x + 1).toInt64) <<< (Int32.toInt64 28 &&& 63)) 193428131138340668 := hw_4
  clear hz1 hvm hFc hk1 ht
  clear t9
  generalize H1 = H at hP hS ⊢
  refine lv_tope (v2 := .long (mulH (((x + 1).toInt64) <<< (Int32.toInt64 28 &&& 63)) 193428131138340668)) (by rw [hw_4]) ?_
  refine lv_bipush (v := 20) hx hb dJx40b00_y_0f7a4_13 (by decide) ?_
  refine lv_lushr (v := (Int64.toUInt64 (mulH (((x + 1).toInt64) <<< (Int32.toInt64 28 &&& 63)) 193428131138340668) >>> (Int64.toUInt64 (Int32.toInt64 20) &&& Int64.toUInt64 63)).toInt64) hx hb dJx40b00_y_0f7a4_15 rfl ?_
  refine lv_l2i hx hb dJx40b00_y_0f7a4_16 rfl ?_
  refine lv_iconst (v := 1) hx hb dJx40b00_y_0f7a4_17 (by decide) ?_
  refine lv_isub hx hb dJx40b00_y_0f7a4_18 ?_
  exact W.iret (v := (((Int64.toUInt64 (mulH (((x + 1).toInt64) <<< (Int32.toInt64 28 &&& 63)) 193428131138340668) >>> (Int64.toUInt64 (Int32.toInt64 20) &&& Int64.toUInt64 63)).toInt64).toInt32) - 1) hx hb hr (fun t9 ht hW => ⟨⟨_, (), rfl, (by rfl), ⟨by rw [ht]; exact hP, va_K.moved hW.alike hK, hD⟩⟩, hS.F ht⟩) hS.2.2 dJx40b00_y_0f7a4_19 hlocks

set_option maxHeartbeats 4000000 in
set_option maxRecDepth 100000 in
theorem t_Jx40b00_append_d00df (l9 : Launch) (hl9 : l9.stackTraces = false) (E : EK) (D : va_G) (k : Nat → ClassId) (sz : Nat) (a b n : Nat) (f : Nat → Int32) (c : Int32) (hn : n < 15) : Met l9 yJx40b00_append_d00df wsJx40b00_append_d00df ({ frames := 0, cells := 0, slots := 0, locals := 0 }) (TPc E D k [.ref a, .int c] (bFO9 k a b (im n) ++ bAB k b 15 f) sz) (va_Qv (fun (u9 : Unit) => True) (TB D k (va_A (bFO9 k a b (im n) ++ bAB k b 15 f) sz) (fun u9 : Unit => bFO9 k a b (im (apc (f, n) c).2) ++ bAB k b 15 ((apc (f, n) c).1))) (va_A (bFO9 k a b (im n) ++ bAB k b 15 f) sz)) (0) (0) (va_A (bFO9 k a b (im n) ++ bAB k b 15 f) sz) := by
  refine tMet (y := yJx40b00_append_d00df) (cc := cJx40b00_append_d00df) (maxL := 2) (ret := none) (Qc := fun A => va_Qv (fun (u9 : Unit) => True) (TB D k (A) (fun u9 : Unit => bFO9 k a b (im (apc (f, n) c).2) ++ bAB k b 15 ((apc (f, n) c).1))) (A)) [.ref a, .int c] (by decide) rfl (Nat.le_of_ble_eq_true rfl) ?_
  intro p9 e9 s9 m9 bl9 me9 c9 ls A H hF hr hlocks hP hK hE hD hA hS hl hin
  have hl : lv_has ls 2 [(0, .ref a), (1, .int c)] := hl
  obtain ⟨hx, hb, hml, hown, hts⟩ := id hF
  have k_fieldLink_11 : (Cond.fieldLink RJx40b00 11 "jdk/internal/math/FloatToDecimal" "bytes" "[B").before _ s9 = true := hts (.fieldLink RJx40b00 11 "jdk/internal/math/FloatToDecimal" "bytes" "[B") (by decide +kernel)
  have kc_RJx40b00 : ∀ w ∈ u_ws RJx40b00 TJx40b00 2, w ∈ wsJx40b00_append_d00df := by decide +kernel
  have k_fieldLink_42 : (Cond.fieldLink RJx40b00 42 "jdk/internal/math/FloatToDecimal" "index" "I").before _ s9 = true := hts (.fieldLink RJx40b00 42 "jdk/internal/math/FloatToDecimal" "index" "I") (by decide +kernel)
  refine lv_aload_n hx hb dJx40b00_append_d00df_0 rfl (lv_at hl 0 rfl) ?_
  refine va_get (D := D) (ci := 3) (v := .ref b) (C := RJx40b00) (T := TJx40b00) (N := 2) hx hb hts kc_RJx40b00 hown hK hP 0 rfl rfl 0 (by decide) k_fieldLink_11 (fun _ h9 => h9) rfl dJx40b00_append_d00df_1 ?_
  refine lv_aload_n hx hb dJx40b00_append_d00df_4 rfl (lv_at hl 0 rfl) ?_
  refine lv_dup hx hb dJx40b00_append_d00df_5 rfl ?_
  refine va_get (D := D) (ci := 3) (v := .int (im n)) (C := RJx40b00) (T := TJx40b00) (N := 2) hx hb hts kc_RJx40b00 hown hK hP 0 rfl rfl 1 (by decide) k_fieldLink_42 (fun _ h9 => h9) rfl dJx40b00_append_d00df_6 ?_
  refine lv_iconst (v := 1) hx hb dJx40b00_append_d00df_9 (by decide) ?_
  refine lv_iadd hx hb dJx40b00_append_d00df_10 ?_
  refine lv_tope (v2 := .int (nI n)) (congrArg Value.int (by exact im_1 n)) ?_
  refine lv_dup_x1 hx hb dJx40b00_append_d00df_11 rfl rfl ?_
  refine va_put (D := D) (ci := 3) (v := .int (nI n)) (ty := .int) (C := RJx40b00) (T := TJx40b00) (N := 2) hx hb hts kc_RJx40b00 tyJx40b00 tyJx40b00_ok nmJx40b00 hown hK hP hD hS 0 rfl rfl 1 (by decide) k_fieldLink_42 (fun _ h9 => h9) rfl (by decide +kernel) rfl rfl (Nat.le_of_ble_eq_true rfl) dJx40b00_append_d00df_12 (fun H locs hP hD hS => ?_)
  have hP : va_P D vwCl (bFO9 k a b (nI n) ++ bAB k b 15 f) H := hP
  have hD : va_D A (bFO9 k a b (nI n) ++ bAB k b 15 f) := hD
  refine lv_iload_n hx hb dJx40b00_append_d00df_15 rfl (lv_at hl 1 rfl) ?_
  refine lv_i2b (v := (c).toInt8.toInt32) hx hb dJx40b00_append_d00df_16 rfl ?_
  refine by_st hx hb hK hP hD hS 1 rfl n hn (by decide) (pk_vb _) (bFO9 k a b (nI n) ++ bAB k b 15 (upd f n ((c).toInt8.toInt32))) rfl dJx40b00_append_d00df_17 (fun H locs hP hD hS => ?_)
  have e_1 : (nI n : Int32) = im (apc (f, n) c).2 := by first | (with_reducible rfl) | (exact im_s n)
  have hP := Eq.mp (congrArg (fun z9 => va_P D vwCl (bFO9 k a b z9 ++ bAB k b 15 (upd f n ((c).toInt8.toInt32))) H) e_1) hP
  have hD := Eq.mp (congrArg (fun z9 => va_D A (bFO9 k a b z9 ++ bAB k b 15 (upd f n ((c).toInt8.toInt32)))) e_1) hD
  have e_2 : (upd f n ((c).toInt8.toInt32) : Nat → Int32) = (apc (f, n) c).1 := by first | (with_reducible rfl) | (rfl)
  have hP := Eq.mp (congrArg (fun z9 => va_P D vwCl (bFO9 k a b (im (apc (f, n) c).2) ++ bAB k b 15 z9) H) e_2) hP
  have hD := Eq.mp (congrArg (fun z9 => va_D A (bFO9 k a b (im (apc (f, n) c).2) ++ bAB k b 15 z9)) e_2) hD
  exact W.vret hx hb hr (fun t9 ht hW => ⟨⟨(), rfl, (by trivial), ⟨by rw [ht]; exact hP, va_K.moved hW.alike hK, hD⟩⟩, hS.F ht⟩) hS.2.2 dJx40b00_append_d00df_18 hlocks

set_option maxHeartbeats 4000000 in
set_option maxRecDepth 100000 in
theorem t_Jx40b00_appendDigit_d00df (l9 : Launch) (hl9 : l9.stackTraces = false) (E : EK) (D : va_G) (k : Nat → ClassId) (sz : Nat) (a b n : Nat) (f : Nat → Int32) (d : Int32) (hn : n < 15) : Met l9 yJx40b00_appendDigit_d00df wsJx40b00_appendDigit_d00df ({ frames := 0, cells := 0, slots := 0, locals := 0 }) (TPc E D k [.ref a, .int d] (bFO9 k a b (im n) ++ bAB k b 15 f) sz) (va_Qv (fun (u9 : Unit) => True) (TB D k (va_A (bFO9 k a b (im n) ++ bAB k b 15 f) sz) (fun u9 : Unit => bFO9 k a b (im (apd (f, n) d).2) ++ bAB k b 15 ((apd (f, n) d).1))) (va_A (bFO9 k a b (im n) ++ bAB k b 15 f) sz)) (0) (0) (va_A (bFO9 k a b (im n) ++ bAB k b 15 f) sz) := by
  refine tMet (y := yJx40b00_appendDigit_d00df) (cc := cJx40b00_appendDigit_d00df) (maxL := 2) (ret := none) (Qc := fun A => va_Qv (fun (u9 : Unit) => True) (TB D k (A) (fun u9 : Unit => bFO9 k a b (im (apd (f, n) d).2) ++ bAB k b 15 ((apd (f, n) d).1))) (A)) [.ref a, .int d] (by decide) rfl (Nat.le_of_ble_eq_true rfl) ?_
  intro p9 e9 s9 m9 bl9 me9 c9 ls A H hF hr hlocks hP hK hE hD hA hS hl hin
  have hl : lv_has ls 2 [(0, .ref a), (1, .int d)] := hl
  obtain ⟨hx, hb, hml, hown, hts⟩ := id hF
  have k_fieldLink_11 : (Cond.fieldLink RJx40b00 11 "jdk/internal/math/FloatToDecimal" "bytes" "[B").before _ s9 = true := hts (.fieldLink RJx40b00 11 "jdk/internal/math/FloatToDecimal" "bytes" "[B") (by decide +kernel)
  have kc_RJx40b00 : ∀ w ∈ u_ws RJx40b00 TJx40b00 2, w ∈ wsJx40b00_appendDigit_d00df := by decide +kernel
  have k_fieldLink_42 : (Cond.fieldLink RJx40b00 42 "jdk/internal/math/FloatToDecimal" "index" "I").before _ s9 = true := hts (.fieldLink RJx40b00 42 "jdk/internal/math/FloatToDecimal" "index" "I") (by decide +kernel)
  refine lv_aload_n hx hb dJx40b00_appendDigit_d00df_0 rfl (lv_at hl 0 rfl) ?_
  refine va_get (D := D) (ci := 3) (v := .ref b) (C := RJx40b00) (T := TJx40b00) (N := 2) hx hb hts kc_RJx40b00 hown hK hP 0 rfl rfl 0 (by decide) k_fieldLink_11 (fun _ h9 => h9) rfl dJx40b00_appendDigit_d00df_1 ?_
  refine lv_aload_n hx hb dJx40b00_appendDigit_d00df_4 rfl (lv_at hl 0 rfl) ?_
  refine lv_dup hx hb dJx40b00_appendDigit_d00df_5 rfl ?_
  refine va_get (D := D) (ci := 3) (v := .int (im n)) (C := RJx40b00) (T := TJx40b00) (N := 2) hx hb hts kc_RJx40b00 hown hK hP 0 rfl rfl 1 (by decide) k_fieldLink_42 (fun _ h9 => h9) rfl dJx40b00_appendDigit_d00df_6 ?_
  refine lv_iconst (v := 1) hx hb dJx40b00_appendDigit_d00df_9 (by decide) ?_
  refine lv_iadd hx hb dJx40b00_appendDigit_d00df_10 ?_
  refine lv_tope (v2 := .int (nI n)) (congrArg Value.int (by exact im_1 n)) ?_
  refine lv_dup_x1 hx hb dJx40b00_appendDigit_d00df_11 rfl rfl ?_
  refine va_put (D := D) (ci := 3) (v := .int (nI n)) (ty := .int) (C := RJx40b00) (T := TJx40b00) (N := 2) hx hb hts kc_RJx40b00 tyJx40b00 tyJx40b00_ok nmJx40b00 hown hK hP hD hS 0 rfl rfl 1 (by decide) k_fieldLink_42 (fun _ h9 => h9) rfl (by decide +kernel) rfl rfl (Nat.le_of_ble_eq_true rfl) dJx40b00_appendDigit_d00df_12 (fun H locs hP hD hS => ?_)
  have hP : va_P D vwCl (bFO9 k a b (nI n) ++ bAB k b 15 f) H := hP
  have hD : va_D A (bFO9 k a b (nI n) ++ bAB k b 15 f) := hD
  refine lv_bipush (v := 48) hx hb dJx40b00_appendDigit_d00df_15 (by decide) ?_
  refine lv_iload_n hx hb dJx40b00_appendDigit_d00df_17 rfl (lv_at hl 1 rfl) ?_
  refine lv_iadd hx hb dJx40b00_appendDigit_d00df_18 ?_
  refine lv_i2b (v := (48 + d).toInt8.toInt32) hx hb dJx40b00_appendDigit_d00df_19 rfl ?_
  refine by_st hx hb hK hP hD hS 1 rfl n hn (by decide) (pk_vb _) (bFO9 k a b (nI n) ++ bAB k b 15 (upd f n ((48 + d).toInt8.toInt32))) rfl dJx40b00_appendDigit_d00df_20 (fun H locs hP hD hS => ?_)
  have e_1 : (nI n : Int32) = im (apd (f, n) d).2 := by first | (with_reducible rfl) | (exact im_s n)
  have hP := Eq.mp (congrArg (fun z9 => va_P D vwCl (bFO9 k a b z9 ++ bAB k b 15 (upd f n ((48 + d).toInt8.toInt32))) H) e_1) hP
  have hD := Eq.mp (congrArg (fun z9 => va_D A (bFO9 k a b z9 ++ bAB k b 15 (upd f n ((48 + d).toInt8.toInt32)))) e_1) hD
  have e_2 : (upd f n ((48 + d).toInt8.toInt32) : Nat → Int32) = (apd (f, n) d).1 := by first | (with_reducible rfl) | (rfl)
  have hP := Eq.mp (congrArg (fun z9 => va_P D vwCl (bFO9 k a b (im (apd (f, n) d).2) ++ bAB k b 15 z9) H) e_2) hP
  have hD := Eq.mp (congrArg (fun z9 => va_D A (bFO9 k a b (im (apd (f, n) d).2) ++ bAB k b 15 z9)) e_2) hD
  exact W.vret hx hb hr (fun t9 ht hW => ⟨⟨(), rfl, (by trivial), ⟨by rw [ht]; exact hP, va_K.moved hW.alike hK, hD⟩⟩, hS.F ht⟩) hS.2.2 dJx40b00_appendDigit_d00df_21 hlocks

set_option maxHeartbeats 4000000 in
set_option maxRecDepth 100000 in
theorem t_Jx40b00_append8Digits_d00df (l9 : Launch) (hl9 : l9.stackTraces = false) (E : EK) (D : va_G) (k : Nat → ClassId) (sz : Nat) (a b n : Nat) (f : Nat → Int32) (x : Int32) (hn : n + 8 ≤ 15) : Met l9 yJx40b00_append8Digits_d00df wsJx40b00_append8Digits_d00df ({ frames := 2, cells := 0, slots := 0, locals := 60 }) (TPc E D k [.ref a, .int x] (bFO9 k a b (im n) ++ bAB k b 15 f) sz) (va_Qv (fun (u9 : Unit) => True) (TB D k (va_A (bFO9 k a b (im n) ++ bAB k b 15 f) sz) (fun u9 : Unit => bFO9 k a b (im ((dgs (f, n) (yF x) 8).1).2) ++ bAB k b 15 (((dgs (f, n) (yF x) 8).1).1))) (va_A (bFO9 k a b (im n) ++ bAB k b 15 f) sz)) (0) (0) (va_A (bFO9 k a b (im n) ++ bAB k b 15 f) sz) := by
  refine tMet (y := yJx40b00_append8Digits_d00df) (cc := cJx40b00_append8Digits_d00df) (maxL := 5) (ret := none) (Qc := fun A => va_Qv (fun (u9 : Unit) => True) (TB D k (A) (fun u9 : Unit => bFO9 k a b (im ((dgs (f, n) (yF x) 8).1).2) ++ bAB k b 15 (((dgs (f, n) (yF x) 8).1).1))) (A)) [.ref a, .int x] (by decide) rfl (Nat.le_of_ble_eq_true rfl) ?_
  intro p9 e9 s9 m9 bl9 me9 c9 ls A H hF hr hlocks hP hK hE hD hA hS hl hin
  have hl : lv_has ls 5 [(0, .ref a), (1, .int x)] := hl
  obtain ⟨hx, hb, hml, hown, hts⟩ := id hF
  have k_constant_138 : (Cond.constant RJx40b00 138 (268435455)).before _ s9 = true := hts (.constant RJx40b00 138 (268435455)) (by decide +kernel)
  have loop_8 : ∀ (fuel : Nat) (i : Nat), (i ≤ 8) → 8 - i < fuel → ∀ (ls : Array Slot) (H : Heap) (locs : List Loc), va_P D vwCl (bFO9 k a b (im ((dgs (f, n) (yF x) i).1).2) ++ bAB k b 15 (((dgs (f, n) (yF x) i).1).1)) H → va_D A (bFO9 k a b (im ((dgs (f, n) (yF x) i).1).2) ++ bAB k b 15 (((dgs (f, n) (yF x) i).1).1)) → va_S A s9.heap H locs → lv_has ls 5 [(0, .ref a), (2, .int ((dgs (f, n) (yF x) i).2)), (3, .int (nI i))] → W p9 l9 e9 ({ frames := 2, cells := 0, slots := 0, locals := 60 }) s9 m9 ([.ref a, .int x] : List Value).toArray bl9 me9 c9 H locs (0) (0) (MQ bl9 (va_Qv (fun (u9 : Unit) => True) (TB D k (A) (fun u9 : Unit => bFO9 k a b (im ((dgs (f, n) (yF x) 8).1).2) ++ bAB k b 15 (((dgs (f, n) (yF x) 8).1).1))) (A)) ([.ref a, .int x] : List Value).toArray s9 (0) (0) A) (F0 m9 8 ls []) := by
    intro fuel
    induction fuel with
    | zero => intro i hi hfuel_8; exact absurd hfuel_8 (Nat.not_lt_zero _)
    | succ fuel ih_8 =>
      intro i hi hfuel_8 ls H locs hP hD hS hl
      refine lv_iload_n hx hb dJx40b00_append8Digits_d00df_8 rfl (lv_at hl 2 rfl) ?_
      refine lv_bipush (v := 8) hx hb dJx40b00_append8Digits_d00df_9 (by decide) ?_
      refine lv_icmp_ge (tgt := 41) hx hb dJx40b00_append8Digits_d00df_11 (by decide) (fun c_1 => ?_) (fun c_1 => ?_)
      · skip
        have c_1 : 8 ≤ i := (nI_leI (a := 8) (b := i) (by omega) (by omega)).mp c_1
        have e_2 : (im ((dgs (f, n) (yF x) i).1).2 : Int32) = im ((dgs (f, n) (yF x) 8).1).2 := by first | (with_reducible rfl) | (rw [show i = 8 by omega])
        have hP := Eq.mp (congrArg (fun z9 => va_P D vwCl (bFO9 k a b z9 ++ bAB k b 15 (((dgs (f, n) (yF x) i).1).1)) H) e_2) hP
        have hD := Eq.mp (congrArg (fun z9 => va_D A (bFO9 k a b z9 ++ bAB k b 15 (((dgs (f, n) (yF x) i).1).1))) e_2) hD
        have e_3 : (((dgs (f, n) (yF x) i).1).1 : Nat → Int32) = ((dgs (f, n) (yF x) 8).1).1 := by first | (with_reducible rfl) | (rw [show i = 8 by omega])
        have hP := Eq.mp (congrArg (fun z9 => va_P D vwCl (bFO9 k a b (im ((dgs (f, n) (yF x) 8).1).2) ++ bAB k b 15 z9) H) e_3) hP
        have hD := Eq.mp (congrArg (fun z9 => va_D A (bFO9 k a b (im ((dgs (f, n) (yF x) 8).1).2) ++ bAB k b 15 z9)) e_3) hD
        exact W.vret hx hb hr (fun t9 ht hW => ⟨⟨(), rfl, (by trivial), ⟨by rw [ht]; exact hP, va_K.moved hW.alike hK, hD⟩⟩, hS.F ht⟩) hS.2.2 dJx40b00_append8Digits_d00df_41 hlocks
      · skip
        have c_1 : ¬ 8 ≤ i := fun h => c_1 ((nI_leI (a := 8) (b := i) (by omega) (by omega)).mpr h)
        refine lv_bipush (v := 10) hx hb dJx40b00_append8Digits_d00df_14 (by decide) ?_
        refine lv_iload_n hx hb dJx40b00_append8Digits_d00df_16 rfl (lv_at hl 1 rfl) ?_
        refine lv_imul hx hb dJx40b00_append8Digits_d00df_17 ?_
        refine lv_istore (lv' := [(4, .int (10 * ((dgs (f, n) (yF x) i).2))), (0, .ref a), (2, .int ((dgs (f, n) (yF x) i).2)), (3, .int (nI i))]) hx hb dJx40b00_append8Digits_d00df_18 hl (by decide) rfl (fun ls hl => ?_)
        refine lv_aload_n hx hb dJx40b00_append8Digits_d00df_20 rfl (lv_at hl 1 rfl) ?_
        refine lv_iload hx hb dJx40b00_append8Digits_d00df_21 (lv_at hl 0 rfl) ?_
        refine lv_bipush (v := 28) hx hb dJx40b00_append8Digits_d00df_23 (by decide) ?_
        refine lv_iushr (v := ((10 * ((dgs (f, n) (yF x) i).2)).toUInt32 >>> ((28 : Int32).toUInt32 &&& Int32.toUInt32 31)).toInt32) hx hb dJx40b00_append8Digits_d00df_25 rfl ?_
        have hFc := tFree hD hS hA
        refine va_callv (va_runV (As := [.int (((10 * ((dgs (f, n) (yF x) i).2)).toUInt32 >>> ((28 : Int32).toUInt32 &&& Int32.toUInt32 31)).toInt32)]) (rest := []) hF (t_Jx40b00_appendDigit_d00df l9 hl9 E D k H.size a b (((dgs (f, n) (yF x) i).1).2) (((dgs (f, n) (yF x) i).1).1) (((10 * ((dgs (f, n) (yF x) i).2)).toUInt32 >>> ((28 : Int32).toUInt32 &&& Int32.toUInt32 31)).toInt32) (by rw [show ((dgs (f, n) (yF x) i).1).2 = n + i from dgs_n _ _ _]; omega)) (cwV 1 hts gJx40b00_append8Digits_d00df_Jx40b00_appendDigit_d00df rfl rfl rfl (by decide +kernel) ⟨Nat.le_of_ble_eq_true rfl, Nat.le_of_ble_eq_true rfl⟩) (tPreV (rcv hK hP 0 3 rfl rfl) hK hE hS hA hP hD) rfl rfl hl.1 rfl (lv_room (Nat.le_of_ble_eq_true rfl)) dJx40b00_append8Digits_d00df_26 ⟨(Nat.le_of_ble_eq_true rfl), (Nat.le_of_ble_eq_true rfl)⟩) hS (fun q _ h => hFc q h) hFc (fun u_6 t9 H1 locs ht hvm hw_7 hB hz1 hk1 hS => ?_)
        obtain ⟨hP, -, hD⟩ := hB
        rw [ht] at hP
        replace hP : va_P D vwCl (bFO9 k a b (im (apd ((((dgs (f, n) (yF x) i).1).1), (((dgs (f, n) (yF x) i).1).2)) (((10 * ((dgs (f, n) (yF x) i).2)).toUInt32 >>> ((28 : Int32).toUInt32 &&& Int32.toUInt32 31)).toInt32)).2) ++ bAB k b 15 ((apd ((((dgs (f, n) (yF x) i).1).1), (((dgs (f, n) (yF x) i).1).2)) (((10 * ((dgs (f, n) (yF x) i).2)).toUInt32 >>> ((28 : Int32).toUInt32 &&& Int32.toUInt32 31)).toInt32)).1)) H1 := hP
        replace hD : va_D A (bFO9 k a b (im (apd ((((dgs (f, n) (yF x) i).1).1), (((dgs (f, n) (yF x) i).1).2)) (((10 * ((dgs (f, n) (yF x) i).2)).toUInt32 >>> ((28 : Int32).toUInt32 &&& Int32.toUInt32 31)).toInt32)).2) ++ bAB k b 15 ((apd ((((dgs (f, n) (yF x) i).1).1), (((dgs (f, n) (yF x) i).1).2)) (((10 * ((dgs (f, n) (yF x) i).2)).toUInt32 >>> ((28 : Int32).toUInt32 &&& Int32.toUInt32 31)).toInt32)).1)) := hD.weaken (fun _ q _ h => hFc q.1 h)
        replace hw_7 : True := hw_7
        clear hz1 hvm hFc hk1 ht
        clear t9
        generalize H1 = H at hP hS ⊢
        refine lv_iload hx hb dJx40b00_append8Digits_d00df_29 (lv_at hl 0 rfl) ?_
        refine lv_ldc hx hb hown k_constant_138 dJx40b00_append8Digits_d00df_31 ?_
        refine lv_iand hx hb dJx40b00_append8Digits_d00df_33 ?_
        refine lv_istore_n (lv' := [(2, .int ((10 * ((dgs (f, n) (yF x) i).2)) &&& 268435455)), (4, .int (10 * ((dgs (f, n) (yF x) i).2))), (0, .ref a), (3, .int (nI i))]) hx hb dJx40b00_append8Digits_d00df_34 rfl hl (by decide) rfl (fun ls hl => ?_)
        refine lv_iinc (v := nI (i + 1)) (lv' := [(3, .int (nI (i + 1))), (2, .int ((10 * ((dgs (f, n) (yF x) i).2)) &&& 268435455)), (4, .int (10 * ((dgs (f, n) (yF x) i).2))), (0, .ref a)]) hx hb dJx40b00_append8Digits_d00df_35 hl (k := 3) rfl (nI_inc i) (by decide) rfl (fun ls hl => ?_)
        refine lv_goto (tgt := 8) hx hb dJx40b00_append8Digits_d00df_38 (by decide) ?_
        have e_8 : ((10 * ((dgs (f, n) (yF x) i).2)) &&& 268435455 : Int32) = (dgs (f, n) (yF x) (i + 1)).2 := by first | (with_reducible rfl) | (rfl)
        have e_9 : (im (apd ((((dgs (f, n) (yF x) i).1).1), (((dgs (f, n) (yF x) i).1).2)) (((10 * ((dgs (f, n) (yF x) i).2)).toUInt32 >>> ((28 : Int32).toUInt32 &&& Int32.toUInt32 31)).toInt32)).2 : Int32) = im ((dgs (f, n) (yF x) (i + 1)).1).2 := by first | (with_reducible rfl) | (rfl)
        have hP := Eq.mp (congrArg (fun z9 => va_P D vwCl (bFO9 k a b z9 ++ bAB k b 15 ((apd ((((dgs (f, n) (yF x) i).1).1), (((dgs (f, n) (yF x) i).1).2)) (((10 * ((dgs (f, n) (yF x) i).2)).toUInt32 >>> ((28 : Int32).toUInt32 &&& Int32.toUInt32 31)).toInt32)).1)) H) e_9) hP
        have hD := Eq.mp (congrArg (fun z9 => va_D A (bFO9 k a b z9 ++ bAB k b 15 ((apd ((((dgs (f, n) (yF x) i).1).1), (((dgs (f, n) (yF x) i).1).2)) (((10 * ((dgs (f, n) (yF x) i).2)).toUInt32 >>> ((28 : Int32).toUInt32 &&& Int32.toUInt32 31)).toInt32)).1))) e_9) hD
        have e_10 : ((apd ((((dgs (f, n) (yF x) i).1).1), (((dgs (f, n) (yF x) i).1).2)) (((10 * ((dgs (f, n) (yF x) i).2)).toUInt32 >>> ((28 : Int32).toUInt32 &&& Int32.toUInt32 31)).toInt32)).1 : Nat → Int32) = ((dgs (f, n) (yF x) (i + 1)).1).1 := by first | (with_reducible rfl) | (rfl)
        have hP := Eq.mp (congrArg (fun z9 => va_P D vwCl (bFO9 k a b (im ((dgs (f, n) (yF x) (i + 1)).1).2) ++ bAB k b 15 z9) H) e_10) hP
        have hD := Eq.mp (congrArg (fun z9 => va_D A (bFO9 k a b (im ((dgs (f, n) (yF x) (i + 1)).1).2) ++ bAB k b 15 z9)) e_10) hD
        exact ih_8 (i + 1) (by omega) (by omega) ls _ _ hP hD hS (lv_one hl 3 rfl rfl (lv_one hl 1 rfl (congrArg Value.int e_8) (lv_one hl 0 rfl rfl (lv_nil hl))))
  refine lv_aload_n hx hb dJx40b00_append8Digits_d00df_0 rfl (lv_at hl 0 rfl) ?_
  refine lv_iload_n hx hb dJx40b00_append8Digits_d00df_1 rfl (lv_at hl 1 rfl) ?_
  have hFc := tFree hD hS hA
  refine va_calli (va_runV (As := [.int x]) (rest := []) hF (t_Jx40b00_y_0f7a4 l9 hl9 E D k H.size a b n f x ) (cwV 1 hts gJx40b00_append8Digits_d00df_Jx40b00_y_0f7a4 rfl rfl rfl (by decide +kernel) ⟨Nat.le_of_ble_eq_true rfl, Nat.le_of_ble_eq_true rfl⟩) (tPreV (rcv hK hP 0 3 rfl rfl) hK hE hS hA hP hD) rfl rfl hl.1 rfl (lv_room (Nat.le_of_ble_eq_true rfl)) dJx40b00_append8Digits_d00df_2 ⟨(Nat.le_of_ble_eq_true rfl), (Nat.le_of_ble_eq_true rfl)⟩) hS (fun q _ h => hFc q h) hFc (fun r_12 u_13 t9 H1 locs ht hvm hw_14 hB hz1 hk1 hS => ?_)
  obtain ⟨hP, -, hD⟩ := hB
  rw [ht] at hP
  replace hP : va_P D vwCl (bFO9 k a b (im n) ++ bAB k b 15 f) H1 := hP
  replace hD : va_D A (bFO9 k a b (im n) ++ bAB k b 15 f) := hD.weaken (fun _ q _ h => hFc q.1 h)
  replace hw_14 : r_12 = yF x := hw_14
  clear hz1 hvm hFc hk1 ht
  clear t9
  generalize H1 = H at hP hS ⊢
  refine lv_tope (v2 := .int (yF x)) (by rw [hw_14]) ?_
  refine lv_istore_n (lv' := [(2, .int (yF x)), (0, .ref a), (1, .int x)]) hx hb dJx40b00_append8Digits_d00df_5 rfl hl (by decide) rfl (fun ls hl => ?_)
  refine lv_iconst (v := 0) hx hb dJx40b00_append8Digits_d00df_6 (by decide) ?_
  refine lv_istore_n (lv' := [(3, .int 0), (2, .int (yF x)), (0, .ref a), (1, .int x)]) hx hb dJx40b00_append8Digits_d00df_7 rfl hl (by decide) rfl (fun ls hl => ?_)
  have e_15 : (yF x : Int32) = (dgs (f, n) (yF x) 0).2 := by first | (with_reducible rfl) | (rfl)
  have e_16 : (im n : Int32) = im ((dgs (f, n) (yF x) 0).1).2 := by first | (with_reducible rfl) | (rfl)
  have hP := Eq.mp (congrArg (fun z9 => va_P D vwCl (bFO9 k a b z9 ++ bAB k b 15 f) H) e_16) hP
  have hD := Eq.mp (congrArg (fun z9 => va_D A (bFO9 k a b z9 ++ bAB k b 15 f)) e_16) hD
  have e_17 : (f : Nat → Int32) = ((dgs (f, n) (yF x) 0).1).1 := by first | (with_reducible rfl) | (rfl)
  have hP := Eq.mp (congrArg (fun z9 => va_P D vwCl (bFO9 k a b (im ((dgs (f, n) (yF x) 0).1).2) ++ bAB k b 15 z9) H) e_17) hP
  have hD := Eq.mp (congrArg (fun z9 => va_D A (bFO9 k a b (im ((dgs (f, n) (yF x) 0).1).2) ++ bAB k b 15 z9)) e_17) hD
  exact loop_8 ((8 - 0) + 1) 0 (by omega) (Nat.lt_succ_self _) ls _ _ hP hD hS (lv_one hl 2 rfl rfl (lv_one hl 1 rfl (congrArg Value.int e_15) (lv_one hl 0 rfl rfl (lv_nil hl))))

set_option maxHeartbeats 4000000 in
set_option maxRecDepth 100000 in
theorem t_Jx40b00_removeTrailingZeroes_da8c8 (l9 : Launch) (hl9 : l9.stackTraces = false) (E : EK) (D : va_G) (k : Nat → ClassId) (sz : Nat) (a b n : Nat) (f : Nat → Int32) (p : Nat) (hp : f p = 46) (hpn : p + 1 < n) (hn : n ≤ 15) : Met l9 yJx40b00_removeTrailingZeroes_da8c8 wsJx40b00_removeTrailingZeroes_da8c8 ({ frames := 0, cells := 0, slots := 0, locals := 0 }) (TPc E D k [.ref a] (bFO9 k a b (im n) ++ bAB k b 15 f) sz) (va_Qv (fun (u9 : Unit) => True) (TB D k (va_A (bFO9 k a b (im n) ++ bAB k b 15 f) sz) (fun u9 : Unit => bFO9 k a b (im (rzF (f, n)).2) ++ bAB k b 15 ((rzF (f, n)).1))) (va_A (bFO9 k a b (im n) ++ bAB k b 15 f) sz)) (0) (0) (va_A (bFO9 k a b (im n) ++ bAB k b 15 f) sz) := by
  refine tMet (y := yJx40b00_removeTrailingZeroes_da8c8) (cc := cJx40b00_removeTrailingZeroes_da8c8) (maxL := 1) (ret := none) (Qc := fun A => va_Qv (fun (u9 : Unit) => True) (TB D k (A) (fun u9 : Unit => bFO9 k a b (im (rzF (f, n)).2) ++ bAB k b 15 ((rzF (f, n)).1))) (A)) [.ref a] (by decide) rfl (Nat.le_of_ble_eq_true rfl) ?_
  intro p9 e9 s9 m9 bl9 me9 c9 ls A H hF hr hlocks hP hK hE hD hA hS hl hin
  have hl : lv_has ls 1 [(0, .ref a)] := hl
  obtain ⟨hx, hb, hml, hown, hts⟩ := id hF
  have k_fieldLink_11 : (Cond.fieldLink RJx40b00 11 "jdk/internal/math/FloatToDecimal" "bytes" "[B").before _ s9 = true := hts (.fieldLink RJx40b00 11 "jdk/internal/math/FloatToDecimal" "bytes" "[B") (by decide +kernel)
  have kc_RJx40b00 : ∀ w ∈ u_ws RJx40b00 TJx40b00 2, w ∈ wsJx40b00_removeTrailingZeroes_da8c8 := by decide +kernel
  have k_fieldLink_42 : (Cond.fieldLink RJx40b00 42 "jdk/internal/math/FloatToDecimal" "index" "I").before _ s9 = true := hts (.fieldLink RJx40b00 42 "jdk/internal/math/FloatToDecimal" "index" "I") (by decide +kernel)
  have loop_0 : ∀ (fuel : Nat) (j : Nat), (p ≤ j) → (j < n) → (rzN f (n - 1) = rzN f j) → j < fuel → ∀ (ls : Array Slot) (H : Heap) (locs : List Loc), va_P D vwCl (bFO9 k a b (nI j) ++ bAB k b 15 f) H → va_D A (bFO9 k a b (nI j) ++ bAB k b 15 f) → va_S A s9.heap H locs → lv_has ls 1 [(0, .ref a)] → W p9 l9 e9 ({ frames := 0, cells := 0, slots := 0, locals := 0 }) s9 m9 ([.ref a] : List Value).toArray bl9 me9 c9 H locs (0) (0) (MQ bl9 (va_Qv (fun (u9 : Unit) => True) (TB D k (A) (fun u9 : Unit => bFO9 k a b (im (rzF (f, n)).2) ++ bAB k b 15 ((rzF (f, n)).1))) (A)) ([.ref a] : List Value).toArray s9 (0) (0) A) (F0 m9 0 ls []) := by
    intro fuel
    induction fuel with
    | zero => intro j hj hj2 hz hfuel_0; exact absurd hfuel_0 (Nat.not_lt_zero _)
    | succ fuel ih_0 =>
      intro j hj hj2 hz hfuel_0 ls H locs hP hD hS hl
      refine lv_aload_n hx hb dJx40b00_removeTrailingZeroes_da8c8_0 rfl (lv_at hl 0 rfl) ?_
      refine va_get (D := D) (ci := 3) (v := .ref b) (C := RJx40b00) (T := TJx40b00) (N := 2) hx hb hts kc_RJx40b00 hown hK hP 0 rfl rfl 0 (by decide) k_fieldLink_11 (fun _ h9 => h9) rfl dJx40b00_removeTrailingZeroes_da8c8_1 ?_
      refine lv_aload_n hx hb dJx40b00_removeTrailingZeroes_da8c8_4 rfl (lv_at hl 0 rfl) ?_
      refine va_get (D := D) (ci := 3) (v := .int (nI j)) (C := RJx40b00) (T := TJx40b00) (N := 2) hx hb hts kc_RJx40b00 hown hK hP 0 rfl rfl 1 (by decide) k_fieldLink_42 (fun _ h9 => h9) rfl dJx40b00_removeTrailingZeroes_da8c8_5 ?_
      refine by_ld hx hb hK hP 1 rfl j (by omega) (by decide) dJx40b00_removeTrailingZeroes_da8c8_8 ?_
      refine lv_bipush (v := 48) hx hb dJx40b00_removeTrailingZeroes_da8c8_9 (by decide) ?_
      refine lv_icmp_ne (tgt := 27) hx hb dJx40b00_removeTrailingZeroes_da8c8_11 (by decide) (fun c_1 => ?_) (fun c_1 => ?_)
      · skip
        have hc8 : rzN f (n - 1) = j := hz.trans (rzN_stop c_1)
        refine lv_aload_n hx hb dJx40b00_removeTrailingZeroes_da8c8_27 rfl (lv_at hl 0 rfl) ?_
        refine va_get (D := D) (ci := 3) (v := .ref b) (C := RJx40b00) (T := TJx40b00) (N := 2) hx hb hts kc_RJx40b00 hown hK hP 0 rfl rfl 0 (by decide) k_fieldLink_11 (fun _ h9 => h9) rfl dJx40b00_removeTrailingZeroes_da8c8_28 ?_
        refine lv_aload_n hx hb dJx40b00_removeTrailingZeroes_da8c8_31 rfl (lv_at hl 0 rfl) ?_
        refine va_get (D := D) (ci := 3) (v := .int (nI j)) (C := RJx40b00) (T := TJx40b00) (N := 2) hx hb hts kc_RJx40b00 hown hK hP 0 rfl rfl 1 (by decide) k_fieldLink_42 (fun _ h9 => h9) rfl dJx40b00_removeTrailingZeroes_da8c8_32 ?_
        refine by_ld hx hb hK hP 1 rfl j (by omega) (by decide) dJx40b00_removeTrailingZeroes_da8c8_35 ?_
        refine lv_bipush (v := 46) hx hb dJx40b00_removeTrailingZeroes_da8c8_36 (by decide) ?_
        refine lv_icmp_ne (tgt := 51) hx hb dJx40b00_removeTrailingZeroes_da8c8_38 (by decide) (fun c_2 => ?_) (fun c_2 => ?_)
        · skip
          have e_3 : (nI j : Int32) = im (rzF (f, n)).2 := by first | (with_reducible rfl) | (exact rz_e1 hc8 c_2)
          have hP := Eq.mp (congrArg (fun z9 => va_P D vwCl (bFO9 k a b z9 ++ bAB k b 15 f) H) e_3) hP
          have hD := Eq.mp (congrArg (fun z9 => va_D A (bFO9 k a b z9 ++ bAB k b 15 f)) e_3) hD
          have e_4 : (f : Nat → Int32) = (rzF (f, n)).1 := by first | (with_reducible rfl) | (rfl)
          have hP := Eq.mp (congrArg (fun z9 => va_P D vwCl (bFO9 k a b (im (rzF (f, n)).2) ++ bAB k b 15 z9) H) e_4) hP
          have hD := Eq.mp (congrArg (fun z9 => va_D A (bFO9 k a b (im (rzF (f, n)).2) ++ bAB k b 15 z9)) e_4) hD
          exact W.vret hx hb hr (fun t9 ht hW => ⟨⟨(), rfl, (by trivial), ⟨by rw [ht]; exact hP, va_K.moved hW.alike hK, hD⟩⟩, hS.F ht⟩) hS.2.2 dJx40b00_removeTrailingZeroes_da8c8_51 hlocks
        · skip
          refine lv_aload_n hx hb dJx40b00_removeTrailingZeroes_da8c8_41 rfl (lv_at hl 0 rfl) ?_
          refine lv_dup hx hb dJx40b00_removeTrailingZeroes_da8c8_42 rfl ?_
          refine va_get (D := D) (ci := 3) (v := .int (nI j)) (C := RJx40b00) (T := TJx40b00) (N := 2) hx hb hts kc_RJx40b00 hown hK hP 0 rfl rfl 1 (by decide) k_fieldLink_42 (fun _ h9 => h9) rfl dJx40b00_removeTrailingZeroes_da8c8_43 ?_
          refine lv_iconst (v := 1) hx hb dJx40b00_removeTrailingZeroes_da8c8_46 (by decide) ?_
          refine ni_add hx hb j 1 dJx40b00_removeTrailingZeroes_da8c8_47 ?_
          refine va_put (D := D) (ci := 3) (v := .int (nI (j + 1))) (ty := .int) (C := RJx40b00) (T := TJx40b00) (N := 2) hx hb hts kc_RJx40b00 tyJx40b00 tyJx40b00_ok nmJx40b00 hown hK hP hD hS 0 rfl rfl 1 (by decide) k_fieldLink_42 (fun _ h9 => h9) rfl (by decide +kernel) rfl rfl (Nat.le_of_ble_eq_true rfl) dJx40b00_removeTrailingZeroes_da8c8_48 (fun H locs hP hD hS => ?_)
          have hP : va_P D vwCl (bFO9 k a b (nI (j + 1)) ++ bAB k b 15 f) H := hP
          have hD : va_D A (bFO9 k a b (nI (j + 1)) ++ bAB k b 15 f) := hD
          have e_5 : (nI (j + 1) : Int32) = im (rzF (f, n)).2 := by first | (with_reducible rfl) | (exact rz_e2 hc8 c_2)
          have hP := Eq.mp (congrArg (fun z9 => va_P D vwCl (bFO9 k a b z9 ++ bAB k b 15 f) H) e_5) hP
          have hD := Eq.mp (congrArg (fun z9 => va_D A (bFO9 k a b z9 ++ bAB k b 15 f)) e_5) hD
          have e_6 : (f : Nat → Int32) = (rzF (f, n)).1 := by first | (with_reducible rfl) | (rfl)
          have hP := Eq.mp (congrArg (fun z9 => va_P D vwCl (bFO9 k a b (im (rzF (f, n)).2) ++ bAB k b 15 z9) H) e_6) hP
          have hD := Eq.mp (congrArg (fun z9 => va_D A (bFO9 k a b (im (rzF (f, n)).2) ++ bAB k b 15 z9)) e_6) hD
          exact W.vret hx hb hr (fun t9 ht hW => ⟨⟨(), rfl, (by trivial), ⟨by rw [ht]; exact hP, va_K.moved hW.alike hK, hD⟩⟩, hS.F ht⟩) hS.2.2 dJx40b00_removeTrailingZeroes_da8c8_51 hlocks
      · skip
        have hc9 : f j = 48 := Classical.byContradiction (fun h9 => h9 (by first | exact c_1 | exact Classical.not_not.mp c_1))
        have hj9 : p < j := Nat.lt_of_le_of_ne hj (fun h9 => by rw [h9, hc9] at hp; exact absurd hp (by decide))
        refine lv_aload_n hx hb dJx40b00_removeTrailingZeroes_da8c8_14 rfl (lv_at hl 0 rfl) ?_
        refine lv_dup hx hb dJx40b00_removeTrailingZeroes_da8c8_15 rfl ?_
        refine va_get (D := D) (ci := 3) (v := .int (nI j)) (C := RJx40b00) (T := TJx40b00) (N := 2) hx hb hts kc_RJx40b00 hown hK hP 0 rfl rfl 1 (by decide) k_fieldLink_42 (fun _ h9 => h9) rfl dJx40b00_removeTrailingZeroes_da8c8_16 ?_
        refine lv_iconst (v := 1) hx hb dJx40b00_removeTrailingZeroes_da8c8_19 (by decide) ?_
        refine ni_sub hx hb j 1 (by omega) dJx40b00_removeTrailingZeroes_da8c8_20 ?_
        refine va_put (D := D) (ci := 3) (v := .int (nI (j - 1))) (ty := .int) (C := RJx40b00) (T := TJx40b00) (N := 2) hx hb hts kc_RJx40b00 tyJx40b00 tyJx40b00_ok nmJx40b00 hown hK hP hD hS 0 rfl rfl 1 (by decide) k_fieldLink_42 (fun _ h9 => h9) rfl (by decide +kernel) rfl rfl (Nat.le_of_ble_eq_true rfl) dJx40b00_removeTrailingZeroes_da8c8_21 (fun H locs hP hD hS => ?_)
        have hP : va_P D vwCl (bFO9 k a b (nI (j - 1)) ++ bAB k b 15 f) H := hP
        have hD : va_D A (bFO9 k a b (nI (j - 1)) ++ bAB k b 15 f) := hD
        refine lv_goto (tgt := 0) hx hb dJx40b00_removeTrailingZeroes_da8c8_24 (by decide) ?_
        exact ih_0 (j - 1) (by omega) (by omega) (hz.trans (rzN_dec (by omega) hc9)) (by omega) ls _ _ hP hD hS (lv_one hl 0 rfl rfl (lv_nil hl))
  have e_7 : (im n : Int32) = nI (n - 1) := by first | (with_reducible rfl) | (exact im_p (by omega))
  have hP := Eq.mp (congrArg (fun z9 => va_P D vwCl (bFO9 k a b z9 ++ bAB k b 15 f) H) e_7) hP
  have hD := Eq.mp (congrArg (fun z9 => va_D A (bFO9 k a b z9 ++ bAB k b 15 f)) e_7) hD
  exact loop_0 ((n - 1) + 1) (n - 1) (by omega) (by omega) rfl (Nat.lt_succ_self _) ls _ _ hP hD hS (lv_one hl 0 rfl rfl (lv_nil hl))

set_option maxHeartbeats 4000000 in
set_option maxRecDepth 100000 in
theorem t_Jx40b00_exponent_d00df (l9 : Launch) (hl9 : l9.stackTraces = false) (E : EK) (D : va_G) (k : Nat → ClassId) (sz : Nat) (a b n : Nat) (f : Nat → Int32) (e : Int32) (hn : n + 4 ≤ 15) : Met l9 yJx40b00_exponent_d00df wsJx40b00_exponent_d00df ({ frames := 1, cells := 0, slots := 0, locals := 21 }) (TPc E D k [.ref a, .int e] (bFO9 k a b (im n) ++ bAB k b 15 f) sz) (va_Qv (fun (u9 : Unit) => True) (TB D k (va_A (bFO9 k a b (im n) ++ bAB k b 15 f) sz) (fun u9 : Unit => bFO9 k a b (im (exF (f, n) e).2) ++ bAB k b 15 ((exF (f, n) e).1))) (va_A (bFO9 k a b (im n) ++ bAB k b 15 f) sz)) (0) (0) (va_A (bFO9 k a b (im n) ++ bAB k b 15 f) sz) := by
  refine tMet (y := yJx40b00_exponent_d00df) (cc := cJx40b00_exponent_d00df) (maxL := 3) (ret := none) (Qc := fun A => va_Qv (fun (u9 : Unit) => True) (TB D k (A) (fun u9 : Unit => bFO9 k a b (im (exF (f, n) e).2) ++ bAB k b 15 ((exF (f, n) e).1))) (A)) [.ref a, .int e] (by decide) rfl (Nat.le_of_ble_eq_true rfl) ?_
  intro p9 e9 s9 m9 bl9 me9 c9 ls A H hF hr hlocks hP hK hE hD hA hS hl hin
  have hl : lv_has ls 3 [(0, .ref a), (1, .int e)] := hl
  obtain ⟨hx, hb, hml, hown, hts⟩ := id hF
  refine lv_aload_n hx hb dJx40b00_exponent_d00df_0 rfl (lv_at hl 0 rfl) ?_
  refine lv_bipush (v := 69) hx hb dJx40b00_exponent_d00df_1 (by decide) ?_
  have hFc := tFree hD hS hA
  refine va_callv (va_runV (As := [.int 69]) (rest := []) hF (t_Jx40b00_append_d00df l9 hl9 E D k H.size a b n f 69 (by omega)) (cwV 1 hts gJx40b00_exponent_d00df_Jx40b00_append_d00df rfl rfl rfl (by decide +kernel) ⟨Nat.le_of_ble_eq_true rfl, Nat.le_of_ble_eq_true rfl⟩) (tPreV (rcv hK hP 0 3 rfl rfl) hK hE hS hA hP hD) rfl rfl hl.1 rfl (lv_room (Nat.le_of_ble_eq_true rfl)) dJx40b00_exponent_d00df_3 ⟨(Nat.le_of_ble_eq_true rfl), (Nat.le_of_ble_eq_true rfl)⟩) hS (fun q _ h => hFc q h) hFc (fun u_3 t9 H1 locs ht hvm hw_4 hB hz1 hk1 hS => ?_)
  obtain ⟨hP, -, hD⟩ := hB
  rw [ht] at hP
  replace hP : va_P D vwCl (bFO9 k a b (im (apc (f, n) 69).2) ++ bAB k b 15 ((apc (f, n) 69).1)) H1 := hP
  replace hD : va_D A (bFO9 k a b (im (apc (f, n) 69).2) ++ bAB k b 15 ((apc (f, n) 69).1)) := hD.weaken (fun _ q _ h => hFc q.1 h)
  replace hw_4 : True := hw_4
  clear hz1 hvm hFc hk1 ht
  clear t9
  generalize H1 = H at hP hS ⊢
  refine lv_iload_n hx hb dJx40b00_exponent_d00df_6 rfl (lv_at hl 1 rfl) ?_
  refine lv_if_ge (tgt := 19) hx hb dJx40b00_exponent_d00df_7 (by decide) (fun c_5 => ?_) (fun c_5 => ?_)
  · skip
    have c_5 : ¬ e < 0 := Int32.not_lt.mpr c_5
    refine lv_iload_n hx hb dJx40b00_exponent_d00df_19 rfl (lv_at hl 1 rfl) ?_
    refine lv_bipush (v := 10) hx hb dJx40b00_exponent_d00df_20 (by decide) ?_
    refine lv_icmp_ge (tgt := 31) hx hb dJx40b00_exponent_d00df_22 (by decide) (fun c_6 => ?_) (fun c_6 => ?_)
    · skip
      have c_6 := Int32.not_lt.mpr c_6
      refine lv_iload_n hx hb dJx40b00_exponent_d00df_31 rfl (lv_at hl 1 rfl) ?_
      refine lv_bipush (v := 103) hx hb dJx40b00_exponent_d00df_32 (by decide) ?_
      refine lv_imul hx hb dJx40b00_exponent_d00df_34 ?_
      refine lv_bipush (v := 10) hx hb dJx40b00_exponent_d00df_35 (by decide) ?_
      refine lv_iushr (v := ((e * 103).toUInt32 >>> ((10 : Int32).toUInt32 &&& Int32.toUInt32 31)).toInt32) hx hb dJx40b00_exponent_d00df_37 rfl ?_
      refine lv_istore_n (lv' := [(2, .int (((e * 103).toUInt32 >>> ((10 : Int32).toUInt32 &&& Int32.toUInt32 31)).toInt32)), (0, .ref a), (1, .int e)]) hx hb dJx40b00_exponent_d00df_38 rfl hl (by decide) rfl (fun ls hl => ?_)
      refine lv_aload_n hx hb dJx40b00_exponent_d00df_39 rfl (lv_at hl 1 rfl) ?_
      refine lv_iload_n hx hb dJx40b00_exponent_d00df_40 rfl (lv_at hl 0 rfl) ?_
      have hFc := tFree hD hS hA
      refine va_callv (va_runV (As := [.int (((e * 103).toUInt32 >>> ((10 : Int32).toUInt32 &&& Int32.toUInt32 31)).toInt32)]) (rest := []) hF (t_Jx40b00_appendDigit_d00df l9 hl9 E D k H.size a b ((apc (f, n) 69).2) ((apc (f, n) 69).1) (((e * 103).toUInt32 >>> ((10 : Int32).toUInt32 &&& Int32.toUInt32 31)).toInt32) (by first | (show n + 1 < 15; omega) | (show n + 1 + 1 < 15; omega))) (cwV 1 hts gJx40b00_exponent_d00df_Jx40b00_appendDigit_d00df rfl rfl rfl (by decide +kernel) ⟨Nat.le_of_ble_eq_true rfl, Nat.le_of_ble_eq_true rfl⟩) (tPreV (rcv hK hP 0 3 rfl rfl) hK hE hS hA hP hD) rfl rfl hl.1 rfl (lv_room (Nat.le_of_ble_eq_true rfl)) dJx40b00_exponent_d00df_41 ⟨(Nat.le_of_ble_eq_true rfl), (Nat.le_of_ble_eq_true rfl)⟩) hS (fun q _ h => hFc q h) hFc (fun u_9 t9 H1 locs ht hvm hw_10 hB hz1 hk1 hS => ?_)
      obtain ⟨hP, -, hD⟩ := hB
      rw [ht] at hP
      replace hP : va_P D vwCl (bFO9 k a b (im (apd (((apc (f, n) 69).1), ((apc (f, n) 69).2)) (((e * 103).toUInt32 >>> ((10 : Int32).toUInt32 &&& Int32.toUInt32 31)).toInt32)).2) ++ bAB k b 15 ((apd (((apc (f, n) 69).1), ((apc (f, n) 69).2)) (((e * 103).toUInt32 >>> ((10 : Int32).toUInt32 &&& Int32.toUInt32 31)).toInt32)).1)) H1 := hP
      replace hD : va_D A (bFO9 k a b (im (apd (((apc (f, n) 69).1), ((apc (f, n) 69).2)) (((e * 103).toUInt32 >>> ((10 : Int32).toUInt32 &&& Int32.toUInt32 31)).toInt32)).2) ++ bAB k b 15 ((apd (((apc (f, n) 69).1), ((apc (f, n) 69).2)) (((e * 103).toUInt32 >>> ((10 : Int32).toUInt32 &&& Int32.toUInt32 31)).toInt32)).1)) := hD.weaken (fun _ q _ h => hFc q.1 h)
      replace hw_10 : True := hw_10
      clear hz1 hvm hFc hk1 ht
      clear t9
      generalize H1 = H at hP hS ⊢
      refine lv_aload_n hx hb dJx40b00_exponent_d00df_44 rfl (lv_at hl 1 rfl) ?_
      refine lv_iload_n hx hb dJx40b00_exponent_d00df_45 rfl (lv_at hl 2 rfl) ?_
      refine lv_bipush (v := 10) hx hb dJx40b00_exponent_d00df_46 (by decide) ?_
      refine lv_iload_n hx hb dJx40b00_exponent_d00df_48 rfl (lv_at hl 0 rfl) ?_
      refine lv_imul hx hb dJx40b00_exponent_d00df_49 ?_
      refine lv_isub hx hb dJx40b00_exponent_d00df_50 ?_
      have hFc := tFree hD hS hA
      refine va_callv (va_runV (As := [.int (e - (10 * (((e * 103).toUInt32 >>> ((10 : Int32).toUInt32 &&& Int32.toUInt32 31)).toInt32)))]) (rest := []) hF (t_Jx40b00_appendDigit_d00df l9 hl9 E D k H.size a b ((apd (((apc (f, n) 69).1), ((apc (f, n) 69).2)) (((e * 103).toUInt32 >>> ((10 : Int32).toUInt32 &&& Int32.toUInt32 31)).toInt32)).2) ((apd (((apc (f, n) 69).1), ((apc (f, n) 69).2)) (((e * 103).toUInt32 >>> ((10 : Int32).toUInt32 &&& Int32.toUInt32 31)).toInt32)).1) (e - (10 * (((e * 103).toUInt32 >>> ((10 : Int32).toUInt32 &&& Int32.toUInt32 31)).toInt32))) (by first | (show n + 1 + 1 < 15; omega) | (show n + 1 + 1 + 1 < 15; omega))) (cwV 1 hts gJx40b00_exponent_d00df_Jx40b00_appendDigit_d00df rfl rfl rfl (by decide +kernel) ⟨Nat.le_of_ble_eq_true rfl, Nat.le_of_ble_eq_true rfl⟩) (tPreV (rcv hK hP 0 3 rfl rfl) hK hE hS hA hP hD) rfl rfl hl.1 rfl (lv_room (Nat.le_of_ble_eq_true rfl)) dJx40b00_exponent_d00df_51 ⟨(Nat.le_of_ble_eq_true rfl), (Nat.le_of_ble_eq_true rfl)⟩) hS (fun q _ h => hFc q h) hFc (fun u_13 t9 H1 locs ht hvm hw_14 hB hz1 hk1 hS => ?_)
      obtain ⟨hP, -, hD⟩ := hB
      rw [ht] at hP
      replace hP : va_P D vwCl (bFO9 k a b (im (apd (((apd (((apc (f, n) 69).1), ((apc (f, n) 69).2)) (((e * 103).toUInt32 >>> ((10 : Int32).toUInt32 &&& Int32.toUInt32 31)).toInt32)).1), ((apd (((apc (f, n) 69).1), ((apc (f, n) 69).2)) (((e * 103).toUInt32 >>> ((10 : Int32).toUInt32 &&& Int32.toUInt32 31)).toInt32)).2)) (e - (10 * (((e * 103).toUInt32 >>> ((10 : Int32).toUInt32 &&& Int32.toUInt32 31)).toInt32)))).2) ++ bAB k b 15 ((apd (((apd (((apc (f, n) 69).1), ((apc (f, n) 69).2)) (((e * 103).toUInt32 >>> ((10 : Int32).toUInt32 &&& Int32.toUInt32 31)).toInt32)).1), ((apd (((apc (f, n) 69).1), ((apc (f, n) 69).2)) (((e * 103).toUInt32 >>> ((10 : Int32).toUInt32 &&& Int32.toUInt32 31)).toInt32)).2)) (e - (10 * (((e * 103).toUInt32 >>> ((10 : Int32).toUInt32 &&& Int32.toUInt32 31)).toInt32)))).1)) H1 := hP
      replace hD : va_D A (bFO9 k a b (im (apd (((apd (((apc (f, n) 69).1), ((apc (f, n) 69).2)) (((e * 103).toUInt32 >>> ((10 : Int32).toUInt32 &&& Int32.toUInt32 31)).toInt32)).1), ((apd (((apc (f, n) 69).1), ((apc (f, n) 69).2)) (((e * 103).toUInt32 >>> ((10 : Int32).toUInt32 &&& Int32.toUInt32 31)).toInt32)).2)) (e - (10 * (((e * 103).toUInt32 >>> ((10 : Int32).toUInt32 &&& Int32.toUInt32 31)).toInt32)))).2) ++ bAB k b 15 ((apd (((apd (((apc (f, n) 69).1), ((apc (f, n) 69).2)) (((e * 103).toUInt32 >>> ((10 : Int32).toUInt32 &&& Int32.toUInt32 31)).toInt32)).1), ((apd (((apc (f, n) 69).1), ((apc (f, n) 69).2)) (((e * 103).toUInt32 >>> ((10 : Int32).toUInt32 &&& Int32.toUInt32 31)).toInt32)).2)) (e - (10 * (((e * 103).toUInt32 >>> ((10 : Int32).toUInt32 &&& Int32.toUInt32 31)).toInt32)))).1)) := hD.weaken (fun _ q _ h => hFc q.1 h)
      replace hw_14 : True := hw_14
      clear hz1 hvm hFc hk1 ht
      clear t9
      generalize H1 = H at hP hS ⊢
      have e_15 : (im (apd (((apd (((apc (f, n) 69).1), ((apc (f, n) 69).2)) (((e * 103).toUInt32 >>> ((10 : Int32).toUInt32 &&& Int32.toUInt32 31)).toInt32)).1), ((apd (((apc (f, n) 69).1), ((apc (f, n) 69).2)) (((e * 103).toUInt32 >>> ((10 : Int32).toUInt32 &&& Int32.toUInt32 31)).toInt32)).2)) (e - (10 * (((e * 103).toUInt32 >>> ((10 : Int32).toUInt32 &&& Int32.toUInt32 31)).toInt32)))).2 : Int32) = im (exF (f, n) e).2 := by first | (with_reducible rfl) | (unfold exF exS; (repeat (first | rw [if_pos (by assumption)] | rw [if_neg (by assumption)])))
      have hP := Eq.mp (congrArg (fun z9 => va_P D vwCl (bFO9 k a b z9 ++ bAB k b 15 ((apd (((apd (((apc (f, n) 69).1), ((apc (f, n) 69).2)) (((e * 103).toUInt32 >>> ((10 : Int32).toUInt32 &&& Int32.toUInt32 31)).toInt32)).1), ((apd (((apc (f, n) 69).1), ((apc (f, n) 69).2)) (((e * 103).toUInt32 >>> ((10 : Int32).toUInt32 &&& Int32.toUInt32 31)).toInt32)).2)) (e - (10 * (((e * 103).toUInt32 >>> ((10 : Int32).toUInt32 &&& Int32.toUInt32 31)).toInt32)))).1)) H) e_15) hP
      have hD := Eq.mp (congrArg (fun z9 => va_D A (bFO9 k a b z9 ++ bAB k b 15 ((apd (((apd (((apc (f, n) 69).1), ((apc (f, n) 69).2)) (((e * 103).toUInt32 >>> ((10 : Int32).toUInt32 &&& Int32.toUInt32 31)).toInt32)).1), ((apd (((apc (f, n) 69).1), ((apc (f, n) 69).2)) (((e * 103).toUInt32 >>> ((10 : Int32).toUInt32 &&& Int32.toUInt32 31)).toInt32)).2)) (e - (10 * (((e * 103).toUInt32 >>> ((10 : Int32).toUInt32 &&& Int32.toUInt32 31)).toInt32)))).1))) e_15) hD
      have e_16 : ((apd (((apd (((apc (f, n) 69).1), ((apc (f, n) 69).2)) (((e * 103).toUInt32 >>> ((10 : Int32).toUInt32 &&& Int32.toUInt32 31)).toInt32)).1), ((apd (((apc (f, n) 69).1), ((apc (f, n) 69).2)) (((e * 103).toUInt32 >>> ((10 : Int32).toUInt32 &&& Int32.toUInt32 31)).toInt32)).2)) (e - (10 * (((e * 103).toUInt32 >>> ((10 : Int32).toUInt32 &&& Int32.toUInt32 31)).toInt32)))).1 : Nat → Int32) = (exF (f, n) e).1 := by first | (with_reducible rfl) | (unfold exF exS; (repeat (first | rw [if_pos (by assumption)] | rw [if_neg (by assumption)])))
      have hP := Eq.mp (congrArg (fun z9 => va_P D vwCl (bFO9 k a b (im (exF (f, n) e).2) ++ bAB k b 15 z9) H) e_16) hP
      have hD := Eq.mp (congrArg (fun z9 => va_D A (bFO9 k a b (im (exF (f, n) e).2) ++ bAB k b 15 z9)) e_16) hD
      exact W.vret hx hb hr (fun t9 ht hW => ⟨⟨(), rfl, (by trivial), ⟨by rw [ht]; exact hP, va_K.moved hW.alike hK, hD⟩⟩, hS.F ht⟩) hS.2.2 dJx40b00_exponent_d00df_54 hlocks
    · skip
      have c_6 := Int32.not_le.mp c_6
      refine lv_aload_n hx hb dJx40b00_exponent_d00df_25 rfl (lv_at hl 0 rfl) ?_
      refine lv_iload_n hx hb dJx40b00_exponent_d00df_26 rfl (lv_at hl 1 rfl) ?_
      have hFc := tFree hD hS hA
      refine va_callv (va_runV (As := [.int e]) (rest := []) hF (t_Jx40b00_appendDigit_d00df l9 hl9 E D k H.size a b ((apc (f, n) 69).2) ((apc (f, n) 69).1) e (by first | (show n + 1 < 15; omega) | (show n + 1 + 1 < 15; omega))) (cwV 1 hts gJx40b00_exponent_d00df_Jx40b00_appendDigit_d00df rfl rfl rfl (by decide +kernel) ⟨Nat.le_of_ble_eq_true rfl, Nat.le_of_ble_eq_true rfl⟩) (tPreV (rcv hK hP 0 3 rfl rfl) hK hE hS hA hP hD) rfl rfl hl.1 rfl (lv_room (Nat.le_of_ble_eq_true rfl)) dJx40b00_exponent_d00df_27 ⟨(Nat.le_of_ble_eq_true rfl), (Nat.le_of_ble_eq_true rfl)⟩) hS (fun q _ h => hFc q h) hFc (fun u_19 t9 H1 locs ht hvm hw_20 hB hz1 hk1 hS => ?_)
      obtain ⟨hP, -, hD⟩ := hB
      rw [ht] at hP
      replace hP : va_P D vwCl (bFO9 k a b (im (apd (((apc (f, n) 69).1), ((apc (f, n) 69).2)) e).2) ++ bAB k b 15 ((apd (((apc (f, n) 69).1), ((apc (f, n) 69).2)) e).1)) H1 := hP
      replace hD : va_D A (bFO9 k a b (im (apd (((apc (f, n) 69).1), ((apc (f, n) 69).2)) e).2) ++ bAB k b 15 ((apd (((apc (f, n) 69).1), ((apc (f, n) 69).2)) e).1)) := hD.weaken (fun _ q _ h => hFc q.1 h)
      replace hw_20 : True := hw_20
      clear hz1 hvm hFc hk1 ht
      clear t9
      generalize H1 = H at hP hS ⊢
      have e_21 : (im (apd (((apc (f, n) 69).1), ((apc (f, n) 69).2)) e).2 : Int32) = im (exF (f, n) e).2 := by first | (with_reducible rfl) | (unfold exF exS; (repeat (first | rw [if_pos (by assumption)] | rw [if_neg (by assumption)])))
      have hP := Eq.mp (congrArg (fun z9 => va_P D vwCl (bFO9 k a b z9 ++ bAB k b 15 ((apd (((apc (f, n) 69).1), ((apc (f, n) 69).2)) e).1)) H) e_21) hP
      have hD := Eq.mp (congrArg (fun z9 => va_D A (bFO9 k a b z9 ++ bAB k b 15 ((apd (((apc (f, n) 69).1), ((apc (f, n) 69).2)) e).1))) e_21) hD
      have e_22 : ((apd (((apc (f, n) 69).1), ((apc (f, n) 69).2)) e).1 : Nat → Int32) = (exF (f, n) e).1 := by first | (with_reducible rfl) | (unfold exF exS; (repeat (first | rw [if_pos (by assumption)] | rw [if_neg (by assumption)])))
      have hP := Eq.mp (congrArg (fun z9 => va_P D vwCl (bFO9 k a b (im (exF (f, n) e).2) ++ bAB k b 15 z9) H) e_22) hP
      have hD := Eq.mp (congrArg (fun z9 => va_D A (bFO9 k a b (im (exF (f, n) e).2) ++ bAB k b 15 z9)) e_22) hD
      exact W.vret hx hb hr (fun t9 ht hW => ⟨⟨(), rfl, (by trivial), ⟨by rw [ht]; exact hP, va_K.moved hW.alike hK, hD⟩⟩, hS.F ht⟩) hS.2.2 dJx40b00_exponent_d00df_30 hlocks
  · skip
    have c_5 : e < 0 := Int32.not_le.mp c_5
    refine lv_aload_n hx hb dJx40b00_exponent_d00df_10 rfl (lv_at hl 0 rfl) ?_
    refine lv_bipush (v := 45) hx hb dJx40b00_exponent_d00df_11 (by decide) ?_
    have hFc := tFree hD hS hA
    refine va_callv (va_runV (As := [.int 45]) (rest := []) hF (t_Jx40b00_append_d00df l9 hl9 E D k H.size a b ((apc (f, n) 69).2) ((apc (f, n) 69).1) 45 (by show n + 1 < 15; omega)) (cwV 1 hts gJx40b00_exponent_d00df_Jx40b00_append_d00df rfl rfl rfl (by decide +kernel) ⟨Nat.le_of_ble_eq_true rfl, Nat.le_of_ble_eq_true rfl⟩) (tPreV (rcv hK hP 0 3 rfl rfl) hK hE hS hA hP hD) rfl rfl hl.1 rfl (lv_room (Nat.le_of_ble_eq_true rfl)) dJx40b00_exponent_d00df_13 ⟨(Nat.le_of_ble_eq_true rfl), (Nat.le_of_ble_eq_true rfl)⟩) hS (fun q _ h => hFc q h) hFc (fun u_25 t9 H1 locs ht hvm hw_26 hB hz1 hk1 hS => ?_)
    obtain ⟨hP, -, hD⟩ := hB
    rw [ht] at hP
    replace hP : va_P D vwCl (bFO9 k a b (im (apc (((apc (f, n) 69).1), ((apc (f, n) 69).2)) 45).2) ++ bAB k b 15 ((apc (((apc (f, n) 69).1), ((apc (f, n) 69).2)) 45).1)) H1 := hP
    replace hD : va_D A (bFO9 k a b (im (apc (((apc (f, n) 69).1), ((apc (f, n) 69).2)) 45).2) ++ bAB k b 15 ((apc (((apc (f, n) 69).1), ((apc (f, n) 69).2)) 45).1)) := hD.weaken (fun _ q _ h => hFc q.1 h)
    replace hw_26 : True := hw_26
    clear hz1 hvm hFc hk1 ht
    clear t9
    generalize H1 = H at hP hS ⊢
    refine lv_iload_n hx hb dJx40b00_exponent_d00df_16 rfl (lv_at hl 1 rfl) ?_
    refine lv_ineg hx hb dJx40b00_exponent_d00df_17 ?_
    refine lv_istore_n (lv' := [(1, .int (-e)), (0, .ref a)]) hx hb dJx40b00_exponent_d00df_18 rfl hl (by decide) rfl (fun ls hl => ?_)
    refine lv_iload_n hx hb dJx40b00_exponent_d00df_19 rfl (lv_at hl 0 rfl) ?_
    refine lv_bipush (v := 10) hx hb dJx40b00_exponent_d00df_20 (by decide) ?_
    refine lv_icmp_ge (tgt := 31) hx hb dJx40b00_exponent_d00df_22 (by decide) (fun c_27 => ?_) (fun c_27 => ?_)
    · skip
      have c_27 := Int32.not_lt.mpr c_27
      refine lv_iload_n hx hb dJx40b00_exponent_d00df_31 rfl (lv_at hl 0 rfl) ?_
      refine lv_bipush (v := 103) hx hb dJx40b00_exponent_d00df_32 (by decide) ?_
      refine lv_imul hx hb dJx40b00_exponent_d00df_34 ?_
      refine lv_bipush (v := 10) hx hb dJx40b00_exponent_d00df_35 (by decide) ?_
      refine lv_iushr (v := (((-e) * 103).toUInt32 >>> ((10 : Int32).toUInt32 &&& Int32.toUInt32 31)).toInt32) hx hb dJx40b00_exponent_d00df_37 rfl ?_
      refine lv_istore_n (lv' := [(2, .int ((((-e) * 103).toUInt32 >>> ((10 : Int32).toUInt32 &&& Int32.toUInt32 31)).toInt32)), (1, .int (-e)), (0, .ref a)]) hx hb dJx40b00_exponent_d00df_38 rfl hl (by decide) rfl (fun ls hl => ?_)
      refine lv_aload_n hx hb dJx40b00_exponent_d00df_39 rfl (lv_at hl 2 rfl) ?_
      refine lv_iload_n hx hb dJx40b00_exponent_d00df_40 rfl (lv_at hl 0 rfl) ?_
      have hFc := tFree hD hS hA
      refine va_callv (va_runV (As := [.int ((((-e) * 103).toUInt32 >>> ((10 : Int32).toUInt32 &&& Int32.toUInt32 31)).toInt32)]) (rest := []) hF (t_Jx40b00_appendDigit_d00df l9 hl9 E D k H.size a b ((apc (((apc (f, n) 69).1), ((apc (f, n) 69).2)) 45).2) ((apc (((apc (f, n) 69).1), ((apc (f, n) 69).2)) 45).1) ((((-e) * 103).toUInt32 >>> ((10 : Int32).toUInt32 &&& Int32.toUInt32 31)).toInt32) (by first | (show n + 1 < 15; omega) | (show n + 1 + 1 < 15; omega))) (cwV 1 hts gJx40b00_exponent_d00df_Jx40b00_appendDigit_d00df rfl rfl rfl (by decide +kernel) ⟨Nat.le_of_ble_eq_true rfl, Nat.le_of_ble_eq_true rfl⟩) (tPreV (rcv hK hP 0 3 rfl rfl) hK hE hS hA hP hD) rfl rfl hl.1 rfl (lv_room (Nat.le_of_ble_eq_true rfl)) dJx40b00_exponent_d00df_41 ⟨(Nat.le_of_ble_eq_true rfl), (Nat.le_of_ble_eq_true rfl)⟩) hS (fun q _ h => hFc q h) hFc (fun u_30 t9 H1 locs ht hvm hw_31 hB hz1 hk1 hS => ?_)
      obtain ⟨hP, -, hD⟩ := hB
      rw [ht] at hP
      replace hP : va_P D vwCl (bFO9 k a b (im (apd (((apc (((apc (f, n) 69).1), ((apc (f, n) 69).2)) 45).1), ((apc (((apc (f, n) 69).1), ((apc (f, n) 69).2)) 45).2)) ((((-e) * 103).toUInt32 >>> ((10 : Int32).toUInt32 &&& Int32.toUInt32 31)).toInt32)).2) ++ bAB k b 15 ((apd (((apc (((apc (f, n) 69).1), ((apc (f, n) 69).2)) 45).1), ((apc (((apc (f, n) 69).1), ((apc (f, n) 69).2)) 45).2)) ((((-e) * 103).toUInt32 >>> ((10 : Int32).toUInt32 &&& Int32.toUInt32 31)).toInt32)).1)) H1 := hP
      replace hD : va_D A (bFO9 k a b (im (apd (((apc (((apc (f, n) 69).1), ((apc (f, n) 69).2)) 45).1), ((apc (((apc (f, n) 69).1), ((apc (f, n) 69).2)) 45).2)) ((((-e) * 103).toUInt32 >>> ((10 : Int32).toUInt32 &&& Int32.toUInt32 31)).toInt32)).2) ++ bAB k b 15 ((apd (((apc (((apc (f, n) 69).1), ((apc (f, n) 69).2)) 45).1), ((apc (((apc (f, n) 69).1), ((apc (f, n) 69).2)) 45).2)) ((((-e) * 103).toUInt32 >>> ((10 : Int32).toUInt32 &&& Int32.toUInt32 31)).toInt32)).1)) := hD.weaken (fun _ q _ h => hFc q.1 h)
      replace hw_31 : True := hw_31
      clear hz1 hvm hFc hk1 ht
      clear t9
      generalize H1 = H at hP hS ⊢
      refine lv_aload_n hx hb dJx40b00_exponent_d00df_44 rfl (lv_at hl 2 rfl) ?_
      refine lv_iload_n hx hb dJx40b00_exponent_d00df_45 rfl (lv_at hl 1 rfl) ?_
      refine lv_bipush (v := 10) hx hb dJx40b00_exponent_d00df_46 (by decide) ?_
      refine lv_iload_n hx hb dJx40b00_exponent_d00df_48 rfl (lv_at hl 0 rfl) ?_
      refine lv_imul hx hb dJx40b00_exponent_d00df_49 ?_
      refine lv_isub hx hb dJx40b00_exponent_d00df_50 ?_
      have hFc := tFree hD hS hA
      refine va_callv (va_runV (As := [.int ((-e) - (10 * ((((-e) * 103).toUInt32 >>> ((10 : Int32).toUInt32 &&& Int32.toUInt32 31)).toInt32)))]) (rest := []) hF (t_Jx40b00_appendDigit_d00df l9 hl9 E D k H.size a b ((apd (((apc (((apc (f, n) 69).1), ((apc (f, n) 69).2)) 45).1), ((apc (((apc (f, n) 69).1), ((apc (f, n) 69).2)) 45).2)) ((((-e) * 103).toUInt32 >>> ((10 : Int32).toUInt32 &&& Int32.toUInt32 31)).toInt32)).2) ((apd (((apc (((apc (f, n) 69).1), ((apc (f, n) 69).2)) 45).1), ((apc (((apc (f, n) 69).1), ((apc (f, n) 69).2)) 45).2)) ((((-e) * 103).toUInt32 >>> ((10 : Int32).toUInt32 &&& Int32.toUInt32 31)).toInt32)).1) ((-e) - (10 * ((((-e) * 103).toUInt32 >>> ((10 : Int32).toUInt32 &&& Int32.toUInt32 31)).toInt32))) (by first | (show n + 1 + 1 < 15; omega) | (show n + 1 + 1 + 1 < 15; omega))) (cwV 1 hts gJx40b00_exponent_d00df_Jx40b00_appendDigit_d00df rfl rfl rfl (by decide +kernel) ⟨Nat.le_of_ble_eq_true rfl, Nat.le_of_ble_eq_true rfl⟩) (tPreV (rcv hK hP 0 3 rfl rfl) hK hE hS hA hP hD) rfl rfl hl.1 rfl (lv_room (Nat.le_of_ble_eq_true rfl)) dJx40b00_exponent_d00df_51 ⟨(Nat.le_of_ble_eq_true rfl), (Nat.le_of_ble_eq_true rfl)⟩) hS (fun q _ h => hFc q h) hFc (fun u_34 t9 H1 locs ht hvm hw_35 hB hz1 hk1 hS => ?_)
      obtain ⟨hP, -, hD⟩ := hB
      rw [ht] at hP
      replace hP : va_P D vwCl (bFO9 k a b (im (apd (((apd (((apc (((apc (f, n) 69).1), ((apc (f, n) 69).2)) 45).1), ((apc (((apc (f, n) 69).1), ((apc (f, n) 69).2)) 45).2)) ((((-e) * 103).toUInt32 >>> ((10 : Int32).toUInt32 &&& Int32.toUInt32 31)).toInt32)).1), ((apd (((apc (((apc (f, n) 69).1), ((apc (f, n) 69).2)) 45).1), ((apc (((apc (f, n) 69).1), ((apc (f, n) 69).2)) 45).2)) ((((-e) * 103).toUInt32 >>> ((10 : Int32).toUInt32 &&& Int32.toUInt32 31)).toInt32)).2)) ((-e) - (10 * ((((-e) * 103).toUInt32 >>> ((10 : Int32).toUInt32 &&& Int32.toUInt32 31)).toInt32)))).2) ++ bAB k b 15 ((apd (((apd (((apc (((apc (f, n) 69).1), ((apc (f, n) 69).2)) 45).1), ((apc (((apc (f, n) 69).1), ((apc (f, n) 69).2)) 45).2)) ((((-e) * 103).toUInt32 >>> ((10 : Int32).toUInt32 &&& Int32.toUInt32 31)).toInt32)).1), ((apd (((apc (((apc (f, n) 69).1), ((apc (f, n) 69).2)) 45).1), ((apc (((apc (f, n) 69).1), ((apc (f, n) 69).2)) 45).2)) ((((-e) * 103).toUInt32 >>> ((10 : Int32).toUInt32 &&& Int32.toUInt32 31)).toInt32)).2)) ((-e) - (10 * ((((-e) * 103).toUInt32 >>> ((10 : Int32).toUInt32 &&& Int32.toUInt32 31)).toInt32)))).1)) H1 := hP
      replace hD : va_D A (bFO9 k a b (im (apd (((apd (((apc (((apc (f, n) 69).1), ((apc (f, n) 69).2)) 45).1), ((apc (((apc (f, n) 69).1), ((apc (f, n) 69).2)) 45).2)) ((((-e) * 103).toUInt32 >>> ((10 : Int32).toUInt32 &&& Int32.toUInt32 31)).toInt32)).1), ((apd (((apc (((apc (f, n) 69).1), ((apc (f, n) 69).2)) 45).1), ((apc (((apc (f, n) 69).1), ((apc (f, n) 69).2)) 45).2)) ((((-e) * 103).toUInt32 >>> ((10 : Int32).toUInt32 &&& Int32.toUInt32 31)).toInt32)).2)) ((-e) - (10 * ((((-e) * 103).toUInt32 >>> ((10 : Int32).toUInt32 &&& Int32.toUInt32 31)).toInt32)))).2) ++ bAB k b 15 ((apd (((apd (((apc (((apc (f, n) 69).1), ((apc (f, n) 69).2)) 45).1), ((apc (((apc (f, n) 69).1), ((apc (f, n) 69).2)) 45).2)) ((((-e) * 103).toUInt32 >>> ((10 : Int32).toUInt32 &&& Int32.toUInt32 31)).toInt32)).1), ((apd (((apc (((apc (f, n) 69).1), ((apc (f, n) 69).2)) 45).1), ((apc (((apc (f, n) 69).1), ((apc (f, n) 69).2)) 45).2)) ((((-e) * 103).toUInt32 >>> ((10 : Int32).toUInt32 &&& Int32.toUInt32 31)).toInt32)).2)) ((-e) - (10 * ((((-e) * 103).toUInt32 >>> ((10 : Int32).toUInt32 &&& Int32.toUInt32 31)).toInt32)))).1)) := hD.weaken (fun _ q _ h => hFc q.1 h)
      replace hw_35 : True := hw_35
      clear hz1 hvm hFc hk1 ht
      clear t9
      generalize H1 = H at hP hS ⊢
      have e_36 : (im (apd (((apd (((apc (((apc (f, n) 69).1), ((apc (f, n) 69).2)) 45).1), ((apc (((apc (f, n) 69).1), ((apc (f, n) 69).2)) 45).2)) ((((-e) * 103).toUInt32 >>> ((10 : Int32).toUInt32 &&& Int32.toUInt32 31)).toInt32)).1), ((apd (((apc (((apc (f, n) 69).1), ((apc (f, n) 69).2)) 45).1), ((apc (((apc (f, n) 69).1), ((apc (f, n) 69).2)) 45).2)) ((((-e) * 103).toUInt32 >>> ((10 : Int32).toUInt32 &&& Int32.toUInt32 31)).toInt32)).2)) ((-e) - (10 * ((((-e) * 103).toUInt32 >>> ((10 : Int32).toUInt32 &&& Int32.toUInt32 31)).toInt32)))).2 : Int32) = im (exF (f, n) e).2 := by first | (with_reducible rfl) | (unfold exF exS; (repeat (first | rw [if_pos (by assumption)] | rw [if_neg (by assumption)])))
      have hP := Eq.mp (congrArg (fun z9 => va_P D vwCl (bFO9 k a b z9 ++ bAB k b 15 ((apd (((apd (((apc (((apc (f, n) 69).1), ((apc (f, n) 69).2)) 45).1), ((apc (((apc (f, n) 69).1), ((apc (f, n) 69).2)) 45).2)) ((((-e) * 103).toUInt32 >>> ((10 : Int32).toUInt32 &&& Int32.toUInt32 31)).toInt32)).1), ((apd (((apc (((apc (f, n) 69).1), ((apc (f, n) 69).2)) 45).1), ((apc (((apc (f, n) 69).1), ((apc (f, n) 69).2)) 45).2)) ((((-e) * 103).toUInt32 >>> ((10 : Int32).toUInt32 &&& Int32.toUInt32 31)).toInt32)).2)) ((-e) - (10 * ((((-e) * 103).toUInt32 >>> ((10 : Int32).toUInt32 &&& Int32.toUInt32 31)).toInt32)))).1)) H) e_36) hP
      have hD := Eq.mp (congrArg (fun z9 => va_D A (bFO9 k a b z9 ++ bAB k b 15 ((apd (((apd (((apc (((apc (f, n) 69).1), ((apc (f, n) 69).2)) 45).1), ((apc (((apc (f, n) 69).1), ((apc (f, n) 69).2)) 45).2)) ((((-e) * 103).toUInt32 >>> ((10 : Int32).toUInt32 &&& Int32.toUInt32 31)).toInt32)).1), ((apd (((apc (((apc (f, n) 69).1), ((apc (f, n) 69).2)) 45).1), ((apc (((apc (f, n) 69).1), ((apc (f, n) 69).2)) 45).2)) ((((-e) * 103).toUInt32 >>> ((10 : Int32).toUInt32 &&& Int32.toUInt32 31)).toInt32)).2)) ((-e) - (10 * ((((-e) * 103).toUInt32 >>> ((10 : Int32).toUInt32 &&& Int32.toUInt32 31)).toInt32)))).1))) e_36) hD
      have e_37 : ((apd (((apd (((apc (((apc (f, n) 69).1), ((apc (f, n) 69).2)) 45).1), ((apc (((apc (f, n) 69).1), ((apc (f, n) 69).2)) 45).2)) ((((-e) * 103).toUInt32 >>> ((10 : Int32).toUInt32 &&& Int32.toUInt32 31)).toInt32)).1), ((apd (((apc (((apc (f, n) 69).1), ((apc (f, n) 69).2)) 45).1), ((apc (((apc (f, n) 69).1), ((apc (f, n) 69).2)) 45).2)) ((((-e) * 103).toUInt32 >>> ((10 : Int32).toUInt32 &&& Int32.toUInt32 31)).toInt32)).2)) ((-e) - (10 * ((((-e) * 103).toUInt32 >>> ((10 : Int32).toUInt32 &&& Int32.toUInt32 31)).toInt32)))).1 : Nat → Int32) = (exF (f, n) e).1 := by first | (with_reducible rfl) | (unfold exF exS; (repeat (first | rw [if_pos (by assumption)] | rw [if_neg (by assumption)])))
      have hP := Eq.mp (congrArg (fun z9 => va_P D vwCl (bFO9 k a b (im (exF (f, n) e).2) ++ bAB k b 15 z9) H) e_37) hP
      have hD := Eq.mp (congrArg (fun z9 => va_D A (bFO9 k a b (im (exF (f, n) e).2) ++ bAB k b 15 z9)) e_37) hD
      exact W.vret hx hb hr (fun t9 ht hW => ⟨⟨(), rfl, (by trivial), ⟨by rw [ht]; exact hP, va_K.moved hW.alike hK, hD⟩⟩, hS.F ht⟩) hS.2.2 dJx40b00_exponent_d00df_54 hlocks
    · skip
      have c_27 := Int32.not_le.mp c_27
      refine lv_aload_n hx hb dJx40b00_exponent_d00df_25 rfl (lv_at hl 1 rfl) ?_
      refine lv_iload_n hx hb dJx40b00_exponent_d00df_26 rfl (lv_at hl 0 rfl) ?_
      have hFc := tFree hD hS hA
      refine va_callv (va_runV (As := [.int (-e)]) (rest := []) hF (t_Jx40b00_appendDigit_d00df l9 hl9 E D k H.size a b ((apc (((apc (f, n) 69).1), ((apc (f, n) 69).2)) 45).2) ((apc (((apc (f, n) 69).1), ((apc (f, n) 69).2)) 45).1) (-e) (by first | (show n + 1 < 15; omega) | (show n + 1 + 1 < 15; omega))) (cwV 1 hts gJx40b00_exponent_d00df_Jx40b00_appendDigit_d00df rfl rfl rfl (by decide +kernel) ⟨Nat.le_of_ble_eq_true rfl, Nat.le_of_ble_eq_true rfl⟩) (tPreV (rcv hK hP 0 3 rfl rfl) hK hE hS hA hP hD) rfl rfl hl.1 rfl (lv_room (Nat.le_of_ble_eq_true rfl)) dJx40b00_exponent_d00df_27 ⟨(Nat.le_of_ble_eq_true rfl), (Nat.le_of_ble_eq_true rfl)⟩) hS (fun q _ h => hFc q h) hFc (fun u_40 t9 H1 locs ht hvm hw_41 hB hz1 hk1 hS => ?_)
      obtain ⟨hP, -, hD⟩ := hB
      rw [ht] at hP
      replace hP : va_P D vwCl (bFO9 k a b (im (apd (((apc (((apc (f, n) 69).1), ((apc (f, n) 69).2)) 45).1), ((apc (((apc (f, n) 69).1), ((apc (f, n) 69).2)) 45).2)) (-e)).2) ++ bAB k b 15 ((apd (((apc (((apc (f, n) 69).1), ((apc (f, n) 69).2)) 45).1), ((apc (((apc (f, n) 69).1), ((apc (f, n) 69).2)) 45).2)) (-e)).1)) H1 := hP
      replace hD : va_D A (bFO9 k a b (im (apd (((apc (((apc (f, n) 69).1), ((apc (f, n) 69).2)) 45).1), ((apc (((apc (f, n) 69).1), ((apc (f, n) 69).2)) 45).2)) (-e)).2) ++ bAB k b 15 ((apd (((apc (((apc (f, n) 69).1), ((apc (f, n) 69).2)) 45).1), ((apc (((apc (f, n) 69).1), ((apc (f, n) 69).2)) 45).2)) (-e)).1)) := hD.weaken (fun _ q _ h => hFc q.1 h)
      replace hw_41 : True := hw_41
      clear hz1 hvm hFc hk1 ht
      clear t9
      generalize H1 = H at hP hS ⊢
      have e_42 : (im (apd (((apc (((apc (f, n) 69).1), ((apc (f, n) 69).2)) 45).1), ((apc (((apc (f, n) 69).1), ((apc (f, n) 69).2)) 45).2)) (-e)).2 : Int32) = im (exF (f, n) e).2 := by first | (with_reducible rfl) | (unfold exF exS; (repeat (first | rw [if_pos (by assumption)] | rw [if_neg (by assumption)])))
      have hP := Eq.mp (congrArg (fun z9 => va_P D vwCl (bFO9 k a b z9 ++ bAB k b 15 ((apd (((apc (((apc (f, n) 69).1), ((apc (f, n) 69).2)) 45).1), ((apc (((apc (f, n) 69).1), ((apc (f, n) 69).2)) 45).2)) (-e)).1)) H) e_42) hP
      have hD := Eq.mp (congrArg (fun z9 => va_D A (bFO9 k a b z9 ++ bAB k b 15 ((apd (((apc (((apc (f, n) 69).1), ((apc (f, n) 69).2)) 45).1), ((apc (((apc (f, n) 69).1), ((apc (f, n) 69).2)) 45).2)) (-e)).1))) e_42) hD
      have e_43 : ((apd (((apc (((apc (f, n) 69).1), ((apc (f, n) 69).2)) 45).1), ((apc (((apc (f, n) 69).1), ((apc (f, n) 69).2)) 45).2)) (-e)).1 : Nat → Int32) = (exF (f, n) e).1 := by first | (with_reducible rfl) | (unfold exF exS; (repeat (first | rw [if_pos (by assumption)] | rw [if_neg (by assumption)])))
      have hP := Eq.mp (congrArg (fun z9 => va_P D vwCl (bFO9 k a b (im (exF (f, n) e).2) ++ bAB k b 15 z9) H) e_43) hP
      have hD := Eq.mp (congrArg (fun z9 => va_D A (bFO9 k a b (im (exF (f, n) e).2) ++ bAB k b 15 z9)) e_43) hD
      exact W.vret hx hb hr (fun t9 ht hW => ⟨⟨(), rfl, (by trivial), ⟨by rw [ht]; exact hP, va_K.moved hW.alike hK, hD⟩⟩, hS.F ht⟩) hS.2.2 dJx40b00_exponent_d00df_30 hlocks

def tc1 (s : FS) (h x : Int32) (e : Nat) : FS := rzF (dgs (apc (dgs (apd s h) (yF x) (e - 1)).1 46) (dgs (apd s h) (yF x) (e - 1)).2 (9 - e)).1
def tc3 (s : FS) (h x e : Int32) : FS := exF (rzF (dgs (apc (apd s h) 46) (yF x) 8).1) (e - 1)

theorem tc_n1 (f : Nat → Int32) (n : Nat) (h y : Int32) (j : Nat) : (dgs (apd (f, n) h) y j).1.2 = n + 1 + j := dgs_n _ _ _
theorem tc_n2 {f : Nat → Int32} {n : Nat} {h y y2 : Int32} {e j : Nat} (he : 1 ≤ e) : (dgs (apc (dgs (apd (f, n) h) y (e - 1)).1 46) y2 j).1.2 = n + e + 1 + j := by
  rw [dgs_n]
  show (dgs (apd (f, n) h) y (e - 1)).1.2 + 1 + j = _
  rw [tc_n1]
  omega
theorem tc_dot {f : Nat → Int32} {n : Nat} {h y y2 : Int32} {e j : Nat} (he : 1 ≤ e) : (dgs (apc (dgs (apd (f, n) h) y (e - 1)).1 46) y2 j).1.1 (n + e) = 46 := by
  have e1 : (dgs (apd (f, n) h) y (e - 1)).1.2 = n + e := by rw [tc_n1]; omega
  rw [dgs_old _ _ _ _ (by show n + e < (dgs (apd (f, n) h) y (e - 1)).1.2 + 1; rw [e1]; omega)]
  show upd (dgs (apd (f, n) h) y (e - 1)).1.1 (dgs (apd (f, n) h) y (e - 1)).1.2 (b8 46) (n + e) = 46
  rw [e1, upd_at, if_pos rfl]
  decide
def zrs (s : FS) (z : Nat) : FS := up (fun _ s => apd s 0) s z
theorem zrs_s (s : FS) (z : Nat) : zrs s (z + 1) = apd (zrs s z) 0 := rfl
theorem zrs_n (s : FS) (z : Nat) : (zrs s z).2 = s.2 + z := by
  induction z with
  | zero => rfl
  | succ z ih => rw [zrs_s]; show (zrs s z).2 + 1 = _; rw [ih]; rfl
theorem zrs_old (s : FS) (z j : Nat) (h : j < s.2) : (zrs s z).1 j = s.1 j := by
  induction z with
  | zero => rfl
  | succ z ih =>
    rw [zrs_s]
    show upd (zrs s z).1 (zrs s z).2 _ j = _
    rw [upd_at, if_neg (by rw [zrs_n]; omega)]
    exact ih
theorem t2_n {f : Nat → Int32} {n z : Nat} {h x : Int32} {k : Nat} : (dgs (apd (zrs (apc (apd (f, n) 0) 46) z) h) (yF x) k).1.2 = n + z + 3 + k := by
  rw [dgs_n]
  show (zrs (apc (apd (f, n) 0) 46) z).2 + 1 + k = _
  rw [zrs_n]
  show n + 1 + 1 + z + 1 + k = _
  omega
theorem t2_dot {f : Nat → Int32} {n z : Nat} {h x : Int32} {k : Nat} : (dgs (apd (zrs (apc (apd (f, n) 0) 46) z) h) (yF x) k).1.1 (n + 1) = 46 := by
  have e0 : (apc (apd (f, n) 0) 46).2 = n + 1 + 1 := rfl
  rw [dgs_old _ _ _ _ (by show n + 1 < (zrs (apc (apd (f, n) 0) 46) z).2 + 1; rw [zrs_n, e0]; omega)]
  show upd (zrs (apc (apd (f, n) 0) 46) z).1 (zrs (apc (apd (f, n) 0) 46) z).2 _ (n + 1) = 46
  rw [upd_at, if_neg (by rw [zrs_n, e0]; omega), zrs_old _ _ _ (by rw [e0]; omega)]
  show upd (apd (f, n) 0).1 (n + 1) (b8 46) (n + 1) = 46
  rw [upd_at, if_pos rfl]
  decide
theorem t3_n {f : Nat → Int32} {n : Nat} {h x : Int32} {k : Nat} : (dgs (apc (apd (f, n) h) 46) (yF x) k).1.2 = n + 2 + k := dgs_n _ _ _
theorem t3_dot {f : Nat → Int32} {n : Nat} {h x : Int32} {k : Nat} : (dgs (apc (apd (f, n) h) 46) (yF x) k).1.1 (n + 1) = 46 := by
  rw [dgs_old _ _ _ _ (by show n + 1 < n + 1 + 1; omega)]
  show upd (apd (f, n) h).1 (n + 1) (b8 46) (n + 1) = 46
  rw [upd_at, if_pos rfl]
  decide
theorem rzF_le (s : FS) (h : 1 ≤ s.2) : (rzF s).2 ≤ s.2 + 1 := by
  have := rzN_le s.1 (s.2 - 1)
  unfold rzF
  show (if _ then _ else _) ≤ _
  split <;> omega
/-- behind a point that isn't last, nothing is gained -/
theorem rzF_le2 {f : Nat → Int32} {n p : Nat} (hp : f p = 46) (hn : p + 1 < n) (hu : ∀ j, j < n → f j = 46 → j ≤ p) : (rzF (f, n)).2 ≤ n := by
  have h1 := rzN_le f (n - 1)
  show (if f (rzN f (n - 1)) = 46 then rzN f (n - 1) + 2 else rzN f (n - 1) + 1) ≤ n
  split
  · rename_i q
    have := hu _ (by omega) q
    omega
  · omega
theorem ng1 {z i : Nat} (hz : z ≤ 2) (h : i < z) : -(nI (z - i)) + 1 = -(nI (z - (i + 1))) := by
  rcases (show (z = 1 ∧ i = 0) ∨ (z = 2 ∧ i = 0) ∨ (z = 2 ∧ i = 1) by omega) with ⟨rfl, rfl⟩ | ⟨rfl, rfl⟩ | ⟨rfl, rfl⟩ <;> decide
theorem ng0 {z i : Nat} (hz : z ≤ 2) (hi : i ≤ z) : 0 ≤ -(nI (z - i)) ↔ z - i = 0 := by
  rcases (show z - i = 0 ∨ z - i = 1 ∨ z - i = 2 by omega) with e | e | e <;> rw [e] <;> decide
/-! The length of a number in bits. -/
def nlzA (m : Nat) : Nat × Nat := if m < 65536 then (m, 31) else (m / 65536, 15)
def nlzB (p : Nat × Nat) : Nat × Nat := if p.1 < 256 then p else (p.1 / 256, p.2 - 8)
def nlzC (p : Nat × Nat) : Nat × Nat := if p.1 < 16 then p else (p.1 / 16, p.2 - 4)
def nlzD (p : Nat × Nat) : Nat × Nat := if p.1 < 4 then p else (p.1 / 4, p.2 - 2)
def nlzN (m : Nat) : Nat := if m = 0 then 32 else (nlzD (nlzC (nlzB (nlzA m)))).2 - (nlzD (nlzC (nlzB (nlzA m)))).1 / 2
theorem nI_shr {a : Nat} (h : a < 2 ^ 31) (s : Nat) (hs : s < 32) (x : Int32) (hx : x = nI s) : ((nI a).toUInt32 >>> (x.toUInt32 &&& Int32.toUInt32 31)).toInt32 = nI (a / 2 ^ s) := by
  subst hx
  apply Int32.toInt_inj.mp
  rw [nI_toInt (Nat.lt_of_le_of_lt (Nat.div_le_self _ _) h)]
  have e1 : ((nI s).toUInt32 &&& Int32.toUInt32 31).toNat % 32 = s := by
    have : ∀ s : Nat, s < 32 → ((nI s).toUInt32 &&& Int32.toUInt32 31).toNat % 32 = s := by decide +kernel
    exact this s hs
  have e2 : ((nI a).toUInt32 >>> ((nI s).toUInt32 &&& Int32.toUInt32 31)).toNat = a / 2 ^ s := by
    rw [UInt32.toNat_shiftRight, e1, Nat.shiftRight_eq_div_pow]
    congr 1
    show (UInt32.ofNat a).toNat = a
    rw [UInt32.toNat_ofNat_of_lt' (by omega)]
  have e3 : a / 2 ^ s < 2 ^ 31 := Nat.lt_of_le_of_lt (Nat.div_le_self _ _) h
  generalize (nI a).toUInt32 >>> ((nI s).toUInt32 &&& Int32.toUInt32 31) = u at e2
  rw [← e2] at e3 ⊢
  show u.toBitVec.toInt = _
  rw [BitVec.toInt_eq_toNat_of_lt (by show 2 * u.toNat < 2 ^ 32; omega)]
  rfl
def tc2 (s : FS) (h x : Int32) (z : Nat) : FS := rzF (dgs (apd (zrs (apc (apd s 0) 46) z) h) (yF x) 8).1

set_option maxHeartbeats 4000000 in
set_option maxRecDepth 100000 in
theorem t_Jx40b00_toChars1_cabcc (l9 : Launch) (hl9 : l9.stackTraces = false) (E : EK) (D : va_G) (k : Nat → ClassId) (sz : Nat) (a b n : Nat) (f : Nat → Int32) (h x : Int32) (e : Nat) (he : 1 ≤ e) (he7 : e ≤ 7) (hn : n + 10 ≤ 15) : Met l9 yJx40b00_toChars1_cabcc wsJx40b00_toChars1_cabcc ({ frames := 2, cells := 0, slots := 0, locals := 60 }) (TPc E D k [.ref a, .int h, .int x, .int (nI e)] (bFO9 k a b (im n) ++ bAB k b 15 f) sz) (va_Qi (fun (r : Int32) (u9 : Unit) => r = 0) (TB D k (va_A (bFO9 k a b (im n) ++ bAB k b 15 f) sz) (fun u9 : Unit => bFO9 k a b (im (tc1 (f, n) h x e).2) ++ bAB k b 15 ((tc1 (f, n) h x e).1))) (va_A (bFO9 k a b (im n) ++ bAB k b 15 f) sz)) (0) (0) (va_A (bFO9 k a b (im n) ++ bAB k b 15 f) sz) := by
  refine tMet (y := yJx40b00_toChars1_cabcc) (cc := cJx40b00_toChars1_cabcc) (maxL := 7) (ret := (some .int)) (Qc := fun A => va_Qi (fun (r : Int32) (u9 : Unit) => r = 0) (TB D k (A) (fun u9 : Unit => bFO9 k a b (im (tc1 (f, n) h x e).2) ++ bAB k b 15 ((tc1 (f, n) h x e).1))) (A)) [.ref a, .int h, .int x, .int (nI e)] (by decide) rfl (Nat.le_of_ble_eq_true rfl) ?_
  intro p9 e9 s9 m9 bl9 me9 c9 ls A H hF hr hlocks hP hK hE hD hA hS hl hin
  have hl : lv_has ls 7 [(0, .ref a), (1, .int h), (2, .int x), (3, .int (nI e))] := hl
  obtain ⟨hx, hb, hml, hown, hts⟩ := id hF
  have k_constant_138 : (Cond.constant RJx40b00 138 (268435455)).before _ s9 = true := hts (.constant RJx40b00 138 (268435455)) (by decide +kernel)
  have loop_56 : ∀ (fuel : Nat) (j : Nat), (e + j ≤ 9) → 9 - j < fuel → ∀ (ls : Array Slot) (H : Heap) (locs : List Loc), va_P D vwCl (bFO9 k a b (im ((dgs (apc (dgs (apd (f, n) h) (yF x) (e - 1)).1 46) ((dgs (apd (f, n) h) (yF x) (e - 1)).2) j).1).2) ++ bAB k b 15 (((dgs (apc (dgs (apd (f, n) h) (yF x) (e - 1)).1 46) ((dgs (apd (f, n) h) (yF x) (e - 1)).2) j).1).1)) H → va_D A (bFO9 k a b (im ((dgs (apc (dgs (apd (f, n) h) (yF x) (e - 1)).1 46) ((dgs (apd (f, n) h) (yF x) (e - 1)).2) j).1).2) ++ bAB k b 15 (((dgs (apc (dgs (apd (f, n) h) (yF x) (e - 1)).1 46) ((dgs (apd (f, n) h) (yF x) (e - 1)).2) j).1).1)) → va_S A s9.heap H locs → lv_has ls 7 [(0, .ref a), (4, .int ((dgs (apc (dgs (apd (f, n) h) (yF x) (e - 1)).1 46) ((dgs (apd (f, n) h) (yF x) (e - 1)).2) j).2)), (6, .int (nI (e + j)))] → W p9 l9 e9 ({ frames := 2, cells := 0, slots := 0, locals := 60 }) s9 m9 ([.ref a, .int h, .int x, .int (nI e)] : List Value).toArray bl9 me9 c9 H locs (0) (0) (MQ bl9 (va_Qi (fun (r : Int32) (u9 : Unit) => r = 0) (TB D k (A) (fun u9 : Unit => bFO9 k a b (im (tc1 (f, n) h x e).2) ++ bAB k b 15 ((tc1 (f, n) h x e).1))) (A)) ([.ref a, .int h, .int x, .int (nI e)] : List Value).toArray s9 (0) (0) A) (F0 m9 56 ls []) := by
    intro fuel
    induction fuel with
    | zero => intro j hj hfuel_56; exact absurd hfuel_56 (Nat.not_lt_zero _)
    | succ fuel ih_56 =>
      intro j hj hfuel_56 ls H locs hP hD hS hl
      refine lv_iload hx hb dJx40b00_toChars1_cabcc_56 (lv_at hl 2 rfl) ?_
      refine lv_bipush (v := 8) hx hb dJx40b00_toChars1_cabcc_58 (by decide) ?_
      refine lv_icmp_gt (tgt := 92) hx hb dJx40b00_toChars1_cabcc_60 (by decide) (fun c_1 => ?_) (fun c_1 => ?_)
      · skip
        have c_1 : 8 < (e + j) := (nI_ltI (a := 8) (b := e + j) (by omega) (by omega)).mp c_1
        refine lv_aload_n hx hb dJx40b00_toChars1_cabcc_92 rfl (lv_at hl 0 rfl) ?_
        have hFc := tFree hD hS hA
        refine va_callv (va_runV (As := []) (rest := []) hF (t_Jx40b00_removeTrailingZeroes_da8c8 l9 hl9 E D k H.size a b (((dgs (apc (dgs (apd (f, n) h) (yF x) (e - 1)).1 46) ((dgs (apd (f, n) h) (yF x) (e - 1)).2) j).1).2) (((dgs (apc (dgs (apd (f, n) h) (yF x) (e - 1)).1 46) ((dgs (apd (f, n) h) (yF x) (e - 1)).2) j).1).1) (n + e) (tc_dot he) (by rw [tc_n2 he]; omega) (by rw [tc_n2 he]; omega)) (cwV 0 hts gJx40b00_toChars1_cabcc_Jx40b00_removeTrailingZeroes_da8c8 rfl rfl rfl (by decide +kernel) ⟨Nat.le_of_ble_eq_true rfl, Nat.le_of_ble_eq_true rfl⟩) (tPreV (rcv hK hP 0 3 rfl rfl) hK hE hS hA hP hD) rfl rfl hl.1 rfl (lv_room (Nat.le_of_ble_eq_true rfl)) dJx40b00_toChars1_cabcc_93 ⟨(Nat.le_of_ble_eq_true rfl), (Nat.le_of_ble_eq_true rfl)⟩) hS (fun q _ h => hFc q h) hFc (fun u_4 t9 H1 locs ht hvm hw_5 hB hz1 hk1 hS => ?_)
        obtain ⟨hP, -, hD⟩ := hB
        rw [ht] at hP
        replace hP : va_P D vwCl (bFO9 k a b (im (rzF ((((dgs (apc (dgs (apd (f, n) h) (yF x) (e - 1)).1 46) ((dgs (apd (f, n) h) (yF x) (e - 1)).2) j).1).1), (((dgs (apc (dgs (apd (f, n) h) (yF x) (e - 1)).1 46) ((dgs (apd (f, n) h) (yF x) (e - 1)).2) j).1).2))).2) ++ bAB k b 15 ((rzF ((((dgs (apc (dgs (apd (f, n) h) (yF x) (e - 1)).1 46) ((dgs (apd (f, n) h) (yF x) (e - 1)).2) j).1).1), (((dgs (apc (dgs (apd (f, n) h) (yF x) (e - 1)).1 46) ((dgs (apd (f, n) h) (yF x) (e - 1)).2) j).1).2))).1)) H1 := hP
        replace hD : va_D A (bFO9 k a b (im (rzF ((((dgs (apc (dgs (apd (f, n) h) (yF x) (e - 1)).1 46) ((dgs (apd (f, n) h) (yF x) (e - 1)).2) j).1).1), (((dgs (apc (dgs (apd (f, n) h) (yF x) (e - 1)).1 46) ((dgs (apd (f, n) h) (yF x) (e - 1)).2) j).1).2))).2) ++ bAB k b 15 ((rzF ((((dgs (apc (dgs (apd (f, n) h) (yF x) (e - 1)).1 46) ((dgs (apd (f, n) h) (yF x) (e - 1)).2) j).1).1), (((dgs (apc (dgs (apd (f, n) h) (yF x) (e - 1)).1 46) ((dgs (apd (f, n) h) (yF x) (e - 1)).2) j).1).2))).1)) := hD.weaken (fun _ q _ h => hFc q.1 h)
        replace hw_5 : True := hw_5
        clear hz1 hvm hFc hk1 ht
        clear t9
        generalize H1 = H at hP hS ⊢
        refine lv_iconst (v := 0) hx hb dJx40b00_toChars1_cabcc_96 (by decide) ?_
        have e_6 : (im (rzF ((((dgs (apc (dgs (apd (f, n) h) (yF x) (e - 1)).1 46) ((dgs (apd (f, n) h) (yF x) (e - 1)).2) j).1).1), (((dgs (apc (dgs (apd (f, n) h) (yF x) (e - 1)).1 46) ((dgs (apd (f, n) h) (yF x) (e - 1)).2) j).1).2))).2 : Int32) = im (tc1 (f, n) h x e).2 := by first | (with_reducible rfl) | (rw [show j = 9 - e by omega]; rfl)
        have hP := Eq.mp (congrArg (fun z9 => va_P D vwCl (bFO9 k a b z9 ++ bAB k b 15 ((rzF ((((dgs (apc (dgs (apd (f, n) h) (yF x) (e - 1)).1 46) ((dgs (apd (f, n) h) (yF x) (e - 1)).2) j).1).1), (((dgs (apc (dgs (apd (f, n) h) (yF x) (e - 1)).1 46) ((dgs (apd (f, n) h) (yF x) (e - 1)).2) j).1).2))).1)) H) e_6) hP
        have hD := Eq.mp (congrArg (fun z9 => va_D A (bFO9 k a b z9 ++ bAB k b 15 ((rzF ((((dgs (apc (dgs (apd (f, n) h) (yF x) (e - 1)).1 46) ((dgs (apd (f, n) h) (yF x) (e - 1)).2) j).1).1), (((dgs (apc (dgs (apd (f, n) h) (yF x) (e - 1)).1 46) ((dgs (apd (f, n) h) (yF x) (e - 1)).2) j).1).2))).1))) e_6) hD
        have e_7 : ((rzF ((((dgs (apc (dgs (apd (f, n) h) (yF x) (e - 1)).1 46) ((dgs (apd (f, n) h) (yF x) (e - 1)).2) j).1).1), (((dgs (apc (dgs (apd (f, n) h) (yF x) (e - 1)).1 46) ((dgs (apd (f, n) h) (yF x) (e - 1)).2) j).1).2))).1 : Nat → Int32) = (tc1 (f, n) h x e).1 := by first | (with_reducible rfl) | (rw [show j = 9 - e by omega]; rfl)
        have hP := Eq.mp (congrArg (fun z9 => va_P D vwCl (bFO9 k a b (im (tc1 (f, n) h x e).2) ++ bAB k b 15 z9) H) e_7) hP
        have hD := Eq.mp (congrArg (fun z9 => va_D A (bFO9 k a b (im (tc1 (f, n) h x e).2) ++ bAB k b 15 z9)) e_7) hD
        exact W.iret (v := 0) hx hb hr (fun t9 ht hW => ⟨⟨_, (), rfl, (by rfl), ⟨by rw [ht]; exact hP, va_K.moved hW.alike hK, hD⟩⟩, hS.F ht⟩) hS.2.2 dJx40b00_toChars1_cabcc_97 hlocks
      · skip
        have c_1 : ¬ 8 < (e + j) := fun h => c_1 ((nI_ltI (a := 8) (b := e + j) (by omega) (by omega)).mpr h)
        refine lv_bipush (v := 10) hx hb dJx40b00_toChars1_cabcc_63 (by decide) ?_
        refine lv_iload hx hb dJx40b00_toChars1_cabcc_65 (lv_at hl 1 rfl) ?_
        refine lv_imul hx hb dJx40b00_toChars1_cabcc_67 ?_
        refine lv_istore (lv' := [(5, .int (10 * ((dgs (apc (dgs (apd (f, n) h) (yF x) (e - 1)).1 46) ((dgs (apd (f, n) h) (yF x) (e - 1)).2) j).2))), (0, .ref a), (4, .int ((dgs (apc (dgs (apd (f, n) h) (yF x) (e - 1)).1 46) ((dgs (apd (f, n) h) (yF x) (e - 1)).2) j).2)), (6, .int (nI (e + j)))]) hx hb dJx40b00_toChars1_cabcc_68 hl (by decide) rfl (fun ls hl => ?_)
        refine lv_aload_n hx hb dJx40b00_toChars1_cabcc_70 rfl (lv_at hl 1 rfl) ?_
        refine lv_iload hx hb dJx40b00_toChars1_cabcc_71 (lv_at hl 0 rfl) ?_
        refine lv_bipush (v := 28) hx hb dJx40b00_toChars1_cabcc_73 (by decide) ?_
        refine lv_iushr (v := ((10 * ((dgs (apc (dgs (apd (f, n) h) (yF x) (e - 1)).1 46) ((dgs (apd (f, n) h) (yF x) (e - 1)).2) j).2)).toUInt32 >>> ((28 : Int32).toUInt32 &&& Int32.toUInt32 31)).toInt32) hx hb dJx40b00_toChars1_cabcc_75 rfl ?_
        have hFc := tFree hD hS hA
        refine va_callv (va_runV (As := [.int (((10 * ((dgs (apc (dgs (apd (f, n) h) (yF x) (e - 1)).1 46) ((dgs (apd (f, n) h) (yF x) (e - 1)).2) j).2)).toUInt32 >>> ((28 : Int32).toUInt32 &&& Int32.toUInt32 31)).toInt32)]) (rest := []) hF (t_Jx40b00_appendDigit_d00df l9 hl9 E D k H.size a b (((dgs (apc (dgs (apd (f, n) h) (yF x) (e - 1)).1 46) ((dgs (apd (f, n) h) (yF x) (e - 1)).2) j).1).2) (((dgs (apc (dgs (apd (f, n) h) (yF x) (e - 1)).1 46) ((dgs (apd (f, n) h) (yF x) (e - 1)).2) j).1).1) (((10 * ((dgs (apc (dgs (apd (f, n) h) (yF x) (e - 1)).1 46) ((dgs (apd (f, n) h) (yF x) (e - 1)).2) j).2)).toUInt32 >>> ((28 : Int32).toUInt32 &&& Int32.toUInt32 31)).toInt32) (by rw [tc_n2 he]; omega)) (cwV 1 hts gJx40b00_toChars1_cabcc_Jx40b00_appendDigit_d00df rfl rfl rfl (by decide +kernel) ⟨Nat.le_of_ble_eq_true rfl, Nat.le_of_ble_eq_true rfl⟩) (tPreV (rcv hK hP 0 3 rfl rfl) hK hE hS hA hP hD) rfl rfl hl.1 rfl (lv_room (Nat.le_of_ble_eq_true rfl)) dJx40b00_toChars1_cabcc_76 ⟨(Nat.le_of_ble_eq_true rfl), (Nat.le_of_ble_eq_true rfl)⟩) hS (fun q _ h => hFc q h) hFc (fun u_10 t9 H1 locs ht hvm hw_11 hB hz1 hk1 hS => ?_)
        obtain ⟨hP, -, hD⟩ := hB
        rw [ht] at hP
        replace hP : va_P D vwCl (bFO9 k a b (im (apd ((((dgs (apc (dgs (apd (f, n) h) (yF x) (e - 1)).1 46) ((dgs (apd (f, n) h) (yF x) (e - 1)).2) j).1).1), (((dgs (apc (dgs (apd (f, n) h) (yF x) (e - 1)).1 46) ((dgs (apd (f, n) h) (yF x) (e - 1)).2) j).1).2)) (((10 * ((dgs (apc (dgs (apd (f, n) h) (yF x) (e - 1)).1 46) ((dgs (apd (f, n) h) (yF x) (e - 1)).2) j).2)).toUInt32 >>> ((28 : Int32).toUInt32 &&& Int32.toUInt32 31)).toInt32)).2) ++ bAB k b 15 ((apd ((((dgs (apc (dgs (apd (f, n) h) (yF x) (e - 1)).1 46) ((dgs (apd (f, n) h) (yF x) (e - 1)).2) j).1).1), (((dgs (apc (dgs (apd (f, n) h) (yF x) (e - 1)).1 46) ((dgs (apd (f, n) h) (yF x) (e - 1)).2) j).1).2)) (((10 * ((dgs (apc (dgs (apd (f, n) h) (yF x) (e - 1)).1 46) ((dgs (apd (f, n) h) (yF x) (e - 1)).2) j).2)).toUInt32 >>> ((28 : Int32).toUInt32 &&& Int32.toUInt32 31)).toInt32)).1)) H1 := hP
        replace hD : va_D A (bFO9 k a b (im (apd ((((dgs (apc (dgs (apd (f, n) h) (yF x) (e - 1)).1 46) ((dgs (apd (f, n) h) (yF x) (e - 1)).2) j).1).1), (((dgs (apc (dgs (apd (f, n) h) (yF x) (e - 1)).1 46) ((dgs (apd (f, n) h) (yF x) (e - 1)).2) j).1).2)) (((10 * ((dgs (apc (dgs (apd (f, n) h) (yF x) (e - 1)).1 46) ((dgs (apd (f, n) h) (yF x) (e - 1)).2) j).2)).toUInt32 >>> ((28 : Int32).toUInt32 &&& Int32.toUInt32 31)).toInt32)).2) ++ bAB k b 15 ((apd ((((dgs (apc (dgs (apd (f, n) h) (yF x) (e - 1)).1 46) ((dgs (apd (f, n) h) (yF x) (e - 1)).2) j).1).1), (((dgs (apc (dgs (apd (f, n) h) (yF x) (e - 1)).1 46) ((dgs (apd (f, n) h) (yF x) (e - 1)).2) j).1).2)) (((10 * ((dgs (apc (dgs (apd (f, n) h) (yF x) (e - 1)).1 46) ((dgs (apd (f, n) h) (yF x) (e - 1)).2) j).2)).toUInt32 >>> ((28 : Int32).toUInt32 &&& Int32.toUInt32 31)).toInt32)).1)) := hD.weaken (fun _ q _ h => hFc q.1 h)
        replace hw_11 : True := hw_11
        clear hz1 hvm hFc hk1 ht
        clear t9
        generalize H1 = H at hP hS ⊢
        refine lv_iload hx hb dJx40b00_toChars1_cabcc_79 (lv_at hl 0 rfl) ?_
        refine lv_ldc hx hb hown k_constant_138 dJx40b00_toChars1_cabcc_81 ?_
        refine lv_iand hx hb dJx40b00_toChars1_cabcc_83 ?_
        refine lv_istore (lv' := [(4, .int ((10 * ((dgs (apc (dgs (apd (f, n) h) (yF x) (e - 1)).1 46) ((dgs (apd (f, n) h) (yF x) (e - 1)).2) j).2)) &&& 268435455)), (5, .int (10 * ((dgs (apc (dgs (apd (f, n) h) (yF x) (e - 1)).1 46) ((dgs (apd (f, n) h) (yF x) (e - 1)).2) j).2))), (0, .ref a), (6, .int (nI (e + j)))]) hx hb dJx40b00_toChars1_cabcc_84 hl (by decide) rfl (fun ls hl => ?_)
        refine lv_iinc (v := nI ((e + j) + 1)) (lv' := [(6, .int (nI ((e + j) + 1))), (4, .int ((10 * ((dgs (apc (dgs (apd (f, n) h) (yF x) (e - 1)).1 46) ((dgs (apd (f, n) h) (yF x) (e - 1)).2) j).2)) &&& 268435455)), (5, .int (10 * ((dgs (apc (dgs (apd (f, n) h) (yF x) (e - 1)).1 46) ((dgs (apd (f, n) h) (yF x) (e - 1)).2) j).2))), (0, .ref a)]) hx hb dJx40b00_toChars1_cabcc_86 hl (k := 3) rfl (nI_inc (e + j)) (by decide) rfl (fun ls hl => ?_)
        refine lv_goto (tgt := 56) hx hb dJx40b00_toChars1_cabcc_89 (by decide) ?_
        have e_12 : ((10 * ((dgs (apc (dgs (apd (f, n) h) (yF x) (e - 1)).1 46) ((dgs (apd (f, n) h) (yF x) (e - 1)).2) j).2)) &&& 268435455 : Int32) = (dgs (apc (dgs (apd (f, n) h) (yF x) (e - 1)).1 46) ((dgs (apd (f, n) h) (yF x) (e - 1)).2) (j + 1)).2 := by first | (with_reducible rfl) | (rfl)
        have e_13 : (nI ((e + j) + 1) : Int32) = nI (e + (j + 1)) := by first | (with_reducible rfl) | (congr 1)
        have e_14 : (im (apd ((((dgs (apc (dgs (apd (f, n) h) (yF x) (e - 1)).1 46) ((dgs (apd (f, n) h) (yF x) (e - 1)).2) j).1).1), (((dgs (apc (dgs (apd (f, n) h) (yF x) (e - 1)).1 46) ((dgs (apd (f, n) h) (yF x) (e - 1)).2) j).1).2)) (((10 * ((dgs (apc (dgs (apd (f, n) h) (yF x) (e - 1)).1 46) ((dgs (apd (f, n) h) (yF x) (e - 1)).2) j).2)).toUInt32 >>> ((28 : Int32).toUInt32 &&& Int32.toUInt32 31)).toInt32)).2 : Int32) = im ((dgs (apc (dgs (apd (f, n) h) (yF x) (e - 1)).1 46) ((dgs (apd (f, n) h) (yF x) (e - 1)).2) (j + 1)).1).2 := by first | (with_reducible rfl) | (rfl)
        have hP := Eq.mp (congrArg (fun z9 => va_P D vwCl (bFO9 k a b z9 ++ bAB k b 15 ((apd ((((dgs (apc (dgs (apd (f, n) h) (yF x) (e - 1)).1 46) ((dgs (apd (f, n) h) (yF x) (e - 1)).2) j).1).1), (((dgs (apc (dgs (apd (f, n) h) (yF x) (e - 1)).1 46) ((dgs (apd (f, n) h) (yF x) (e - 1)).2) j).1).2)) (((10 * ((dgs (apc (dgs (apd (f, n) h) (yF x) (e - 1)).1 46) ((dgs (apd (f, n) h) (yF x) (e - 1)).2) j).2)).toUInt32 >>> ((28 : Int32).toUInt32 &&& Int32.toUInt32 31)).toInt32)).1)) H) e_14) hP
        have hD := Eq.mp (congrArg (fun z9 => va_D A (bFO9 k a b z9 ++ bAB k b 15 ((apd ((((dgs (apc (dgs (apd (f, n) h) (yF x) (e - 1)).1 46) ((dgs (apd (f, n) h) (yF x) (e - 1)).2) j).1).1), (((dgs (apc (dgs (apd (f, n) h) (yF x) (e - 1)).1 46) ((dgs (apd (f, n) h) (yF x) (e - 1)).2) j).1).2)) (((10 * ((dgs (apc (dgs (apd (f, n) h) (yF x) (e - 1)).1 46) ((dgs (apd (f, n) h) (yF x) (e - 1)).2) j).2)).toUInt32 >>> ((28 : Int32).toUInt32 &&& Int32.toUInt32 31)).toInt32)).1))) e_14) hD
        have e_15 : ((apd ((((dgs (apc (dgs (apd (f, n) h) (yF x) (e - 1)).1 46) ((dgs (apd (f, n) h) (yF x) (e - 1)).2) j).1).1), (((dgs (apc (dgs (apd (f, n) h) (yF x) (e - 1)).1 46) ((dgs (apd (f, n) h) (yF x) (e - 1)).2) j).1).2)) (((10 * ((dgs (apc (dgs (apd (f, n) h) (yF x) (e - 1)).1 46) ((dgs (apd (f, n) h) (yF x) (e - 1)).2) j).2)).toUInt32 >>> ((28 : Int32).toUInt32 &&& Int32.toUInt32 31)).toInt32)).1 : Nat → Int32) = ((dgs (apc (dgs (apd (f, n) h) (yF x) (e - 1)).1 46) ((dgs (apd (f, n) h) (yF x) (e - 1)).2) (j + 1)).1).1 := by first | (with_reducible rfl) | (rfl)
        have hP := Eq.mp (congrArg (fun z9 => va_P D vwCl (bFO9 k a b (im ((dgs (apc (dgs (apd (f, n) h) (yF x) (e - 1)).1 46) ((dgs (apd (f, n) h) (yF x) (e - 1)).2) (j + 1)).1).2) ++ bAB k b 15 z9) H) e_15) hP
        have hD := Eq.mp (congrArg (fun z9 => va_D A (bFO9 k a b (im ((dgs (apc (dgs (apd (f, n) h) (yF x) (e - 1)).1 46) ((dgs (apd (f, n) h) (yF x) (e - 1)).2) (j + 1)).1).2) ++ bAB k b 15 z9)) e_15) hD
        exact ih_56 (j + 1) (by omega) (by omega) ls _ _ hP hD hS (lv_one hl 3 rfl rfl (lv_one hl 1 rfl (congrArg Value.int e_12) (lv_one hl 0 rfl (congrArg Value.int e_13) (lv_nil hl))))
  have loop_15 : ∀ (fuel : Nat) (j : Nat), (j + 1 ≤ e) → e - j < fuel → ∀ (ls : Array Slot) (H : Heap) (locs : List Loc), va_P D vwCl (bFO9 k a b (im ((dgs (apd (f, n) h) (yF x) j).1).2) ++ bAB k b 15 (((dgs (apd (f, n) h) (yF x) j).1).1)) H → va_D A (bFO9 k a b (im ((dgs (apd (f, n) h) (yF x) j).1).2) ++ bAB k b 15 (((dgs (apd (f, n) h) (yF x) j).1).1)) → va_S A s9.heap H locs → lv_has ls 7 [(0, .ref a), (3, .int (nI e)), (4, .int ((dgs (apd (f, n) h) (yF x) j).2)), (6, .int (nI (j + 1)))] → W p9 l9 e9 ({ frames := 2, cells := 0, slots := 0, locals := 60 }) s9 m9 ([.ref a, .int h, .int x, .int (nI e)] : List Value).toArray bl9 me9 c9 H locs (0) (0) (MQ bl9 (va_Qi (fun (r : Int32) (u9 : Unit) => r = 0) (TB D k (A) (fun u9 : Unit => bFO9 k a b (im (tc1 (f, n) h x e).2) ++ bAB k b 15 ((tc1 (f, n) h x e).1))) (A)) ([.ref a, .int h, .int x, .int (nI e)] : List Value).toArray s9 (0) (0) A) (F0 m9 15 ls []) := by
    intro fuel
    induction fuel with
    | zero => intro j hj hfuel_15; exact absurd hfuel_15 (Nat.not_lt_zero _)
    | succ fuel ih_15 =>
      intro j hj hfuel_15 ls H locs hP hD hS hl
      refine lv_iload hx hb dJx40b00_toChars1_cabcc_15 (lv_at hl 3 rfl) ?_
      refine lv_iload_n hx hb dJx40b00_toChars1_cabcc_17 rfl (lv_at hl 1 rfl) ?_
      refine lv_icmp_ge (tgt := 50) hx hb dJx40b00_toChars1_cabcc_18 (by decide) (fun c_16 => ?_) (fun c_16 => ?_)
      · skip
        have c_16 : e ≤ (j + 1) := (nI_leI (a := e) (b := j + 1) (by omega) (by omega)).mp c_16
        refine lv_aload_n hx hb dJx40b00_toChars1_cabcc_50 rfl (lv_at hl 0 rfl) ?_
        refine lv_bipush (v := 46) hx hb dJx40b00_toChars1_cabcc_51 (by decide) ?_
        have hFc := tFree hD hS hA
        refine va_callv (va_runV (As := [.int 46]) (rest := []) hF (t_Jx40b00_append_d00df l9 hl9 E D k H.size a b (((dgs (apd (f, n) h) (yF x) j).1).2) (((dgs (apd (f, n) h) (yF x) j).1).1) 46 (by rw [tc_n1]; omega)) (cwV 1 hts gJx40b00_toChars1_cabcc_Jx40b00_append_d00df rfl rfl rfl (by decide +kernel) ⟨Nat.le_of_ble_eq_true rfl, Nat.le_of_ble_eq_true rfl⟩) (tPreV (rcv hK hP 0 3 rfl rfl) hK hE hS hA hP hD) rfl rfl hl.1 rfl (lv_room (Nat.le_of_ble_eq_true rfl)) dJx40b00_toChars1_cabcc_53 ⟨(Nat.le_of_ble_eq_true rfl), (Nat.le_of_ble_eq_true rfl)⟩) hS (fun q _ h => hFc q h) hFc (fun u_19 t9 H1 locs ht hvm hw_20 hB hz1 hk1 hS => ?_)
        obtain ⟨hP, -, hD⟩ := hB
        rw [ht] at hP
        replace hP : va_P D vwCl (bFO9 k a b (im (apc ((((dgs (apd (f, n) h) (yF x) j).1).1), (((dgs (apd (f, n) h) (yF x) j).1).2)) 46).2) ++ bAB k b 15 ((apc ((((dgs (apd (f, n) h) (yF x) j).1).1), (((dgs (apd (f, n) h) (yF x) j).1).2)) 46).1)) H1 := hP
        replace hD : va_D A (bFO9 k a b (im (apc ((((dgs (apd (f, n) h) (yF x) j).1).1), (((dgs (apd (f, n) h) (yF x) j).1).2)) 46).2) ++ bAB k b 15 ((apc ((((dgs (apd (f, n) h) (yF x) j).1).1), (((dgs (apd (f, n) h) (yF x) j).1).2)) 46).1)) := hD.weaken (fun _ q _ h => hFc q.1 h)
        replace hw_20 : True := hw_20
        clear hz1 hvm hFc hk1 ht
        clear t9
        generalize H1 = H at hP hS ⊢
        have e_21 : ((dgs (apd (f, n) h) (yF x) j).2 : Int32) = (dgs (apc (dgs (apd (f, n) h) (yF x) (e - 1)).1 46) ((dgs (apd (f, n) h) (yF x) (e - 1)).2) 0).2 := by first | (with_reducible rfl) | (rw [show j = e - 1 by omega]; rfl)
        have e_22 : (nI (j + 1) : Int32) = nI (e + 0) := by first | (with_reducible rfl) | (congr 1; omega)
        have e_23 : (im (apc ((((dgs (apd (f, n) h) (yF x) j).1).1), (((dgs (apd (f, n) h) (yF x) j).1).2)) 46).2 : Int32) = im ((dgs (apc (dgs (apd (f, n) h) (yF x) (e - 1)).1 46) ((dgs (apd (f, n) h) (yF x) (e - 1)).2) 0).1).2 := by first | (with_reducible rfl) | (rw [show j = e - 1 by omega]; rfl)
        have hP := Eq.mp (congrArg (fun z9 => va_P D vwCl (bFO9 k a b z9 ++ bAB k b 15 ((apc ((((dgs (apd (f, n) h) (yF x) j).1).1), (((dgs (apd (f, n) h) (yF x) j).1).2)) 46).1)) H) e_23) hP
        have hD := Eq.mp (congrArg (fun z9 => va_D A (bFO9 k a b z9 ++ bAB k b 15 ((apc ((((dgs (apd (f, n) h) (yF x) j).1).1), (((dgs (apd (f, n) h) (yF x) j).1).2)) 46).1))) e_23) hD
        have e_24 : ((apc ((((dgs (apd (f, n) h) (yF x) j).1).1), (((dgs (apd (f, n) h) (yF x) j).1).2)) 46).1 : Nat → Int32) = ((dgs (apc (dgs (apd (f, n) h) (yF x) (e - 1)).1 46) ((dgs (apd (f, n) h) (yF x) (e - 1)).2) 0).1).1 := by first | (with_reducible rfl) | (rw [show j = e - 1 by omega]; rfl)
        have hP := Eq.mp (congrArg (fun z9 => va_P D vwCl (bFO9 k a b (im ((dgs (apc (dgs (apd (f, n) h) (yF x) (e - 1)).1 46) ((dgs (apd (f, n) h) (yF x) (e - 1)).2) 0).1).2) ++ bAB k b 15 z9) H) e_24) hP
        have hD := Eq.mp (congrArg (fun z9 => va_D A (bFO9 k a b (im ((dgs (apc (dgs (apd (f, n) h) (yF x) (e - 1)).1 46) ((dgs (apd (f, n) h) (yF x) (e - 1)).2) 0).1).2) ++ bAB k b 15 z9)) e_24) hD
        exact loop_56 ((9 - 0) + 1) 0 (by omega) (Nat.lt_succ_self _) ls _ _ hP hD hS (lv_one hl 0 rfl rfl (lv_one hl 2 rfl (congrArg Value.int e_21) (lv_one hl 3 rfl (congrArg Value.int e_22) (lv_nil hl))))
      · skip
        have c_16 : ¬ e ≤ (j + 1) := fun h => c_16 ((nI_leI (a := e) (b := j + 1) (by omega) (by omega)).mpr h)
        refine lv_bipush (v := 10) hx hb dJx40b00_toChars1_cabcc_21 (by decide) ?_
        refine lv_iload hx hb dJx40b00_toChars1_cabcc_23 (lv_at hl 2 rfl) ?_
        refine lv_imul hx hb dJx40b00_toChars1_cabcc_25 ?_
        refine lv_istore (lv' := [(5, .int (10 * ((dgs (apd (f, n) h) (yF x) j).2))), (0, .ref a), (3, .int (nI e)), (4, .int ((dgs (apd (f, n) h) (yF x) j).2)), (6, .int (nI (j + 1)))]) hx hb dJx40b00_toChars1_cabcc_26 hl (by decide) rfl (fun ls hl => ?_)
        refine lv_aload_n hx hb dJx40b00_toChars1_cabcc_28 rfl (lv_at hl 1 rfl) ?_
        refine lv_iload hx hb dJx40b00_toChars1_cabcc_29 (lv_at hl 0 rfl) ?_
        refine lv_bipush (v := 28) hx hb dJx40b00_toChars1_cabcc_31 (by decide) ?_
        refine lv_iushr (v := ((10 * ((dgs (apd (f, n) h) (yF x) j).2)).toUInt32 >>> ((28 : Int32).toUInt32 &&& Int32.toUInt32 31)).toInt32) hx hb dJx40b00_toChars1_cabcc_33 rfl ?_
        have hFc := tFree hD hS hA
        refine va_callv (va_runV (As := [.int (((10 * ((dgs (apd (f, n) h) (yF x) j).2)).toUInt32 >>> ((28 : Int32).toUInt32 &&& Int32.toUInt32 31)).toInt32)]) (rest := []) hF (t_Jx40b00_appendDigit_d00df l9 hl9 E D k H.size a b (((dgs (apd (f, n) h) (yF x) j).1).2) (((dgs (apd (f, n) h) (yF x) j).1).1) (((10 * ((dgs (apd (f, n) h) (yF x) j).2)).toUInt32 >>> ((28 : Int32).toUInt32 &&& Int32.toUInt32 31)).toInt32) (by rw [tc_n1]; omega)) (cwV 1 hts gJx40b00_toChars1_cabcc_Jx40b00_appendDigit_d00df rfl rfl rfl (by decide +kernel) ⟨Nat.le_of_ble_eq_true rfl, Nat.le_of_ble_eq_true rfl⟩) (tPreV (rcv hK hP 0 3 rfl rfl) hK hE hS hA hP hD) rfl rfl hl.1 rfl (lv_room (Nat.le_of_ble_eq_true rfl)) dJx40b00_toChars1_cabcc_34 ⟨(Nat.le_of_ble_eq_true rfl), (Nat.le_of_ble_eq_true rfl)⟩) hS (fun q _ h => hFc q h) hFc (fun u_27 t9 H1 locs ht hvm hw_28 hB hz1 hk1 hS => ?_)
        obtain ⟨hP, -, hD⟩ := hB
        rw [ht] at hP
        replace hP : va_P D vwCl (bFO9 k a b (im (apd ((((dgs (apd (f, n) h) (yF x) j).1).1), (((dgs (apd (f, n) h) (yF x) j).1).2)) (((10 * ((dgs (apd (f, n) h) (yF x) j).2)).toUInt32 >>> ((28 : Int32).toUInt32 &&& Int32.toUInt32 31)).toInt32)).2) ++ bAB k b 15 ((apd ((((dgs (apd (f, n) h) (yF x) j).1).1), (((dgs (apd (f, n) h) (yF x) j).1).2)) (((10 * ((dgs (apd (f, n) h) (yF x) j).2)).toUInt32 >>> ((28 : Int32).toUInt32 &&& Int32.toUInt32 31)).toInt32)).1)) H1 := hP
        replace hD : va_D A (bFO9 k a b (im (apd ((((dgs (apd (f, n) h) (yF x) j).1).1), (((dgs (apd (f, n) h) (yF x) j).1).2)) (((10 * ((dgs (apd (f, n) h) (yF x) j).2)).toUInt32 >>> ((28 : Int32).toUInt32 &&& Int32.toUInt32 31)).toInt32)).2) ++ bAB k b 15 ((apd ((((dgs (apd (f, n) h) (yF x) j).1).1), (((dgs (apd (f, n) h) (yF x) j).1).2)) (((10 * ((dgs (apd (f, n) h) (yF x) j).2)).toUInt32 >>> ((28 : Int32).toUInt32 &&& Int32.toUInt32 31)).toInt32)).1)) := hD.weaken (fun _ q _ h => hFc q.1 h)
        replace hw_28 : True := hw_28
        clear hz1 hvm hFc hk1 ht
        clear t9
        generalize H1 = H at hP hS ⊢
        refine lv_iload hx hb dJx40b00_toChars1_cabcc_37 (lv_at hl 0 rfl) ?_
        refine lv_ldc hx hb hown k_constant_138 dJx40b00_toChars1_cabcc_39 ?_
        refine lv_iand hx hb dJx40b00_toChars1_cabcc_41 ?_
        refine lv_istore (lv' := [(4, .int ((10 * ((dgs (apd (f, n) h) (yF x) j).2)) &&& 268435455)), (5, .int (10 * ((dgs (apd (f, n) h) (yF x) j).2))), (0, .ref a), (3, .int (nI e)), (6, .int (nI (j + 1)))]) hx hb dJx40b00_toChars1_cabcc_42 hl (by decide) rfl (fun ls hl => ?_)
        refine lv_iinc (v := nI ((j + 1) + 1)) (lv' := [(6, .int (nI ((j + 1) + 1))), (4, .int ((10 * ((dgs (apd (f, n) h) (yF x) j).2)) &&& 268435455)), (5, .int (10 * ((dgs (apd (f, n) h) (yF x) j).2))), (0, .ref a), (3, .int (nI e))]) hx hb dJx40b00_toChars1_cabcc_44 hl (k := 4) rfl (nI_inc (j + 1)) (by decide) rfl (fun ls hl => ?_)
        refine lv_goto (tgt := 15) hx hb dJx40b00_toChars1_cabcc_47 (by decide) ?_
        have e_29 : ((10 * ((dgs (apd (f, n) h) (yF x) j).2)) &&& 268435455 : Int32) = (dgs (apd (f, n) h) (yF x) (j + 1)).2 := by first | (with_reducible rfl) | (rfl)
        have e_30 : (im (apd ((((dgs (apd (f, n) h) (yF x) j).1).1), (((dgs (apd (f, n) h) (yF x) j).1).2)) (((10 * ((dgs (apd (f, n) h) (yF x) j).2)).toUInt32 >>> ((28 : Int32).toUInt32 &&& Int32.toUInt32 31)).toInt32)).2 : Int32) = im ((dgs (apd (f, n) h) (yF x) (j + 1)).1).2 := by first | (with_reducible rfl) | (rfl)
        have hP := Eq.mp (congrArg (fun z9 => va_P D vwCl (bFO9 k a b z9 ++ bAB k b 15 ((apd ((((dgs (apd (f, n) h) (yF x) j).1).1), (((dgs (apd (f, n) h) (yF x) j).1).2)) (((10 * ((dgs (apd (f, n) h) (yF x) j).2)).toUInt32 >>> ((28 : Int32).toUInt32 &&& Int32.toUInt32 31)).toInt32)).1)) H) e_30) hP
        have hD := Eq.mp (congrArg (fun z9 => va_D A (bFO9 k a b z9 ++ bAB k b 15 ((apd ((((dgs (apd (f, n) h) (yF x) j).1).1), (((dgs (apd (f, n) h) (yF x) j).1).2)) (((10 * ((dgs (apd (f, n) h) (yF x) j).2)).toUInt32 >>> ((28 : Int32).toUInt32 &&& Int32.toUInt32 31)).toInt32)).1))) e_30) hD
        have e_31 : ((apd ((((dgs (apd (f, n) h) (yF x) j).1).1), (((dgs (apd (f, n) h) (yF x) j).1).2)) (((10 * ((dgs (apd (f, n) h) (yF x) j).2)).toUInt32 >>> ((28 : Int32).toUInt32 &&& Int32.toUInt32 31)).toInt32)).1 : Nat → Int32) = ((dgs (apd (f, n) h) (yF x) (j + 1)).1).1 := by first | (with_reducible rfl) | (rfl)
        have hP := Eq.mp (congrArg (fun z9 => va_P D vwCl (bFO9 k a b (im ((dgs (apd (f, n) h) (yF x) (j + 1)).1).2) ++ bAB k b 15 z9) H) e_31) hP
        have hD := Eq.mp (congrArg (fun z9 => va_D A (bFO9 k a b (im ((dgs (apd (f, n) h) (yF x) (j + 1)).1).2) ++ bAB k b 15 z9)) e_31) hD
        exact ih_15 (j + 1) (by omega) (by omega) ls _ _ hP hD hS (lv_one hl 3 rfl rfl (lv_one hl 4 rfl rfl (lv_one hl 1 rfl (congrArg Value.int e_29) (lv_one hl 0 rfl rfl (lv_nil hl)))))
  refine lv_aload_n hx hb dJx40b00_toChars1_cabcc_0 rfl (lv_at hl 0 rfl) ?_
  refine lv_iload_n hx hb dJx40b00_toChars1_cabcc_1 rfl (lv_at hl 1 rfl) ?_
  have hFc := tFree hD hS hA
  refine va_callv (va_runV (As := [.int h]) (rest := []) hF (t_Jx40b00_appendDigit_d00df l9 hl9 E D k H.size a b n f h (by omega)) (cwV 1 hts gJx40b00_toChars1_cabcc_Jx40b00_appendDigit_d00df rfl rfl rfl (by decide +kernel) ⟨Nat.le_of_ble_eq_true rfl, Nat.le_of_ble_eq_true rfl⟩) (tPreV (rcv hK hP 0 3 rfl rfl) hK hE hS hA hP hD) rfl rfl hl.1 rfl (lv_room (Nat.le_of_ble_eq_true rfl)) dJx40b00_toChars1_cabcc_2 ⟨(Nat.le_of_ble_eq_true rfl), (Nat.le_of_ble_eq_true rfl)⟩) hS (fun q _ h => hFc q h) hFc (fun u_34 t9 H1 locs ht hvm hw_35 hB hz1 hk1 hS => ?_)
  obtain ⟨hP, -, hD⟩ := hB
  rw [ht] at hP
  replace hP : va_P D vwCl (bFO9 k a b (im (apd (f, n) h).2) ++ bAB k b 15 ((apd (f, n) h).1)) H1 := hP
  replace hD : va_D A (bFO9 k a b (im (apd (f, n) h).2) ++ bAB k b 15 ((apd (f, n) h).1)) := hD.weaken (fun _ q _ h => hFc q.1 h)
  replace hw_35 : True := hw_35
  clear hz1 hvm hFc hk1 ht
  clear t9
  generalize H1 = H at hP hS ⊢
  refine lv_aload_n hx hb dJx40b00_toChars1_cabcc_5 rfl (lv_at hl 0 rfl) ?_
  refine lv_iload_n hx hb dJx40b00_toChars1_cabcc_6 rfl (lv_at hl 2 rfl) ?_
  have hFc := tFree hD hS hA
  refine va_calli (va_runV (As := [.int x]) (rest := []) hF (t_Jx40b00_y_0f7a4 l9 hl9 E D k H.size a b ((apd (f, n) h).2) ((apd (f, n) h).1) x ) (cwV 1 hts gJx40b00_toChars1_cabcc_Jx40b00_y_0f7a4 rfl rfl rfl (by decide +kernel) ⟨Nat.le_of_ble_eq_true rfl, Nat.le_of_ble_eq_true rfl⟩) (tPreV (rcv hK hP 0 3 rfl rfl) hK hE hS hA hP hD) rfl rfl hl.1 rfl (lv_room (Nat.le_of_ble_eq_true rfl)) dJx40b00_toChars1_cabcc_7 ⟨(Nat.le_of_ble_eq_true rfl), (Nat.le_of_ble_eq_true rfl)⟩) hS (fun q _ h => hFc q h) hFc (fun r_37 u_38 t9 H1 locs ht hvm hw_39 hB hz1 hk1 hS => ?_)
  obtain ⟨hP, -, hD⟩ := hB
  rw [ht] at hP
  replace hP : va_P D vwCl (bFO9 k a b (im ((apd (f, n) h).2)) ++ bAB k b 15 ((apd (f, n) h).1)) H1 := hP
  replace hD : va_D A (bFO9 k a b (im ((apd (f, n) h).2)) ++ bAB k b 15 ((apd (f, n) h).1)) := hD.weaken (fun _ q _ h => hFc q.1 h)
  replace hw_39 : r_37 = yF x := hw_39
  clear hz1 hvm hFc hk1 ht
  clear t9
  generalize H1 = H at hP hS ⊢
  refine lv_tope (v2 := .int (yF x)) (by rw [hw_39]) ?_
  refine lv_istore (lv' := [(4, .int (yF x)), (0, .ref a), (1, .int h), (2, .int x), (3, .int (nI e))]) hx hb dJx40b00_toChars1_cabcc_10 hl (by decide) rfl (fun ls hl => ?_)
  refine lv_iconst (v := 1) hx hb dJx40b00_toChars1_cabcc_12 (by decide) ?_
  refine lv_istore (lv' := [(6, .int 1), (4, .int (yF x)), (0, .ref a), (1, .int h), (2, .int x), (3, .int (nI e))]) hx hb dJx40b00_toChars1_cabcc_13 hl (by decide) rfl (fun ls hl => ?_)
  have e_40 : (yF x : Int32) = (dgs (apd (f, n) h) (yF x) 0).2 := by first | (with_reducible rfl) | (rfl)
  have e_41 : (1 : Int32) = nI (0 + 1) := by first | (with_reducible rfl) | (rfl)
  have e_42 : (im ((apd (f, n) h).2) : Int32) = im ((dgs (apd (f, n) h) (yF x) 0).1).2 := by first | (with_reducible rfl) | (rfl)
  have hP := Eq.mp (congrArg (fun z9 => va_P D vwCl (bFO9 k a b z9 ++ bAB k b 15 ((apd (f, n) h).1)) H) e_42) hP
  have hD := Eq.mp (congrArg (fun z9 => va_D A (bFO9 k a b z9 ++ bAB k b 15 ((apd (f, n) h).1))) e_42) hD
  have e_43 : (((apd (f, n) h).1) : Nat → Int32) = ((dgs (apd (f, n) h) (yF x) 0).1).1 := by first | (with_reducible rfl) | (rfl)
  have hP := Eq.mp (congrArg (fun z9 => va_P D vwCl (bFO9 k a b (im ((dgs (apd (f, n) h) (yF x) 0).1).2) ++ bAB k b 15 z9) H) e_43) hP
  have hD := Eq.mp (congrArg (fun z9 => va_D A (bFO9 k a b (im ((dgs (apd (f, n) h) (yF x) 0).1).2) ++ bAB k b 15 z9)) e_43) hD
  exact loop_15 ((e - 0) + 1) 0 (by omega) (Nat.lt_succ_self _) ls _ _ hP hD hS (lv_one hl 2 rfl rfl (lv_one hl 5 rfl rfl (lv_one hl 1 rfl (congrArg Value.int e_40) (lv_one hl 0 rfl (congrArg Value.int e_41) (lv_nil hl)))))

set_option maxHeartbeats 4000000 in
set_option maxRecDepth 100000 in
theorem t_Jx40b00_toChars2_cabcc (l9 : Launch) (hl9 : l9.stackTraces = false) (E : EK) (D : va_G) (k : Nat → ClassId) (sz : Nat) (a b n : Nat) (f : Nat → Int32) (h x : Int32) (z : Nat) (hz : z ≤ 2) (hn : n + z + 11 ≤ 15) : Met l9 yJx40b00_toChars2_cabcc wsJx40b00_toChars2_cabcc ({ frames := 3, cells := 0, slots := 0, locals := 84 }) (TPc E D k [.ref a, .int h, .int x, .int (-(nI z))] (bFO9 k a b (im n) ++ bAB k b 15 f) sz) (va_Qi (fun (r : Int32) (u9 : Unit) => r = 0) (TB D k (va_A (bFO9 k a b (im n) ++ bAB k b 15 f) sz) (fun u9 : Unit => bFO9 k a b (im (tc2 (f, n) h x z).2) ++ bAB k b 15 ((tc2 (f, n) h x z).1))) (va_A (bFO9 k a b (im n) ++ bAB k b 15 f) sz)) (0) (0) (va_A (bFO9 k a b (im n) ++ bAB k b 15 f) sz) := by
  refine tMet (y := yJx40b00_toChars2_cabcc) (cc := cJx40b00_toChars2_cabcc) (maxL := 4) (ret := (some .int)) (Qc := fun A => va_Qi (fun (r : Int32) (u9 : Unit) => r = 0) (TB D k (A) (fun u9 : Unit => bFO9 k a b (im (tc2 (f, n) h x z).2) ++ bAB k b 15 ((tc2 (f, n) h x z).1))) (A)) [.ref a, .int h, .int x, .int (-(nI z))] (by decide) rfl (Nat.le_of_ble_eq_true rfl) ?_
  intro p9 e9 s9 m9 bl9 me9 c9 ls A H hF hr hlocks hP hK hE hD hA hS hl hin
  have hl : lv_has ls 4 [(0, .ref a), (1, .int h), (2, .int x), (3, .int (-(nI z)))] := hl
  obtain ⟨hx, hb, hml, hown, hts⟩ := id hF
  have loop_11 : ∀ (fuel : Nat) (i : Nat), (i ≤ z) → z - i < fuel → ∀ (ls : Array Slot) (H : Heap) (locs : List Loc), va_P D vwCl (bFO9 k a b (im ((zrs (apc (apd (f, n) 0) 46) i)).2) ++ bAB k b 15 (((zrs (apc (apd (f, n) 0) 46) i)).1)) H → va_D A (bFO9 k a b (im ((zrs (apc (apd (f, n) 0) 46) i)).2) ++ bAB k b 15 (((zrs (apc (apd (f, n) 0) 46) i)).1)) → va_S A s9.heap H locs → lv_has ls 4 [(0, .ref a), (1, .int h), (2, .int x), (3, .int (-(nI (z - i))))] → W p9 l9 e9 ({ frames := 3, cells := 0, slots := 0, locals := 84 }) s9 m9 ([.ref a, .int h, .int x, .int (-(nI z))] : List Value).toArray bl9 me9 c9 H locs (0) (0) (MQ bl9 (va_Qi (fun (r : Int32) (u9 : Unit) => r = 0) (TB D k (A) (fun u9 : Unit => bFO9 k a b (im (tc2 (f, n) h x z).2) ++ bAB k b 15 ((tc2 (f, n) h x z).1))) (A)) ([.ref a, .int h, .int x, .int (-(nI z))] : List Value).toArray s9 (0) (0) A) (F0 m9 11 ls []) := by
    intro fuel
    induction fuel with
    | zero => intro i hi hfuel_11; exact absurd hfuel_11 (Nat.not_lt_zero _)
    | succ fuel ih_11 =>
      intro i hi hfuel_11 ls H locs hP hD hS hl
      refine lv_iload_n hx hb dJx40b00_toChars2_cabcc_11 rfl (lv_at hl 3 rfl) ?_
      refine lv_if_ge (tgt := 26) hx hb dJx40b00_toChars2_cabcc_12 (by decide) (fun c_1 => ?_) (fun c_1 => ?_)
      · skip
        have c_1 : z - i = 0 := (ng0 hz hi).mp c_1
        refine lv_aload_n hx hb dJx40b00_toChars2_cabcc_26 rfl (lv_at hl 0 rfl) ?_
        refine lv_iload_n hx hb dJx40b00_toChars2_cabcc_27 rfl (lv_at hl 1 rfl) ?_
        have hFc := tFree hD hS hA
        refine va_callv (va_runV (As := [.int h]) (rest := []) hF (t_Jx40b00_appendDigit_d00df l9 hl9 E D k H.size a b (((zrs (apc (apd (f, n) 0) 46) i)).2) (((zrs (apc (apd (f, n) 0) 46) i)).1) h (by rw [zrs_n]; show n + 1 + 1 + i < 15; omega)) (cwV 1 hts gJx40b00_toChars2_cabcc_Jx40b00_appendDigit_d00df rfl rfl rfl (by decide +kernel) ⟨Nat.le_of_ble_eq_true rfl, Nat.le_of_ble_eq_true rfl⟩) (tPreV (rcv hK hP 0 3 rfl rfl) hK hE hS hA hP hD) rfl rfl hl.1 rfl (lv_room (Nat.le_of_ble_eq_true rfl)) dJx40b00_toChars2_cabcc_28 ⟨(Nat.le_of_ble_eq_true rfl), (Nat.le_of_ble_eq_true rfl)⟩) hS (fun q _ h => hFc q h) hFc (fun u_4 t9 H1 locs ht hvm hw_5 hB hz1 hk1 hS => ?_)
        obtain ⟨hP, -, hD⟩ := hB
        rw [ht] at hP
        replace hP : va_P D vwCl (bFO9 k a b (im (apd ((((zrs (apc (apd (f, n) 0) 46) i)).1), (((zrs (apc (apd (f, n) 0) 46) i)).2)) h).2) ++ bAB k b 15 ((apd ((((zrs (apc (apd (f, n) 0) 46) i)).1), (((zrs (apc (apd (f, n) 0) 46) i)).2)) h).1)) H1 := hP
        replace hD : va_D A (bFO9 k a b (im (apd ((((zrs (apc (apd (f, n) 0) 46) i)).1), (((zrs (apc (apd (f, n) 0) 46) i)).2)) h).2) ++ bAB k b 15 ((apd ((((zrs (apc (apd (f, n) 0) 46) i)).1), (((zrs (apc (apd (f, n) 0) 46) i)).2)) h).1)) := hD.weaken (fun _ q _ h => hFc q.1 h)
        replace hw_5 : True := hw_5
        clear hz1 hvm hFc hk1 ht
        clear t9
        generalize H1 = H at hP hS ⊢
        refine lv_aload_n hx hb dJx40b00_toChars2_cabcc_31 rfl (lv_at hl 0 rfl) ?_
        refine lv_iload_n hx hb dJx40b00_toChars2_cabcc_32 rfl (lv_at hl 2 rfl) ?_
        have hFc := tFree hD hS hA
        refine va_callv (va_runV (As := [.int x]) (rest := []) hF (t_Jx40b00_append8Digits_d00df l9 hl9 E D k H.size a b ((apd ((((zrs (apc (apd (f, n) 0) 46) i)).1), (((zrs (apc (apd (f, n) 0) 46) i)).2)) h).2) ((apd ((((zrs (apc (apd (f, n) 0) 46) i)).1), (((zrs (apc (apd (f, n) 0) 46) i)).2)) h).1) x (by show (zrs (apc (apd (f, n) 0) 46) i).2 + 1 + 8 ≤ 15; rw [zrs_n]; show n + 1 + 1 + i + 1 + 8 ≤ 15; omega)) (cwV 1 hts gJx40b00_toChars2_cabcc_Jx40b00_append8Digits_d00df rfl rfl rfl (by decide +kernel) ⟨Nat.le_of_ble_eq_true rfl, Nat.le_of_ble_eq_true rfl⟩) (tPreV (rcv hK hP 0 3 rfl rfl) hK hE hS hA hP hD) rfl rfl hl.1 rfl (lv_room (Nat.le_of_ble_eq_true rfl)) dJx40b00_toChars2_cabcc_33 ⟨(Nat.le_of_ble_eq_true rfl), (Nat.le_of_ble_eq_true rfl)⟩) hS (fun q _ h => hFc q h) hFc (fun u_8 t9 H1 locs ht hvm hw_9 hB hz1 hk1 hS => ?_)
        obtain ⟨hP, -, hD⟩ := hB
        rw [ht] at hP
        replace hP : va_P D vwCl (bFO9 k a b (im ((dgs (((apd ((((zrs (apc (apd (f, n) 0) 46) i)).1), (((zrs (apc (apd (f, n) 0) 46) i)).2)) h).1), ((apd ((((zrs (apc (apd (f, n) 0) 46) i)).1), (((zrs (apc (apd (f, n) 0) 46) i)).2)) h).2)) (yF x) 8).1).2) ++ bAB k b 15 (((dgs (((apd ((((zrs (apc (apd (f, n) 0) 46) i)).1), (((zrs (apc (apd (f, n) 0) 46) i)).2)) h).1), ((apd ((((zrs (apc (apd (f, n) 0) 46) i)).1), (((zrs (apc (apd (f, n) 0) 46) i)).2)) h).2)) (yF x) 8).1).1)) H1 := hP
        replace hD : va_D A (bFO9 k a b (im ((dgs (((apd ((((zrs (apc (apd (f, n) 0) 46) i)).1), (((zrs (apc (apd (f, n) 0) 46) i)).2)) h).1), ((apd ((((zrs (apc (apd (f, n) 0) 46) i)).1), (((zrs (apc (apd (f, n) 0) 46) i)).2)) h).2)) (yF x) 8).1).2) ++ bAB k b 15 (((dgs (((apd ((((zrs (apc (apd (f, n) 0) 46) i)).1), (((zrs (apc (apd (f, n) 0) 46) i)).2)) h).1), ((apd ((((zrs (apc (apd (f, n) 0) 46) i)).1), (((zrs (apc (apd (f, n) 0) 46) i)).2)) h).2)) (yF x) 8).1).1)) := hD.weaken (fun _ q _ h => hFc q.1 h)
        replace hw_9 : True := hw_9
        clear hz1 hvm hFc hk1 ht
        clear t9
        generalize H1 = H at hP hS ⊢
        refine lv_aload_n hx hb dJx40b00_toChars2_cabcc_36 rfl (lv_at hl 0 rfl) ?_
        have hFc := tFree hD hS hA
        refine va_callv (va_runV (As := []) (rest := []) hF (t_Jx40b00_removeTrailingZeroes_da8c8 l9 hl9 E D k H.size a b (((dgs (((apd ((((zrs (apc (apd (f, n) 0) 46) i)).1), (((zrs (apc (apd (f, n) 0) 46) i)).2)) h).1), ((apd ((((zrs (apc (apd (f, n) 0) 46) i)).1), (((zrs (apc (apd (f, n) 0) 46) i)).2)) h).2)) (yF x) 8).1).2) (((dgs (((apd ((((zrs (apc (apd (f, n) 0) 46) i)).1), (((zrs (apc (apd (f, n) 0) 46) i)).2)) h).1), ((apd ((((zrs (apc (apd (f, n) 0) 46) i)).1), (((zrs (apc (apd (f, n) 0) 46) i)).2)) h).2)) (yF x) 8).1).1) (n + 1) t2_dot (by rw [t2_n]; omega) (by rw [t2_n]; omega)) (cwV 0 hts gJx40b00_toChars2_cabcc_Jx40b00_removeTrailingZeroes_da8c8 rfl rfl rfl (by decide +kernel) ⟨Nat.le_of_ble_eq_true rfl, Nat.le_of_ble_eq_true rfl⟩) (tPreV (rcv hK hP 0 3 rfl rfl) hK hE hS hA hP hD) rfl rfl hl.1 rfl (lv_room (Nat.le_of_ble_eq_true rfl)) dJx40b00_toChars2_cabcc_37 ⟨(Nat.le_of_ble_eq_true rfl), (Nat.le_of_ble_eq_true rfl)⟩) hS (fun q _ h => hFc q h) hFc (fun u_12 t9 H1 locs ht hvm hw_13 hB hz1 hk1 hS => ?_)
        obtain ⟨hP, -, hD⟩ := hB
        rw [ht] at hP
        replace hP : va_P D vwCl (bFO9 k a b (im (rzF ((((dgs (((apd ((((zrs (apc (apd (f, n) 0) 46) i)).1), (((zrs (apc (apd (f, n) 0) 46) i)).2)) h).1), ((apd ((((zrs (apc (apd (f, n) 0) 46) i)).1), (((zrs (apc (apd (f, n) 0) 46) i)).2)) h).2)) (yF x) 8).1).1), (((dgs (((apd ((((zrs (apc (apd (f, n) 0) 46) i)).1), (((zrs (apc (apd (f, n) 0) 46) i)).2)) h).1), ((apd ((((zrs (apc (apd (f, n) 0) 46) i)).1), (((zrs (apc (apd (f, n) 0) 46) i)).2)) h).2)) (yF x) 8).1).2))).2) ++ bAB k b 15 ((rzF ((((dgs (((apd ((((zrs (apc (apd (f, n) 0) 46) i)).1), (((zrs (apc (apd (f, n) 0) 46) i)).2)) h).1), ((apd ((((zrs (apc (apd (f, n) 0) 46) i)).1), (((zrs (apc (apd (f, n) 0) 46) i)).2)) h).2)) (yF x) 8).1).1), (((dgs (((apd ((((zrs (apc (apd (f, n) 0) 46) i)).1), (((zrs (apc (apd (f, n) 0) 46) i)).2)) h).1), ((apd ((((zrs (apc (apd (f, n) 0) 46) i)).1), (((zrs (apc (apd (f, n) 0) 46) i)).2)) h).2)) (yF x) 8).1).2))).1)) H1 := hP
        replace hD : va_D A (bFO9 k a b (im (rzF ((((dgs (((apd ((((zrs (apc (apd (f, n) 0) 46) i)).1), (((zrs (apc (apd (f, n) 0) 46) i)).2)) h).1), ((apd ((((zrs (apc (apd (f, n) 0) 46) i)).1), (((zrs (apc (apd (f, n) 0) 46) i)).2)) h).2)) (yF x) 8).1).1), (((dgs (((apd ((((zrs (apc (apd (f, n) 0) 46) i)).1), (((zrs (apc (apd (f, n) 0) 46) i)).2)) h).1), ((apd ((((zrs (apc (apd (f, n) 0) 46) i)).1), (((zrs (apc (apd (f, n) 0) 46) i)).2)) h).2)) (yF x) 8).1).2))).2) ++ bAB k b 15 ((rzF ((((dgs (((apd ((((zrs (apc (apd (f, n) 0) 46) i)).1), (((zrs (apc (apd (f, n) 0) 46) i)).2)) h).1), ((apd ((((zrs (apc (apd (f, n) 0) 46) i)).1), (((zrs (apc (apd (f, n) 0) 46) i)).2)) h).2)) (yF x) 8).1).1), (((dgs (((apd ((((zrs (apc (apd (f, n) 0) 46) i)).1), (((zrs (apc (apd (f, n) 0) 46) i)).2)) h).1), ((apd ((((zrs (apc (apd (f, n) 0) 46) i)).1), (((zrs (apc (apd (f, n) 0) 46) i)).2)) h).2)) (yF x) 8).1).2))).1)) := hD.weaken (fun _ q _ h => hFc q.1 h)
        replace hw_13 : True := hw_13
        clear hz1 hvm hFc hk1 ht
        clear t9
        generalize H1 = H at hP hS ⊢
        refine lv_iconst (v := 0) hx hb dJx40b00_toChars2_cabcc_40 (by decide) ?_
        have e_14 : (im (rzF ((((dgs (((apd ((((zrs (apc (apd (f, n) 0) 46) i)).1), (((zrs (apc (apd (f, n) 0) 46) i)).2)) h).1), ((apd ((((zrs (apc (apd (f, n) 0) 46) i)).1), (((zrs (apc (apd (f, n) 0) 46) i)).2)) h).2)) (yF x) 8).1).1), (((dgs (((apd ((((zrs (apc (apd (f, n) 0) 46) i)).1), (((zrs (apc (apd (f, n) 0) 46) i)).2)) h).1), ((apd ((((zrs (apc (apd (f, n) 0) 46) i)).1), (((zrs (apc (apd (f, n) 0) 46) i)).2)) h).2)) (yF x) 8).1).2))).2 : Int32) = im (tc2 (f, n) h x z).2 := by first | (with_reducible rfl) | (rw [show i = z by omega]; rfl)
        have hP := Eq.mp (congrArg (fun z9 => va_P D vwCl (bFO9 k a b z9 ++ bAB k b 15 ((rzF ((((dgs (((apd ((((zrs (apc (apd (f, n) 0) 46) i)).1), (((zrs (apc (apd (f, n) 0) 46) i)).2)) h).1), ((apd ((((zrs (apc (apd (f, n) 0) 46) i)).1), (((zrs (apc (apd (f, n) 0) 46) i)).2)) h).2)) (yF x) 8).1).1), (((dgs (((apd ((((zrs (apc (apd (f, n) 0) 46) i)).1), (((zrs (apc (apd (f, n) 0) 46) i)).2)) h).1), ((apd ((((zrs (apc (apd (f, n) 0) 46) i)).1), (((zrs (apc (apd (f, n) 0) 46) i)).2)) h).2)) (yF x) 8).1).2))).1)) H) e_14) hP
        have hD := Eq.mp (congrArg (fun z9 => va_D A (bFO9 k a b z9 ++ bAB k b 15 ((rzF ((((dgs (((apd ((((zrs (apc (apd (f, n) 0) 46) i)).1), (((zrs (apc (apd (f, n) 0) 46) i)).2)) h).1), ((apd ((((zrs (apc (apd (f, n) 0) 46) i)).1), (((zrs (apc (apd (f, n) 0) 46) i)).2)) h).2)) (yF x) 8).1).1), (((dgs (((apd ((((zrs (apc (apd (f, n) 0) 46) i)).1), (((zrs (apc (apd (f, n) 0) 46) i)).2)) h).1), ((apd ((((zrs (apc (apd (f, n) 0) 46) i)).1), (((zrs (apc (apd (f, n) 0) 46) i)).2)) h).2)) (yF x) 8).1).2))).1))) e_14) hD
        have e_15 : ((rzF ((((dgs (((apd ((((zrs (apc (apd (f, n) 0) 46) i)).1), (((zrs (apc (apd (f, n) 0) 46) i)).2)) h).1), ((apd ((((zrs (apc (apd (f, n) 0) 46) i)).1), (((zrs (apc (apd (f, n) 0) 46) i)).2)) h).2)) (yF x) 8).1).1), (((dgs (((apd ((((zrs (apc (apd (f, n) 0) 46) i)).1), (((zrs (apc (apd (f, n) 0) 46) i)).2)) h).1), ((apd ((((zrs (apc (apd (f, n) 0) 46) i)).1), (((zrs (apc (apd (f, n) 0) 46) i)).2)) h).2)) (yF x) 8).1).2))).1 : Nat → Int32) = (tc2 (f, n) h x z).1 := by first | (with_reducible rfl) | (rw [show i = z by omega]; rfl)
        have hP := Eq.mp (congrArg (fun z9 => va_P D vwCl (bFO9 k a b (im (tc2 (f, n) h x z).2) ++ bAB k b 15 z9) H) e_15) hP
        have hD := Eq.mp (congrArg (fun z9 => va_D A (bFO9 k a b (im (tc2 (f, n) h x z).2) ++ bAB k b 15 z9)) e_15) hD
        exact W.iret (v := 0) hx hb hr (fun t9 ht hW => ⟨⟨_, (), rfl, (by rfl), ⟨by rw [ht]; exact hP, va_K.moved hW.alike hK, hD⟩⟩, hS.F ht⟩) hS.2.2 dJx40b00_toChars2_cabcc_41 hlocks
      · skip
        have c_1 : ¬ z - i = 0 := fun h9 => c_1 ((ng0 hz hi).mpr h9)
        refine lv_aload_n hx hb dJx40b00_toChars2_cabcc_15 rfl (lv_at hl 0 rfl) ?_
        refine lv_iconst (v := 0) hx hb dJx40b00_toChars2_cabcc_16 (by decide) ?_
        have hFc := tFree hD hS hA
        refine va_callv (va_runV (As := [.int 0]) (rest := []) hF (t_Jx40b00_appendDigit_d00df l9 hl9 E D k H.size a b (((zrs (apc (apd (f, n) 0) 46) i)).2) (((zrs (apc (apd (f, n) 0) 46) i)).1) 0 (by rw [zrs_n]; show n + 1 + 1 + i < 15; omega)) (cwV 1 hts gJx40b00_toChars2_cabcc_Jx40b00_appendDigit_d00df rfl rfl rfl (by decide +kernel) ⟨Nat.le_of_ble_eq_true rfl, Nat.le_of_ble_eq_true rfl⟩) (tPreV (rcv hK hP 0 3 rfl rfl) hK hE hS hA hP hD) rfl rfl hl.1 rfl (lv_room (Nat.le_of_ble_eq_true rfl)) dJx40b00_toChars2_cabcc_17 ⟨(Nat.le_of_ble_eq_true rfl), (Nat.le_of_ble_eq_true rfl)⟩) hS (fun q _ h => hFc q h) hFc (fun u_18 t9 H1 locs ht hvm hw_19 hB hz1 hk1 hS => ?_)
        obtain ⟨hP, -, hD⟩ := hB
        rw [ht] at hP
        replace hP : va_P D vwCl (bFO9 k a b (im (apd ((((zrs (apc (apd (f, n) 0) 46) i)).1), (((zrs (apc (apd (f, n) 0) 46) i)).2)) 0).2) ++ bAB k b 15 ((apd ((((zrs (apc (apd (f, n) 0) 46) i)).1), (((zrs (apc (apd (f, n) 0) 46) i)).2)) 0).1)) H1 := hP
        replace hD : va_D A (bFO9 k a b (im (apd ((((zrs (apc (apd (f, n) 0) 46) i)).1), (((zrs (apc (apd (f, n) 0) 46) i)).2)) 0).2) ++ bAB k b 15 ((apd ((((zrs (apc (apd (f, n) 0) 46) i)).1), (((zrs (apc (apd (f, n) 0) 46) i)).2)) 0).1)) := hD.weaken (fun _ q _ h => hFc q.1 h)
        replace hw_19 : True := hw_19
        clear hz1 hvm hFc hk1 ht
        clear t9
        generalize H1 = H at hP hS ⊢
        refine lv_iinc (v := (-(nI (z - i))) + 1) (lv' := [(3, .int ((-(nI (z - i))) + 1)), (0, .ref a), (1, .int h), (2, .int x)]) hx hb dJx40b00_toChars2_cabcc_20 hl (k := 3) rfl (rfl) (by decide) rfl (fun ls hl => ?_)
        refine lv_goto (tgt := 11) hx hb dJx40b00_toChars2_cabcc_23 (by decide) ?_
        have e_20 : ((-(nI (z - i))) + 1 : Int32) = -(nI (z - (i + 1))) := by first | (with_reducible rfl) | (exact ng1 hz (by omega))
        have e_21 : (im (apd ((((zrs (apc (apd (f, n) 0) 46) i)).1), (((zrs (apc (apd (f, n) 0) 46) i)).2)) 0).2 : Int32) = im ((zrs (apc (apd (f, n) 0) 46) (i + 1))).2 := by first | (with_reducible rfl) | (rfl)
        have hP := Eq.mp (congrArg (fun z9 => va_P D vwCl (bFO9 k a b z9 ++ bAB k b 15 ((apd ((((zrs (apc (apd (f, n) 0) 46) i)).1), (((zrs (apc (apd (f, n) 0) 46) i)).2)) 0).1)) H) e_21) hP
        have hD := Eq.mp (congrArg (fun z9 => va_D A (bFO9 k a b z9 ++ bAB k b 15 ((apd ((((zrs (apc (apd (f, n) 0) 46) i)).1), (((zrs (apc (apd (f, n) 0) 46) i)).2)) 0).1))) e_21) hD
        have e_22 : ((apd ((((zrs (apc (apd (f, n) 0) 46) i)).1), (((zrs (apc (apd (f, n) 0) 46) i)).2)) 0).1 : Nat → Int32) = ((zrs (apc (apd (f, n) 0) 46) (i + 1))).1 := by first | (with_reducible rfl) | (rfl)
        have hP := Eq.mp (congrArg (fun z9 => va_P D vwCl (bFO9 k a b (im ((zrs (apc (apd (f, n) 0) 46) (i + 1))).2) ++ bAB k b 15 z9) H) e_22) hP
        have hD := Eq.mp (congrArg (fun z9 => va_D A (bFO9 k a b (im ((zrs (apc (apd (f, n) 0) 46) (i + 1))).2) ++ bAB k b 15 z9)) e_22) hD
        exact ih_11 (i + 1) (by omega) (by omega) ls _ _ hP hD hS (lv_one hl 1 rfl rfl (lv_one hl 2 rfl rfl (lv_one hl 3 rfl rfl (lv_one hl 0 rfl (congrArg Value.int e_20) (lv_nil hl)))))
  refine lv_aload_n hx hb dJx40b00_toChars2_cabcc_0 rfl (lv_at hl 0 rfl) ?_
  refine lv_iconst (v := 0) hx hb dJx40b00_toChars2_cabcc_1 (by decide) ?_
  have hFc := tFree hD hS hA
  refine va_callv (va_runV (As := [.int 0]) (rest := []) hF (t_Jx40b00_appendDigit_d00df l9 hl9 E D k H.size a b n f 0 (by omega)) (cwV 1 hts gJx40b00_toChars2_cabcc_Jx40b00_appendDigit_d00df rfl rfl rfl (by decide +kernel) ⟨Nat.le_of_ble_eq_true rfl, Nat.le_of_ble_eq_true rfl⟩) (tPreV (rcv hK hP 0 3 rfl rfl) hK hE hS hA hP hD) rfl rfl hl.1 rfl (lv_room (Nat.le_of_ble_eq_true rfl)) dJx40b00_toChars2_cabcc_2 ⟨(Nat.le_of_ble_eq_true rfl), (Nat.le_of_ble_eq_true rfl)⟩) hS (fun q _ h => hFc q h) hFc (fun u_25 t9 H1 locs ht hvm hw_26 hB hz1 hk1 hS => ?_)
  obtain ⟨hP, -, hD⟩ := hB
  rw [ht] at hP
  replace hP : va_P D vwCl (bFO9 k a b (im (apd (f, n) 0).2) ++ bAB k b 15 ((apd (f, n) 0).1)) H1 := hP
  replace hD : va_D A (bFO9 k a b (im (apd (f, n) 0).2) ++ bAB k b 15 ((apd (f, n) 0).1)) := hD.weaken (fun _ q _ h => hFc q.1 h)
  replace hw_26 : True := hw_26
  clear hz1 hvm hFc hk1 ht
  clear t9
  generalize H1 = H at hP hS ⊢
  refine lv_aload_n hx hb dJx40b00_toChars2_cabcc_5 rfl (lv_at hl 0 rfl) ?_
  refine lv_bipush (v := 46) hx hb dJx40b00_toChars2_cabcc_6 (by decide) ?_
  have hFc := tFree hD hS hA
  refine va_callv (va_runV (As := [.int 46]) (rest := []) hF (t_Jx40b00_append_d00df l9 hl9 E D k H.size a b ((apd (f, n) 0).2) ((apd (f, n) 0).1) 46 (by show n + 1 < 15; omega)) (cwV 1 hts gJx40b00_toChars2_cabcc_Jx40b00_append_d00df rfl rfl rfl (by decide +kernel) ⟨Nat.le_of_ble_eq_true rfl, Nat.le_of_ble_eq_true rfl⟩) (tPreV (rcv hK hP 0 3 rfl rfl) hK hE hS hA hP hD) rfl rfl hl.1 rfl (lv_room (Nat.le_of_ble_eq_true rfl)) dJx40b00_toChars2_cabcc_8 ⟨(Nat.le_of_ble_eq_true rfl), (Nat.le_of_ble_eq_true rfl)⟩) hS (fun q _ h => hFc q h) hFc (fun u_29 t9 H1 locs ht hvm hw_30 hB hz1 hk1 hS => ?_)
  obtain ⟨hP, -, hD⟩ := hB
  rw [ht] at hP
  replace hP : va_P D vwCl (bFO9 k a b (im (apc (((apd (f, n) 0).1), ((apd (f, n) 0).2)) 46).2) ++ bAB k b 15 ((apc (((apd (f, n) 0).1), ((apd (f, n) 0).2)) 46).1)) H1 := hP
  replace hD : va_D A (bFO9 k a b (im (apc (((apd (f, n) 0).1), ((apd (f, n) 0).2)) 46).2) ++ bAB k b 15 ((apc (((apd (f, n) 0).1), ((apd (f, n) 0).2)) 46).1)) := hD.weaken (fun _ q _ h => hFc q.1 h)
  replace hw_30 : True := hw_30
  clear hz1 hvm hFc hk1 ht
  clear t9
  generalize H1 = H at hP hS ⊢
  have e_31 : (-(nI z) : Int32) = -(nI (z - 0)) := by first | (with_reducible rfl) | (rfl)
  have e_32 : (im (apc (((apd (f, n) 0).1), ((apd (f, n) 0).2)) 46).2 : Int32) = im ((zrs (apc (apd (f, n) 0) 46) 0)).2 := by first | (with_reducible rfl) | (rfl)
  have hP := Eq.mp (congrArg (fun z9 => va_P D vwCl (bFO9 k a b z9 ++ bAB k b 15 ((apc (((apd (f, n) 0).1), ((apd (f, n) 0).2)) 46).1)) H) e_32) hP
  have hD := Eq.mp (congrArg (fun z9 => va_D A (bFO9 k a b z9 ++ bAB k b 15 ((apc (((apd (f, n) 0).1), ((apd (f, n) 0).2)) 46).1))) e_32) hD
  have e_33 : ((apc (((apd (f, n) 0).1), ((apd (f, n) 0).2)) 46).1 : Nat → Int32) = ((zrs (apc (apd (f, n) 0) 46) 0)).1 := by first | (with_reducible rfl) | (rfl)
  have hP := Eq.mp (congrArg (fun z9 => va_P D vwCl (bFO9 k a b (im ((zrs (apc (apd (f, n) 0) 46) 0)).2) ++ bAB k b 15 z9) H) e_33) hP
  have hD := Eq.mp (congrArg (fun z9 => va_D A (bFO9 k a b (im ((zrs (apc (apd (f, n) 0) 46) 0)).2) ++ bAB k b 15 z9)) e_33) hD
  exact loop_11 ((z - 0) + 1) 0 (by omega) (Nat.lt_succ_self _) ls _ _ hP hD hS (lv_one hl 0 rfl rfl (lv_one hl 1 rfl rfl (lv_one hl 2 rfl rfl (lv_one hl 3 rfl (congrArg Value.int e_31) (lv_nil hl)))))


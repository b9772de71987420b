/-! A float as a text: what FloatToDecimal does, as functions. -/
/-- the index that stands in the object: n letters are laid -/
def im (n : Nat) : Int32 := nI n + (-1)
theorem im_1 (n : Nat) : im n + 1 = nI n := by
  unfold im
  rw [Int32.add_assoc, show (-1 : Int32) + 1 = 0 by decide, Int32.add_zero]
theorem im_s (n : Nat) : nI n = im (n + 1) := (pk_m1 n).symm
theorem im_0 : (-1 : Int32) = im 0 := by decide
abbrev b8 (x : Int32) : Int32 := x.toInt8.toInt32
abbrev FS : Type := (Nat → Int32) × Nat
def apc (s : FS) (c : Int32) : FS := (upd s.1 s.2 (b8 c), s.2 + 1)
def apd (s : FS) (d : Int32) : FS := apc s (48 + d)
def hi10 (y : Int32) : Int32 := ((10 * y).toUInt32 >>> ((28 : Int32).toUInt32 &&& Int32.toUInt32 31)).toInt32
def lo10 (y : Int32) : Int32 := (10 * y) &&& 268435455
def dgs (s : FS) (y : Int32) : Nat → FS × Int32 := up (fun _ p => (apd p.1 (hi10 p.2), lo10 p.2)) (s, y)
theorem dgs_s (s : FS) (y : Int32) (k : Nat) : dgs s y (k + 1) = (apd (dgs s y k).1 (hi10 (dgs s y k).2), lo10 (dgs s y k).2) := rfl
theorem dgs_n (s : FS) (y : Int32) (k : Nat) : (dgs s y k).1.2 = s.2 + k := by
  induction k with
  | zero => rfl
  | succ k ih => rw [dgs_s]; show (dgs s y k).1.2 + 1 = _; rw [ih]; rfl
/-- the last place that isn't '0', from i down -/
def rzN (f : Nat → Int32) : Nat → Nat
  | 0 => 0
  | i + 1 => if f (i + 1) = 48 then rzN f i else i + 1
def rzF (s : FS) : FS := (s.1, if s.1 (rzN s.1 (s.2 - 1)) = 46 then rzN s.1 (s.2 - 1) + 2 else rzN s.1 (s.2 - 1) + 1)
theorem rzN_le (f : Nat → Int32) (i : Nat) : rzN f i ≤ i := by
  induction i with
  | zero => exact Nat.le_refl 0
  | succ i ih => unfold rzN; split <;> omega
theorem rzN_ge (f : Nat → Int32) {p : Nat} (h : f p = 46) : ∀ i, p ≤ i → p ≤ rzN f i := by
  intro i
  induction i with
  | zero => intro h1; unfold rzN; exact h1
  | succ i ih =>
    intro h1
    unfold rzN
    split
    · rename_i h2
      refine ih ?_
      apply Classical.byContradiction
      intro q
      have : p = i + 1 := by omega
      rw [this, h2] at h
      exact absurd h (by decide)
    · exact h1
theorem rzN_step {f : Nat → Int32} {i : Nat} (h : f (i + 1) = 48) : rzN f (i + 1) = rzN f i := by
  show (if f (i + 1) = 48 then rzN f i else i + 1) = _
  rw [if_pos h]
theorem rzN_stop {f : Nat → Int32} {i : Nat} (h : ¬ f i = 48) : rzN f i = i := by
  cases i with
  | zero => rfl
  | succ i =>
    show (if f (i + 1) = 48 then rzN f i else i + 1) = _
    rw [if_neg h]
/-- an exponent behind the digits -/
def exS (s : FS) (e : Int32) : FS := if e < 10 then apd s e else apd (apd s (((e * 103).toUInt32 >>> ((10 : Int32).toUInt32 &&& Int32.toUInt32 31)).toInt32)) (e - 10 * (((e * 103).toUInt32 >>> ((10 : Int32).toUInt32 &&& Int32.toUInt32 31)).toInt32))
def exF (s : FS) (e : Int32) : FS := if e < 0 then exS (apc (apc s 69) 45) (-e) else exS (apc s 69) e

def mulH (x y : Int64) : Int64 := (((x >>> (Int32.toInt64 32 &&& 63)) * (y >>> (Int32.toInt64 32 &&& 63))) + ((((x >>> (Int32.toInt64 32 &&& 63)) * (y &&& 4294967295)) + ((Int64.toUInt64 ((x &&& 4294967295) * (y &&& 4294967295)) >>> (Int64.toUInt64 (Int32.toInt64 32) &&& Int64.toUInt64 63)).toInt64)) >>> (Int32.toInt64 32 &&& 63))) + ((((((x >>> (Int32.toInt64 32 &&& 63)) * (y &&& 4294967295)) + ((Int64.toUInt64 ((x &&& 4294967295) * (y &&& 4294967295)) >>> (Int64.toUInt64 (Int32.toInt64 32) &&& Int64.toUInt64 63)).toInt64)) &&& 4294967295) + ((x &&& 4294967295) * (y >>> (Int32.toInt64 32 &&& 63)))) >>> (Int32.toInt64 32 &&& 63))

set_option maxHeartbeats 4000000 in
set_option maxRecDepth 100000 in
theorem t_J9_multiplyHigh_f86c9 (l9 : Launch) (hl9 : l9.stackTraces = false) (E : EK) (D : va_G) (k : Nat → ClassId) (sz : Nat) (x y : Int64) : Met l9 yJ9_multiplyHigh_f86c9 wsJ9_multiplyHigh_f86c9 ({ frames := 0, cells := 0, slots := 0, locals := 0 }) (TPc E D k [.long x, .long y] ([]) sz) (va_Ql (fun (r : Int64) (u9 : Unit) => r = mulH x y) (TB D k (va_A ([]) sz) (fun u9 : Unit => [])) (va_A ([]) sz)) (0) (0) (va_A ([]) sz) := by
  refine tMetF (y := yJ9_multiplyHigh_f86c9) (cc := cJ9_multiplyHigh_f86c9) (maxL := 20) (ret := (some .long)) (Qc := fun A => va_Ql (fun (r : Int64) (u9 : Unit) => r = mulH x y) (TB D k (A) (fun u9 : Unit => [])) (A)) [.long x, .long y] (by decide +kernel) rfl (Nat.le_of_ble_eq_true rfl) ?_
  intro p9 e9 s9 m9 bl9 me9 c9 ls A H hF hr hlocks hP hK hE hD hA hS hl hin
  have hl : lv_has ls 20 [(0, .long x), (2, .long y)] := hl
  obtain ⟨hx, hb, hml, hown, hts⟩ := id hF
  have k_constantLong_138 : (Cond.constantLong RJ9 138 (4294967295)).before _ s9 = true := hts (.constantLong RJ9 138 (4294967295)) (by decide +kernel)
  refine lv_lload_n hx hb dJ9_multiplyHigh_f86c9_0 rfl (lv_at hl 0 rfl) ?_
  refine lv_bipush (v := 32) hx hb dJ9_multiplyHigh_f86c9_1 (by decide) ?_
  refine lv_lshr (v := x >>> (Int32.toInt64 32 &&& 63)) hx hb dJ9_multiplyHigh_f86c9_3 rfl ?_
  refine lv_lstore (lv' := [(4, .long (x >>> (Int32.toInt64 32 &&& 63))), (0, .long x), (2, .long y)]) hx hb dJ9_multiplyHigh_f86c9_4 hl (by decide) rfl (fun ls hl => ?_)
  refine lv_lload_n hx hb dJ9_multiplyHigh_f86c9_6 rfl (lv_at hl 1 rfl) ?_
  refine lv_ldc2 hx hb hown k_constantLong_138 dJ9_multiplyHigh_f86c9_7 ?_
  refine lv_land hx hb dJ9_multiplyHigh_f86c9_10 ?_
  refine lv_lstore (lv' := [(6, .long (x &&& 4294967295)), (4, .long (x >>> (Int32.toInt64 32 &&& 63))), (0, .long x), (2, .long y)]) hx hb dJ9_multiplyHigh_f86c9_11 hl (by decide) rfl (fun ls hl => ?_)
  refine lv_lload_n hx hb dJ9_multiplyHigh_f86c9_13 rfl (lv_at hl 3 rfl) ?_
  refine lv_bipush (v := 32) hx hb dJ9_multiplyHigh_f86c9_14 (by decide) ?_
  refine lv_lshr (v := y >>> (Int32.toInt64 32 &&& 63)) hx hb dJ9_multiplyHigh_f86c9_16 rfl ?_
  refine lv_lstore (lv' := [(8, .long (y >>> (Int32.toInt64 32 &&& 63))), (6, .long (x &&& 4294967295)), (4, .long (x >>> (Int32.toInt64 32 &&& 63))), (0, .long x), (2, .long y)]) hx hb dJ9_multiplyHigh_f86c9_17 hl (by decide) rfl (fun ls hl => ?_)
  refine lv_lload_n hx hb dJ9_multiplyHigh_f86c9_19 rfl (lv_at hl 4 rfl) ?_
  refine lv_ldc2 hx hb hown k_constantLong_138 dJ9_multiplyHigh_f86c9_20 ?_
  refine lv_land hx hb dJ9_multiplyHigh_f86c9_23 ?_
  refine lv_lstore (lv' := [(10, .long (y &&& 4294967295)), (8, .long (y >>> (Int32.toInt64 32 &&& 63))), (6, .long (x &&& 4294967295)), (4, .long (x >>> (Int32.toInt64 32 &&& 63))), (0, .long x), (2, .long y)]) hx hb dJ9_multiplyHigh_f86c9_24 hl (by decide) rfl (fun ls hl => ?_)
  refine lv_lload hx hb dJ9_multiplyHigh_f86c9_26 (lv_at hl 2 rfl) ?_
  refine lv_lload hx hb dJ9_multiplyHigh_f86c9_28 (lv_at hl 0 rfl) ?_
  refine lv_lmul hx hb dJ9_multiplyHigh_f86c9_30 ?_
  refine lv_lstore (lv' := [(12, .long ((x &&& 4294967295) * (y &&& 4294967295))), (10, .long (y &&& 4294967295)), (8, .long (y >>> (Int32.toInt64 32 &&& 63))), (6, .long (x &&& 4294967295)), (4, .long (x >>> (Int32.toInt64 32 &&& 63))), (0, .long x), (2, .long y)]) hx hb dJ9_multiplyHigh_f86c9_31 hl (by decide) rfl (fun ls hl => ?_)
  refine lv_lload hx hb dJ9_multiplyHigh_f86c9_33 (lv_at hl 4 rfl) ?_
  refine lv_lload hx hb dJ9_multiplyHigh_f86c9_35 (lv_at hl 1 rfl) ?_
  refine lv_lmul hx hb dJ9_multiplyHigh_f86c9_37 ?_
  refine lv_lload hx hb dJ9_multiplyHigh_f86c9_38 (lv_at hl 0 rfl) ?_
  refine lv_bipush (v := 32) hx hb dJ9_multiplyHigh_f86c9_40 (by decide) ?_
  refine lv_lushr (v := (Int64.toUInt64 ((x &&& 4294967295) * (y &&& 4294967295)) >>> (Int64.toUInt64 (Int32.toInt64 32) &&& Int64.toUInt64 63)).toInt64) hx hb dJ9_multiplyHigh_f86c9_42 rfl ?_
  refine lv_ladd hx hb dJ9_multiplyHigh_f86c9_43 ?_
  refine lv_lstore (lv' := [(14, .long (((x >>> (Int32.toInt64 32 &&& 63)) * (y &&& 4294967295)) + ((Int64.toUInt64 ((x &&& 4294967295) * (y &&& 4294967295)) >>> (Int64.toUInt64 (Int32.toInt64 32) &&& Int64.toUInt64 63)).toInt64))), (12, .long ((x &&& 4294967295) * (y &&& 4294967295))), (10, .long (y &&& 4294967295)), (8, .long (y >>> (Int32.toInt64 32 &&& 63))), (6, .long (x &&& 4294967295)), (4, .long (x >>> (Int32.toInt64 32 &&& 63))), (0, .long x), (2, .long y)]) hx hb dJ9_multiplyHigh_f86c9_44 hl (by decide) rfl (fun ls hl => ?_)
  refine lv_lload hx hb dJ9_multiplyHigh_f86c9_46 (lv_at hl 0 rfl) ?_
  refine lv_ldc2 hx hb hown k_constantLong_138 dJ9_multiplyHigh_f86c9_48 ?_
  refine lv_land hx hb dJ9_multiplyHigh_f86c9_51 ?_
  refine lv_lstore (lv' := [(16, .long ((((x >>> (Int32.toInt64 32 &&& 63)) * (y &&& 4294967295)) + ((Int64.toUInt64 ((x &&& 4294967295) * (y &&& 4294967295)) >>> (Int64.toUInt64 (Int32.toInt64 32) &&& Int64.toUInt64 63)).toInt64)) &&& 4294967295)), (14, .long (((x >>> (Int32.toInt64 32 &&& 63)) * (y &&& 4294967295)) + ((Int64.toUInt64 ((x &&& 4294967295) * (y &&& 4294967295)) >>> (Int64.toUInt64 (Int32.toInt64 32) &&& Int64.toUInt64 63)).toInt64))), (12, .long ((x &&& 4294967295) * (y &&& 4294967295))), (10, .long (y &&& 4294967295)), (8, .long (y >>> (Int32.toInt64 32 &&& 63))), (6, .long (x &&& 4294967295)), (4, .long (x >>> (Int32.toInt64 32 &&& 63))), (0, .long x), (2, .long y)]) hx hb dJ9_multiplyHigh_f86c9_52 hl (by decide) rfl (fun ls hl => ?_)
  refine lv_lload hx hb dJ9_multiplyHigh_f86c9_54 (lv_at hl 1 rfl) ?_
  refine lv_bipush (v := 32) hx hb dJ9_multiplyHigh_f86c9_56 (by decide) ?_
  refine lv_lshr (v := (((x >>> (Int32.toInt64 32 &&& 63)) * (y &&& 4294967295)) + ((Int64.toUInt64 ((x &&& 4294967295) * (y &&& 4294967295)) >>> (Int64.toUInt64 (Int32.toInt64 32) &&& Int64.toUInt64 63)).toInt64)) >>> (Int32.toInt64 32 &&& 63)) hx hb dJ9_multiplyHigh_f86c9_58 rfl ?_
  refine lv_lstore (lv' := [(18, .long ((((x >>> (Int32.toInt64 32 &&& 63)) * (y &&& 4294967295)) + ((Int64.toUInt64 ((x &&& 4294967295) * (y &&& 4294967295)) >>> (Int64.toUInt64 (Int32.toInt64 32) &&& Int64.toUInt64 63)).toInt64)) >>> (Int32.toInt64 32 &&& 63))), (16, .long ((((x >>> (Int32.toInt64 32 &&& 63)) * (y &&& 4294967295)) + ((Int64.toUInt64 ((x &&& 4294967295) * (y &&& 4294967295)) >>> (Int64.toUInt64 (Int32.toInt64 32) &&& Int64.toUInt64 63)).toInt64)) &&& 4294967295)), (14, .long (((x >>> (Int32.toInt64 32 &&& 63)) * (y &&& 4294967295)) + ((Int64.toUInt64 ((x &&& 4294967295) * (y &&& 4294967295)) >>> (Int64.toUInt64 (Int32.toInt64 32) &&& Int64.toUInt64 63)).toInt64))), (12, .long ((x &&& 4294967295) * (y &&& 4294967295))), (10, .long (y &&& 4294967295)), (8, .long (y >>> (Int32.toInt64 32 &&& 63))), (6, .long (x &&& 4294967295)), (4, .long (x >>> (Int32.toInt64 32 &&& 63))), (0, .long x), (2, .long y)]) hx hb dJ9_multiplyHigh_f86c9_59 hl (by decide) rfl (fun ls hl => ?_)
  refine lv_lload hx hb dJ9_multiplyHigh_f86c9_61 (lv_at hl 1 rfl) ?_
  refine lv_lload hx hb dJ9_multiplyHigh_f86c9_63 (lv_at hl 6 rfl) ?_
  refine lv_lload hx hb dJ9_multiplyHigh_f86c9_65 (lv_at hl 5 rfl) ?_
  refine lv_lmul hx hb dJ9_multiplyHigh_f86c9_67 ?_
  refine lv_ladd hx hb dJ9_multiplyHigh_f86c9_68 ?_
  refine lv_lstore (lv' := [(16, .long (((((x >>> (Int32.toInt64 32 &&& 63)) * (y &&& 4294967295)) + ((Int64.toUInt64 ((x &&& 4294967295) * (y &&& 4294967295)) >>> (Int64.toUInt64 (Int32.toInt64 32) &&& Int64.toUInt64 63)).toInt64)) &&& 4294967295) + ((x &&& 4294967295) * (y >>> (Int32.toInt64 32 &&& 63))))), (18, .long ((((x >>> (Int32.toInt64 32 &&& 63)) * (y &&& 4294967295)) + ((Int64.toUInt64 ((x &&& 4294967295) * (y &&& 4294967295)) >>> (Int64.toUInt64 (Int32.toInt64 32) &&& Int64.toUInt64 63)).toInt64)) >>> (Int32.toInt64 32 &&& 63))), (14, .long (((x >>> (Int32.toInt64 32 &&& 63)) * (y &&& 4294967295)) + ((Int64.toUInt64 ((x &&& 4294967295) * (y &&& 4294967295)) >>> (Int64.toUInt64 (Int32.toInt64 32) &&& Int64.toUInt64 63)).toInt64))), (12, .long ((x &&& 4294967295) * (y &&& 4294967295))), (10, .long (y &&& 4294967295)), (8, .long (y >>> (Int32.toInt64 32 &&& 63))), (6, .long (x &&& 4294967295)), (4, .long (x >>> (Int32.toInt64 32 &&& 63))), (0, .long x), (2, .long y)]) hx hb dJ9_multiplyHigh_f86c9_69 hl (by decide) rfl (fun ls hl => ?_)
  refine lv_lload hx hb dJ9_multiplyHigh_f86c9_71 (lv_at hl 7 rfl) ?_
  refine lv_lload hx hb dJ9_multiplyHigh_f86c9_73 (lv_at hl 5 rfl) ?_
  refine lv_lmul hx hb dJ9_multiplyHigh_f86c9_75 ?_
  refine lv_lload hx hb dJ9_multiplyHigh_f86c9_76 (lv_at hl 1 rfl) ?_
  refine lv_ladd hx hb dJ9_multiplyHigh_f86c9_78 ?_
  refine lv_lload hx hb dJ9_multiplyHigh_f86c9_79 (lv_at hl 0 rfl) ?_
  refine lv_bipush (v := 32) hx hb dJ9_multiplyHigh_f86c9_81 (by decide) ?_
  refine lv_lshr (v := (((((x >>> (Int32.toInt64 32 &&& 63)) * (y &&& 4294967295)) + ((Int64.toUInt64 ((x &&& 4294967295) * (y &&& 4294967295)) >>> (Int64.toUInt64 (Int32.toInt64 32) &&& Int64.toUInt64 63)).toInt64)) &&& 4294967295) + ((x &&& 4294967295) * (y >>> (Int32.toInt64 32 &&& 63)))) >>> (Int32.toInt64 32 &&& 63)) hx hb dJ9_multiplyHigh_f86c9_83 rfl ?_
  refine lv_ladd hx hb dJ9_multiplyHigh_f86c9_84 ?_
  exact W.lret (v := (((x >>> (Int32.toInt64 32 &&& 63)) * (y >>> (Int32.toInt64 32 &&& 63))) + ((((x >>> (Int32.toInt64 32 &&& 63)) * (y &&& 4294967295)) + ((Int64.toUInt64 ((x &&& 4294967295) * (y &&& 4294967295)) >>> (Int64.toUInt64 (Int32.toInt64 32) &&& Int64.toUInt64 63)).toInt64)) >>> (Int32.toInt64 32 &&& 63))) + ((((((x >>> (Int32.toInt64 32 &&& 63)) * (y &&& 4294967295)) + ((Int64.toUInt64 ((x &&& 4294967295) * (y &&& 4294967295)) >>> (Int64.toUInt64 (Int32.toInt64 32) &&& Int64.toUInt64 63)).toInt64)) &&& 4294967295) + ((x &&& 4294967295) * (y >>> (Int32.toInt64 32 &&& 63)))) >>> (Int32.toInt64 32 &&& 63))) hx hb hr (fun t9 ht hW => ⟨⟨_, (), rfl, (by rfl), ⟨by rw [ht]; exact hP, va_K.moved hW.alike hK, hD⟩⟩, hS.F ht⟩) hS.2.2 dJ9_multiplyHigh_f86c9_85 hlocks

def ropF (x y : Int64) : Int32 := (((Int64.toUInt64 (mulH x y) >>> (Int64.toUInt64 (Int32.toInt64 31) &&& Int64.toUInt64 63)).toInt64) ||| ((Int64.toUInt64 (((mulH x y) &&& 4294967295) + 4294967295) >>> (Int64.toUInt64 (Int32.toInt64 32) &&& Int64.toUInt64 63)).toInt64)).toInt32

set_option maxHeartbeats 4000000 in
set_option maxRecDepth 100000 in
theorem t_Jx40b00_rop_74951 (l9 : Launch) (hl9 : l9.stackTraces = false) (E : EK) (D : va_G) (k : Nat → ClassId) (sz : Nat) (x y : Int64) : Met l9 yJx40b00_rop_74951 wsJx40b00_rop_74951 ({ frames := 1, cells := 0, slots := 0, locals := 39 }) (TPc E D k [.long x, .long y] ([]) sz) (va_Qi (fun (r : Int32) (u9 : Unit) => r = ropF x y) (TB D k (va_A ([]) sz) (fun u9 : Unit => [])) (va_A ([]) sz)) (0) (0) (va_A ([]) sz) := by
  refine tMet (y := yJx40b00_rop_74951) (cc := cJx40b00_rop_74951) (maxL := 8) (ret := (some .int)) (Qc := fun A => va_Qi (fun (r : Int32) (u9 : Unit) => r = ropF x y) (TB D k (A) (fun u9 : Unit => [])) (A)) [.long x, .long y] (by decide) rfl (Nat.le_of_ble_eq_true rfl) ?_
  intro p9 e9 s9 m9 bl9 me9 c9 ls A H hF hr hlocks hP hK hE hD hA hS hl hin
  have hl : lv_has ls 8 [(0, .long x), (2, .long y)] := hl
  obtain ⟨hx, hb, hml, hown, hts⟩ := id hF
  have k_constantLong_110 : (Cond.constantLong RJx40b00 110 (4294967295)).before _ s9 = true := hts (.constantLong RJx40b00 110 (4294967295)) (by decide +kernel)
  refine lv_lload_n hx hb dJx40b00_rop_74951_0 rfl (lv_at hl 0 rfl) ?_
  refine lv_lload_n hx hb dJx40b00_rop_74951_1 rfl (lv_at hl 1 rfl) ?_
  have hP : va_P D vwCl ([] ++ ([])) H := hP
  have hD : va_D A ([] ++ ([])) := hD
  have hFc := tFree hD hS hA
  refine va_calll (va_runS (As := [.long x, .long y]) (rest := []) hF (t_J9_multiplyHigh_f86c9 l9 hl9 E D k H.size x y ) (va_cwS 2 hts gJx40b00_rop_74951_J9_multiplyHigh_f86c9 rfl rfl rfl (by decide +kernel) ⟨Nat.le_of_ble_eq_true rfl, Nat.le_of_ble_eq_true rfl⟩) (tPreS hK hE hS hA hP hD) rfl rfl hl.1 rfl (lv_room (Nat.le_of_ble_eq_true rfl)) dJx40b00_rop_74951_2 ⟨(Nat.le_of_ble_eq_true rfl), (Nat.le_of_ble_eq_true rfl)⟩) hS (fun q _ h => hFc q h) hFc (fun r_2 u_3 t9 H1 locs ht hvm hw_4 hB hz1 hk1 hS => ?_)
  obtain ⟨hP, -, hD⟩ := hB
  rw [ht] at hP
  replace hP : va_P D vwCl ([]) H1 := hP
  replace hD : va_D A ([]) := hD.weaken (fun _ q _ h => hFc q.1 h)
  replace hw_4 : r_2 = mulH x y := hw_4
  clear hz1 hvm hFc hk1 ht
  clear t9
  generalize H1 = H at hP hS ⊢
  refine lv_tope (v2 := .long (mulH x y)) (by rw [hw_4]) ?_
  refine lv_lstore (lv' := [(4, .long (mulH x y)), (0, .long x), (2, .long y)]) hx hb dJx40b00_rop_74951_5 hl (by decide) rfl (fun ls hl => ?_)
  refine lv_lload hx hb dJx40b00_rop_74951_7 (lv_at hl 0 rfl) ?_
  refine lv_bipush (v := 31) hx hb dJx40b00_rop_74951_9 (by decide) ?_
  refine lv_lushr (v := (Int64.toUInt64 (mulH x y) >>> (Int64.toUInt64 (Int32.toInt64 31) &&& Int64.toUInt64 63)).toInt64) hx hb dJx40b00_rop_74951_11 rfl ?_
  refine lv_lstore (lv' := [(6, .long ((Int64.toUInt64 (mulH x y) >>> (Int64.toUInt64 (Int32.toInt64 31) &&& Int64.toUInt64 63)).toInt64)), (4, .long (mulH x y)), (0, .long x), (2, .long y)]) hx hb dJx40b00_rop_74951_12 hl (by decide) rfl (fun ls hl => ?_)
  refine lv_lload hx hb dJx40b00_rop_74951_14 (lv_at hl 0 rfl) ?_
  refine lv_lload hx hb dJx40b00_rop_74951_16 (lv_at hl 1 rfl) ?_
  refine lv_ldc2 hx hb hown k_constantLong_110 dJx40b00_rop_74951_18 ?_
  refine lv_land hx hb dJx40b00_rop_74951_21 ?_
  refine lv_ldc2 hx hb hown k_constantLong_110 dJx40b00_rop_74951_22 ?_
  refine lv_ladd hx hb dJx40b00_rop_74951_25 ?_
  refine lv_bipush (v := 32) hx hb dJx40b00_rop_74951_26 (by decide) ?_
  refine lv_lushr (v := (Int64.toUInt64 (((mulH x y) &&& 4294967295) + 4294967295) >>> (Int64.toUInt64 (Int32.toInt64 32) &&& Int64.toUInt64 63)).toInt64) hx hb dJx40b00_rop_74951_28 rfl ?_
  refine lv_lor hx hb dJx40b00_rop_74951_29 ?_
  refine lv_l2i hx hb dJx40b00_rop_74951_30 rfl ?_
  exact W.iret (v := (((Int64.toUInt64 (mulH x y) >>> (Int64.toUInt64 (Int32.toInt64 31) &&& Int64.toUInt64 63)).toInt64) ||| ((Int64.toUInt64 (((mulH x y) &&& 4294967295) + 4294967295) >>> (Int64.toUInt64 (Int32.toInt64 32) &&& Int64.toUInt64 63)).toInt64)).toInt32) hx hb hr (fun t9 ht hW => ⟨⟨_, (), rfl, (by rfl), ⟨by rw [ht]; exact hP, va_K.moved hW.alike hK, hD⟩⟩, hS.F ht⟩) hS.2.2 dJx40b00_rop_74951_31 hlocks

def f10 (x : Int32) : Int32 := ((x.toInt64 * 661971961083) >>> (Int32.toInt64 41 &&& 63)).toInt32

set_option maxHeartbeats 4000000 in
set_option maxRecDepth 100000 in
theorem t_Jx25f51_flog10pow2_0f7a4 (l9 : Launch) (hl9 : l9.stackTraces = false) (E : EK) (D : va_G) (k : Nat → ClassId) (sz : Nat) (x : Int32) : Met l9 yJx25f51_flog10pow2_0f7a4 wsJx25f51_flog10pow2_0f7a4 ({ frames := 0, cells := 0, slots := 0, locals := 0 }) (TPc E D k [.int x] ([]) sz) (va_Qi (fun (r : Int32) (u9 : Unit) => r = f10 x) (TB D k (va_A ([]) sz) (fun u9 : Unit => [])) (va_A ([]) sz)) (0) (0) (va_A ([]) sz) := by
  refine tMet (y := yJx25f51_flog10pow2_0f7a4) (cc := cJx25f51_flog10pow2_0f7a4) (maxL := 1) (ret := (some .int)) (Qc := fun A => va_Qi (fun (r : Int32) (u9 : Unit) => r = f10 x) (TB D k (A) (fun u9 : Unit => [])) (A)) [.int x] (by decide) rfl (Nat.le_of_ble_eq_true rfl) ?_
  intro p9 e9 s9 m9 bl9 me9 c9 ls A H hF hr hlocks hP hK hE hD hA hS hl hin
  have hl : lv_has ls 1 [(0, .int x)] := hl
  obtain ⟨hx, hb, hml, hown, hts⟩ := id hF
  have k_constantLong_20 : (Cond.constantLong RJx25f51 20 (661971961083)).before _ s9 = true := hts (.constantLong RJx25f51 20 (661971961083)) (by decide +kernel)
  refine lv_iload_n hx hb dJx25f51_flog10pow2_0f7a4_0 rfl (lv_at hl 0 rfl) ?_
  refine lv_i2l hx hb dJx25f51_flog10pow2_0f7a4_1 rfl ?_
  refine lv_ldc2 hx hb hown k_constantLong_20 dJx25f51_flog10pow2_0f7a4_2 ?_
  refine lv_lmul hx hb dJx25f51_flog10pow2_0f7a4_5 ?_
  refine lv_bipush (v := 41) hx hb dJx25f51_flog10pow2_0f7a4_6 (by decide) ?_
  refine lv_lshr (v := (x.toInt64 * 661971961083) >>> (Int32.toInt64 41 &&& 63)) hx hb dJx25f51_flog10pow2_0f7a4_8 rfl ?_
  refine lv_l2i hx hb dJx25f51_flog10pow2_0f7a4_9 rfl ?_
  exact W.iret (v := ((x.toInt64 * 661971961083) >>> (Int32.toInt64 41 &&& 63)).toInt32) hx hb hr (fun t9 ht hW => ⟨⟨_, (), rfl, (by rfl), ⟨by rw [ht]; exact hP, va_K.moved hW.alike hK, hD⟩⟩, hS.F ht⟩) hS.2.2 dJx25f51_flog10pow2_0f7a4_10 hlocks

def f34 (x : Int32) : Int32 := (((x.toInt64 * 661971961083) + (-274743187321)) >>> (Int32.toInt64 41 &&& 63)).toInt32

set_option maxHeartbeats 4000000 in
set_option maxRecDepth 100000 in
theorem t_Jx25f51_flog10threeQuartersPow2_0f7a4 (l9 : Launch) (hl9 : l9.stackTraces = false) (E : EK) (D : va_G) (k : Nat → ClassId) (sz : Nat) (x : Int32) : Met l9 yJx25f51_flog10threeQuartersPow2_0f7a4 wsJx25f51_flog10threeQuartersPow2_0f7a4 ({ frames := 0, cells := 0, slots := 0, locals := 0 }) (TPc E D k [.int x] ([]) sz) (va_Qi (fun (r : Int32) (u9 : Unit) => r = f34 x) (TB D k (va_A ([]) sz) (fun u9 : Unit => [])) (va_A ([]) sz)) (0) (0) (va_A ([]) sz) := by
  refine tMet (y := yJx25f51_flog10threeQuartersPow2_0f7a4) (cc := cJx25f51_flog10threeQuartersPow2_0f7a4) (maxL := 1) (ret := (some .int)) (Qc := fun A => va_Qi (fun (r : Int32) (u9 : Unit) => r = f34 x) (TB D k (A) (fun u9 : Unit => [])) (A)) [.int x] (by decide) rfl (Nat.le_of_ble_eq_true rfl) ?_
  intro p9 e9 s9 m9 bl9 me9 c9 ls A H hF hr hlocks hP hK hE hD hA hS hl hin
  have hl : lv_has ls 1 [(0, .int x)] := hl
  obtain ⟨hx, hb, hml, hown, hts⟩ := id hF
  have k_constantLong_20 : (Cond.constantLong RJx25f51 20 (661971961083)).before _ s9 = true := hts (.constantLong RJx25f51 20 (661971961083)) (by decide +kernel)
  have k_constantLong_22 : (Cond.constantLong RJx25f51 22 (-274743187321)).before _ s9 = true := hts (.constantLong RJx25f51 22 (-274743187321)) (by decide +kernel)
  refine lv_iload_n hx hb dJx25f51_flog10threeQuartersPow2_0f7a4_0 rfl (lv_at hl 0 rfl) ?_
  refine lv_i2l hx hb dJx25f51_flog10threeQuartersPow2_0f7a4_1 rfl ?_
  refine lv_ldc2 hx hb hown k_constantLong_20 dJx25f51_flog10threeQuartersPow2_0f7a4_2 ?_
  refine lv_lmul hx hb dJx25f51_flog10threeQuartersPow2_0f7a4_5 ?_
  refine lv_ldc2 hx hb hown k_constantLong_22 dJx25f51_flog10threeQuartersPow2_0f7a4_6 ?_
  refine lv_ladd hx hb dJx25f51_flog10threeQuartersPow2_0f7a4_9 ?_
  refine lv_bipush (v := 41) hx hb dJx25f51_flog10threeQuartersPow2_0f7a4_10 (by decide) ?_
  refine lv_lshr (v := ((x.toInt64 * 661971961083) + (-274743187321)) >>> (Int32.toInt64 41 &&& 63)) hx hb dJx25f51_flog10threeQuartersPow2_0f7a4_12 rfl ?_
  refine lv_l2i hx hb dJx25f51_flog10threeQuartersPow2_0f7a4_13 rfl ?_
  exact W.iret (v := (((x.toInt64 * 661971961083) + (-274743187321)) >>> (Int32.toInt64 41 &&& 63)).toInt32) hx hb hr (fun t9 ht hW => ⟨⟨_, (), rfl, (by rfl), ⟨by rw [ht]; exact hP, va_K.moved hW.alike hK, hD⟩⟩, hS.F ht⟩) hS.2.2 dJx25f51_flog10threeQuartersPow2_0f7a4_14 hlocks

def f2p (x : Int32) : Int32 := ((x.toInt64 * 913124641741) >>> (Int32.toInt64 38 &&& 63)).toInt32

set_option maxHeartbeats 4000000 in
set_option maxRecDepth 100000 in
theorem t_Jx25f51_flog2pow10_0f7a4 (l9 : Launch) (hl9 : l9.stackTraces = false) (E : EK) (D : va_G) (k : Nat → ClassId) (sz : Nat) (x : Int32) : Met l9 yJx25f51_flog2pow10_0f7a4 wsJx25f51_flog2pow10_0f7a4 ({ frames := 0, cells := 0, slots := 0, locals := 0 }) (TPc E D k [.int x] ([]) sz) (va_Qi (fun (r : Int32) (u9 : Unit) => r = f2p x) (TB D k (va_A ([]) sz) (fun u9 : Unit => [])) (va_A ([]) sz)) (0) (0) (va_A ([]) sz) := by
  refine tMet (y := yJx25f51_flog2pow10_0f7a4) (cc := cJx25f51_flog2pow10_0f7a4) (maxL := 1) (ret := (some .int)) (Qc := fun A => va_Qi (fun (r : Int32) (u9 : Unit) => r = f2p x) (TB D k (A) (fun u9 : Unit => [])) (A)) [.int x] (by decide) rfl (Nat.le_of_ble_eq_true rfl) ?_
  intro p9 e9 s9 m9 bl9 me9 c9 ls A H hF hr hlocks hP hK hE hD hA hS hl hin
  have hl : lv_has ls 1 [(0, .int x)] := hl
  obtain ⟨hx, hb, hml, hown, hts⟩ := id hF
  have k_constantLong_24 : (Cond.constantLong RJx25f51 24 (913124641741)).before _ s9 = true := hts (.constantLong RJx25f51 24 (913124641741)) (by decide +kernel)
  refine lv_iload_n hx hb dJx25f51_flog2pow10_0f7a4_0 rfl (lv_at hl 0 rfl) ?_
  refine lv_i2l hx hb dJx25f51_flog2pow10_0f7a4_1 rfl ?_
  refine lv_ldc2 hx hb hown k_constantLong_24 dJx25f51_flog2pow10_0f7a4_2 ?_
  refine lv_lmul hx hb dJx25f51_flog2pow10_0f7a4_5 ?_
  refine lv_bipush (v := 38) hx hb dJx25f51_flog2pow10_0f7a4_6 (by decide) ?_
  refine lv_lshr (v := (x.toInt64 * 913124641741) >>> (Int32.toInt64 38 &&& 63)) hx hb dJx25f51_flog2pow10_0f7a4_8 rfl ?_
  refine lv_l2i hx hb dJx25f51_flog2pow10_0f7a4_9 rfl ?_
  exact W.iret (v := ((x.toInt64 * 913124641741) >>> (Int32.toInt64 38 &&& 63)).toInt32) hx hb hr (fun t9 ht hW => ⟨⟨_, (), rfl, (by rfl), ⟨by rw [ht]; exact hP, va_K.moved hW.alike hK, hD⟩⟩, hS.F ht⟩) hS.2.2 dJx25f51_flog2pow10_0f7a4_10 hlocks

set_option maxHeartbeats 4000000 in
set_option maxRecDepth 100000 in
theorem t_Jx25f51_g1_3e8ac (l9 : Launch) (hl9 : l9.stackTraces = false) (E : EK) (D : va_G) (k : Nat → ClassId) (sz : Nat) (x : Int32) (j : Nat) (hk : (x - (-324)) <<< (1 &&& 31) = nI j) (hj : j < 1234) : Met l9 yJx25f51_g1_3e8ac wsJx25f51_g1_3e8ac ({ frames := 0, cells := 0, slots := 0, locals := 0 }) (TPc E D k [.int x] ([]) sz) (va_Ql (fun (r : Int64) (u9 : Unit) => r = kgf E j) (TB D k (va_A ([]) sz) (fun u9 : Unit => [])) (va_A ([]) sz)) (0) (0) (va_A ([]) sz) := by
  refine tMet (y := yJx25f51_g1_3e8ac) (cc := cJx25f51_g1_3e8ac) (maxL := 1) (ret := (some .long)) (Qc := fun A => va_Ql (fun (r : Int64) (u9 : Unit) => r = kgf E j) (TB D k (A) (fun u9 : Unit => [])) (A)) [.int x] (by decide) rfl (Nat.le_of_ble_eq_true rfl) ?_
  intro p9 e9 s9 m9 bl9 me9 c9 ls A H hF hr hlocks hP hK hE hD hA hS hl hin
  have hl : lv_has ls 1 [(0, .int x)] := hl
  obtain ⟨hx, hb, hml, hown, hts⟩ := id hF
  have k_fieldLink_26 : (Cond.fieldLink RJx25f51 26 "jdk/internal/math/MathUtils" "g" "[J").before _ s9 = true := hts (.fieldLink RJx25f51 26 "jdk/internal/math/MathUtils" "g" "[J") (by decide +kernel)
  refine va_gets hx hb hE.2.2.2.2.2.2.2.2.2.2.2.1 hS hown k_fieldLink_26 (fun _ h9 => h9) dJx25f51_g1_3e8ac_0 ?_
  refine lv_iload_n hx hb dJx25f51_g1_3e8ac_3 rfl (lv_at hl 0 rfl) ?_
  refine lv_sipush (v := (-324)) hx hb dJx25f51_g1_3e8ac_4 (by decide) ?_
  refine lv_isub hx hb dJx25f51_g1_3e8ac_7 ?_
  refine lv_iconst (v := 1) hx hb dJx25f51_g1_3e8ac_8 (by decide) ?_
  refine lv_ishl hx hb dJx25f51_g1_3e8ac_9 ?_
  refine lv_tope (v2 := .int (nI j)) (congrArg Value.int (by exact hk)) ?_
  refine va_tl hx hb hE.2.2.2.2.2.2.2.2.2.2.2.2.1 hS (nI_vin (j := j) hj (by decide)) (by rw [nI_clamp (Nat.lt_trans hj (show 1234 < 2 ^ 31 by decide))]) dJx25f51_g1_3e8ac_10 ?_
  exact W.lret (v := kgf E j) hx hb hr (fun t9 ht hW => ⟨⟨_, (), rfl, (by rfl), ⟨by rw [ht]; exact hP, va_K.moved hW.alike hK, hD⟩⟩, hS.F ht⟩) hS.2.2 dJx25f51_g1_3e8ac_11 hlocks

set_option maxHeartbeats 4000000 in
set_option maxRecDepth 100000 in
theorem t_Jx25f51_pow10_3e8ac (l9 : Launch) (hl9 : l9.stackTraces = false) (E : EK) (D : va_G) (k : Nat → ClassId) (sz : Nat) (j : Nat) (hj : j < 18) : Met l9 yJx25f51_pow10_3e8ac wsJx25f51_pow10_3e8ac ({ frames := 0, cells := 0, slots := 0, locals := 0 }) (TPc E D k [.int (nI j)] ([]) sz) (va_Ql (fun (r : Int64) (u9 : Unit) => r = p10L j) (TB D k (va_A ([]) sz) (fun u9 : Unit => [])) (va_A ([]) sz)) (0) (0) (va_A ([]) sz) := by
  refine tMet (y := yJx25f51_pow10_3e8ac) (cc := cJx25f51_pow10_3e8ac) (maxL := 1) (ret := (some .long)) (Qc := fun A => va_Ql (fun (r : Int64) (u9 : Unit) => r = p10L j) (TB D k (A) (fun u9 : Unit => [])) (A)) [.int (nI j)] (by decide) rfl (Nat.le_of_ble_eq_true rfl) ?_
  intro p9 e9 s9 m9 bl9 me9 c9 ls A H hF hr hlocks hP hK hE hD hA hS hl hin
  have hl : lv_has ls 1 [(0, .int (nI j))] := hl
  obtain ⟨hx, hb, hml, hown, hts⟩ := id hF
  have k_fieldLink_14 : (Cond.fieldLink RJx25f51 14 "jdk/internal/math/MathUtils" "pow10" "[J").before _ s9 = true := hts (.fieldLink RJx25f51 14 "jdk/internal/math/MathUtils" "pow10" "[J") (by decide +kernel)
  refine va_gets hx hb hE.2.2.2.2.2.2.2.2.2.2.2.2.2.1 hS hown k_fieldLink_14 (fun _ h9 => h9) dJx25f51_pow10_3e8ac_0 ?_
  refine lv_iload_n hx hb dJx25f51_pow10_3e8ac_3 rfl (lv_at hl 0 rfl) ?_
  refine va_tl hx hb hE.2.2.2.2.2.2.2.2.2.2.2.2.2.2.1 hS (nI_vin (j := j) hj (by decide)) (by rw [nI_clamp (Nat.lt_trans hj (show 18 < 2 ^ 31 by decide))]) dJx25f51_pow10_3e8ac_4 ?_
  exact W.lret (v := p10L j) hx hb hr (fun t9 ht hW => ⟨⟨_, (), rfl, (by rfl), ⟨by rw [ht]; exact hP, va_K.moved hW.alike hK, hD⟩⟩, hS.F ht⟩) hS.2.2 dJx25f51_pow10_3e8ac_5 hlocks

def yF (x : Int32) : Int32 := (((Int64.toUInt64 (mulH (((x + 1).toInt64) <<< (Int32.toInt64 28 &&& 63)) 193428131138340668) >>> (Int64.toUInt64 (Int32.toInt64 20) &&& Int64.toUInt64 63)).toInt64).toInt32) - 1

set_option maxHeartbeats 4000000 in
set_option maxRecDepth 100000 in
theorem t_Jx40b00_y_0f7a4 (l9 : Launch) (hl9 : l9.stackTraces = false) (E : EK) (D : va_G) (k : Nat → ClassId) (sz : Nat) (a b n : Nat) (f : Nat → Int32) (x : Int32) : Met l9 yJx40b00_y_0f7a4 wsJx40b00_y_0f7a4 ({ frames := 1, cells := 0, slots := 0, locals := 39 }) (TPc E D k [.ref a, .int x] (bFO9 k a b (im n) ++ bAB k b 15 f) sz) (va_Qi (fun (r : Int32) (u9 : Unit) => r = yF x) (TB D k (va_A (bFO9 k a b (im n) ++ bAB k b 15 f) sz) (fun u9 : Unit => bFO9 k a b (im n) ++ bAB k b 15 f)) (va_A (bFO9 k a b (im n) ++ bAB k b 15 f) sz)) (0) (0) (va_A (bFO9 k a b (im n) ++ bAB k b 15 f) sz) := by
  refine tMet (y := yJx40b00_y_0f7a4) (cc := cJx40b00_y_0f7a4) (maxL := 2) (ret := (some .int)) (Qc := fun A => va_Qi (fun (r : Int32) (u9 : Unit) => r = yF x) (TB D k (A) (fun u9 : Unit => bFO9 k a b (im n) ++ bAB k b 15 f)) (A)) [.ref a, .int x] (by decide) rfl (Nat.le_of_ble_eq_true rfl) ?_
  intro p9 e9 s9 m9 bl9 me9 c9 ls A H hF hr hlocks hP hK hE hD hA hS hl hin
  have hl : lv_has ls 2 [(0, .ref a), (1, .int x)] := hl
  obtain ⟨hx, hb, hml, hown, hts⟩ := id hF
  have k_constantLong_148 : (Cond.constantLong RJx40b00 148 (193428131138340668)).before _ s9 = true := hts (.constantLong RJx40b00 148 (193428131138340668)) (by decide +kernel)
  refine lv_iload_n hx hb dJx40b00_y_0f7a4_0 rfl (lv_at hl 1 rfl) ?_
  refine lv_iconst (v := 1) hx hb dJx40b00_y_0f7a4_1 (by decide) ?_
  refine lv_iadd hx hb dJx40b00_y_0f7a4_2 ?_
  refine lv_i2l hx hb dJx40b00_y_0f7a4_3 rfl ?_
  refine lv_bipush (v := 28) hx hb dJx40b00_y_0f7a4_4 (by decide) ?_
  refine lv_lshl (v := ((x + 1).toInt64) <<< (Int32.toInt64 28 &&& 63)) hx hb dJx40b00_y_0f7a4_6 rfl ?_
  refine lv_ldc2 hx hb hown k_constantLong_148 dJx40b00_y_0f7a4_7 ?_
  have hP : va_P D vwCl ([] ++ (bFO9 k a b (im n) ++ bAB k b 15 f)) H := hP
  have hD : va_D A ([] ++ (bFO9 k a b (im n) ++ bAB k b 15 f)) := hD
  have hFc := tFree hD hS hA
  refine va_calll (va_runS (As := [.long (((x + 1).toInt64) <<< (Int32.toInt64 28 &&& 63)), .long 193428131138340668]) (rest := []) hF (fr_l (bFO9 k a b (im n) ++ bAB k b 15 f) (t_J9_multiplyHigh_f86c9 l9 hl9 E D k H.size (((x + 1).toInt64) <<< (Int32.toInt64 28 &&& 63)) 193428131138340668 )) (va_cwS 2 hts gJx40b00_y_0f7a4_J9_multiplyHigh_f86c9 rfl rfl rfl (by decide +kernel) ⟨Nat.le_of_ble_eq_true rfl, Nat.le_of_ble_eq_true rfl⟩) (tPreS hK hE hS hA hP hD) rfl rfl hl.1 rfl (lv_room (Nat.le_of_ble_eq_true rfl)) dJx40b00_y_0f7a4_10 ⟨(Nat.le_of_ble_eq_true rfl), (Nat.le_of_ble_eq_true rfl)⟩) hS (fun q _ h => hFc q h) hFc (fun r_2 u_3 t9 H1 locs ht hvm hw_4 hB hz1 hk1 hS => ?_)
  obtain ⟨hP, -, hD⟩ := hB
  rw [ht] at hP
  replace hP : va_P D vwCl (([]) ++ (bFO9 k a b (im n) ++ bAB k b 15 f)) H1 := hP
  replace hD : va_D A (([]) ++ (bFO9 k a b (im n) ++ bAB k b 15 f)) := hD.weaken (fun _ q _ h => hFc q.1 h)
  replace hP : va_P D vwCl (bFO9 k a b (im n) ++ bAB k b 15 f) H1 := hP
  replace hD : va_D A (bFO9 k a b (im n) ++ bAB k b 15 f) := hD
  replace hw_4 : r_2 = mulH (((x + 1).toInt64) <<< (Int32.toInt64 28 &&& 63)) 193428131138340668 := hw_4
  clear hz1 hvm hFc hk1 ht
  clear t9
  generalize H1 = H at hP hS ⊢
  refine lv_tope (v2 := .long (mulH (((x + 1).toInt64) <<< (Int32.toInt64 28 &&& 63)) 193428131138340668)) (by rw [hw_4]) ?_
  refine lv_bipush (v := 20) hx hb dJx40b00_y_0f7a4_13 (by decide) ?_
  refine lv_lushr (v := (Int64.toUInt64 (mulH (((x + 1).toInt64) <<< (Int32.toInt64 28 &&& 63)) 193428131138340668) >>> (Int64.toUInt64 (Int32.toInt64 20) &&& Int64.toUInt64 63)).toInt64) hx hb dJx40b00_y_0f7a4_15 rfl ?_
  refine lv_l2i hx hb dJx40b00_y_0f7a4_16 rfl ?_
  refine lv_iconst (v := 1) hx hb dJx40b00_y_0f7a4_17 (by decide) ?_
  refine lv_isub hx hb dJx40b00_y_0f7a4_18 ?_
  exact W.iret (v := (((Int64.toUInt64 (mulH (((x + 1).toInt64) <<< (Int32.toInt64 28 &&& 63)) 193428131138340668) >>> (Int64.toUInt64 (Int32.toInt64 20) &&& Int64.toUInt64 63)).toInt64).toInt32) - 1) hx hb hr (fun t9 ht hW => ⟨⟨_, (), rfl, (by rfl), ⟨by rw [ht]; exact hP, va_K.moved hW.alike hK, hD⟩⟩, hS.F ht⟩) hS.2.2 dJx40b00_y_0f7a4_19 hlocks

set_option maxHeartbeats 4000000 in
set_option maxRecDepth 100000 in
theorem t_Jx40b00_append_d00df (l9 : Launch) (hl9 : l9.stackTraces = false) (E : EK) (D : va_G) (k : Nat → ClassId) (sz : Nat) (a b n : Nat) (f : Nat → Int32) (c : Int32) (hn : n < 15) : Met l9 yJx40b00_append_d00df wsJx40b00_append_d00df ({ frames := 0, cells := 0, slots := 0, locals := 0 }) (TPc E D k [.ref a, .int c] (bFO9 k a b (im n) ++ bAB k b 15 f) sz) (va_Qv (fun (u9 : Unit) => True) (TB D k (va_A (bFO9 k a b (im n) ++ bAB k b 15 f) sz) (fun u9 : Unit => bFO9 k a b (im (apc (f, n) c).2) ++ bAB k b 15 ((apc (f, n) c).1))) (va_A (bFO9 k a b (im n) ++ bAB k b 15 f) sz)) (0) (0) (va_A (bFO9 k a b (im n) ++ bAB k b 15 f) sz) := by
  refine tMet (y := yJx40b00_append_d00df) (cc := cJx40b00_append_d00df) (maxL := 2) (ret := none) (Qc := fun A => va_Qv (fun (u9 : Unit) => True) (TB D k (A) (fun u9 : Unit => bFO9 k a b (im (apc (f, n) c).2) ++ bAB k b 15 ((apc (f, n) c).1))) (A)) [.ref a, .int c] (by decide) rfl (Nat.le_of_ble_eq_true rfl) ?_
  intro p9 e9 s9 m9 bl9 me9 c9 ls A H hF hr hlocks hP hK hE hD hA hS hl hin
  have hl : lv_has ls 2 [(0, .ref a), (1, .int c)] := hl
  obtain ⟨hx, hb, hml, hown, hts⟩ := id hF
  have k_fieldLink_11 : (Cond.fieldLink RJx40b00 11 "jdk/internal/math/FloatToDecimal" "bytes" "[B").before _ s9 = true := hts (.fieldLink RJx40b00 11 "jdk/internal/math/FloatToDecimal" "bytes" "[B") (by decide +kernel)
  have kc_RJx40b00 : ∀ w ∈ u_ws RJx40b00 TJx40b00 2, w ∈ wsJx40b00_append_d00df := by decide +kernel
  have k_fieldLink_42 : (Cond.fieldLink RJx40b00 42 "jdk/internal/math/FloatToDecimal" "index" "I").before _ s9 = true := hts (.fieldLink RJx40b00 42 "jdk/internal/math/FloatToDecimal" "index" "I") (by decide +kernel)
  refine lv_aload_n hx hb dJx40b00_append_d00df_0 rfl (lv_at hl 0 rfl) ?_
  refine va_get (D := D) (ci := 3) (v := .ref b) (C := RJx40b00) (T := TJx40b00) (N := 2) hx hb hts kc_RJx40b00 hown hK hP 0 rfl rfl 0 (by decide) k_fieldLink_11 (fun _ h9 => h9) rfl dJx40b00_append_d00df_1 ?_
  refine lv_aload_n hx hb dJx40b00_append_d00df_4 rfl (lv_at hl 0 rfl) ?_
  refine lv_dup hx hb dJx40b00_append_d00df_5 rfl ?_
  refine va_get (D := D) (ci := 3) (v := .int (im n)) (C := RJx40b00) (T := TJx40b00) (N := 2) hx hb hts kc_RJx40b00 hown hK hP 0 rfl rfl 1 (by decide) k_fieldLink_42 (fun _ h9 => h9) rfl dJx40b00_append_d00df_6 ?_
  refine lv_iconst (v := 1) hx hb dJx40b00_append_d00df_9 (by decide) ?_
  refine lv_iadd hx hb dJx40b00_append_d00df_10 ?_
  refine lv_tope (v2 := .int (nI n)) (congrArg Value.int (by exact im_1 n)) ?_
  refine lv_dup_x1 hx hb dJx40b00_append_d00df_11 rfl rfl ?_
  refine va_put (D := D) (ci := 3) (v := .int (nI n)) (ty := .int) (C := RJx40b00) (T := TJx40b00) (N := 2) hx hb hts kc_RJx40b00 tyJx40b00 tyJx40b00_ok nmJx40b00 hown hK hP hD hS 0 rfl rfl 1 (by decide) k_fieldLink_42 (fun _ h9 => h9) rfl (by decide +kernel) rfl rfl (Nat.le_of_ble_eq_true rfl) dJx40b00_append_d00df_12 (fun H locs hP hD hS => ?_)
  have hP : va_P D vwCl (bFO9 k a b (nI n) ++ bAB k b 15 f) H := hP
  have hD : va_D A (bFO9 k a b (nI n) ++ bAB k b 15 f) := hD
  refine lv_iload_n hx hb dJx40b00_append_d00df_15 rfl (lv_at hl 1 rfl) ?_
  refine lv_i2b (v := (c).toInt8.toInt32) hx hb dJx40b00_append_d00df_16 rfl ?_
  refine by_st hx hb hK hP hD hS 1 rfl n hn (by decide) (pk_vb _) (bFO9 k a b (nI n) ++ bAB k b 15 (upd f n ((c).toInt8.toInt32))) rfl dJx40b00_append_d00df_17 (fun H locs hP hD hS => ?_)
  have e_1 : (nI n : Int32) = im (apc (f, n) c).2 := by first | (with_reducible rfl) | (exact im_s n)
  have hP := Eq.mp (congrArg (fun z9 => va_P D vwCl (bFO9 k a b z9 ++ bAB k b 15 (upd f n ((c).toInt8.toInt32))) H) e_1) hP
  have hD := Eq.mp (congrArg (fun z9 => va_D A (bFO9 k a b z9 ++ bAB k b 15 (upd f n ((c).toInt8.toInt32)))) e_1) hD
  have e_2 : (upd f n ((c).toInt8.toInt32) : Nat → Int32) = (apc (f, n) c).1 := by first | (with_reducible rfl) | (rfl)
  have hP := Eq.mp (congrArg (fun z9 => va_P D vwCl (bFO9 k a b (im (apc (f, n) c).2) ++ bAB k b 15 z9) H) e_2) hP
  have hD := Eq.mp (congrArg (fun z9 => va_D A (bFO9 k a b (im (apc (f, n) c).2) ++ bAB k b 15 z9)) e_2) hD
  exact W.vret hx hb hr (fun t9 ht hW => ⟨⟨(), rfl, (by trivial), ⟨by rw [ht]; exact hP, va_K.moved hW.alike hK, hD⟩⟩, hS.F ht⟩) hS.2.2 dJx40b00_append_d00df_18 hlocks

set_option maxHeartbeats 4000000 in
set_option maxRecDepth 100000 in
theorem t_Jx40b00_appendDigit_d00df (l9 : Launch) (hl9 : l9.stackTraces = false) (E : EK) (D : va_G) (k : Nat → ClassId) (sz : Nat) (a b n : Nat) (f : Nat → Int32) (d : Int32) (hn : n < 15) : Met l9 yJx40b00_appendDigit_d00df wsJx40b00_appendDigit_d00df ({ frames := 0, cells := 0, slots := 0, locals := 0 }) (TPc E D k [.ref a, .int d] (bFO9 k a b (im n) ++ bAB k b 15 f) sz) (va_Qv (fun (u9 : Unit) => True) (TB D k (va_A (bFO9 k a b (im n) ++ bAB k b 15 f) sz) (fun u9 : Unit => bFO9 k a b (im (apd (f, n) d).2) ++ bAB k b 15 ((apd (f, n) d).1))) (va_A (bFO9 k a b (im n) ++ bAB k b 15 f) sz)) (0) (0) (va_A (bFO9 k a b (im n) ++ bAB k b 15 f) sz) := by
  refine tMet (y := yJx40b00_appendDigit_d00df) (cc := cJx40b00_appendDigit_d00df) (maxL := 2) (ret := none) (Qc := fun A => va_Qv (fun (u9 : Unit) => True) (TB D k (A) (fun u9 : Unit => bFO9 k a b (im (apd (f, n) d).2) ++ bAB k b 15 ((apd (f, n) d).1))) (A)) [.ref a, .int d] (by decide) rfl (Nat.le_of_ble_eq_true rfl) ?_
  intro p9 e9 s9 m9 bl9 me9 c9 ls A H hF hr hlocks hP hK hE hD hA hS hl hin
  have hl : lv_has ls 2 [(0, .ref a), (1, .int d)] := hl
  obtain ⟨hx, hb, hml, hown, hts⟩ := id hF
  have k_fieldLink_11 : (Cond.fieldLink RJx40b00 11 "jdk/internal/math/FloatToDecimal" "bytes" "[B").before _ s9 = true := hts (.fieldLink RJx40b00 11 "jdk/internal/math/FloatToDecimal" "bytes" "[B") (by decide +kernel)
  have kc_RJx40b00 : ∀ w ∈ u_ws RJx40b00 TJx40b00 2, w ∈ wsJx40b00_appendDigit_d00df := by decide +kernel
  have k_fieldLink_42 : (Cond.fieldLink RJx40b00 42 "jdk/internal/math/FloatToDecimal" "index" "I").before _ s9 = true := hts (.fieldLink RJx40b00 42 "jdk/internal/math/FloatToDecimal" "index" "I") (by decide +kernel)
  refine lv_aload_n hx hb dJx40b00_appendDigit_d00df_0 rfl (lv_at hl 0 rfl) ?_
  refine va_get (D := D) (ci := 3) (v := .ref b) (C := RJx40b00) (T := TJx40b00) (N := 2) hx hb hts kc_RJx40b00 hown hK hP 0 rfl rfl 0 (by decide) k_fieldLink_11 (fun _ h9 => h9) rfl dJx40b00_appendDigit_d00df_1 ?_
  refine lv_aload_n hx hb dJx40b00_appendDigit_d00df_4 rfl (lv_at hl 0 rfl) ?_
  refine lv_dup hx hb dJx40b00_appendDigit_d00df_5 rfl ?_
  refine va_get (D := D) (ci := 3) (v := .int (im n)) (C := RJx40b00) (T := TJx40b00) (N := 2) hx hb hts kc_RJx40b00 hown hK hP 0 rfl rfl 1 (by decide) k_fieldLink_42 (fun _ h9 => h9) rfl dJx40b00_appendDigit_d00df_6 ?_
  refine lv_iconst (v := 1) hx hb dJx40b00_appendDigit_d00df_9 (by decide) ?_
  refine lv_iadd hx hb dJx40b00_appendDigit_d00df_10 ?_
  refine lv_tope (v2 := .int (nI n)) (congrArg Value.int (by exact im_1 n)) ?_
  refine lv_dup_x1 hx hb dJx40b00_appendDigit_d00df_11 rfl rfl ?_
  refine va_put (D := D) (ci := 3) (v := .int (nI n)) (ty := .int) (C := RJx40b00) (T := TJx40b00) (N := 2) hx hb hts kc_RJx40b00 tyJx40b00 tyJx40b00_ok nmJx40b00 hown hK hP hD hS 0 rfl rfl 1 (by decide) k_fieldLink_42 (fun _ h9 => h9) rfl (by decide +kernel) rfl rfl (Nat.le_of_ble_eq_true rfl) dJx40b00_appendDigit_d00df_12 (fun H locs hP hD hS => ?_)
  have hP : va_P D vwCl (bFO9 k a b (nI n) ++ bAB k b 15 f) H := hP
  have hD : va_D A (bFO9 k a b (nI n) ++ bAB k b 15 f) := hD
  refine lv_bipush (v := 48) hx hb dJx40b00_appendDigit_d00df_15 (by decide) ?_
  refine lv_iload_n hx hb dJx40b00_appendDigit_d00df_17 rfl (lv_at hl 1 rfl) ?_
  refine lv_iadd hx hb dJx40b00_appendDigit_d00df_18 ?_
  refine lv_i2b (v := (48 + d).toInt8.toInt32) hx hb dJx40b00_appendDigit_d00df_19 rfl ?_
  refine by_st hx hb hK hP hD hS 1 rfl n hn (by decide) (pk_vb _) (bFO9 k a b (nI n) ++ bAB k b 15 (upd f n ((48 + d).toInt8.toInt32))) rfl dJx40b00_appendDigit_d00df_20 (fun H locs hP hD hS => ?_)
  have e_1 : (nI n : Int32) = im (apd (f, n) d).2 := by first | (with_reducible rfl) | (exact im_s n)
  have hP := Eq.mp (congrArg (fun z9 => va_P D vwCl (bFO9 k a b z9 ++ bAB k b 15 (upd f n ((48 + d).toInt8.toInt32))) H) e_1) hP
  have hD := Eq.mp (congrArg (fun z9 => va_D A (bFO9 k a b z9 ++ bAB k b 15 (upd f n ((48 + d).toInt8.toInt32)))) e_1) hD
  have e_2 : (upd f n ((48 + d).toInt8.toInt32) : Nat → Int32) = (apd (f, n) d).1 := by first | (with_reducible rfl) | (rfl)
  have hP := Eq.mp (congrArg (fun z9 => va_P D vwCl (bFO9 k a b (im (apd (f, n) d).2) ++ bAB k b 15 z9) H) e_2) hP
  have hD := Eq.mp (congrArg (fun z9 => va_D A (bFO9 k a b (im (apd (f, n) d).2) ++ bAB k b 15 z9)) e_2) hD
  exact W.vret hx hb hr (fun t9 ht hW => ⟨⟨(), rfl, (by trivial), ⟨by rw [ht]; exact hP, va_K.moved hW.alike hK, hD⟩⟩, hS.F ht⟩) hS.2.2 dJx40b00_appendDigit_d00df_21 hlocks


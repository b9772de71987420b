/-! The class's bits are the bits. -/
/-- a double by its fields, without a sign -/
def dE (E T : Nat) : UInt64 := UInt64.ofNat (E * 2 ^ 52 + T)
theorem dE_nat {E T : Nat} (hE : E < 2048) (hT : T < 2 ^ 52) : (dE E T).toNat = E * 2 ^ 52 + T := by
  unfold dE
  rw [UInt64.toNat_ofNat']
  exact Nat.mod_eq_of_lt (by omega)
theorem dE_val {E T : Nat} (h0 : 1 ≤ E) (hE : E ≤ 2046) (hT : T < 2 ^ 52) : FP.Core.val64 (dE E T) = .fin false (2 ^ 52 + T) ((E : Int) - 1075) := by
  have ht : FP.Core.b64.tails = 2 ^ 52 := by decide +kernel
  have he : FP.Core.b64.exps = 2048 := by decide +kernel
  have hq : FP.Core.b64.qmin = -1074 := by decide +kernel
  have h : FP.Core.val64 (dE E T) = FP.Core.decode FP.Core.b64 (FP.Core.assemble FP.Core.b64 false E T) := by
    unfold FP.Core.val64 FP.Core.assemble
    rw [dE_nat (by omega) hT, ht, he, Bool.toNat_false, Nat.zero_mul, Nat.zero_add]
  rw [h, FP.Core.decode_assemble FP.Core.b64 false E T (by rw [he]; omega) (by rw [ht]; exact hT), if_neg (by rw [he]; omega), if_neg (by omega), ht, hq, show (-1074 : Int) + ((E : Int) - 1) = (E : Int) - 1075 by omega]
theorem dE_fits {E T : Nat} (h0 : 1 ≤ E) (hE : E ≤ 2046) (hT : T < 2 ^ 52) : FP.Core.fits FP.Core.b64 (.fin false (2 ^ 52 + T) ((E : Int) - 1075)) := by
  rw [← dE_val h0 hE hT]
  exact FP.Core.val64_fits _
theorem dE_of {y : UInt64} {E T : Nat} (h0 : 1 ≤ E) (hE : E ≤ 2046) (hT : T < 2 ^ 52) (h : FP.Core.val64 y = .fin false (2 ^ 52 + T) ((E : Int) - 1075)) : y = dE E T :=
  FP.Core.val64_inj (by rw [h]; exact fun q => by cases q) (h.trans (dE_val h0 hE hT).symm)
theorem dE_mul {E F G T : Nat} (h0 : 1 ≤ E) (hE : E ≤ 2046) (g0 : 1 ≤ F) (hF : F ≤ 2046) (k0 : 1 ≤ G) (hG : G ≤ 2046) (e : E + F = G + 1023) (hT : T < 2 ^ 52) : FP.dmul (dE E T) (dE F 0) = dE G T := by
  apply dE_of k0 hG hT
  rw [show FP.Core.val64 (FP.dmul (dE E T) (dE F 0)) = _ from FP.Core.val64_dmul _ _, dE_val h0 hE hT, dE_val g0 hF (by decide)]
  show FP.Core.roundRatio FP.Core.b64 (false != false) ((2 ^ 52 + T) * (2 ^ 52 + 0)) 1 (((E : Int) - 1075) + ((F : Int) - 1075)) = _
  refine FP.Core.roundRatio_exact FP.Core.good_b64 (by decide) (dE_fits k0 hG hT) ?_
  rw [show ((E : Int) - 1075 + ((F : Int) - 1075) - ((G : Int) - 1075)).toNat = 0 by omega, show ((G : Int) - 1075 - ((E : Int) - 1075 + ((F : Int) - 1075))).toNat = 52 by omega]
  omega
theorem D2_dE : D2 = dE 1024 0 := by decide +kernel
theorem D05_dE : D05 = dE 1022 0 := by decide +kernel
theorem D1_dE : FP.dconst1 = dE 1023 0 := by decide +kernel
theorem dE_nn {E T : Nat} (h0 : 1 ≤ E) (hE : E ≤ 2046) (hT : T < 2 ^ 52) : FP.Core.val64 (dE E T) ≠ .nan := by rw [dE_val h0 hE hT]; exact fun q => by cases q
theorem dE_lt {E T F : Nat} (h0 : 1 ≤ E) (hE : E ≤ 2046) (hT : T < 2 ^ 52) (g0 : 1 ≤ F) (hF : F ≤ 2046) : (FP.dcmp (dE E T) (dE F 0) = some .lt ↔ E < F) ∧ ¬ FP.dcmp (dE E T) (dE F 0) = none := by
  have ea := dE_nat (E := E) (T := T) (by omega) hT
  have eb := dE_nat (E := F) (T := 0) (by omega) (by decide)
  obtain ⟨h1, h2, h3⟩ := FP.Core.mono_bits (dE_nn h0 hE hT) (dE_nn (T := 0) g0 hF (by decide)) (by rw [ea]; omega) (by rw [eb]; omega)
  rw [ea, eb] at h1 h2 h3
  refine ⟨(show FP.dcmp (dE E T) (dE F 0) = some .lt ↔ _ from h1).trans (by omega), fun q => ?_⟩
  have q : FP.Core.dcmp (dE E T) (dE F 0) = none := q
  rw [q] at h1 h2 h3
  rcases Nat.lt_trichotomy (E * 2 ^ 52 + T) (F * 2 ^ 52 + 0) with r | r | r
  · have := h1.mpr r; cases this
  · have := h2.mpr r; cases this
  · have := h3.mpr r; cases this
theorem hf_dE {E T : Nat} (hE : E ≤ 2046) (hT : T < 2 ^ 52) (i : Nat) (hi : i + 1 ≤ E) : hfD (dE E T) i = dE (E - i) T := by
  induction i with
  | zero => rfl
  | succ i ih =>
    rw [hfD_s, ih (by omega), D05_dE]
    exact dE_mul (by omega) (by omega) (by decide) (by decide) (by omega) (by omega) (by omega) hT
theorem db_dE {E T : Nat} (h0 : 1 ≤ E) (hT : T < 2 ^ 52) (i : Nat) (hi : E + i ≤ 2046) : dbD (dE E T) i = dE (E + i) T := by
  induction i with
  | zero => rfl
  | succ i ih =>
    rw [dbD_s, ih (by omega), D2_dE]
    exact dE_mul (by omega) (by omega) (by decide) (by decide) (by omega) (by omega) (by omega) hT
theorem k1_dE {E T : Nat} (h0 : 1 ≤ E) (hE : E ≤ 1200) (hT : T < 2 ^ 52) : k1E (dE E T) = E - 1023 := by
  have e : ∀ i, i + 1 ≤ E → (FP.dcmp (hfD (dE E T) i) D2 = some .lt ↔ E - i < 1024) ∧ ¬ FP.dcmp (hfD (dE E T) i) D2 = none := fun i hi => by
    rw [hf_dE (by omega) hT i hi, D2_dE]
    exact dE_lt (by omega) (by omega) hT (by decide) (by decide)
  refine k1E_at (fun c hc => ?_) ?_ (by omega)
  · have := e c (by omega)
    refine decide_eq_false (fun q => ?_)
    rcases q with q | q
    · have := this.1.mp q
      omega
    · exact this.2 q
  · exact decide_eq_true (Or.inl ((e (E - 1023) (by omega)).1.mpr (by omega)))
theorem k2_dE {E T : Nat} (h0 : 830 ≤ E) (hE : E ≤ 1200) (hT : T < 2 ^ 52) : k2E (dE E T) = 1023 - E := by
  have ek := k1_dE (show 1 ≤ E by omega) hE hT
  have e1 : hfD (dE E T) (k1E (dE E T)) = dE (E - (E - 1023)) T := by rw [ek, hf_dE (by omega) hT _ (by omega)]
  have e : ∀ i, i ≤ 200 → (FP.dcmp (dbD (hfD (dE E T) (k1E (dE E T))) i) FP.dconst1 = some .lt ↔ E - (E - 1023) + i < 1023) := fun i hi => by
    rw [e1, db_dE (by omega) hT i (by omega), D1_dE]
    exact (dE_lt (by omega) (by omega) hT (by decide) (by decide)).1
  refine k2E_at (fun c hc => ?_) ?_ (by omega)
  · unfold st1
    rw [decide_eq_true ((e c (by omega)).mpr (by omega))]; rfl
  · unfold st1
    rw [decide_eq_false (fun q => by have := (e (1023 - E) (by omega)).mp q; omega)]; rfl
theorem ex_dE {E T : Nat} (h0 : 830 ≤ E) (hE : E ≤ 1200) (hT : T < 2 ^ 52) : exE2 (dE E T) = nI (E - 1023) - nI (1023 - E) := by
  rw [exE2_eq, k1_dE (by omega) hE hT, k2_dE h0 hE hT]
theorem p2_dE {j : Nat} (h : j ≤ 300) : p2D j = dE (1023 + j) 0 := by
  rw [p2D_c h]
  unfold c2D dE
  rw [Nat.add_zero]
theorem d2l_dE {T : Nat} (hT : T < 2 ^ 52) : FP.d2l (dE 1075 T) = lN (2 ^ 52 + T) := by
  have h : FP.Core.DInt (lN (2 ^ 52 + T)).toInt (dE 1075 T) := by
    unfold FP.Core.DInt
    rw [dE_val (by decide) (by decide) hT, pk_lT (by omega)]
    show FP.Core.signed false ((2 ^ 52 + T) * 2 ^ (((1075 : Nat) : Int) - 1075).toNat) = (((2 ^ 52 + T : Nat)) : Int) * ((2 ^ (-(((1075 : Nat) : Int) - 1075)).toNat : Nat) : Int)
    rw [show ((((1075 : Nat) : Int) - 1075).toNat) = 0 by decide, show ((-(((1075 : Nat) : Int) - 1075)).toNat) = 0 by decide]
    show (((2 ^ 52 + T) * 1 : Nat) : Int) = (((2 ^ 52 + T : Nat)) : Int) * ((1 : Nat) : Int)
    omega
  exact FP.Core.d2l_int h
/-- doubles from 1 on -/
theorem bdS_ok {d : UInt64} (h1 : 1023 * 2 ^ 52 ≤ d.toNat) (h2 : d.toNat < 1076 * 2 ^ 52) : bdS d = d.toInt64 := by
  obtain ⟨E, T, hT, e⟩ : ∃ E T, T < 2 ^ 52 ∧ d.toNat = E * 2 ^ 52 + T := ⟨d.toNat / 2 ^ 52, d.toNat % 2 ^ 52, Nat.mod_lt _ (by decide), by omega⟩
  have hE1 : 1023 ≤ E := by omega
  have hE2 : E ≤ 1075 := by omega
  have ed : d = dE E T := UInt64.toNat_inj.mp (by rw [dE_nat (by omega) hT]; exact e)
  subst ed
  obtain ⟨x, rfl⟩ : ∃ x, E = 1023 + x := ⟨E - 1023, by omega⟩
  have hx : x ≤ 52 := by omega
  have e2 : exE2 (dE (1023 + x) T) = nI x := by
    rw [ex_dE (by omega) (by omega) hT, show 1023 + x - 1023 = x by omega, show 1023 - (1023 + x) = 0 by omega]
    exact Int32.sub_zero _
  unfold bdS
  rw [e2]
  have e3 : ((52 : Int32) - nI x).toNatClampNeg = 52 - x := by
    rw [show (52 : Int32) = nI 52 from rfl, pk_sub hx, nI_clamp (by omega)]
  rw [e3, p2_dE (by omega), dE_mul (G := 1075) (by omega) (by omega) (by omega) (by omega) (by decide) (by decide) (by omega) hT, d2l_dE hT]
  have e4 : (nI x + 1022).toInt64 <<< ((52 : Int32).toInt64 &&& 63) = lN ((x + 1022) * 2 ^ 52) := by
    have : ∀ x : Nat, x < 53 → (nI x + 1022).toInt64 <<< ((52 : Int32).toInt64 &&& 63) = lN ((x + 1022) * 2 ^ 52) := by decide +kernel
    exact this x (by omega)
  rw [e4, lN_add]
  show lN ((x + 1022) * 2 ^ 52 + (2 ^ 52 + T)) = lN ((1023 + x) * 2 ^ 52 + T)
  rw [show (x + 1022) * 2 ^ 52 + (2 ^ 52 + T) = (1023 + x) * 2 ^ 52 + T by omega]
/-! Floats. -/
theorem d2i_wh {c : Nat} {y : UInt64} (hc : c < 2 ^ 31) {q : Int} {m : Nat} (h : FP.Core.val64 y = .fin false m q) (hq : q ≤ 0) (hm : m = c * 2 ^ (-q).toNat) : FP.d2i y = nI c := by
  have h9 : FP.Core.DInt (nI c).toInt y := by
    unfold FP.Core.DInt
    rw [h, nI_toInt hc]
    show FP.Core.signed false (m * 2 ^ q.toNat) = (c : Int) * ((2 ^ (-q).toNat : Nat) : Int)
    rw [show q.toNat = 0 by omega, hm, Nat.pow_zero, Nat.mul_one]
    show ((c * 2 ^ (-q).toNat : Nat) : Int) = _
    exact Int.natCast_mul _ _
  exact FP.Core.d2i_int h9
theorem f2d_of {x : UInt32} {c : Nat} {q : Int} {E T : Nat} (h0 : 1 ≤ E) (hE : E ≤ 2046) (hT : T < 2 ^ 52) (h : FP.Core.val32 x = .fin false c q) (hq : (E : Int) - 1075 ≤ q) (hc : c * 2 ^ (q - ((E : Int) - 1075)).toNat = 2 ^ 52 + T) : FP.f2d x = dE E T := by
  have hn : FP.fIsNaN x = false := by
    cases r : FP.fIsNaN x with
    | false => rfl
    | true => rw [(FP.Core.fIsNaN_iff x).mp r] at h; cases h
  rw [FP.f2d_core hn]
  apply dE_of h0 hE hT
  rw [FP.Core.val64_f2d, h]
  refine FP.Core.roundRatio_exact FP.Core.good_b64 (by decide) (dE_fits h0 hE hT) ?_
  rw [hc, show ((E : Int) - 1075 - q).toNat = 0 by omega, Nat.pow_zero, Nat.mul_one, Nat.mul_one]
theorem val32_f (u : Nat) (hu : u < 2 ^ 31) : FP.Core.val32 (UInt32.ofNat u) = FP.Core.decode FP.Core.b32 u := by
  unfold FP.Core.val32
  rw [UInt32.toNat_ofNat', Nat.mod_eq_of_lt (by omega)]
theorem val32_n {E t : Nat} (h0 : 1 ≤ E) (hE : E ≤ 254) (ht : t < 2 ^ 23) : FP.Core.val32 (UInt32.ofNat (E * 2 ^ 23 + t)) = .fin false (2 ^ 23 + t) ((E : Int) - 150) := by
  have htl : FP.Core.b32.tails = 2 ^ 23 := by decide +kernel
  have he : FP.Core.b32.exps = 256 := by decide +kernel
  have hq : FP.Core.b32.qmin = -149 := by decide +kernel
  have h : E * 2 ^ 23 + t = FP.Core.assemble FP.Core.b32 false E t := by
    unfold FP.Core.assemble
    rw [htl, Bool.toNat_false, Nat.zero_mul, Nat.zero_add]
  rw [val32_f _ (by omega), h, FP.Core.decode_assemble FP.Core.b32 false E t (by rw [he]; omega) (by rw [htl]; exact ht), if_neg (by rw [he]; omega), if_neg (by omega), htl, hq, show (-149 : Int) + ((E : Int) - 1) = (E : Int) - 150 by omega]
theorem val32_s {t : Nat} (ht : t < 2 ^ 23) : FP.Core.val32 (UInt32.ofNat t) = .fin false t (-149) := by
  have htl : FP.Core.b32.tails = 2 ^ 23 := by decide +kernel
  have he : FP.Core.b32.exps = 256 := by decide +kernel
  have hq : FP.Core.b32.qmin = -149 := by decide +kernel
  have h : t = FP.Core.assemble FP.Core.b32 false 0 t := by
    unfold FP.Core.assemble
    simp
  rw [val32_f _ (by omega)]
  conv => lhs; rw [h]
  rw [FP.Core.decode_assemble FP.Core.b32 false 0 t (by rw [he]; decide) (by rw [htl]; exact ht), if_neg (by rw [he]; decide), if_pos rfl, hq]
theorem bf_norm {E t : Nat} (h0 : 1 ≤ E) (hE : E ≤ 146) (ht : t < 2 ^ 23) : bfS (UInt32.ofNat (E * 2 ^ 23 + t)) = nI (E * 2 ^ 23 + t) := by
  have hT : t * 2 ^ 29 < 2 ^ 52 := by omega
  have ed : FP.f2d (UInt32.ofNat (E * 2 ^ 23 + t)) = dE (E + 896) (t * 2 ^ 29) := by
    refine f2d_of (by omega) (by omega) hT (val32_n h0 (by omega) ht) (by omega) ?_
    rw [show ((E : Int) - 150 - (((E + 896 : Nat) : Int) - 1075)).toNat = 29 by omega]
    omega
  unfold bfS
  rw [ed]
  have key : ∀ E : Nat, E < 147 → 1 ≤ E → ¬ (nI (E + 896 - 1023) - nI (1023 - (E + 896)) < -126) ∧ (nI (E + 896 - 1023) - nI (1023 - (E + 896)) + 126) <<< ((23 : Int32) &&& 31) = nI ((E - 1) * 2 ^ 23) ∧ ((23 : Int32) - (nI (E + 896 - 1023) - nI (1023 - (E + 896)))).toNatClampNeg = 150 - E := by decide +kernel
  obtain ⟨k1, k2, k3⟩ := key E (by omega) h0
  have ex : exF (dE (E + 896) (t * 2 ^ 29)) = nI (E + 896 - 1023) - nI (1023 - (E + 896)) := by
    rw [exF_eq, ex_dE (by omega) (by omega) hT, if_neg k1]
  rw [ex, k2, k3, p2_dE (by omega), dE_mul (G := 1046) (by omega) (by omega) (by omega) (by omega) (by decide) (by decide) (by omega) hT]
  have e2 : FP.d2i (dE 1046 (t * 2 ^ 29)) = nI (2 ^ 23 + t) := by
    refine d2i_wh (by omega) (dE_val (by decide) (by decide) hT) (by decide) ?_
    rw [show ((-(((1046 : Nat) : Int) - 1075)).toNat) = 29 by decide]
    omega
  rw [e2, nI_add, show (E - 1) * 2 ^ 23 + (2 ^ 23 + t) = E * 2 ^ 23 + t by omega]
theorem bf_sub {t : Nat} (h0 : 1 ≤ t) (ht : t < 2 ^ 23) : bfS (UInt32.ofNat t) = nI t := by
  obtain ⟨L, hL1, hL2⟩ : ∃ L, 2 ^ L ≤ t ∧ t < 2 ^ (L + 1) := ⟨t.log2, Nat.log2_self_le (by omega), Nat.lt_log2_self⟩
  have hL : L ≤ 22 := by
    rcases Nat.lt_or_ge 22 L with q | q
    · have : 2 ^ 23 ≤ 2 ^ L := Nat.pow_le_pow_right (by decide) q
      omega
    · exact q
  have hp : 2 ^ L * 2 ^ (52 - L) = 2 ^ 52 := by rw [← Nat.pow_add]; congr 1; omega
  have hp2 : 2 ^ (L + 1) * 2 ^ (52 - L) = 2 ^ 53 := by rw [← Nat.pow_add]; congr 1; omega
  obtain ⟨T, eT⟩ : ∃ T, t * 2 ^ (52 - L) = 2 ^ 52 + T := by
    have : 2 ^ 52 ≤ t * 2 ^ (52 - L) := by rw [← hp]; exact Nat.mul_le_mul_right _ hL1
    exact ⟨t * 2 ^ (52 - L) - 2 ^ 52, by omega⟩
  have hT : T < 2 ^ 52 := by
    have : t * 2 ^ (52 - L) < 2 ^ 53 := by rw [← hp2]; exact Nat.mul_lt_mul_of_pos_right hL2 (Nat.two_pow_pos _)
    omega
  have ed : FP.f2d (UInt32.ofNat t) = dE (L + 874) T := by
    refine f2d_of (by omega) (by omega) hT (val32_s ht) (by omega) ?_
    rw [show ((-149 : Int) - (((L + 874 : Nat) : Int) - 1075)).toNat = 52 - L by omega]
    exact eT
  unfold bfS
  rw [ed]
  have key : ∀ L : Nat, L < 23 → nI (L + 874 - 1023) - nI (1023 - (L + 874)) < -126 := by decide +kernel
  have ex : exF (dE (L + 874) T) = -126 := by
    rw [exF_eq, ex_dE (by omega) (by omega) hT, if_pos (key L (by omega))]
  rw [ex, show ((23 : Int32) - -126).toNatClampNeg = 149 by decide, p2_dE (by decide), dE_mul (G := L + 1023) (by omega) (by omega) (by decide) (by decide) (by omega) (by omega) (by omega) hT]
  have e2 : FP.d2i (dE (L + 1023) T) = nI t := by
    refine d2i_wh (by omega) (dE_val (by omega) (by omega) hT) (by omega) ?_
    rw [← eT, show ((-(((L + 1023 : Nat) : Int) - 1075)).toNat) = 52 - L by omega]
  rw [e2, show ((-126 : Int32) + 126) <<< ((23 : Int32) &&& 31) = 0 by decide, Int32.zero_add]
theorem bf_zero : bfS 0 = 0 := by
  have e0 : FP.f2d 0 = 0 := by decide +kernel
  unfold bfS
  rw [e0]
  have hdb : ∀ i, dbD 0 i = 0 := by
    intro i
    induction i with
    | zero => rfl
    | succ i ih =>
      rw [dbD_s, ih]
      decide +kernel
  have k1 : k1E 0 = 0 := k1E_at (fun c hc => absurd hc (Nat.not_lt_zero c)) (by decide +kernel) (by decide)
  have k2 : k2E 0 = 200 := k2E_no (fun c _ => by
    rw [k1]
    show st1 0 c = false
    unfold st1
    rw [hdb]
    decide +kernel)
  have ex : exF 0 = -126 := by
    rw [exF_eq, exE2_eq, k1, k2]
    decide
  rw [ex, show ((23 : Int32) - -126).toNatClampNeg = 149 by decide, p2_dE (by decide)]
  decide +kernel
/-- floats below 2^20 -/
theorem bfS_ok {x : UInt32} (h : x.toNat < 147 * 2 ^ 23) : bfS x = x.toInt32 := by
  obtain ⟨u, hu, rfl⟩ : ∃ u, u < 147 * 2 ^ 23 ∧ x = UInt32.ofNat u := ⟨x.toNat, h, UInt32.ofNat_toNat.symm⟩
  show bfS (UInt32.ofNat u) = nI u
  by_cases h0 : u = 0
  · subst h0; exact bf_zero
  · by_cases h1 : u < 2 ^ 23
    · exact bf_sub (by omega) h1
    · obtain ⟨E, t, ht, e⟩ : ∃ E t, t < 2 ^ 23 ∧ u = E * 2 ^ 23 + t := ⟨u / 2 ^ 23, u % 2 ^ 23, Nat.mod_lt _ (by decide), by omega⟩
      subst e
      exact bf_norm (by omega) (by omega) ht
/-! Fluxes stay small. -/
/-- not negative, and no more than the cap -/
def smO (x : UInt32) : Prop := okF x ∧ x.toNat ≤ 1203982208
theorem okF_lt {x : UInt32} (h : okF x) : x.toNat < 2 ^ 31 := by
  rcases Nat.lt_or_ge x.toNat (2 ^ 31) with q | q
  · exact q
  · exfalso
    have hl : x.toNat < 2 ^ 32 := x.toNat_lt
    have hs : FP.Core.fieldS FP.Core.b32 x.toNat = true := by
      show (x.toNat / 2 ^ 23 / 2 ^ 8 % 2 == 1) = true
      have : x.toNat / 2 ^ 23 / 2 ^ 8 % 2 = 1 := by omega
      rw [this]; rfl
    have h : posD (FP.Core.decode FP.Core.b32 x.toNat) = true := h
    unfold FP.Core.decode at h
    rw [hs] at h
    split at h
    · split at h <;> cases h
    · split at h <;> cases h
theorem smO_cp {x : UInt32} (h : okF x) : smO (cpF x) := by
  have hc : okF 1203982208 := (by decide +kernel : posD (FP.Core.val32 1203982208) = true)
  unfold cpF
  split
  · exact ⟨hc, by decide⟩
  · rename_i q
    refine ⟨h, ?_⟩
    have h3 := (FP.Core.mono_bits32 (okF_notNaN h) (okF_notNaN hc) (okF_lt h) (okF_lt hc)).2.2
    rcases Nat.lt_or_ge 1203982208 x.toNat with r | r
    · exact absurd (h3.mpr r) q
    · exact r
theorem smO_0 : smO FP.fconst0 := ⟨okF_0, by decide⟩
theorem smO_fin {x : UInt32} (h : x.toNat < 2139095040) : FP.Core.FFin x := (FP.Core.fin_bits32 x).mpr (by omega)
theorem ord_le {x V : UInt32} (hx : okF x) (hV : okF V) (h : FP.Core.zval FP.Core.b32 (FP.Core.val32 x) ≤ FP.Core.zval FP.Core.b32 (FP.Core.val32 V)) : x.toNat ≤ V.toNat := by
  have h3 := (FP.Core.mono_bits32 (okF_notNaN hx) (okF_notNaN hV) (okF_lt hx) (okF_lt hV)).2.2
  rcases Nat.lt_or_ge V.toNat x.toNat with r | r
  · have e : FP.Core.fcmp x V = some .gt := h3.mpr r
    have e2 : FP.Core.fcmp x V = some (compare (FP.Core.zval FP.Core.b32 (FP.Core.val32 x)) (FP.Core.zval FP.Core.b32 (FP.Core.val32 V))) := FP.Core.order_zval FP.Core.good_b32 (FP.Core.val32_fits x) (FP.Core.val32_fits V) (okF_notNaN hx) (okF_notNaN hV)
    rw [e2] at e
    have e3 := Option.some.inj e
    rw [FP.Core.compare_ite] at e3
    split at e3
    · cases e3
    · split at e3
      · cases e3
      · rename_i a b
        omega
  · exact r
theorem le_ord {x V : UInt32} (hx : okF x) (hV : okF V) (h : x.toNat ≤ V.toNat) : FP.Core.zval FP.Core.b32 (FP.Core.val32 x) ≤ FP.Core.zval FP.Core.b32 (FP.Core.val32 V) := by
  have h3 := (FP.Core.mono_bits32 (okF_notNaN hx) (okF_notNaN hV) (okF_lt hx) (okF_lt hV)).2.2
  have e2 : FP.Core.fcmp x V = some (compare (FP.Core.zval FP.Core.b32 (FP.Core.val32 x)) (FP.Core.zval FP.Core.b32 (FP.Core.val32 V))) := FP.Core.order_zval FP.Core.good_b32 (FP.Core.val32_fits x) (FP.Core.val32_fits V) (okF_notNaN hx) (okF_notNaN hV)
  by_cases r : FP.Core.zval FP.Core.b32 (FP.Core.val32 V) < FP.Core.zval FP.Core.b32 (FP.Core.val32 x)
  · exfalso
    rw [FP.Core.compare_ite, if_neg (by omega), if_neg (by omega)] at e2
    have := h3.mp e2
    omega
  · omega
/-- m times the cap -/
def cpM (m : Nat) : UInt32 := FP.i2f (nI (99999 * m))
theorem cpM_ok {m : Nat} (h : m ≤ 10) : okF (cpM m) ∧ (cpM m).toNat < 147 * 2 ^ 23 := by
  have : ∀ m : Nat, m < 11 → posD (FP.Core.val32 (cpM m)) = true ∧ (cpM m).toNat < 147 * 2 ^ 23 := by decide +kernel
  exact this m (by omega)
theorem cpM_s {m : Nat} (h : m < 10) : FP.Core.zval FP.Core.b32 (FP.Core.val32 (cpM m)) + FP.Core.zval FP.Core.b32 (FP.Core.val32 1203982208) ≤ FP.Core.zval FP.Core.b32 (FP.Core.val32 (cpM (m + 1))) := by
  have : ∀ m : Nat, m < 10 → FP.Core.zval FP.Core.b32 (FP.Core.val32 (cpM m)) + FP.Core.zval FP.Core.b32 (FP.Core.val32 1203982208) ≤ FP.Core.zval FP.Core.b32 (FP.Core.val32 (cpM (m + 1))) := by decide +kernel
  exact this m h
theorem sum_sm {f : Nat → UInt32} {m : Nat} (hm : m ≤ 10) (h : ∀ c, c < m → smO (f c)) : (smF f m).toNat ≤ (cpM m).toNat := by
  induction m with
  | zero => exact Nat.zero_le _
  | succ m ih =>
    have i1 := ih (by omega) (fun c hc => h c (by omega))
    have hc := h m (Nat.lt_succ_self m)
    have c0 := cpM_ok (m := m) (by omega)
    have c1 := cpM_ok (m := m + 1) hm
    have s0 : okF (smF f m) := okF_sm (fun c hc => (h c (by omega)).1)
    have s1 : okF (smF f (m + 1)) := okF_sm (fun c hc => (h c hc).1)
    refine ord_le s1 c1.1 ?_
    show FP.Core.zval FP.Core.b32 (FP.Core.val32 (FP.fadd (smF f m) (f m))) ≤ _
    rw [show FP.Core.val32 (FP.fadd (smF f m) (f m)) = _ from FP.Core.val32_fadd _ _]
    have hcap : okF 1203982208 := (by decide +kernel : posD (FP.Core.val32 1203982208) = true)
    have z1 := le_ord s0 c0.1 i1
    have z2 := le_ord hc.1 hcap hc.2
    have z3 := cpM_s (m := m) (by omega)
    exact FP.Core.sum_le FP.Core.good_b32 (smO_fin (by omega)) (smO_fin (by have := hc.2; omega)) (FP.Core.val32_fits _) (FP.Core.val32_fits _) (FP.Core.val32_fits _) (okF_notNaN c1.1) (by omega)
theorem q_fb {x : UInt32} (h : smO x) : bfS x = x.toInt32 := bfS_ok (by have := h.2; omega)
theorem q_pb {f : Nat → UInt32} {n : Nat} (hn : n ≤ 10) (h : ∀ c, c < n → smO (f c)) : bfS (smF f n) = (smF f n).toInt32 := bfS_ok (by have := sum_sm hn h; have := (cpM_ok hn).2; omega)
/-- a mean weight -/
theorem adS_bd {n : Nat} {w : Nat → Int32} (h : wtOk n w) (x : Int32) (hx : ∀ c, c < n → tb x c = true) : ∃ j, n ≤ j ∧ j ≤ 99 * n ∧ adS n w x = nI j := by
  induction n with
  | zero => exact ⟨0, by decide, by decide, rfl⟩
  | succ n ih =>
    obtain ⟨j, h1, h2, e⟩ := ih (fun c hc => h c (Nat.lt_succ_of_lt hc)) (fun c hc => hx c (Nat.lt_succ_of_lt hc))
    obtain ⟨i, hi1, hi, ei⟩ := h n (Nat.lt_succ_self n)
    rw [adS_s, if_pos (hx n (Nat.lt_succ_self n))]
    exact ⟨j + i, by omega, by omega, by rw [e, ei, nI_add]⟩
def mnB (n j : Nat) : Bool := decide (1023 * 2 ^ 52 ≤ (FP.ddiv (FP.i2d (nI j)) (FP.i2d (nI n))).toNat) && decide ((FP.ddiv (FP.i2d (nI j)) (FP.i2d (nI n))).toNat < 1076 * 2 ^ 52)
theorem mn_bits : ∀ n : Nat, n < 11 → 1 ≤ n → ∀ j : Nat, j < 991 → n ≤ j → j ≤ 99 * n → mnB n j = true := by decide +kernel
theorem q_mb {n : Nat} {w : Nat → Int32} (hn : n ≤ 10) (h1 : 1 ≤ n) (h : wtOk n w) : bdS (mnS n w) = (mnS n w).toInt64 := by
  obtain ⟨j, h2, h3, e⟩ := adS_bd h (nI (pw n - 1)) (fun c hc => by rw [tb_pw hn (by omega), decide_eq_true hc])
  have hb := mn_bits n (by omega) h1 j (by omega) h2 h3
  unfold mnB at hb
  rw [Bool.and_eq_true, decide_eq_true_eq, decide_eq_true_eq] at hb
  unfold mnS
  rw [e]
  exact bdS_ok hb.1 hb.2

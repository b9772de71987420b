/-! Reach; labels; the model's circles. -/
/-- ===== JDK: bitCount of small sets ===== -/
def lowB (x : Int32) : Prop := ∀ j, 10 ≤ j → tb x j = false
def pcE (x : Int32) : Int32 :=
  let a := x - ((x.toUInt32 >>> ((1 : Int32).toUInt32 &&& Int32.toUInt32 31)).toInt32 &&& 1431655765)
  let b := (a &&& 858993459) + ((a.toUInt32 >>> ((2 : Int32).toUInt32 &&& Int32.toUInt32 31)).toInt32 &&& 858993459)
  let c := (b + (b.toUInt32 >>> ((4 : Int32).toUInt32 &&& Int32.toUInt32 31)).toInt32) &&& 252645135
  let d := c + (c.toUInt32 >>> ((8 : Int32).toUInt32 &&& Int32.toUInt32 31)).toInt32
  let e := d + (d.toUInt32 >>> ((16 : Int32).toUInt32 &&& Int32.toUInt32 31)).toInt32
  e &&& 63
theorem nI_bv (n : Nat) : (nI n).toBitVec = BitVec.ofNat 32 n := rfl
theorem low_nat {x : Int32} (h : lowB x) : ∃ j, j < 1024 ∧ x = nI j := by
  refine ⟨x.toBitVec.toNat % 1024, Nat.mod_lt _ (by decide), ?_⟩
  apply tb_ext
  intro c hc
  unfold tb
  rw [nI_bv, BitVec.getLsbD_ofNat]
  rw [show 1024 = 2 ^ 10 from rfl, Nat.testBit_mod_two_pow]
  by_cases q : c < 10
  · simp [hc, q, BitVec.getLsbD]
  · have := h c (by omega)
    unfold tb at this
    simp [q, this]
theorem pcE_cn {x : Int32} (h : lowB x) : pcE x = nI (cn 10 x) := by
  obtain ⟨j, hj, rfl⟩ := low_nat h
  have : ∀ j : Nat, j < 1024 → pcE (nI j) = nI (cn 10 (nI j)) := by decide +kernel
  exact this j hj
theorem low_and {x : Int32} (h : lowB x) (y : Int32) : lowB (x &&& y) := fun j hj => by rw [tb_and, h j hj]; rfl
/-- ===== reach ===== -/
def r1S (t rd : Nat → Int32) (m : Nat) : Nat → Int32 := up (fun c f => upd f c (t c ||| bt c)) rd m
theorem r1S_s (t rd : Nat → Int32) (m : Nat) : r1S t rd (m + 1) = upd (r1S t rd m) m (t m ||| bt m) := rfl
def wS (m : Nat) (f : Nat → Int32) (c : Nat) : Nat → Int32 := up (fun c f => if tb (f c) m then upd f c (f c ||| f m) else f) f c
theorem wS_s (m : Nat) (f : Nat → Int32) (c : Nat) : wS m f (c + 1) = if tb (wS m f c c) m then upd (wS m f c) c (wS m f c c ||| wS m f c m) else wS m f c := rfl
def wA (n : Nat) (f : Nat → Int32) (m : Nat) : Nat → Int32 := up (fun m f => wS m f n) f m
theorem wA_s (n : Nat) (f : Nat → Int32) (m : Nat) : wA n f (m + 1) = wS m (wA n f m) n := rfl
def rchS (n : Nat) (t rd : Nat → Int32) : Nat → Int32 := wA n (r1S t rd n) n
/-- o and c do not reach one another -/
def pL (f : Nat → Int32) (c o : Nat) : Bool := !(tb (f c) o && tb (f o) c)
def cntL (f : Nat → Int32) (m : Nat) : Nat := up (fun c k => if allb (pL f c) c then k + 1 else k) 0 m
theorem cntL_s (f : Nat → Int32) (m : Nat) : cntL f (m + 1) = if allb (pL f m) m then cntL f m + 1 else cntL f m := rfl
/-- the model's reach -/
def wSM (m : Nat) (f : Nat → Int32) (c : Nat) : Nat → Int32 := up (fun c f => upd f c (f c ||| (if tb (f c) m then f m else 0))) f c
theorem wSM_s (m : Nat) (f : Nat → Int32) (c : Nat) : wSM m f (c + 1) = upd (wSM m f c) c (wSM m f c c ||| (if tb (wSM m f c c) m then wSM m f c m else 0)) := rfl
def wAM (n : Nat) (f : Nat → Int32) (m : Nat) : Nat → Int32 := up (fun m f => wSM m f n) f m
theorem wAM_s (n : Nat) (f : Nat → Int32) (m : Nat) : wAM n f (m + 1) = wSM m (wAM n f m) n := rfl
def rchM (n : Nat) (t rd : Nat → Int32) : Nat → Int32 := wAM n (r1S t rd n) n
def crM (f : Nat → Int32) (j m : Nat) : Int32 := up (fun c acc => acc ||| (if tb (f j) c && tb (f c) j then bt c else 0)) 0 m
theorem crM_s (f : Nat → Int32) (j m : Nat) : crM f j (m + 1) = crM f j m ||| (if tb (f j) m && tb (f m) j then bt m else 0) := rfl
def cntC (n : Nat) (f : Nat → Int32) (m : Nat) : Nat := up (fun c k => if crM f c n &&& (bt c - 1) = 0 then k + 1 else k) 0 m
theorem cntC_s (n : Nat) (f : Nat → Int32) (m : Nat) : cntC n f (m + 1) = if crM f m n &&& (bt m - 1) = 0 then cntC n f m + 1 else cntC n f m := rfl
theorem cntC_le (n : Nat) (f : Nat → Int32) (m : Nat) : cntC n f m ≤ m := by
  induction m with
  | zero => exact Nat.le_refl _
  | succ m ih => rw [cntC_s]; split <;> omega
theorem upd_same {f : Nat → Int32} {c : Nat} : upd f c (f c ||| 0) = f := by
  funext j
  unfold upd
  by_cases h : j = c
  · subst h; simp
  · simp [h]
/-- ===== labels ===== -/
def fsN (p : Nat → Bool) : Nat → Nat
  | 0 => 0
  | n + 1 => if fsN p n < n then fsN p n else if p n then n else n + 1
theorem fsN_none {p : Nat → Bool} : ∀ {n : Nat}, (∀ c, c < n → p c = false) → fsN p n = n
  | 0, _ => rfl
  | n + 1, h => by
    show (if fsN p n < n then fsN p n else if p n then n else n + 1) = n + 1
    rw [fsN_none (fun c hc => h c (Nat.lt_succ_of_lt hc)), if_neg (Nat.lt_irrefl n), h n (Nat.lt_succ_self n)]
    rfl
theorem fsN_some {p : Nat → Bool} {i : Nat} (h : ∀ c, c < i → p c = false) (hi : p i = true) : ∀ {n : Nat}, i < n → fsN p n = i
  | 0, q => absurd q (Nat.not_lt_zero i)
  | n + 1, q => by
    show (if fsN p n < n then fsN p n else if p n then n else n + 1) = i
    rcases Nat.lt_succ_iff_lt_or_eq.mp q with r | r
    · rw [fsN_some h hi r, if_pos r]
    · subst r
      rw [fsN_none h, if_neg (Nat.lt_irrefl i), hi]
      rfl
def pF (lf : Nat → Int32) (acc : Int32) (c : Nat) : Bool := decide (lf c = 0) && !tb acc c
def nfS (n : Nat) (lf : Nat → Int32) (acc : Int32) : Int32 := if fsN (pF lf acc) n < n then nI (fsN (pF lf acc) n) else -1
theorem nfS_none {n : Nat} {lf : Nat → Int32} {acc : Int32} (h : ∀ c, c < n → pF lf acc c = false) : nfS n lf acc = -1 := by
  unfold nfS; rw [fsN_none h, if_neg (Nat.lt_irrefl n)]
theorem nfS_some {n : Nat} {lf : Nat → Int32} {acc : Int32} {i : Nat} (h : ∀ c, c < i → pF lf acc c = false) (hi : pF lf acc i = true) (q : i < n) : nfS n lf acc = nI i := by
  unfold nfS; rw [fsN_some h hi q, if_pos q]
def l0S (a lf : Nat → Int32) (m : Nat) : Nat → Int32 := up (fun c f => upd f c (nI (cn 10 (a c)))) lf m
theorem l0S_s (a lf : Nat → Int32) (m : Nat) : l0S a lf (m + 1) = upd (l0S a lf m) m (nI (cn 10 (a m))) := rfl
def rlS (a : Nat → Int32) (fl : Int32) (lf : Nat → Int32) (m : Nat) : Nat → Int32 := up (fun c f => upd f c (f c - nI (cn 10 (a c &&& fl)))) lf m
theorem rlS_s (a : Nat → Int32) (fl : Int32) (lf : Nat → Int32) (m : Nat) : rlS a fl lf (m + 1) = upd (rlS a fl lf m) m (rlS a fl lf m m - nI (cn 10 (a m &&& fl))) := rfl
/-- accepted, rejected, attackers left: a step of labelling -/
def stL (n : Nat) (t a : Nat → Int32) (s : Int32 × Int32 × (Nat → Int32)) : Int32 × Int32 × (Nat → Int32) :=
  if fsN (pF s.2.2 s.1) n < n then (s.1 ||| bt (fsN (pF s.2.2 s.1) n), s.2.1 ||| (t (fsN (pF s.2.2 s.1) n) &&& (s.2.1 ^^^ (-1))), rlS a (t (fsN (pF s.2.2 s.1) n) &&& (s.2.1 ^^^ (-1))) s.2.2 n) else s
def itL (n : Nat) (t a lf : Nat → Int32) (r : Nat) : Int32 × Int32 × (Nat → Int32) := up (fun _ s => stL n t a s) (0, 0, l0S a lf n) r
theorem itL_s (n : Nat) (t a lf : Nat → Int32) (r : Nat) : itL n t a lf (r + 1) = stL n t a (itL n t a lf r) := rfl
theorem itL_stop {n : Nat} {t a lf : Nat → Int32} {r : Nat} (h : ¬ fsN (pF (itL n t a lf r).2.2 (itL n t a lf r).1) n < n) : ∀ d, itL n t a lf (r + d) = itL n t a lf r
  | 0 => rfl
  | d + 1 => by
    rw [show r + (d + 1) = (r + d) + 1 from rfl, itL_s, itL_stop h d]
    exact if_neg h
theorem nfS_m1 {n : Nat} {lf : Nat → Int32} {acc : Int32} (hn : n ≤ 10) (h : nfS n lf acc = -1) : ¬ fsN (pF lf acc) n < n := by
  intro q
  unfold nfS at h
  rw [if_pos q] at h
  have : ∀ j : Nat, j < 10 → ¬ nI j = -1 := by decide +kernel
  exact this _ (by omega) h
theorem nfS_ge {n : Nat} {lf : Nat → Int32} {acc : Int32} (h : ¬ nfS n lf acc = -1) : fsN (pF lf acc) n < n ∧ nfS n lf acc = nI (fsN (pF lf acc) n) := by
  unfold nfS at h ⊢
  by_cases q : fsN (pF lf acc) n < n
  · exact ⟨q, if_pos q⟩
  · rw [if_neg q] at h; exact absurd rfl h

set_option maxHeartbeats 4000000 in
set_option maxRecDepth 100000 in
theorem m_J6_bitCount_0f7a4 (l9 : Launch) (D : va_G) (k : Nat → ClassId) (x : Int32) (hlow : lowB x) : Met l9 yJ6_bitCount_0f7a4 wsJ6_bitCount_0f7a4 ({ frames := 0, cells := 0, slots := 0, locals := 0 }) (RPc D k [.int x] ([])) (EI (nI (cn 10 x))) 0 0 noA := by
  refine rMet (y := yJ6_bitCount_0f7a4) (cc := cJ6_bitCount_0f7a4) (maxL := 1) (ret := (some .int)) [.int x] (by decide) rfl (Nat.le_of_ble_eq_true rfl) ?_
  intro p9 e9 s9 m9 bl9 me9 c9 ls hF hr hlocks hP hK hN hl
  have hl : lv_has ls 1 [(0, .int x)] := hl
  obtain ⟨hx, hb, hml, hown, hts⟩ := id hF
  have k_constant_265 : (Cond.constant RJ6 265 (1431655765)).before _ s9 = true := hts (.constant RJ6 265 (1431655765)) (by decide +kernel)
  have k_constant_266 : (Cond.constant RJ6 266 (858993459)).before _ s9 = true := hts (.constant RJ6 266 (858993459)) (by decide +kernel)
  have k_constant_267 : (Cond.constant RJ6 267 (252645135)).before _ s9 = true := hts (.constant RJ6 267 (252645135)) (by decide +kernel)
  refine lv_iload_n hx hb dJ6_bitCount_0f7a4_0 rfl (lv_at hl 0 rfl) ?_
  refine lv_iload_n hx hb dJ6_bitCount_0f7a4_1 rfl (lv_at hl 0 rfl) ?_
  refine lv_iconst (v := 1) hx hb dJ6_bitCount_0f7a4_2 (by decide) ?_
  refine lv_iushr (v := (x.toUInt32 >>> ((1 : Int32).toUInt32 &&& Int32.toUInt32 31)).toInt32) hx hb dJ6_bitCount_0f7a4_3 rfl ?_
  refine lv_ldcw hx hb hown k_constant_265 dJ6_bitCount_0f7a4_4 ?_
  refine lv_iand hx hb dJ6_bitCount_0f7a4_7 ?_
  refine lv_isub hx hb dJ6_bitCount_0f7a4_8 ?_
  refine lv_istore_n (lv' := [(0, .int (x - (((x.toUInt32 >>> ((1 : Int32).toUInt32 &&& Int32.toUInt32 31)).toInt32) &&& 1431655765)))]) hx hb dJ6_bitCount_0f7a4_9 rfl hl (by decide) rfl (fun ls hl => ?_)
  refine lv_iload_n hx hb dJ6_bitCount_0f7a4_10 rfl (lv_at hl 0 rfl) ?_
  refine lv_ldcw hx hb hown k_constant_266 dJ6_bitCount_0f7a4_11 ?_
  refine lv_iand hx hb dJ6_bitCount_0f7a4_14 ?_
  refine lv_iload_n hx hb dJ6_bitCount_0f7a4_15 rfl (lv_at hl 0 rfl) ?_
  refine lv_iconst (v := 2) hx hb dJ6_bitCount_0f7a4_16 (by decide) ?_
  refine lv_iushr (v := ((x - (((x.toUInt32 >>> ((1 : Int32).toUInt32 &&& Int32.toUInt32 31)).toInt32) &&& 1431655765)).toUInt32 >>> ((2 : Int32).toUInt32 &&& Int32.toUInt32 31)).toInt32) hx hb dJ6_bitCount_0f7a4_17 rfl ?_
  refine lv_ldcw hx hb hown k_constant_266 dJ6_bitCount_0f7a4_18 ?_
  refine lv_iand hx hb dJ6_bitCount_0f7a4_21 ?_
  refine lv_iadd hx hb dJ6_bitCount_0f7a4_22 ?_
  refine lv_istore_n (lv' := [(0, .int (((x - (((x.toUInt32 >>> ((1 : Int32).toUInt32 &&& Int32.toUInt32 31)).toInt32) &&& 1431655765)) &&& 858993459) + ((((x - (((x.toUInt32 >>> ((1 : Int32).toUInt32 &&& Int32.toUInt32 31)).toInt32) &&& 1431655765)).toUInt32 >>> ((2 : Int32).toUInt32 &&& Int32.toUInt32 31)).toInt32) &&& 858993459)))]) hx hb dJ6_bitCount_0f7a4_23 rfl hl (by decide) rfl (fun ls hl => ?_)
  refine lv_iload_n hx hb dJ6_bitCount_0f7a4_24 rfl (lv_at hl 0 rfl) ?_
  refine lv_iload_n hx hb dJ6_bitCount_0f7a4_25 rfl (lv_at hl 0 rfl) ?_
  refine lv_iconst (v := 4) hx hb dJ6_bitCount_0f7a4_26 (by decide) ?_
  refine lv_iushr (v := ((((x - (((x.toUInt32 >>> ((1 : Int32).toUInt32 &&& Int32.toUInt32 31)).toInt32) &&& 1431655765)) &&& 858993459) + ((((x - (((x.toUInt32 >>> ((1 : Int32).toUInt32 &&& Int32.toUInt32 31)).toInt32) &&& 1431655765)).toUInt32 >>> ((2 : Int32).toUInt32 &&& Int32.toUInt32 31)).toInt32) &&& 858993459)).toUInt32 >>> ((4 : Int32).toUInt32 &&& Int32.toUInt32 31)).toInt32) hx hb dJ6_bitCount_0f7a4_27 rfl ?_
  refine lv_iadd hx hb dJ6_bitCount_0f7a4_28 ?_
  refine lv_ldcw hx hb hown k_constant_267 dJ6_bitCount_0f7a4_29 ?_
  refine lv_iand hx hb dJ6_bitCount_0f7a4_32 ?_
  refine lv_istore_n (lv' := [(0, .int (((((x - (((x.toUInt32 >>> ((1 : Int32).toUInt32 &&& Int32.toUInt32 31)).toInt32) &&& 1431655765)) &&& 858993459) + ((((x - (((x.toUInt32 >>> ((1 : Int32).toUInt32 &&& Int32.toUInt32 31)).toInt32) &&& 1431655765)).toUInt32 >>> ((2 : Int32).toUInt32 &&& Int32.toUInt32 31)).toInt32) &&& 858993459)) + (((((x - (((x.toUInt32 >>> ((1 : Int32).toUInt32 &&& Int32.toUInt32 31)).toInt32) &&& 1431655765)) &&& 858993459) + ((((x - (((x.toUInt32 >>> ((1 : Int32).toUInt32 &&& Int32.toUInt32 31)).toInt32) &&& 1431655765)).toUInt32 >>> ((2 : Int32).toUInt32 &&& Int32.toUInt32 31)).toInt32) &&& 858993459)).toUInt32 >>> ((4 : Int32).toUInt32 &&& Int32.toUInt32 31)).toInt32)) &&& 252645135))]) hx hb dJ6_bitCount_0f7a4_33 rfl hl (by decide) rfl (fun ls hl => ?_)
  refine lv_iload_n hx hb dJ6_bitCount_0f7a4_34 rfl (lv_at hl 0 rfl) ?_
  refine lv_iload_n hx hb dJ6_bitCount_0f7a4_35 rfl (lv_at hl 0 rfl) ?_
  refine lv_bipush (v := 8) hx hb dJ6_bitCount_0f7a4_36 (by decide) ?_
  refine lv_iushr (v := ((((((x - (((x.toUInt32 >>> ((1 : Int32).toUInt32 &&& Int32.toUInt32 31)).toInt32) &&& 1431655765)) &&& 858993459) + ((((x - (((x.toUInt32 >>> ((1 : Int32).toUInt32 &&& Int32.toUInt32 31)).toInt32) &&& 1431655765)).toUInt32 >>> ((2 : Int32).toUInt32 &&& Int32.toUInt32 31)).toInt32) &&& 858993459)) + (((((x - (((x.toUInt32 >>> ((1 : Int32).toUInt32 &&& Int32.toUInt32 31)).toInt32) &&& 1431655765)) &&& 858993459) + ((((x - (((x.toUInt32 >>> ((1 : Int32).toUInt32 &&& Int32.toUInt32 31)).toInt32) &&& 1431655765)).toUInt32 >>> ((2 : Int32).toUInt32 &&& Int32.toUInt32 31)).toInt32) &&& 858993459)).toUInt32 >>> ((4 : Int32).toUInt32 &&& Int32.toUInt32 31)).toInt32)) &&& 252645135).toUInt32 >>> ((8 : Int32).toUInt32 &&& Int32.toUInt32 31)).toInt32) hx hb dJ6_bitCount_0f7a4_38 rfl ?_
  refine lv_iadd hx hb dJ6_bitCount_0f7a4_39 ?_
  refine lv_istore_n (lv' := [(0, .int ((((((x - (((x.toUInt32 >>> ((1 : Int32).toUInt32 &&& Int32.toUInt32 31)).toInt32) &&& 1431655765)) &&& 858993459) + ((((x - (((x.toUInt32 >>> ((1 : Int32).toUInt32 &&& Int32.toUInt32 31)).toInt32) &&& 1431655765)).toUInt32 >>> ((2 : Int32).toUInt32 &&& Int32.toUInt32 31)).toInt32) &&& 858993459)) + (((((x - (((x.toUInt32 >>> ((1 : Int32).toUInt32 &&& Int32.toUInt32 31)).toInt32) &&& 1431655765)) &&& 858993459) + ((((x - (((x.toUInt32 >>> ((1 : Int32).toUInt32 &&& Int32.toUInt32 31)).toInt32) &&& 1431655765)).toUInt32 >>> ((2 : Int32).toUInt32 &&& Int32.toUInt32 31)).toInt32) &&& 858993459)).toUInt32 >>> ((4 : Int32).toUInt32 &&& Int32.toUInt32 31)).toInt32)) &&& 252645135) + (((((((x - (((x.toUInt32 >>> ((1 : Int32).toUInt32 &&& Int32.toUInt32 31)).toInt32) &&& 1431655765)) &&& 858993459) + ((((x - (((x.toUInt32 >>> ((1 : Int32).toUInt32 &&& Int32.toUInt32 31)).toInt32) &&& 1431655765)).toUInt32 >>> ((2 : Int32).toUInt32 &&& Int32.toUInt32 31)).toInt32) &&& 858993459)) + (((((x - (((x.toUInt32 >>> ((1 : Int32).toUInt32 &&& Int32.toUInt32 31)).toInt32) &&& 1431655765)) &&& 858993459) + ((((x - (((x.toUInt32 >>> ((1 : Int32).toUInt32 &&& Int32.toUInt32 31)).toInt32) &&& 1431655765)).toUInt32 >>> ((2 : Int32).toUInt32 &&& Int32.toUInt32 31)).toInt32) &&& 858993459)).toUInt32 >>> ((4 : Int32).toUInt32 &&& Int32.toUInt32 31)).toInt32)) &&& 252645135).toUInt32 >>> ((8 : Int32).toUInt32 &&& Int32.toUInt32 31)).toInt32)))]) hx hb dJ6_bitCount_0f7a4_40 rfl hl (by decide) rfl (fun ls hl => ?_)
  refine lv_iload_n hx hb dJ6_bitCount_0f7a4_41 rfl (lv_at hl 0 rfl) ?_
  refine lv_iload_n hx hb dJ6_bitCount_0f7a4_42 rfl (lv_at hl 0 rfl) ?_
  refine lv_bipush (v := 16) hx hb dJ6_bitCount_0f7a4_43 (by decide) ?_
  refine lv_iushr (v := (((((((x - (((x.toUInt32 >>> ((1 : Int32).toUInt32 &&& Int32.toUInt32 31)).toInt32) &&& 1431655765)) &&& 858993459) + ((((x - (((x.toUInt32 >>> ((1 : Int32).toUInt32 &&& Int32.toUInt32 31)).toInt32) &&& 1431655765)).toUInt32 >>> ((2 : Int32).toUInt32 &&& Int32.toUInt32 31)).toInt32) &&& 858993459)) + (((((x - (((x.toUInt32 >>> ((1 : Int32).toUInt32 &&& Int32.toUInt32 31)).toInt32) &&& 1431655765)) &&& 858993459) + ((((x - (((x.toUInt32 >>> ((1 : Int32).toUInt32 &&& Int32.toUInt32 31)).toInt32) &&& 1431655765)).toUInt32 >>> ((2 : Int32).toUInt32 &&& Int32.toUInt32 31)).toInt32) &&& 858993459)).toUInt32 >>> ((4 : Int32).toUInt32 &&& Int32.toUInt32 31)).toInt32)) &&& 252645135) + (((((((x - (((x.toUInt32 >>> ((1 : Int32).toUInt32 &&& Int32.toUInt32 31)).toInt32) &&& 1431655765)) &&& 858993459) + ((((x - (((x.toUInt32 >>> ((1 : Int32).toUInt32 &&& Int32.toUInt32 31)).toInt32) &&& 1431655765)).toUInt32 >>> ((2 : Int32).toUInt32 &&& Int32.toUInt32 31)).toInt32) &&& 858993459)) + (((((x - (((x.toUInt32 >>> ((1 : Int32).toUInt32 &&& Int32.toUInt32 31)).toInt32) &&& 1431655765)) &&& 858993459) + ((((x - (((x.toUInt32 >>> ((1 : Int32).toUInt32 &&& Int32.toUInt32 31)).toInt32) &&& 1431655765)).toUInt32 >>> ((2 : Int32).toUInt32 &&& Int32.toUInt32 31)).toInt32) &&& 858993459)).toUInt32 >>> ((4 : Int32).toUInt32 &&& Int32.toUInt32 31)).toInt32)) &&& 252645135).toUInt32 >>> ((8 : Int32).toUInt32 &&& Int32.toUInt32 31)).toInt32)).toUInt32 >>> ((16 : Int32).toUInt32 &&& Int32.toUInt32 31)).toInt32) hx hb dJ6_bitCount_0f7a4_45 rfl ?_
  refine lv_iadd hx hb dJ6_bitCount_0f7a4_46 ?_
  refine lv_istore_n (lv' := [(0, .int (((((((x - (((x.toUInt32 >>> ((1 : Int32).toUInt32 &&& Int32.toUInt32 31)).toInt32) &&& 1431655765)) &&& 858993459) + ((((x - (((x.toUInt32 >>> ((1 : Int32).toUInt32 &&& Int32.toUInt32 31)).toInt32) &&& 1431655765)).toUInt32 >>> ((2 : Int32).toUInt32 &&& Int32.toUInt32 31)).toInt32) &&& 858993459)) + (((((x - (((x.toUInt32 >>> ((1 : Int32).toUInt32 &&& Int32.toUInt32 31)).toInt32) &&& 1431655765)) &&& 858993459) + ((((x - (((x.toUInt32 >>> ((1 : Int32).toUInt32 &&& Int32.toUInt32 31)).toInt32) &&& 1431655765)).toUInt32 >>> ((2 : Int32).toUInt32 &&& Int32.toUInt32 31)).toInt32) &&& 858993459)).toUInt32 >>> ((4 : Int32).toUInt32 &&& Int32.toUInt32 31)).toInt32)) &&& 252645135) + (((((((x - (((x.toUInt32 >>> ((1 : Int32).toUInt32 &&& Int32.toUInt32 31)).toInt32) &&& 1431655765)) &&& 858993459) + ((((x - (((x.toUInt32 >>> ((1 : Int32).toUInt32 &&& Int32.toUInt32 31)).toInt32) &&& 1431655765)).toUInt32 >>> ((2 : Int32).toUInt32 &&& Int32.toUInt32 31)).toInt32) &&& 858993459)) + (((((x - (((x.toUInt32 >>> ((1 : Int32).toUInt32 &&& Int32.toUInt32 31)).toInt32) &&& 1431655765)) &&& 858993459) + ((((x - (((x.toUInt32 >>> ((1 : Int32).toUInt32 &&& Int32.toUInt32 31)).toInt32) &&& 1431655765)).toUInt32 >>> ((2 : Int32).toUInt32 &&& Int32.toUInt32 31)).toInt32) &&& 858993459)).toUInt32 >>> ((4 : Int32).toUInt32 &&& Int32.toUInt32 31)).toInt32)) &&& 252645135).toUInt32 >>> ((8 : Int32).toUInt32 &&& Int32.toUInt32 31)).toInt32)) + ((((((((x - (((x.toUInt32 >>> ((1 : Int32).toUInt32 &&& Int32.toUInt32 31)).toInt32) &&& 1431655765)) &&& 858993459) + ((((x - (((x.toUInt32 >>> ((1 : Int32).toUInt32 &&& Int32.toUInt32 31)).toInt32) &&& 1431655765)).toUInt32 >>> ((2 : Int32).toUInt32 &&& Int32.toUInt32 31)).toInt32) &&& 858993459)) + (((((x - (((x.toUInt32 >>> ((1 : Int32).toUInt32 &&& Int32.toUInt32 31)).toInt32) &&& 1431655765)) &&& 858993459) + ((((x - (((x.toUInt32 >>> ((1 : Int32).toUInt32 &&& Int32.toUInt32 31)).toInt32) &&& 1431655765)).toUInt32 >>> ((2 : Int32).toUInt32 &&& Int32.toUInt32 31)).toInt32) &&& 858993459)).toUInt32 >>> ((4 : Int32).toUInt32 &&& Int32.toUInt32 31)).toInt32)) &&& 252645135) + (((((((x - (((x.toUInt32 >>> ((1 : Int32).toUInt32 &&& Int32.toUInt32 31)).toInt32) &&& 1431655765)) &&& 858993459) + ((((x - (((x.toUInt32 >>> ((1 : Int32).toUInt32 &&& Int32.toUInt32 31)).toInt32) &&& 1431655765)).toUInt32 >>> ((2 : Int32).toUInt32 &&& Int32.toUInt32 31)).toInt32) &&& 858993459)) + (((((x - (((x.toUInt32 >>> ((1 : Int32).toUInt32 &&& Int32.toUInt32 31)).toInt32) &&& 1431655765)) &&& 858993459) + ((((x - (((x.toUInt32 >>> ((1 : Int32).toUInt32 &&& Int32.toUInt32 31)).toInt32) &&& 1431655765)).toUInt32 >>> ((2 : Int32).toUInt32 &&& Int32.toUInt32 31)).toInt32) &&& 858993459)).toUInt32 >>> ((4 : Int32).toUInt32 &&& Int32.toUInt32 31)).toInt32)) &&& 252645135).toUInt32 >>> ((8 : Int32).toUInt32 &&& Int32.toUInt32 31)).toInt32)).toUInt32 >>> ((16 : Int32).toUInt32 &&& Int32.toUInt32 31)).toInt32)))]) hx hb dJ6_bitCount_0f7a4_47 rfl hl (by decide) rfl (fun ls hl => ?_)
  refine lv_iload_n hx hb dJ6_bitCount_0f7a4_48 rfl (lv_at hl 0 rfl) ?_
  refine lv_bipush (v := 63) hx hb dJ6_bitCount_0f7a4_49 (by decide) ?_
  refine lv_iand hx hb dJ6_bitCount_0f7a4_51 ?_
  exact W.iret (v := (((((((x - (((x.toUInt32 >>> ((1 : Int32).toUInt32 &&& Int32.toUInt32 31)).toInt32) &&& 1431655765)) &&& 858993459) + ((((x - (((x.toUInt32 >>> ((1 : Int32).toUInt32 &&& Int32.toUInt32 31)).toInt32) &&& 1431655765)).toUInt32 >>> ((2 : Int32).toUInt32 &&& Int32.toUInt32 31)).toInt32) &&& 858993459)) + (((((x - (((x.toUInt32 >>> ((1 : Int32).toUInt32 &&& Int32.toUInt32 31)).toInt32) &&& 1431655765)) &&& 858993459) + ((((x - (((x.toUInt32 >>> ((1 : Int32).toUInt32 &&& Int32.toUInt32 31)).toInt32) &&& 1431655765)).toUInt32 >>> ((2 : Int32).toUInt32 &&& Int32.toUInt32 31)).toInt32) &&& 858993459)).toUInt32 >>> ((4 : Int32).toUInt32 &&& Int32.toUInt32 31)).toInt32)) &&& 252645135) + (((((((x - (((x.toUInt32 >>> ((1 : Int32).toUInt32 &&& Int32.toUInt32 31)).toInt32) &&& 1431655765)) &&& 858993459) + ((((x - (((x.toUInt32 >>> ((1 : Int32).toUInt32 &&& Int32.toUInt32 31)).toInt32) &&& 1431655765)).toUInt32 >>> ((2 : Int32).toUInt32 &&& Int32.toUInt32 31)).toInt32) &&& 858993459)) + (((((x - (((x.toUInt32 >>> ((1 : Int32).toUInt32 &&& Int32.toUInt32 31)).toInt32) &&& 1431655765)) &&& 858993459) + ((((x - (((x.toUInt32 >>> ((1 : Int32).toUInt32 &&& Int32.toUInt32 31)).toInt32) &&& 1431655765)).toUInt32 >>> ((2 : Int32).toUInt32 &&& Int32.toUInt32 31)).toInt32) &&& 858993459)).toUInt32 >>> ((4 : Int32).toUInt32 &&& Int32.toUInt32 31)).toInt32)) &&& 252645135).toUInt32 >>> ((8 : Int32).toUInt32 &&& Int32.toUInt32 31)).toInt32)) + ((((((((x - (((x.toUInt32 >>> ((1 : Int32).toUInt32 &&& Int32.toUInt32 31)).toInt32) &&& 1431655765)) &&& 858993459) + ((((x - (((x.toUInt32 >>> ((1 : Int32).toUInt32 &&& Int32.toUInt32 31)).toInt32) &&& 1431655765)).toUInt32 >>> ((2 : Int32).toUInt32 &&& Int32.toUInt32 31)).toInt32) &&& 858993459)) + (((((x - (((x.toUInt32 >>> ((1 : Int32).toUInt32 &&& Int32.toUInt32 31)).toInt32) &&& 1431655765)) &&& 858993459) + ((((x - (((x.toUInt32 >>> ((1 : Int32).toUInt32 &&& Int32.toUInt32 31)).toInt32) &&& 1431655765)).toUInt32 >>> ((2 : Int32).toUInt32 &&& Int32.toUInt32 31)).toInt32) &&& 858993459)).toUInt32 >>> ((4 : Int32).toUInt32 &&& Int32.toUInt32 31)).toInt32)) &&& 252645135) + (((((((x - (((x.toUInt32 >>> ((1 : Int32).toUInt32 &&& Int32.toUInt32 31)).toInt32) &&& 1431655765)) &&& 858993459) + ((((x - (((x.toUInt32 >>> ((1 : Int32).toUInt32 &&& Int32.toUInt32 31)).toInt32) &&& 1431655765)).toUInt32 >>> ((2 : Int32).toUInt32 &&& Int32.toUInt32 31)).toInt32) &&& 858993459)) + (((((x - (((x.toUInt32 >>> ((1 : Int32).toUInt32 &&& Int32.toUInt32 31)).toInt32) &&& 1431655765)) &&& 858993459) + ((((x - (((x.toUInt32 >>> ((1 : Int32).toUInt32 &&& Int32.toUInt32 31)).toInt32) &&& 1431655765)).toUInt32 >>> ((2 : Int32).toUInt32 &&& Int32.toUInt32 31)).toInt32) &&& 858993459)).toUInt32 >>> ((4 : Int32).toUInt32 &&& Int32.toUInt32 31)).toInt32)) &&& 252645135).toUInt32 >>> ((8 : Int32).toUInt32 &&& Int32.toUInt32 31)).toInt32)).toUInt32 >>> ((16 : Int32).toUInt32 &&& Int32.toUInt32 31)).toInt32)) &&& 63) hx hb hr (fun t9 ht hW => ⟨_, rfl, (by exact pcE_cn hlow), ht⟩) (fun _ h => by cases h) dJ6_bitCount_0f7a4_52 hlocks

set_option maxHeartbeats 4000000 in
set_option maxRecDepth 100000 in
theorem m_X4_fillReached (l9 : Launch) (D : va_G) (k : Nat → ClassId) (sz : Nat) (q : Nat → Nat) (n : Nat) (w ly t a : Nat → Int32) (fx : Nat → UInt32) (qk : Nat → Nat) (rd : Nat → Int32) (hn : n ≤ 10) : Met l9 yX4_fillReached wsX4_fillReached ({ frames := 1, cells := 0, slots := 0, locals := 21 }) (WPc D k [.ref (qk 0), .ref (q 0)] (bCirc k qk rd ++ bClaims k q n w ly t a fx) sz) (WV D k (bCirc k qk (rchS n t rd) ++ bClaims k q n w ly t a fx) (va_A (bCirc k qk rd ++ bClaims k q n w ly t a fx) sz)) 0 0 (va_A (bCirc k qk rd ++ bClaims k q n w ly t a fx) sz) := by
  refine wMet (y := yX4_fillReached) (cc := cX4_fillReached) (maxL := 4) (ret := none) (Qc := fun A => WV D k (bCirc k qk (rchS n t rd) ++ bClaims k q n w ly t a fx) A) [.ref (qk 0), .ref (q 0)] (by decide) rfl (Nat.le_of_ble_eq_true rfl) ?_
  intro p9 e9 s9 m9 bl9 me9 c9 ls A H hF hr hlocks hP hK hN hD hA hS hl hin
  have hl : lv_has ls 4 [(0, .ref (qk 0)), (1, .ref (q 0))] := hl
  obtain ⟨hx, hb, hml, hown, hts⟩ := id hF
  have k_fieldLink_15 : (Cond.fieldLink RX4 15 "OpinionReactor$Claims" "count" "I").before _ s9 = true := hts (.fieldLink RX4 15 "OpinionReactor$Claims" "count" "I") (by decide +kernel)
  have kc_RX5 : ∀ w ∈ u_ws RX5 TX5 6, w ∈ wsX4_fillReached := by decide +kernel
  have k_fieldLink_9 : (Cond.fieldLink RX4 9 "OpinionReactor$Circles" "reached" "[I").before _ s9 = true := hts (.fieldLink RX4 9 "OpinionReactor$Circles" "reached" "[I") (by decide +kernel)
  have kc_RX4 : ∀ w ∈ u_ws RX4 TX4 1, w ∈ wsX4_fillReached := by decide +kernel
  have k_fieldLink_51 : (Cond.fieldLink RX4 51 "OpinionReactor$Claims" "targets" "[I").before _ s9 = true := hts (.fieldLink RX4 51 "OpinionReactor$Claims" "targets" "[I") (by decide +kernel)
  have loop_35 : ∀ (fuel : Nat) (j : Nat), (j ≤ n) → n - j < fuel → ∀ (ls : Array Slot), ∀ (H : Heap) (locs : List Loc), va_P D vwCl (bCirc k qk (wA n (r1S t rd n) j) ++ bClaims k q n w ly t a fx) H → va_D A (bCirc k qk (wA n (r1S t rd n) j) ++ bClaims k q n w ly t a fx) → va_S A s9.heap H locs → lv_has ls 4 [(0, .ref (qk 0)), (1, .ref (q 0)), (2, .int (nI j))] → W p9 l9 e9 ({ frames := 1, cells := 0, slots := 0, locals := 21 }) s9 m9 ([.ref (qk 0), .ref (q 0)] : List Value).toArray bl9 me9 c9 H locs 0 0 (MQ bl9 (WV D k (bCirc k qk (rchS n t rd) ++ bClaims k q n w ly t a fx) A) ([.ref (qk 0), .ref (q 0)] : List Value).toArray s9 0 0 A) (F0 m9 35 ls []) := by
    intro fuel
    induction fuel with
    | zero => intro j hj hfuel_35; exact absurd hfuel_35 (Nat.not_lt_zero _)
    | succ fuel ih_35 =>
      intro j hj hfuel_35 ls H locs hP hD hS hl
      have loop_45 : ∀ (fuel : Nat) (u : Nat), (u ≤ n) → (j < n) → n - u < fuel → ∀ (ls : Array Slot), ∀ (H : Heap) (locs : List Loc), va_P D vwCl (bCirc k qk (wS j (wA n (r1S t rd n) j) u) ++ bClaims k q n w ly t a fx) H → va_D A (bCirc k qk (wS j (wA n (r1S t rd n) j) u) ++ bClaims k q n w ly t a fx) → va_S A s9.heap H locs → lv_has ls 4 [(0, .ref (qk 0)), (1, .ref (q 0)), (2, .int (nI j)), (3, .int (nI u))] → W p9 l9 e9 ({ frames := 1, cells := 0, slots := 0, locals := 21 }) s9 m9 ([.ref (qk 0), .ref (q 0)] : List Value).toArray bl9 me9 c9 H locs 0 0 (MQ bl9 (WV D k (bCirc k qk (rchS n t rd) ++ bClaims k q n w ly t a fx) A) ([.ref (qk 0), .ref (q 0)] : List Value).toArray s9 0 0 A) (F0 m9 45 ls []) := by
        intro fuel
        induction fuel with
        | zero => intro u hu hjn hfuel_45; exact absurd hfuel_45 (Nat.not_lt_zero _)
        | succ fuel ih_45 =>
          intro u hu hjn hfuel_45 ls H locs hP hD hS hl
          refine lv_iload_n hx hb dX4_fillReached_45 rfl (lv_at hl 3 rfl) ?_
          refine lv_aload_n hx hb dX4_fillReached_46 rfl (lv_at hl 1 rfl) ?_
          refine va_get (D := D) (ci := 7) (v := .int (nI n)) (C := RX5) (T := TX5) (N := 6) hx hb hts kc_RX5 hown hK hP 2 rfl rfl 0 (by decide) k_fieldLink_15 (fun _ h9 => h9) rfl dX4_fillReached_47 ?_
          refine lv_icmp_ge (tgt := 87) hx hb dX4_fillReached_50 (by decide) (fun c_1 => ?_) (fun c_1 => ?_)
          · skip
            have c_1 : n ≤ u := (nI_leI (a := n) (b := u) (by omega) (by omega)).mp c_1
            refine lv_iinc (v := nI (j + 1)) (lv' := [(2, .int (nI (j + 1))), (0, .ref (qk 0)), (1, .ref (q 0)), (3, .int (nI u))]) hx hb dX4_fillReached_87 hl (k := 2) rfl (nI_inc j) (by decide) rfl (fun ls hl => ?_)
            refine lv_goto (tgt := 35) hx hb dX4_fillReached_90 (by decide) ?_
            have e_2 : (wS j (wA n (r1S t rd n) j) u : Nat → Int32) = wA n (r1S t rd n) (j + 1) := by first | (with_reducible rfl) | (rw [wA_s, show u = n by omega])
            have hP := Eq.mp (congrArg (fun z9 => va_P D vwCl (bCirc k qk z9 ++ bClaims k q n w ly t a fx) H) e_2) hP
            have hD := Eq.mp (congrArg (fun z9 => va_D A (bCirc k qk z9 ++ bClaims k q n w ly t a fx)) e_2) hD
            exact ih_35 (j + 1) (by omega) (by omega) ls _ _ hP hD hS (lv_one hl 1 rfl rfl (lv_one hl 2 rfl rfl (lv_one hl 0 rfl rfl (lv_nil hl))))
          · skip
            have c_1 : ¬ n ≤ u := fun h => c_1 ((nI_leI (a := n) (b := u) (by omega) (by omega)).mpr h)
            refine lv_aload_n hx hb dX4_fillReached_53 rfl (lv_at hl 0 rfl) ?_
            refine va_get (D := D) (ci := 6) (v := .ref (qk 1)) (C := RX4) (T := TX4) (N := 1) hx hb hts kc_RX4 hown hK hP 0 rfl rfl 0 (by decide) k_fieldLink_9 (fun _ h9 => h9) rfl dX4_fillReached_54 ?_
            refine lv_iload_n hx hb dX4_fillReached_57 rfl (lv_at hl 3 rfl) ?_
            refine ia_ld hx hb hK hP 1 rfl u (by omega) (by decide) dX4_fillReached_58 ?_
            refine lv_iload_n hx hb dX4_fillReached_59 rfl (lv_at hl 2 rfl) ?_
            refine vp_callSi (va_Run.run (va_runSN (As := [.int ((wS j (wA n (r1S t rd n) j) u) u), .int (nI j)]) (rest := []) hF (m_X12_contains l9 D k ((wS j (wA n (r1S t rd n) j) u) u) j (by omega)) ⟨va_cnB 2 hts gX4_fillReached_X12_contains_n21 rfl rfl rfl (hN (.methodLinkNest RX4 21 yX12_contains RX12) (by decide +kernel)) (hts (.initialized RX12) (by decide +kernel)) (by decide +kernel) ⟨Nat.le_of_ble_eq_true rfl, Nat.le_of_ble_eq_true rfl⟩, hts (.static yX12_contains) (by decide +kernel), trivial⟩ (rPreS hK hN hP [] rfl) rfl rfl hl.1 rfl (lv_room (Nat.le_of_ble_eq_true rfl)) dX4_fillReached_60 ⟨Nat.zero_le _, Nat.zero_le _⟩)) (fun r_3 hr_3 => ?_)
            subst hr_3
            refine lv_if_eq (tgt := 81) hx hb dX4_fillReached_63 (by decide) (fun c_4 => ?_) (fun c_4 => ?_)
            · skip
              have c_4 : (tb ((wS j (wA n (r1S t rd n) j) u) u) j) = false := bI_0 c_4
              refine lv_iinc (v := nI (u + 1)) (lv' := [(3, .int (nI (u + 1))), (0, .ref (qk 0)), (1, .ref (q 0)), (2, .int (nI j))]) hx hb dX4_fillReached_81 hl (k := 3) rfl (nI_inc u) (by decide) rfl (fun ls hl => ?_)
              refine lv_goto (tgt := 45) hx hb dX4_fillReached_84 (by decide) ?_
              have e_5 : (wS j (wA n (r1S t rd n) j) u : Nat → Int32) = wS j (wA n (r1S t rd n) j) (u + 1) := by first | (with_reducible rfl) | ((try simp only [wS_s]); (repeat (first | rw [if_pos (by first | assumption | exact Eq.trans (b := false) (by assumption) (Eq.symm (by assumption)) | exact Eq.trans (b := true) (by assumption) (Eq.symm (by assumption)) | exact ⟨by assumption, by assumption⟩ | exact Or.inl (by assumption) | exact Or.inr (by assumption) | exact Or.inr (Or.inl (by assumption)) | exact Or.inr (Or.inr (by assumption)) | (simp only [Int32.lt_iff_toInt_lt, Int32.le_iff_toInt_le, i32_0, i32_1, i32_2, i32_3, i32_4, i32_9, i32_10, i32_99, i32_100, i32_1000, i32_9999] at *; omega))] | rw [if_neg (by first | assumption | (rintro (h9 | h9 | h9) <;> contradiction) | (rintro (h9 | h9) <;> contradiction) | (intro h9; exact Bool.noConfusion (Eq.trans (c := false) h9.symm (by assumption))) | (rintro ⟨h8, h9⟩; exact Bool.noConfusion (Eq.trans (c := false) h8.symm (by assumption))) | (rintro ⟨h8, h9⟩; exact Bool.noConfusion (Eq.trans (c := false) h9.symm (by assumption))) | (simp only [Int32.lt_iff_toInt_lt, Int32.le_iff_toInt_le, i32_0, i32_1, i32_2, i32_3, i32_4, i32_9, i32_10, i32_99, i32_100, i32_1000, i32_9999] at *; omega))])); (try rfl))
              have hP := Eq.mp (congrArg (fun z9 => va_P D vwCl (bCirc k qk z9 ++ bClaims k q n w ly t a fx) H) e_5) hP
              have hD := Eq.mp (congrArg (fun z9 => va_D A (bCirc k qk z9 ++ bClaims k q n w ly t a fx)) e_5) hD
              exact ih_45 (u + 1) (by omega) hjn (by omega) ls _ _ hP hD hS (lv_one hl 1 rfl rfl (lv_one hl 2 rfl rfl (lv_one hl 3 rfl rfl (lv_one hl 0 rfl rfl (lv_nil hl)))))
            · skip
              have c_4 : (tb ((wS j (wA n (r1S t rd n) j) u) u) j) = true := bI_1 c_4
              refine lv_aload_n hx hb dX4_fillReached_66 rfl (lv_at hl 0 rfl) ?_
              refine va_get (D := D) (ci := 6) (v := .ref (qk 1)) (C := RX4) (T := TX4) (N := 1) hx hb hts kc_RX4 hown hK hP 0 rfl rfl 0 (by decide) k_fieldLink_9 (fun _ h9 => h9) rfl dX4_fillReached_67 ?_
              refine lv_iload_n hx hb dX4_fillReached_70 rfl (lv_at hl 3 rfl) ?_
              refine lv_dup2_11 hx hb dX4_fillReached_71 rfl rfl ?_
              refine ia_ld hx hb hK hP 1 rfl u (by omega) (by decide) dX4_fillReached_72 ?_
              refine lv_aload_n hx hb dX4_fillReached_73 rfl (lv_at hl 0 rfl) ?_
              refine va_get (D := D) (ci := 6) (v := .ref (qk 1)) (C := RX4) (T := TX4) (N := 1) hx hb hts kc_RX4 hown hK hP 0 rfl rfl 0 (by decide) k_fieldLink_9 (fun _ h9 => h9) rfl dX4_fillReached_74 ?_
              refine lv_iload_n hx hb dX4_fillReached_77 rfl (lv_at hl 2 rfl) ?_
              refine ia_ld hx hb hK hP 1 rfl j (by omega) (by decide) dX4_fillReached_78 ?_
              refine lv_ior hx hb dX4_fillReached_79 ?_
              refine ia_st hx hb hK hP hD hS 1 rfl u (by omega) (by decide) (bCirc k qk (upd (wS j (wA n (r1S t rd n) j) u) u (((wS j (wA n (r1S t rd n) j) u) u) ||| ((wS j (wA n (r1S t rd n) j) u) j))) ++ bClaims k q n w ly t a fx) rfl dX4_fillReached_80 (fun H locs hP hD hS => ?_)
              refine lv_iinc (v := nI (u + 1)) (lv' := [(3, .int (nI (u + 1))), (0, .ref (qk 0)), (1, .ref (q 0)), (2, .int (nI j))]) hx hb dX4_fillReached_81 hl (k := 3) rfl (nI_inc u) (by decide) rfl (fun ls hl => ?_)
              refine lv_goto (tgt := 45) hx hb dX4_fillReached_84 (by decide) ?_
              have e_6 : (upd (wS j (wA n (r1S t rd n) j) u) u (((wS j (wA n (r1S t rd n) j) u) u) ||| ((wS j (wA n (r1S t rd n) j) u) j)) : Nat → Int32) = wS j (wA n (r1S t rd n) j) (u + 1) := by first | (with_reducible rfl) | ((try simp only [wS_s]); (repeat (first | rw [if_pos (by first | assumption | exact Eq.trans (b := false) (by assumption) (Eq.symm (by assumption)) | exact Eq.trans (b := true) (by assumption) (Eq.symm (by assumption)) | exact ⟨by assumption, by assumption⟩ | exact Or.inl (by assumption) | exact Or.inr (by assumption) | exact Or.inr (Or.inl (by assumption)) | exact Or.inr (Or.inr (by assumption)) | (simp only [Int32.lt_iff_toInt_lt, Int32.le_iff_toInt_le, i32_0, i32_1, i32_2, i32_3, i32_4, i32_9, i32_10, i32_99, i32_100, i32_1000, i32_9999] at *; omega))] | rw [if_neg (by first | assumption | (rintro (h9 | h9 | h9) <;> contradiction) | (rintro (h9 | h9) <;> contradiction) | (intro h9; exact Bool.noConfusion (Eq.trans (c := false) h9.symm (by assumption))) | (rintro ⟨h8, h9⟩; exact Bool.noConfusion (Eq.trans (c := false) h8.symm (by assumption))) | (rintro ⟨h8, h9⟩; exact Bool.noConfusion (Eq.trans (c := false) h9.symm (by assumption))) | (simp only [Int32.lt_iff_toInt_lt, Int32.le_iff_toInt_le, i32_0, i32_1, i32_2, i32_3, i32_4, i32_9, i32_10, i32_99, i32_100, i32_1000, i32_9999] at *; omega))])); (try rfl))
              have hP := Eq.mp (congrArg (fun z9 => va_P D vwCl (bCirc k qk z9 ++ bClaims k q n w ly t a fx) H) e_6) hP
              have hD := Eq.mp (congrArg (fun z9 => va_D A (bCirc k qk z9 ++ bClaims k q n w ly t a fx)) e_6) hD
              exact ih_45 (u + 1) (by omega) hjn (by omega) ls _ _ hP hD hS (lv_one hl 1 rfl rfl (lv_one hl 2 rfl rfl (lv_one hl 3 rfl rfl (lv_one hl 0 rfl rfl (lv_nil hl)))))
      refine lv_iload_n hx hb dX4_fillReached_35 rfl (lv_at hl 2 rfl) ?_
      refine lv_aload_n hx hb dX4_fillReached_36 rfl (lv_at hl 1 rfl) ?_
      refine va_get (D := D) (ci := 7) (v := .int (nI n)) (C := RX5) (T := TX5) (N := 6) hx hb hts kc_RX5 hown hK hP 2 rfl rfl 0 (by decide) k_fieldLink_15 (fun _ h9 => h9) rfl dX4_fillReached_37 ?_
      refine lv_icmp_ge (tgt := 93) hx hb dX4_fillReached_40 (by decide) (fun c_7 => ?_) (fun c_7 => ?_)
      · skip
        have c_7 : n ≤ j := (nI_leI (a := n) (b := j) (by omega) (by omega)).mp c_7
        have e_8 : (wA n (r1S t rd n) j : Nat → Int32) = rchS n t rd := by first | (with_reducible rfl) | (unfold rchS; rw [show j = n by omega])
        have hP := Eq.mp (congrArg (fun z9 => va_P D vwCl (bCirc k qk z9 ++ bClaims k q n w ly t a fx) H) e_8) hP
        have hD := Eq.mp (congrArg (fun z9 => va_D A (bCirc k qk z9 ++ bClaims k q n w ly t a fx)) e_8) hD
        exact W.vret hx hb hr (fun t9 ht hW => ⟨⟨(), rfl, trivial, ⟨by rw [ht]; exact hP, va_K.moved hW.alike hK, hD⟩⟩, hS.F ht⟩) hS.2.2 dX4_fillReached_93 hlocks
      · skip
        have c_7 : ¬ n ≤ j := fun h => c_7 ((nI_leI (a := n) (b := j) (by omega) (by omega)).mpr h)
        refine lv_iconst (v := 0) hx hb dX4_fillReached_43 (by decide) ?_
        refine lv_istore_n (lv' := [(3, .int 0), (0, .ref (qk 0)), (1, .ref (q 0)), (2, .int (nI j))]) hx hb dX4_fillReached_44 rfl hl (by decide) rfl (fun ls hl => ?_)
        have e_9 : (wA n (r1S t rd n) j : Nat → Int32) = wS j (wA n (r1S t rd n) j) 0 := by first | (with_reducible rfl) | (rfl)
        have hP := Eq.mp (congrArg (fun z9 => va_P D vwCl (bCirc k qk z9 ++ bClaims k q n w ly t a fx) H) e_9) hP
        have hD := Eq.mp (congrArg (fun z9 => va_D A (bCirc k qk z9 ++ bClaims k q n w ly t a fx)) e_9) hD
        exact loop_45 ((n - 0) + 1) 0 (by omega) (by omega) (Nat.lt_succ_self _) ls _ _ hP hD hS (lv_one hl 1 rfl rfl (lv_one hl 2 rfl rfl (lv_one hl 3 rfl rfl (lv_one hl 0 rfl rfl (lv_nil hl)))))
  have loop_2 : ∀ (fuel : Nat) (i : Nat), (i ≤ n) → n - i < fuel → ∀ (ls : Array Slot), ∀ (H : Heap) (locs : List Loc), va_P D vwCl (bCirc k qk (r1S t rd i) ++ bClaims k q n w ly t a fx) H → va_D A (bCirc k qk (r1S t rd i) ++ bClaims k q n w ly t a fx) → va_S A s9.heap H locs → lv_has ls 4 [(0, .ref (qk 0)), (1, .ref (q 0)), (2, .int (nI i))] → W p9 l9 e9 ({ frames := 1, cells := 0, slots := 0, locals := 21 }) s9 m9 ([.ref (qk 0), .ref (q 0)] : List Value).toArray bl9 me9 c9 H locs 0 0 (MQ bl9 (WV D k (bCirc k qk (rchS n t rd) ++ bClaims k q n w ly t a fx) A) ([.ref (qk 0), .ref (q 0)] : List Value).toArray s9 0 0 A) (F0 m9 2 ls []) := by
    intro fuel
    induction fuel with
    | zero => intro i hi hfuel_2; exact absurd hfuel_2 (Nat.not_lt_zero _)
    | succ fuel ih_2 =>
      intro i hi hfuel_2 ls H locs hP hD hS hl
      refine lv_iload_n hx hb dX4_fillReached_2 rfl (lv_at hl 2 rfl) ?_
      refine lv_aload_n hx hb dX4_fillReached_3 rfl (lv_at hl 1 rfl) ?_
      refine va_get (D := D) (ci := 7) (v := .int (nI n)) (C := RX5) (T := TX5) (N := 6) hx hb hts kc_RX5 hown hK hP 2 rfl rfl 0 (by decide) k_fieldLink_15 (fun _ h9 => h9) rfl dX4_fillReached_4 ?_
      refine lv_icmp_ge (tgt := 33) hx hb dX4_fillReached_7 (by decide) (fun c_10 => ?_) (fun c_10 => ?_)
      · skip
        have c_10 : n ≤ i := (nI_leI (a := n) (b := i) (by omega) (by omega)).mp c_10
        refine lv_iconst (v := 0) hx hb dX4_fillReached_33 (by decide) ?_
        refine lv_istore_n (lv' := [(2, .int 0), (0, .ref (qk 0)), (1, .ref (q 0))]) hx hb dX4_fillReached_34 rfl hl (by decide) rfl (fun ls hl => ?_)
        have e_11 : (r1S t rd i : Nat → Int32) = wA n (r1S t rd n) 0 := by first | (with_reducible rfl) | (rw [show i = n by omega]; rfl)
        have hP := Eq.mp (congrArg (fun z9 => va_P D vwCl (bCirc k qk z9 ++ bClaims k q n w ly t a fx) H) e_11) hP
        have hD := Eq.mp (congrArg (fun z9 => va_D A (bCirc k qk z9 ++ bClaims k q n w ly t a fx)) e_11) hD
        exact loop_35 ((n - 0) + 1) 0 (by omega) (Nat.lt_succ_self _) ls _ _ hP hD hS (lv_one hl 1 rfl rfl (lv_one hl 2 rfl rfl (lv_one hl 0 rfl rfl (lv_nil hl))))
      · skip
        have c_10 : ¬ n ≤ i := fun h => c_10 ((nI_leI (a := n) (b := i) (by omega) (by omega)).mpr h)
        refine lv_aload_n hx hb dX4_fillReached_10 rfl (lv_at hl 0 rfl) ?_
        refine va_get (D := D) (ci := 6) (v := .ref (qk 1)) (C := RX4) (T := TX4) (N := 1) hx hb hts kc_RX4 hown hK hP 0 rfl rfl 0 (by decide) k_fieldLink_9 (fun _ h9 => h9) rfl dX4_fillReached_11 ?_
        refine lv_iload_n hx hb dX4_fillReached_14 rfl (lv_at hl 2 rfl) ?_
        refine lv_aload_n hx hb dX4_fillReached_15 rfl (lv_at hl 1 rfl) ?_
        refine va_get (D := D) (ci := 7) (v := .ref (q 3)) (C := RX5) (T := TX5) (N := 6) hx hb hts kc_RX5 hown hK hP 2 rfl rfl 3 (by decide) k_fieldLink_51 (fun _ h9 => h9) rfl dX4_fillReached_16 ?_
        refine lv_iload_n hx hb dX4_fillReached_19 rfl (lv_at hl 2 rfl) ?_
        refine ia_ld hx hb hK hP 5 rfl i (by omega) (by decide) dX4_fillReached_20 ?_
        refine lv_iload_n hx hb dX4_fillReached_21 rfl (lv_at hl 2 rfl) ?_
        refine vp_callSi (va_Run.run (va_runSN (As := [.int (nI i)]) (rest := [.int (t i), .int (nI i), .ref (qk 1)]) hF (m_X12_bit l9 D k i ) ⟨va_cnB 1 hts gX4_fillReached_X12_bit_n33 rfl rfl rfl (hN (.methodLinkNest RX4 33 yX12_bit RX12) (by decide +kernel)) (hts (.initialized RX12) (by decide +kernel)) (by decide +kernel) ⟨Nat.le_of_ble_eq_true rfl, Nat.le_of_ble_eq_true rfl⟩, hts (.static yX12_bit) (by decide +kernel), trivial⟩ (rPreS hK hN hP [] rfl) rfl rfl hl.1 rfl (lv_room (Nat.le_of_ble_eq_true rfl)) dX4_fillReached_22 ⟨Nat.zero_le _, Nat.zero_le _⟩)) (fun r_12 hr_12 => ?_)
        subst hr_12
        refine lv_ior hx hb dX4_fillReached_25 ?_
        refine ia_st hx hb hK hP hD hS 1 rfl i (by omega) (by decide) (bCirc k qk (upd (r1S t rd i) i ((t i) ||| (bt i))) ++ bClaims k q n w ly t a fx) rfl dX4_fillReached_26 (fun H locs hP hD hS => ?_)
        refine lv_iinc (v := nI (i + 1)) (lv' := [(2, .int (nI (i + 1))), (0, .ref (qk 0)), (1, .ref (q 0))]) hx hb dX4_fillReached_27 hl (k := 2) rfl (nI_inc i) (by decide) rfl (fun ls hl => ?_)
        refine lv_goto (tgt := 2) hx hb dX4_fillReached_30 (by decide) ?_
        have e_13 : (upd (r1S t rd i) i ((t i) ||| (bt i)) : Nat → Int32) = r1S t rd (i + 1) := by first | (with_reducible rfl) | (rfl)
        have hP := Eq.mp (congrArg (fun z9 => va_P D vwCl (bCirc k qk z9 ++ bClaims k q n w ly t a fx) H) e_13) hP
        have hD := Eq.mp (congrArg (fun z9 => va_D A (bCirc k qk z9 ++ bClaims k q n w ly t a fx)) e_13) hD
        exact ih_2 (i + 1) (by omega) (by omega) ls _ _ hP hD hS (lv_one hl 1 rfl rfl (lv_one hl 2 rfl rfl (lv_one hl 0 rfl rfl (lv_nil hl))))
  refine lv_iconst (v := 0) hx hb dX4_fillReached_0 (by decide) ?_
  refine lv_istore_n (lv' := [(2, .int 0), (0, .ref (qk 0)), (1, .ref (q 0))]) hx hb dX4_fillReached_1 rfl hl (by decide) rfl (fun ls hl => ?_)
  have e_14 : (rd : Nat → Int32) = r1S t rd 0 := by first | (with_reducible rfl) | (rfl)
  have hP := Eq.mp (congrArg (fun z9 => va_P D vwCl (bCirc k qk z9 ++ bClaims k q n w ly t a fx) H) e_14) hP
  have hD := Eq.mp (congrArg (fun z9 => va_D A (bCirc k qk z9 ++ bClaims k q n w ly t a fx)) e_14) hD
  exact loop_2 ((n - 0) + 1) 0 (by omega) (Nat.lt_succ_self _) ls _ _ hP hD hS (lv_one hl 1 rfl rfl (lv_one hl 2 rfl rfl (lv_one hl 0 rfl rfl (lv_nil hl))))

set_option maxHeartbeats 4000000 in
set_option maxRecDepth 100000 in
theorem m_X4_isLowest (l9 : Launch) (D : va_G) (k : Nat → ClassId) (qk : Nat → Nat) (rd : Nat → Int32) (c : Nat) (hc : c < 10) : Met l9 yX4_isLowest wsX4_isLowest ({ frames := 1, cells := 0, slots := 0, locals := 21 }) (RPc D k [.ref (qk 0), .int (nI c)] (bCirc k qk rd)) (EI (bI (allb (pL rd c) c))) 0 0 noA := by
  refine rMet (y := yX4_isLowest) (cc := cX4_isLowest) (maxL := 3) (ret := (some .boolean)) [.ref (qk 0), .int (nI c)] (by decide) rfl (Nat.le_of_ble_eq_true rfl) ?_
  intro p9 e9 s9 m9 bl9 me9 c9 ls hF hr hlocks hP hK hN hl
  have hl : lv_has ls 3 [(0, .ref (qk 0)), (1, .int (nI c))] := hl
  obtain ⟨hx, hb, hml, hown, hts⟩ := id hF
  have k_fieldLink_9 : (Cond.fieldLink RX4 9 "OpinionReactor$Circles" "reached" "[I").before _ s9 = true := hts (.fieldLink RX4 9 "OpinionReactor$Circles" "reached" "[I") (by decide +kernel)
  have kc_RX4 : ∀ w ∈ u_ws RX4 TX4 1, w ∈ wsX4_isLowest := by decide +kernel
  have loop_2 : ∀ (fuel : Nat) (i : Nat), (i ≤ c) → (allb (pL rd c) i = true) → c - i < fuel → ∀ (ls : Array Slot), lv_has ls 3 [(0, .ref (qk 0)), (1, .int (nI c)), (2, .int (nI i))] → W p9 l9 e9 ({ frames := 1, cells := 0, slots := 0, locals := 21 }) s9 m9 ([.ref (qk 0), .int (nI c)] : List Value).toArray bl9 me9 c9 s9.heap [] 0 0 (MQ bl9 (EI (bI (allb (pL rd c) c))) ([.ref (qk 0), .int (nI c)] : List Value).toArray s9 0 0 noA) (F0 m9 2 ls []) := by
    intro fuel
    induction fuel with
    | zero => intro i hi ha hfuel_2; exact absurd hfuel_2 (Nat.not_lt_zero _)
    | succ fuel ih_2 =>
      intro i hi ha hfuel_2 ls hl
      refine lv_iload_n hx hb dX4_isLowest_2 rfl (lv_at hl 2 rfl) ?_
      refine lv_iload_n hx hb dX4_isLowest_3 rfl (lv_at hl 1 rfl) ?_
      refine lv_icmp_ge (tgt := 41) hx hb dX4_isLowest_4 (by decide) (fun c_1 => ?_) (fun c_1 => ?_)
      · skip
        have c_1 : c ≤ i := (nI_leI (a := c) (b := i) (by omega) (by omega)).mp c_1
        refine lv_iconst (v := 1) hx hb dX4_isLowest_41 (by decide) ?_
        exact W.zret (v := 1) hx hb hr (rfl) (fun t9 ht hW => ⟨_, rfl, (by obtain rfl : i = c := (by omega); rw [ha]; rfl), ht⟩) (fun _ h => by cases h) dX4_isLowest_42 hlocks
      · skip
        have c_1 : ¬ c ≤ i := fun h => c_1 ((nI_leI (a := c) (b := i) (by omega) (by omega)).mpr h)
        refine lv_aload_n hx hb dX4_isLowest_7 rfl (lv_at hl 0 rfl) ?_
        refine va_get (D := D) (ci := 6) (v := .ref (qk 1)) (C := RX4) (T := TX4) (N := 1) hx hb hts kc_RX4 hown hK hP 0 rfl rfl 0 (by decide) k_fieldLink_9 (fun _ h9 => h9) rfl dX4_isLowest_8 ?_
        refine lv_iload_n hx hb dX4_isLowest_11 rfl (lv_at hl 1 rfl) ?_
        refine ia_ld hx hb hK hP 1 rfl c (by omega) (by decide) dX4_isLowest_12 ?_
        refine lv_iload_n hx hb dX4_isLowest_13 rfl (lv_at hl 2 rfl) ?_
        refine vp_callSi (va_Run.run (va_runSN (As := [.int (rd c), .int (nI i)]) (rest := []) hF (m_X12_contains l9 D k (rd c) i (by omega)) ⟨va_cnB 2 hts gX4_isLowest_X12_contains_n21 rfl rfl rfl (hN (.methodLinkNest RX4 21 yX12_contains RX12) (by decide +kernel)) (hts (.initialized RX12) (by decide +kernel)) (by decide +kernel) ⟨Nat.le_of_ble_eq_true rfl, Nat.le_of_ble_eq_true rfl⟩, hts (.static yX12_contains) (by decide +kernel), trivial⟩ (rPreS hK hN hP [] rfl) rfl rfl hl.1 rfl (lv_room (Nat.le_of_ble_eq_true rfl)) dX4_isLowest_14 ⟨Nat.zero_le _, Nat.zero_le _⟩)) (fun r_2 hr_2 => ?_)
        subst hr_2
        refine lv_if_eq (tgt := 35) hx hb dX4_isLowest_17 (by decide) (fun c_3 => ?_) (fun c_3 => ?_)
        · skip
          have c_3 : (tb (rd c) i) = false := bI_0 c_3
          refine lv_iinc (v := nI (i + 1)) (lv' := [(2, .int (nI (i + 1))), (0, .ref (qk 0)), (1, .int (nI c))]) hx hb dX4_isLowest_35 hl (k := 2) rfl (nI_inc i) (by decide) rfl (fun ls hl => ?_)
          refine lv_goto (tgt := 2) hx hb dX4_isLowest_38 (by decide) ?_
          exact ih_2 (i + 1) (by omega) (allb_t ha (by simp [pL, *])) (by omega) ls (lv_one hl 1 rfl rfl (lv_one hl 2 rfl rfl (lv_one hl 0 rfl rfl (lv_nil hl))))
        · skip
          have c_3 : (tb (rd c) i) = true := bI_1 c_3
          refine lv_aload_n hx hb dX4_isLowest_20 rfl (lv_at hl 0 rfl) ?_
          refine va_get (D := D) (ci := 6) (v := .ref (qk 1)) (C := RX4) (T := TX4) (N := 1) hx hb hts kc_RX4 hown hK hP 0 rfl rfl 0 (by decide) k_fieldLink_9 (fun _ h9 => h9) rfl dX4_isLowest_21 ?_
          refine lv_iload_n hx hb dX4_isLowest_24 rfl (lv_at hl 2 rfl) ?_
          refine ia_ld hx hb hK hP 1 rfl i (by omega) (by decide) dX4_isLowest_25 ?_
          refine lv_iload_n hx hb dX4_isLowest_26 rfl (lv_at hl 1 rfl) ?_
          refine vp_callSi (va_Run.run (va_runSN (As := [.int (rd i), .int (nI c)]) (rest := []) hF (m_X12_contains l9 D k (rd i) c (by omega)) ⟨va_cnB 2 hts gX4_isLowest_X12_contains_n21 rfl rfl rfl (hN (.methodLinkNest RX4 21 yX12_contains RX12) (by decide +kernel)) (hts (.initialized RX12) (by decide +kernel)) (by decide +kernel) ⟨Nat.le_of_ble_eq_true rfl, Nat.le_of_ble_eq_true rfl⟩, hts (.static yX12_contains) (by decide +kernel), trivial⟩ (rPreS hK hN hP [] rfl) rfl rfl hl.1 rfl (lv_room (Nat.le_of_ble_eq_true rfl)) dX4_isLowest_27 ⟨Nat.zero_le _, Nat.zero_le _⟩)) (fun r_4 hr_4 => ?_)
          subst hr_4
          refine lv_if_eq (tgt := 35) hx hb dX4_isLowest_30 (by decide) (fun c_5 => ?_) (fun c_5 => ?_)
          · skip
            have c_5 : (tb (rd i) c) = false := bI_0 c_5
            refine lv_iinc (v := nI (i + 1)) (lv' := [(2, .int (nI (i + 1))), (0, .ref (qk 0)), (1, .int (nI c))]) hx hb dX4_isLowest_35 hl (k := 2) rfl (nI_inc i) (by decide) rfl (fun ls hl => ?_)
            refine lv_goto (tgt := 2) hx hb dX4_isLowest_38 (by decide) ?_
            exact ih_2 (i + 1) (by omega) (allb_t ha (by simp [pL, *])) (by omega) ls (lv_one hl 1 rfl rfl (lv_one hl 2 rfl rfl (lv_one hl 0 rfl rfl (lv_nil hl))))
          · skip
            have c_5 : (tb (rd i) c) = true := bI_1 c_5
            refine lv_iconst (v := 0) hx hb dX4_isLowest_33 (by decide) ?_
            exact W.zret (v := 0) hx hb hr (rfl) (fun t9 ht hW => ⟨_, rfl, (by rw [allb_no (c := i) (by omega) (by simp [pL, *])]; rfl), ht⟩) (fun _ h => by cases h) dX4_isLowest_34 hlocks
  refine lv_iconst (v := 0) hx hb dX4_isLowest_0 (by decide) ?_
  refine lv_istore_n (lv' := [(2, .int 0), (0, .ref (qk 0)), (1, .int (nI c))]) hx hb dX4_isLowest_1 rfl hl (by decide) rfl (fun ls hl => ?_)
  exact loop_2 ((c - 0) + 1) 0 (by omega) rfl (Nat.lt_succ_self _) ls (lv_one hl 1 rfl rfl (lv_one hl 2 rfl rfl (lv_one hl 0 rfl rfl (lv_nil hl))))

set_option maxHeartbeats 4000000 in
set_option maxRecDepth 100000 in
theorem m_X4_byReach (l9 : Launch) (D : va_G) (k : Nat → ClassId) (sz : Nat) (q : Nat → Nat) (n : Nat) (w ly t a : Nat → Int32) (fx : Nat → UInt32) (qk : Nat → Nat) (rd : Nat → Int32) (hn : n ≤ 10) : Met l9 yX4_byReach wsX4_byReach ({ frames := 2, cells := 0, slots := 0, locals := 44 }) (WPc D k [.ref (qk 0), .ref (q 0)] (bCirc k qk rd ++ bClaims k q n w ly t a fx) sz) (WI D k (bCirc k qk (rchS n t rd) ++ bClaims k q n w ly t a fx) (nI (cntL (rchS n t rd) n)) (va_A (bCirc k qk rd ++ bClaims k q n w ly t a fx) sz)) 0 0 (va_A (bCirc k qk rd ++ bClaims k q n w ly t a fx) sz) := by
  refine wMet (y := yX4_byReach) (cc := cX4_byReach) (maxL := 4) (ret := (some .int)) (Qc := fun A => WI D k (bCirc k qk (rchS n t rd) ++ bClaims k q n w ly t a fx) (nI (cntL (rchS n t rd) n)) A) [.ref (qk 0), .ref (q 0)] (by decide) rfl (Nat.le_of_ble_eq_true rfl) ?_
  intro p9 e9 s9 m9 bl9 me9 c9 ls A H hF hr hlocks hP hK hN hD hA hS hl hin
  have hl : lv_has ls 4 [(0, .ref (qk 0)), (1, .ref (q 0))] := hl
  obtain ⟨hx, hb, hml, hown, hts⟩ := id hF
  have k_fieldLink_15 : (Cond.fieldLink RX4 15 "OpinionReactor$Claims" "count" "I").before _ s9 = true := hts (.fieldLink RX4 15 "OpinionReactor$Claims" "count" "I") (by decide +kernel)
  have kc_RX5 : ∀ w ∈ u_ws RX5 TX5 6, w ∈ wsX4_byReach := by decide +kernel
  have loop_9 : ∀ (fuel : Nat) (i : Nat), (i ≤ n) → n - i < fuel → ∀ (ls : Array Slot), ∀ (H : Heap) (locs : List Loc), va_P D vwCl (bCirc k qk (rchS n t rd) ++ bClaims k q n w ly t a fx) H → va_D A (bCirc k qk (rchS n t rd) ++ bClaims k q n w ly t a fx) → va_S A s9.heap H locs → lv_has ls 4 [(0, .ref (qk 0)), (1, .ref (q 0)), (2, .int (nI (cntL (rchS n t rd) i))), (3, .int (nI i))] → W p9 l9 e9 ({ frames := 2, cells := 0, slots := 0, locals := 44 }) s9 m9 ([.ref (qk 0), .ref (q 0)] : List Value).toArray bl9 me9 c9 H locs 0 0 (MQ bl9 (WI D k (bCirc k qk (rchS n t rd) ++ bClaims k q n w ly t a fx) (nI (cntL (rchS n t rd) n)) A) ([.ref (qk 0), .ref (q 0)] : List Value).toArray s9 0 0 A) (F0 m9 9 ls []) := by
    intro fuel
    induction fuel with
    | zero => intro i hi hfuel_9; exact absurd hfuel_9 (Nat.not_lt_zero _)
    | succ fuel ih_9 =>
      intro i hi hfuel_9 ls H locs hP hD hS hl
      refine lv_iload_n hx hb dX4_byReach_9 rfl (lv_at hl 3 rfl) ?_
      refine lv_aload_n hx hb dX4_byReach_10 rfl (lv_at hl 1 rfl) ?_
      refine va_get (D := D) (ci := 7) (v := .int (nI n)) (C := RX5) (T := TX5) (N := 6) hx hb hts kc_RX5 hown hK hP 2 rfl rfl 0 (by decide) k_fieldLink_15 (fun _ h9 => h9) rfl dX4_byReach_11 ?_
      refine lv_icmp_ge (tgt := 34) hx hb dX4_byReach_14 (by decide) (fun c_1 => ?_) (fun c_1 => ?_)
      · skip
        have c_1 : n ≤ i := (nI_leI (a := n) (b := i) (by omega) (by omega)).mp c_1
        refine lv_iload_n hx hb dX4_byReach_34 rfl (lv_at hl 2 rfl) ?_
        exact W.iret (v := nI (cntL (rchS n t rd) i)) hx hb hr (fun t9 ht hW => ⟨⟨_, (), rfl, (by rw [show i = n by omega]), ⟨by rw [ht]; exact hP, va_K.moved hW.alike hK, hD⟩⟩, hS.F ht⟩) hS.2.2 dX4_byReach_35 hlocks
      · skip
        have c_1 : ¬ n ≤ i := fun h => c_1 ((nI_leI (a := n) (b := i) (by omega) (by omega)).mpr h)
        refine lv_aload_n hx hb dX4_byReach_17 rfl (lv_at hl 0 rfl) ?_
        refine lv_iload_n hx hb dX4_byReach_18 rfl (lv_at hl 3 rfl) ?_
        refine vp_callSi (W.runV (As := [.int (nI i)]) (rest := []) hF (m_X4_isLowest l9 D k qk (rchS n t rd) i (by omega)) (cwV 1 hts gX4_byReach_X4_isLowest rfl rfl rfl (by decide +kernel) ⟨Nat.le_of_ble_eq_true rfl, Nat.le_of_ble_eq_true rfl⟩) (rPreV hK hN hP [0, 1] rfl 0 6 rfl rfl) rfl rfl hl.1 rfl (lv_room (Nat.le_of_ble_eq_true rfl)) dX4_byReach_19 ⟨Nat.zero_le _, Nat.zero_le _⟩) (fun r_2 hr_2 => ?_)
        subst hr_2
        refine lv_if_eq (tgt := 28) hx hb dX4_byReach_22 (by decide) (fun c_3 => ?_) (fun c_3 => ?_)
        · skip
          have c_3 : (allb (pL (rchS n t rd) i) i) = false := bI_0 c_3
          refine lv_iinc (v := nI (i + 1)) (lv' := [(3, .int (nI (i + 1))), (0, .ref (qk 0)), (1, .ref (q 0)), (2, .int (nI (cntL (rchS n t rd) i)))]) hx hb dX4_byReach_28 hl (k := 3) rfl (nI_inc i) (by decide) rfl (fun ls hl => ?_)
          refine lv_goto (tgt := 9) hx hb dX4_byReach_31 (by decide) ?_
          have e_4 : (nI (cntL (rchS n t rd) i) : Int32) = nI (cntL (rchS n t rd) (i + 1)) := by first | (with_reducible rfl) | (rw [cntL_s]; (first | rw [if_pos (by assumption)] | rw [if_neg (by assumption)] | (simp [*]; done)); (try rfl))
          exact ih_9 (i + 1) (by omega) (by omega) ls _ _ hP hD hS (lv_one hl 1 rfl rfl (lv_one hl 2 rfl rfl (lv_one hl 3 rfl (congrArg Value.int e_4) (lv_one hl 0 rfl rfl (lv_nil hl)))))
        · skip
          have c_3 : (allb (pL (rchS n t rd) i) i) = true := bI_1 c_3
          refine lv_iinc (v := nI ((cntL (rchS n t rd) i) + 1)) (lv' := [(2, .int (nI ((cntL (rchS n t rd) i) + 1))), (0, .ref (qk 0)), (1, .ref (q 0)), (3, .int (nI i))]) hx hb dX4_byReach_25 hl (k := 2) rfl (nI_inc (cntL (rchS n t rd) i)) (by decide) rfl (fun ls hl => ?_)
          refine lv_iinc (v := nI (i + 1)) (lv' := [(3, .int (nI (i + 1))), (2, .int (nI ((cntL (rchS n t rd) i) + 1))), (0, .ref (qk 0)), (1, .ref (q 0))]) hx hb dX4_byReach_28 hl (k := 3) rfl (nI_inc i) (by decide) rfl (fun ls hl => ?_)
          refine lv_goto (tgt := 9) hx hb dX4_byReach_31 (by decide) ?_
          have e_5 : (nI ((cntL (rchS n t rd) i) + 1) : Int32) = nI (cntL (rchS n t rd) (i + 1)) := by first | (with_reducible rfl) | (rw [cntL_s]; (first | rw [if_pos (by assumption)] | rw [if_neg (by assumption)] | (simp [*]; done)); (try rfl))
          exact ih_9 (i + 1) (by omega) (by omega) ls _ _ hP hD hS (lv_one hl 2 rfl rfl (lv_one hl 3 rfl rfl (lv_one hl 1 rfl (congrArg Value.int e_5) (lv_one hl 0 rfl rfl (lv_nil hl)))))
  refine lv_aload_n hx hb dX4_byReach_0 rfl (lv_at hl 0 rfl) ?_
  refine lv_aload_n hx hb dX4_byReach_1 rfl (lv_at hl 1 rfl) ?_
  have hFc := va_free (wc := bCirc k qk rd ++ bClaims k q n w ly t a fx) hD hS hA [0, 1, 2, 3, 4, 5, 6, 7] rfl
  refine va_callv (va_runV (As := [.ref (q 0)]) (rest := []) hF (m_X4_fillReached l9 D k H.size q n w ly t a fx qk rd hn) (cwV 1 hts gX4_byReach_X4_fillReached rfl rfl rfl (by decide +kernel) ⟨Nat.le_of_ble_eq_true rfl, Nat.le_of_ble_eq_true rfl⟩) (wPreV hK hN hP hD [0, 1, 2, 3, 4, 5, 6, 7] rfl (by decide) rfl 0 6 rfl rfl) rfl rfl hl.1 rfl (lv_room (Nat.le_of_ble_eq_true rfl)) dX4_byReach_2 ⟨Nat.zero_le _, Nat.zero_le _⟩) hS (fun q _ h => hFc q h) hFc (fun u9 t9 H1 locs ht hvm hw hB hz1 hk1 hS => ?_)
  obtain ⟨hP, hD⟩ := wjoin (wr := []) (wf := bCirc k qk (rchS n t rd) ++ bClaims k q n w ly t a fx) hP hD [0, 1, 2, 3, 4, 5, 6, 7] [] [0, 1, 2, 3, 4, 5, 6, 7] rfl rfl (by decide) (by decide) hk1 hFc hB ht rfl rfl (by decide)
  clear hB hk1 hz1 hvm hFc
  clear ht
  clear t9
  generalize H1 = H at hP hS ⊢
  refine lv_iconst (v := 0) hx hb dX4_byReach_5 (by decide) ?_
  refine lv_istore_n (lv' := [(2, .int 0), (0, .ref (qk 0)), (1, .ref (q 0))]) hx hb dX4_byReach_6 rfl hl (by decide) rfl (fun ls hl => ?_)
  refine lv_iconst (v := 0) hx hb dX4_byReach_7 (by decide) ?_
  refine lv_istore_n (lv' := [(3, .int 0), (2, .int 0), (0, .ref (qk 0)), (1, .ref (q 0))]) hx hb dX4_byReach_8 rfl hl (by decide) rfl (fun ls hl => ?_)
  have e_6 : (0 : Int32) = nI (cntL (rchS n t rd) 0) := by first | (with_reducible rfl) | (rfl)
  exact loop_9 ((n - 0) + 1) 0 (by omega) (Nat.lt_succ_self _) ls _ _ hP hD hS (lv_one hl 2 rfl rfl (lv_one hl 3 rfl rfl (lv_one hl 1 rfl (congrArg Value.int e_6) (lv_one hl 0 rfl rfl (lv_nil hl)))))

set_option maxHeartbeats 4000000 in
set_option maxRecDepth 100000 in
theorem m_X1_nextFree (l9 : Launch) (D : va_G) (k : Nat → ClassId) (q : Nat → Nat) (n : Nat) (w ly t a : Nat → Int32) (fx : Nat → UInt32) (qk : Nat → Nat) (lf : Nat → Int32) (x : Int32) (hn : n ≤ 10) : Met l9 yX1_nextFree wsX1_nextFree ({ frames := 1, cells := 0, slots := 0, locals := 21 }) (RPc D k [.ref (qk 0), .ref (q 0), .int x] (bAcc k qk lf ++ bClaims k q n w ly t a fx)) (EI (nfS n lf x)) 0 0 noA := by
  refine rMet (y := yX1_nextFree) (cc := cX1_nextFree) (maxL := 4) (ret := (some .int)) [.ref (qk 0), .ref (q 0), .int x] (by decide) rfl (Nat.le_of_ble_eq_true rfl) ?_
  intro p9 e9 s9 m9 bl9 me9 c9 ls hF hr hlocks hP hK hN hl
  have hl : lv_has ls 4 [(0, .ref (qk 0)), (1, .ref (q 0)), (2, .int x)] := hl
  obtain ⟨hx, hb, hml, hown, hts⟩ := id hF
  have k_fieldLink_15 : (Cond.fieldLink RX1 15 "OpinionReactor$Claims" "count" "I").before _ s9 = true := hts (.fieldLink RX1 15 "OpinionReactor$Claims" "count" "I") (by decide +kernel)
  have kc_RX5 : ∀ w ∈ u_ws RX5 TX5 6, w ∈ wsX1_nextFree := by decide +kernel
  have k_fieldLink_9 : (Cond.fieldLink RX1 9 "OpinionReactor$Accepting" "left" "[I").before _ s9 = true := hts (.fieldLink RX1 9 "OpinionReactor$Accepting" "left" "[I") (by decide +kernel)
  have kc_RX1 : ∀ w ∈ u_ws RX1 TX1 1, w ∈ wsX1_nextFree := by decide +kernel
  have loop_2 : ∀ (fuel : Nat) (i : Nat), (i ≤ n) → (∀ c, c < i → pF lf x c = false) → n - i < fuel → ∀ (ls : Array Slot), lv_has ls 4 [(0, .ref (qk 0)), (1, .ref (q 0)), (2, .int x), (3, .int (nI i))] → W p9 l9 e9 ({ frames := 1, cells := 0, slots := 0, locals := 21 }) s9 m9 ([.ref (qk 0), .ref (q 0), .int x] : List Value).toArray bl9 me9 c9 s9.heap [] 0 0 (MQ bl9 (EI (nfS n lf x)) ([.ref (qk 0), .ref (q 0), .int x] : List Value).toArray s9 0 0 noA) (F0 m9 2 ls []) := by
    intro fuel
    induction fuel with
    | zero => intro i hi ha hfuel_2; exact absurd hfuel_2 (Nat.not_lt_zero _)
    | succ fuel ih_2 =>
      intro i hi ha hfuel_2 ls hl
      refine lv_iload_n hx hb dX1_nextFree_2 rfl (lv_at hl 3 rfl) ?_
      refine lv_aload_n hx hb dX1_nextFree_3 rfl (lv_at hl 1 rfl) ?_
      refine va_get (D := D) (ci := 7) (v := .int (nI n)) (C := RX5) (T := TX5) (N := 6) hx hb hts kc_RX5 hown hK hP 2 rfl rfl 0 (by decide) k_fieldLink_15 (fun _ h9 => h9) rfl dX1_nextFree_4 ?_
      refine lv_icmp_ge (tgt := 35) hx hb dX1_nextFree_7 (by decide) (fun c_1 => ?_) (fun c_1 => ?_)
      · skip
        have c_1 : n ≤ i := (nI_leI (a := n) (b := i) (by omega) (by omega)).mp c_1
        refine lv_iconst (v := (-1)) hx hb dX1_nextFree_35 (by decide) ?_
        exact W.iret (v := (-1)) hx hb hr (fun t9 ht hW => ⟨_, rfl, (by exact (nfS_none (fun c hc => ha c (by omega))).symm), ht⟩) (fun _ h => by cases h) dX1_nextFree_36 hlocks
      · skip
        have c_1 : ¬ n ≤ i := fun h => c_1 ((nI_leI (a := n) (b := i) (by omega) (by omega)).mpr h)
        refine lv_aload_n hx hb dX1_nextFree_10 rfl (lv_at hl 0 rfl) ?_
        refine va_get (D := D) (ci := 4) (v := .ref (qk 1)) (C := RX1) (T := TX1) (N := 1) hx hb hts kc_RX1 hown hK hP 0 rfl rfl 0 (by decide) k_fieldLink_9 (fun _ h9 => h9) rfl dX1_nextFree_11 ?_
        refine lv_iload_n hx hb dX1_nextFree_14 rfl (lv_at hl 3 rfl) ?_
        refine ia_ld hx hb hK hP 1 rfl i (by omega) (by decide) dX1_nextFree_15 ?_
        refine lv_if_ne (tgt := 29) hx hb dX1_nextFree_16 (by decide) (fun c_2 => ?_) (fun c_2 => ?_)
        · skip
          refine lv_iinc (v := nI (i + 1)) (lv' := [(3, .int (nI (i + 1))), (0, .ref (qk 0)), (1, .ref (q 0)), (2, .int x)]) hx hb dX1_nextFree_29 hl (k := 3) rfl (nI_inc i) (by decide) rfl (fun ls hl => ?_)
          refine lv_goto (tgt := 2) hx hb dX1_nextFree_32 (by decide) ?_
          exact ih_2 (i + 1) (by omega) (fun c hc => (Nat.lt_succ_iff_lt_or_eq.mp hc).elim (ha c) (fun h => by rw [h]; simp [pF, *])) (by omega) ls (lv_one hl 1 rfl rfl (lv_one hl 2 rfl rfl (lv_one hl 3 rfl rfl (lv_one hl 0 rfl rfl (lv_nil hl)))))
        · skip
          refine lv_iload_n hx hb dX1_nextFree_19 rfl (lv_at hl 2 rfl) ?_
          refine lv_iload_n hx hb dX1_nextFree_20 rfl (lv_at hl 3 rfl) ?_
          refine vp_callSi (va_Run.run (va_runSN (As := [.int x, .int (nI i)]) (rest := []) hF (m_X12_contains l9 D k x i (by omega)) ⟨va_cnB 2 hts gX1_nextFree_X12_contains_n50 rfl rfl rfl (hN (.methodLinkNest RX1 50 yX12_contains RX12) (by decide +kernel)) (hts (.initialized RX12) (by decide +kernel)) (by decide +kernel) ⟨Nat.le_of_ble_eq_true rfl, Nat.le_of_ble_eq_true rfl⟩, hts (.static yX12_contains) (by decide +kernel), trivial⟩ (rPreS hK hN hP [] rfl) rfl rfl hl.1 rfl (lv_room (Nat.le_of_ble_eq_true rfl)) dX1_nextFree_21 ⟨Nat.zero_le _, Nat.zero_le _⟩)) (fun r_3 hr_3 => ?_)
          subst hr_3
          refine lv_if_ne (tgt := 29) hx hb dX1_nextFree_24 (by decide) (fun c_4 => ?_) (fun c_4 => ?_)
          · skip
            have c_4 : (tb x i) = true := bI_1 c_4
            refine lv_iinc (v := nI (i + 1)) (lv' := [(3, .int (nI (i + 1))), (0, .ref (qk 0)), (1, .ref (q 0)), (2, .int x)]) hx hb dX1_nextFree_29 hl (k := 3) rfl (nI_inc i) (by decide) rfl (fun ls hl => ?_)
            refine lv_goto (tgt := 2) hx hb dX1_nextFree_32 (by decide) ?_
            exact ih_2 (i + 1) (by omega) (fun c hc => (Nat.lt_succ_iff_lt_or_eq.mp hc).elim (ha c) (fun h => by rw [h]; simp [pF, *])) (by omega) ls (lv_one hl 1 rfl rfl (lv_one hl 2 rfl rfl (lv_one hl 3 rfl rfl (lv_one hl 0 rfl rfl (lv_nil hl)))))
          · skip
            have c_4 : (tb x i) = false := bI_0 c_4
            refine lv_iload_n hx hb dX1_nextFree_27 rfl (lv_at hl 3 rfl) ?_
            exact W.iret (v := nI i) hx hb hr (fun t9 ht hW => ⟨_, rfl, (by exact (nfS_some ha (by simp [pF, *]) (by omega)).symm), ht⟩) (fun _ h => by cases h) dX1_nextFree_28 hlocks
  refine lv_iconst (v := 0) hx hb dX1_nextFree_0 (by decide) ?_
  refine lv_istore_n (lv' := [(3, .int 0), (0, .ref (qk 0)), (1, .ref (q 0)), (2, .int x)]) hx hb dX1_nextFree_1 rfl hl (by decide) rfl (fun ls hl => ?_)
  exact loop_2 ((n - 0) + 1) 0 (by omega) (fun c hc => absurd hc (Nat.not_lt_zero c)) (Nat.lt_succ_self _) ls (lv_one hl 1 rfl rfl (lv_one hl 2 rfl rfl (lv_one hl 3 rfl rfl (lv_one hl 0 rfl rfl (lv_nil hl)))))

set_option maxHeartbeats 4000000 in
set_option maxRecDepth 100000 in
theorem m_X1_release (l9 : Launch) (D : va_G) (k : Nat → ClassId) (sz : Nat) (q : Nat → Nat) (n : Nat) (w ly t a : Nat → Int32) (fx : Nat → UInt32) (qk : Nat → Nat) (lf : Nat → Int32) (x : Int32) (hn : n ≤ 10) (hlow : ∀ c, c < n → lowB (a c)) : Met l9 yX1_release wsX1_release ({ frames := 1, cells := 0, slots := 0, locals := 20 }) (WPc D k [.ref (qk 0), .ref (q 0), .int x] (bAcc k qk lf ++ bClaims k q n w ly t a fx) sz) (WV D k (bAcc k qk (rlS a x lf n) ++ bClaims k q n w ly t a fx) (va_A (bAcc k qk lf ++ bClaims k q n w ly t a fx) sz)) 0 0 (va_A (bAcc k qk lf ++ bClaims k q n w ly t a fx) sz) := by
  refine wMet (y := yX1_release) (cc := cX1_release) (maxL := 4) (ret := none) (Qc := fun A => WV D k (bAcc k qk (rlS a x lf n) ++ bClaims k q n w ly t a fx) A) [.ref (qk 0), .ref (q 0), .int x] (by decide) rfl (Nat.le_of_ble_eq_true rfl) ?_
  intro p9 e9 s9 m9 bl9 me9 c9 ls A H hF hr hlocks hP hK hN hD hA hS hl hin
  have hl : lv_has ls 4 [(0, .ref (qk 0)), (1, .ref (q 0)), (2, .int x)] := hl
  obtain ⟨hx, hb, hml, hown, hts⟩ := id hF
  have k_fieldLink_15 : (Cond.fieldLink RX1 15 "OpinionReactor$Claims" "count" "I").before _ s9 = true := hts (.fieldLink RX1 15 "OpinionReactor$Claims" "count" "I") (by decide +kernel)
  have kc_RX5 : ∀ w ∈ u_ws RX5 TX5 6, w ∈ wsX1_release := by decide +kernel
  have k_fieldLink_9 : (Cond.fieldLink RX1 9 "OpinionReactor$Accepting" "left" "[I").before _ s9 = true := hts (.fieldLink RX1 9 "OpinionReactor$Accepting" "left" "[I") (by decide +kernel)
  have kc_RX1 : ∀ w ∈ u_ws RX1 TX1 1, w ∈ wsX1_release := by decide +kernel
  have k_fieldLink_29 : (Cond.fieldLink RX1 29 "OpinionReactor$Claims" "attackers" "[I").before _ s9 = true := hts (.fieldLink RX1 29 "OpinionReactor$Claims" "attackers" "[I") (by decide +kernel)
  have loop_2 : ∀ (fuel : Nat) (i : Nat), (i ≤ n) → n - i < fuel → ∀ (ls : Array Slot), ∀ (H : Heap) (locs : List Loc), va_P D vwCl (bAcc k qk (rlS a x lf i) ++ bClaims k q n w ly t a fx) H → va_D A (bAcc k qk (rlS a x lf i) ++ bClaims k q n w ly t a fx) → va_S A s9.heap H locs → lv_has ls 4 [(0, .ref (qk 0)), (1, .ref (q 0)), (2, .int x), (3, .int (nI i))] → W p9 l9 e9 ({ frames := 1, cells := 0, slots := 0, locals := 20 }) s9 m9 ([.ref (qk 0), .ref (q 0), .int x] : List Value).toArray bl9 me9 c9 H locs 0 0 (MQ bl9 (WV D k (bAcc k qk (rlS a x lf n) ++ bClaims k q n w ly t a fx) A) ([.ref (qk 0), .ref (q 0), .int x] : List Value).toArray s9 0 0 A) (F0 m9 2 ls []) := by
    intro fuel
    induction fuel with
    | zero => intro i hi hfuel_2; exact absurd hfuel_2 (Nat.not_lt_zero _)
    | succ fuel ih_2 =>
      intro i hi hfuel_2 ls H locs hP hD hS hl
      refine lv_iload_n hx hb dX1_release_2 rfl (lv_at hl 3 rfl) ?_
      refine lv_aload_n hx hb dX1_release_3 rfl (lv_at hl 1 rfl) ?_
      refine va_get (D := D) (ci := 7) (v := .int (nI n)) (C := RX5) (T := TX5) (N := 6) hx hb hts kc_RX5 hown hK hP 2 rfl rfl 0 (by decide) k_fieldLink_15 (fun _ h9 => h9) rfl dX1_release_4 ?_
      refine lv_icmp_ge (tgt := 36) hx hb dX1_release_7 (by decide) (fun c_1 => ?_) (fun c_1 => ?_)
      · skip
        have c_1 : n ≤ i := (nI_leI (a := n) (b := i) (by omega) (by omega)).mp c_1
        have e_2 : (rlS a x lf i : Nat → Int32) = rlS a x lf n := by first | (with_reducible rfl) | (rw [show i = n by omega])
        have hP := Eq.mp (congrArg (fun z9 => va_P D vwCl (bAcc k qk z9 ++ bClaims k q n w ly t a fx) H) e_2) hP
        have hD := Eq.mp (congrArg (fun z9 => va_D A (bAcc k qk z9 ++ bClaims k q n w ly t a fx)) e_2) hD
        exact W.vret hx hb hr (fun t9 ht hW => ⟨⟨(), rfl, trivial, ⟨by rw [ht]; exact hP, va_K.moved hW.alike hK, hD⟩⟩, hS.F ht⟩) hS.2.2 dX1_release_36 hlocks
      · skip
        have c_1 : ¬ n ≤ i := fun h => c_1 ((nI_leI (a := n) (b := i) (by omega) (by omega)).mpr h)
        refine lv_aload_n hx hb dX1_release_10 rfl (lv_at hl 0 rfl) ?_
        refine va_get (D := D) (ci := 4) (v := .ref (qk 1)) (C := RX1) (T := TX1) (N := 1) hx hb hts kc_RX1 hown hK hP 0 rfl rfl 0 (by decide) k_fieldLink_9 (fun _ h9 => h9) rfl dX1_release_11 ?_
        refine lv_iload_n hx hb dX1_release_14 rfl (lv_at hl 3 rfl) ?_
        refine lv_dup2_11 hx hb dX1_release_15 rfl rfl ?_
        refine ia_ld hx hb hK hP 1 rfl i (by omega) (by decide) dX1_release_16 ?_
        refine lv_aload_n hx hb dX1_release_17 rfl (lv_at hl 1 rfl) ?_
        refine va_get (D := D) (ci := 7) (v := .ref (q 4)) (C := RX5) (T := TX5) (N := 6) hx hb hts kc_RX5 hown hK hP 2 rfl rfl 4 (by decide) k_fieldLink_29 (fun _ h9 => h9) rfl dX1_release_18 ?_
        refine lv_iload_n hx hb dX1_release_21 rfl (lv_at hl 3 rfl) ?_
        refine ia_ld hx hb hK hP 6 rfl i (by omega) (by decide) dX1_release_22 ?_
        refine lv_iload_n hx hb dX1_release_23 rfl (lv_at hl 2 rfl) ?_
        refine lv_iand hx hb dX1_release_24 ?_
        refine vp_callSi (W.runS (As := [.int ((a i) &&& x)]) (rest := [.int ((rlS a x lf i) i), .int (nI i), .ref (qk 1)]) hF (m_J6_bitCount_0f7a4 l9 D k ((a i) &&& x) (low_and (hlow i (by omega)) x)) (va_cwS 1 hts gX1_release_J6_bitCount_0f7a4 rfl rfl rfl (by decide +kernel) ⟨Nat.le_of_ble_eq_true rfl, Nat.le_of_ble_eq_true rfl⟩) (rPreS hK hN hP [] rfl) rfl rfl hl.1 rfl (lv_room (Nat.le_of_ble_eq_true rfl)) dX1_release_25 ⟨Nat.zero_le _, Nat.zero_le _⟩) (fun r_3 hr_3 => ?_)
        subst hr_3
        refine lv_isub hx hb dX1_release_28 ?_
        refine ia_st hx hb hK hP hD hS 1 rfl i (by omega) (by decide) (bAcc k qk (upd (rlS a x lf i) i (((rlS a x lf i) i) - (nI (cn 10 ((a i) &&& x))))) ++ bClaims k q n w ly t a fx) rfl dX1_release_29 (fun H locs hP hD hS => ?_)
        refine lv_iinc (v := nI (i + 1)) (lv' := [(3, .int (nI (i + 1))), (0, .ref (qk 0)), (1, .ref (q 0)), (2, .int x)]) hx hb dX1_release_30 hl (k := 3) rfl (nI_inc i) (by decide) rfl (fun ls hl => ?_)
        refine lv_goto (tgt := 2) hx hb dX1_release_33 (by decide) ?_
        have e_4 : (upd (rlS a x lf i) i (((rlS a x lf i) i) - (nI (cn 10 ((a i) &&& x)))) : Nat → Int32) = rlS a x lf (i + 1) := by first | (with_reducible rfl) | (rfl)
        have hP := Eq.mp (congrArg (fun z9 => va_P D vwCl (bAcc k qk z9 ++ bClaims k q n w ly t a fx) H) e_4) hP
        have hD := Eq.mp (congrArg (fun z9 => va_D A (bAcc k qk z9 ++ bClaims k q n w ly t a fx)) e_4) hD
        exact ih_2 (i + 1) (by omega) (by omega) ls _ _ hP hD hS (lv_one hl 1 rfl rfl (lv_one hl 2 rfl rfl (lv_one hl 3 rfl rfl (lv_one hl 0 rfl rfl (lv_nil hl)))))
  refine lv_iconst (v := 0) hx hb dX1_release_0 (by decide) ?_
  refine lv_istore_n (lv' := [(3, .int 0), (0, .ref (qk 0)), (1, .ref (q 0)), (2, .int x)]) hx hb dX1_release_1 rfl hl (by decide) rfl (fun ls hl => ?_)
  have e_5 : (lf : Nat → Int32) = rlS a x lf 0 := by first | (with_reducible rfl) | (rfl)
  have hP := Eq.mp (congrArg (fun z9 => va_P D vwCl (bAcc k qk z9 ++ bClaims k q n w ly t a fx) H) e_5) hP
  have hD := Eq.mp (congrArg (fun z9 => va_D A (bAcc k qk z9 ++ bClaims k q n w ly t a fx)) e_5) hD
  exact loop_2 ((n - 0) + 1) 0 (by omega) (Nat.lt_succ_self _) ls _ _ hP hD hS (lv_one hl 1 rfl rfl (lv_one hl 2 rfl rfl (lv_one hl 3 rfl rfl (lv_one hl 0 rfl rfl (lv_nil hl)))))

set_option maxHeartbeats 4000000 in
set_option maxRecDepth 100000 in
theorem m_X1_byLabels (l9 : Launch) (D : va_G) (k : Nat → ClassId) (sz : Nat) (q : Nat → Nat) (n : Nat) (w ly t a : Nat → Int32) (fx : Nat → UInt32) (qk : Nat → Nat) (lf : Nat → Int32) (hn : n ≤ 10) (hlow : ∀ c, c < n → lowB (a c)) : Met l9 yX1_byLabels wsX1_byLabels ({ frames := 2, cells := 0, slots := 0, locals := 44 }) (WPc D k [.ref (qk 0), .ref (q 0)] (bAcc k qk lf ++ bClaims k q n w ly t a fx) sz) (WI D k (bAcc k qk ((itL n t a lf n).2.2) ++ bClaims k q n w ly t a fx) ((itL n t a lf n).1) (va_A (bAcc k qk lf ++ bClaims k q n w ly t a fx) sz)) 0 0 (va_A (bAcc k qk lf ++ bClaims k q n w ly t a fx) sz) := by
  refine wMet (y := yX1_byLabels) (cc := cX1_byLabels) (maxL := 7) (ret := (some .int)) (Qc := fun A => WI D k (bAcc k qk ((itL n t a lf n).2.2) ++ bClaims k q n w ly t a fx) ((itL n t a lf n).1) A) [.ref (qk 0), .ref (q 0)] (by decide) rfl (Nat.le_of_ble_eq_true rfl) ?_
  intro p9 e9 s9 m9 bl9 me9 c9 ls A H hF hr hlocks hP hK hN hD hA hS hl hin
  have hl : lv_has ls 7 [(0, .ref (qk 0)), (1, .ref (q 0))] := hl
  obtain ⟨hx, hb, hml, hown, hts⟩ := id hF
  have k_fieldLink_15 : (Cond.fieldLink RX1 15 "OpinionReactor$Claims" "count" "I").before _ s9 = true := hts (.fieldLink RX1 15 "OpinionReactor$Claims" "count" "I") (by decide +kernel)
  have kc_RX5 : ∀ w ∈ u_ws RX5 TX5 6, w ∈ wsX1_byLabels := by decide +kernel
  have k_fieldLink_43 : (Cond.fieldLink RX1 43 "OpinionReactor$Claims" "targets" "[I").before _ s9 = true := hts (.fieldLink RX1 43 "OpinionReactor$Claims" "targets" "[I") (by decide +kernel)
  have k_fieldLink_9 : (Cond.fieldLink RX1 9 "OpinionReactor$Accepting" "left" "[I").before _ s9 = true := hts (.fieldLink RX1 9 "OpinionReactor$Accepting" "left" "[I") (by decide +kernel)
  have kc_RX1 : ∀ w ∈ u_ws RX1 TX1 1, w ∈ wsX1_byLabels := by decide +kernel
  have k_fieldLink_29 : (Cond.fieldLink RX1 29 "OpinionReactor$Claims" "attackers" "[I").before _ s9 = true := hts (.fieldLink RX1 29 "OpinionReactor$Claims" "attackers" "[I") (by decide +kernel)
  have loop_38 : ∀ (fuel : Nat) (r : Nat), (r ≤ n) → n - r < fuel → ∀ (ls : Array Slot), ∀ (H : Heap) (locs : List Loc), va_P D vwCl (bAcc k qk ((itL n t a lf r).2.2) ++ bClaims k q n w ly t a fx) H → va_D A (bAcc k qk ((itL n t a lf r).2.2) ++ bClaims k q n w ly t a fx) → va_S A s9.heap H locs → lv_has ls 7 [(0, .ref (qk 0)), (1, .ref (q 0)), (2, .int ((itL n t a lf r).1)), (3, .int ((itL n t a lf r).2.1)), (4, .int (nI r))] → W p9 l9 e9 ({ frames := 2, cells := 0, slots := 0, locals := 44 }) s9 m9 ([.ref (qk 0), .ref (q 0)] : List Value).toArray bl9 me9 c9 H locs 0 0 (MQ bl9 (WI D k (bAcc k qk ((itL n t a lf n).2.2) ++ bClaims k q n w ly t a fx) ((itL n t a lf n).1) A) ([.ref (qk 0), .ref (q 0)] : List Value).toArray s9 0 0 A) (F0 m9 38 ls []) := by
    intro fuel
    induction fuel with
    | zero => intro r hr0 hfuel_38; exact absurd hfuel_38 (Nat.not_lt_zero _)
    | succ fuel ih_38 =>
      intro r hr0 hfuel_38 ls H locs hP hD hS hl
      refine lv_iload hx hb dX1_byLabels_38 (lv_at hl 4 rfl) ?_
      refine lv_aload_n hx hb dX1_byLabels_40 rfl (lv_at hl 1 rfl) ?_
      refine va_get (D := D) (ci := 7) (v := .int (nI n)) (C := RX5) (T := TX5) (N := 6) hx hb hts kc_RX5 hown hK hP 2 rfl rfl 0 (by decide) k_fieldLink_15 (fun _ h9 => h9) rfl dX1_byLabels_41 ?_
      refine lv_icmp_ge (tgt := 103) hx hb dX1_byLabels_44 (by decide) (fun c_1 => ?_) (fun c_1 => ?_)
      · skip
        have c_1 : n ≤ r := (nI_leI (a := n) (b := r) (by omega) (by omega)).mp c_1
        refine lv_iload_n hx hb dX1_byLabels_103 rfl (lv_at hl 2 rfl) ?_
        have e_2 : ((itL n t a lf r).2.2 : Nat → Int32) = (itL n t a lf n).2.2 := by first | (with_reducible rfl) | (rw [show r = n by omega])
        have hP := Eq.mp (congrArg (fun z9 => va_P D vwCl (bAcc k qk z9 ++ bClaims k q n w ly t a fx) H) e_2) hP
        have hD := Eq.mp (congrArg (fun z9 => va_D A (bAcc k qk z9 ++ bClaims k q n w ly t a fx)) e_2) hD
        exact W.iret (v := (itL n t a lf r).1) hx hb hr (fun t9 ht hW => ⟨⟨_, (), rfl, (by rw [show r = n by omega]), ⟨by rw [ht]; exact hP, va_K.moved hW.alike hK, hD⟩⟩, hS.F ht⟩) hS.2.2 dX1_byLabels_104 hlocks
      · skip
        have c_1 : ¬ n ≤ r := fun h => c_1 ((nI_leI (a := n) (b := r) (by omega) (by omega)).mpr h)
        refine lv_aload_n hx hb dX1_byLabels_47 rfl (lv_at hl 0 rfl) ?_
        refine lv_aload_n hx hb dX1_byLabels_48 rfl (lv_at hl 1 rfl) ?_
        refine lv_iload_n hx hb dX1_byLabels_49 rfl (lv_at hl 2 rfl) ?_
        refine vp_callSi (W.runV (As := [.ref (q 0), .int ((itL n t a lf r).1)]) (rest := []) hF (m_X1_nextFree l9 D k q n w ly t a fx qk ((itL n t a lf r).2.2) ((itL n t a lf r).1) hn) (cwV 2 hts gX1_byLabels_X1_nextFree rfl rfl rfl (by decide +kernel) ⟨Nat.le_of_ble_eq_true rfl, Nat.le_of_ble_eq_true rfl⟩) (rPreV hK hN hP [0, 1, 2, 3, 4, 5, 6, 7] rfl 0 4 rfl rfl) rfl rfl hl.1 rfl (lv_room (Nat.le_of_ble_eq_true rfl)) dX1_byLabels_50 ⟨Nat.zero_le _, Nat.zero_le _⟩) (fun r_3 hr_3 => ?_)
        subst hr_3
        refine lv_istore (lv' := [(5, .int (nfS n ((itL n t a lf r).2.2) ((itL n t a lf r).1))), (0, .ref (qk 0)), (1, .ref (q 0)), (2, .int ((itL n t a lf r).1)), (3, .int ((itL n t a lf r).2.1)), (4, .int (nI r))]) hx hb dX1_byLabels_53 hl (by decide) rfl (fun ls hl => ?_)
        refine lv_iload hx hb dX1_byLabels_55 (lv_at hl 0 rfl) ?_
        refine lv_iconst (v := (-1)) hx hb dX1_byLabels_57 (by decide) ?_
        refine lv_icmp_ne (tgt := 64) hx hb dX1_byLabels_58 (by decide) (fun c_4 => ?_) (fun c_4 => ?_)
        · skip
          obtain ⟨hfl, hfe⟩ := nfS_ge c_4
          rw [hfe] at hl
          refine lv_iload_n hx hb dX1_byLabels_64 rfl (lv_at hl 3 rfl) ?_
          refine lv_iload hx hb dX1_byLabels_65 (lv_at hl 0 rfl) ?_
          refine vp_callSi (va_Run.run (va_runSN (As := [.int (nI (fsN (pF (itL n t a lf r).2.2 (itL n t a lf r).1) n))]) (rest := [.int ((itL n t a lf r).1)]) hF (m_X12_bit l9 D k (fsN (pF (itL n t a lf r).2.2 (itL n t a lf r).1) n) ) ⟨va_cnB 1 hts gX1_byLabels_X12_bit_n32 rfl rfl rfl (hN (.methodLinkNest RX1 32 yX12_bit RX12) (by decide +kernel)) (hts (.initialized RX12) (by decide +kernel)) (by decide +kernel) ⟨Nat.le_of_ble_eq_true rfl, Nat.le_of_ble_eq_true rfl⟩, hts (.static yX12_bit) (by decide +kernel), trivial⟩ (rPreS hK hN hP [] rfl) rfl rfl hl.1 rfl (lv_room (Nat.le_of_ble_eq_true rfl)) dX1_byLabels_67 ⟨Nat.zero_le _, Nat.zero_le _⟩)) (fun r_5 hr_5 => ?_)
          subst hr_5
          refine lv_ior hx hb dX1_byLabels_70 ?_
          refine lv_istore_n (lv' := [(2, .int (((itL n t a lf r).1) ||| (bt (fsN (pF (itL n t a lf r).2.2 (itL n t a lf r).1) n)))), (5, .int (nI (fsN (pF (itL n t a lf r).2.2 (itL n t a lf r).1) n))), (0, .ref (qk 0)), (1, .ref (q 0)), (3, .int ((itL n t a lf r).2.1)), (4, .int (nI r))]) hx hb dX1_byLabels_71 rfl hl (by decide) rfl (fun ls hl => ?_)
          refine lv_aload_n hx hb dX1_byLabels_72 rfl (lv_at hl 3 rfl) ?_
          refine va_get (D := D) (ci := 7) (v := .ref (q 3)) (C := RX5) (T := TX5) (N := 6) hx hb hts kc_RX5 hown hK hP 2 rfl rfl 3 (by decide) k_fieldLink_43 (fun _ h9 => h9) rfl dX1_byLabels_73 ?_
          refine lv_iload hx hb dX1_byLabels_76 (lv_at hl 1 rfl) ?_
          refine ia_ld hx hb hK hP 5 rfl (fsN (pF (itL n t a lf r).2.2 (itL n t a lf r).1) n) (by omega) (by decide) dX1_byLabels_78 ?_
          refine lv_iload_n hx hb dX1_byLabels_79 rfl (lv_at hl 4 rfl) ?_
          refine lv_iconst (v := (-1)) hx hb dX1_byLabels_80 (by decide) ?_
          refine lv_ixor hx hb dX1_byLabels_81 ?_
          refine lv_iand hx hb dX1_byLabels_82 ?_
          refine lv_istore (lv' := [(6, .int ((t (fsN (pF (itL n t a lf r).2.2 (itL n t a lf r).1) n)) &&& (((itL n t a lf r).2.1) ^^^ (-1)))), (2, .int (((itL n t a lf r).1) ||| (bt (fsN (pF (itL n t a lf r).2.2 (itL n t a lf r).1) n)))), (5, .int (nI (fsN (pF (itL n t a lf r).2.2 (itL n t a lf r).1) n))), (0, .ref (qk 0)), (1, .ref (q 0)), (3, .int ((itL n t a lf r).2.1)), (4, .int (nI r))]) hx hb dX1_byLabels_83 hl (by decide) rfl (fun ls hl => ?_)
          refine lv_iload_n hx hb dX1_byLabels_85 rfl (lv_at hl 5 rfl) ?_
          refine lv_iload hx hb dX1_byLabels_86 (lv_at hl 0 rfl) ?_
          refine lv_ior hx hb dX1_byLabels_88 ?_
          refine lv_istore_n (lv' := [(3, .int (((itL n t a lf r).2.1) ||| ((t (fsN (pF (itL n t a lf r).2.2 (itL n t a lf r).1) n)) &&& (((itL n t a lf r).2.1) ^^^ (-1))))), (6, .int ((t (fsN (pF (itL n t a lf r).2.2 (itL n t a lf r).1) n)) &&& (((itL n t a lf r).2.1) ^^^ (-1)))), (2, .int (((itL n t a lf r).1) ||| (bt (fsN (pF (itL n t a lf r).2.2 (itL n t a lf r).1) n)))), (5, .int (nI (fsN (pF (itL n t a lf r).2.2 (itL n t a lf r).1) n))), (0, .ref (qk 0)), (1, .ref (q 0)), (4, .int (nI r))]) hx hb dX1_byLabels_89 rfl hl (by decide) rfl (fun ls hl => ?_)
          refine lv_aload_n hx hb dX1_byLabels_90 rfl (lv_at hl 4 rfl) ?_
          refine lv_aload_n hx hb dX1_byLabels_91 rfl (lv_at hl 5 rfl) ?_
          refine lv_iload hx hb dX1_byLabels_92 (lv_at hl 1 rfl) ?_
          have hFc := va_free (wc := bAcc k qk ((itL n t a lf r).2.2) ++ bClaims k q n w ly t a fx) hD hS hA [0, 1, 2, 3, 4, 5, 6, 7] rfl
          refine va_callv (va_runV (As := [.ref (q 0), .int ((t (fsN (pF (itL n t a lf r).2.2 (itL n t a lf r).1) n)) &&& (((itL n t a lf r).2.1) ^^^ (-1)))]) (rest := []) hF (m_X1_release l9 D k H.size q n w ly t a fx qk ((itL n t a lf r).2.2) ((t (fsN (pF (itL n t a lf r).2.2 (itL n t a lf r).1) n)) &&& (((itL n t a lf r).2.1) ^^^ (-1))) hn hlow) (cwV 2 hts gX1_byLabels_X1_release rfl rfl rfl (by decide +kernel) ⟨Nat.le_of_ble_eq_true rfl, Nat.le_of_ble_eq_true rfl⟩) (wPreV hK hN hP hD [0, 1, 2, 3, 4, 5, 6, 7] rfl (by decide) rfl 0 4 rfl rfl) rfl rfl hl.1 rfl (lv_room (Nat.le_of_ble_eq_true rfl)) dX1_byLabels_94 ⟨Nat.zero_le _, Nat.zero_le _⟩) hS (fun q _ h => hFc q h) hFc (fun u9 t9 H1 locs ht hvm hw hB hz1 hk1 hS => ?_)
          obtain ⟨hP, hD⟩ := wjoin (wr := []) (wf := bAcc k qk (rlS a ((t (fsN (pF (itL n t a lf r).2.2 (itL n t a lf r).1) n)) &&& (((itL n t a lf r).2.1) ^^^ (-1))) ((itL n t a lf r).2.2) n) ++ bClaims k q n w ly t a fx) hP hD [0, 1, 2, 3, 4, 5, 6, 7] [] [0, 1, 2, 3, 4, 5, 6, 7] rfl rfl (by decide) (by decide) hk1 hFc hB ht rfl rfl (by decide)
          clear hB hk1 hz1 hvm hFc
          clear ht
          clear t9
          generalize H1 = H at hP hS ⊢
          refine lv_iinc (v := nI (r + 1)) (lv' := [(4, .int (nI (r + 1))), (3, .int (((itL n t a lf r).2.1) ||| ((t (fsN (pF (itL n t a lf r).2.2 (itL n t a lf r).1) n)) &&& (((itL n t a lf r).2.1) ^^^ (-1))))), (6, .int ((t (fsN (pF (itL n t a lf r).2.2 (itL n t a lf r).1) n)) &&& (((itL n t a lf r).2.1) ^^^ (-1)))), (2, .int (((itL n t a lf r).1) ||| (bt (fsN (pF (itL n t a lf r).2.2 (itL n t a lf r).1) n)))), (5, .int (nI (fsN (pF (itL n t a lf r).2.2 (itL n t a lf r).1) n))), (0, .ref (qk 0)), (1, .ref (q 0))]) hx hb dX1_byLabels_97 hl (k := 6) rfl (nI_inc r) (by decide) rfl (fun ls hl => ?_)
          refine lv_goto (tgt := 38) hx hb dX1_byLabels_100 (by decide) ?_
          have e_6 : (((itL n t a lf r).1) ||| (bt (fsN (pF (itL n t a lf r).2.2 (itL n t a lf r).1) n)) : Int32) = (itL n t a lf (r + 1)).1 := by first | (with_reducible rfl) | (rw [itL_s]; unfold stL; rw [if_pos hfl])
          have e_7 : (((itL n t a lf r).2.1) ||| ((t (fsN (pF (itL n t a lf r).2.2 (itL n t a lf r).1) n)) &&& (((itL n t a lf r).2.1) ^^^ (-1))) : Int32) = (itL n t a lf (r + 1)).2.1 := by first | (with_reducible rfl) | (rw [itL_s]; unfold stL; rw [if_pos hfl])
          have e_8 : (rlS a ((t (fsN (pF (itL n t a lf r).2.2 (itL n t a lf r).1) n)) &&& (((itL n t a lf r).2.1) ^^^ (-1))) ((itL n t a lf r).2.2) n : Nat → Int32) = (itL n t a lf (r + 1)).2.2 := by first | (with_reducible rfl) | (rw [itL_s]; unfold stL; rw [if_pos hfl])
          have hP := Eq.mp (congrArg (fun z9 => va_P D vwCl (bAcc k qk z9 ++ bClaims k q n w ly t a fx) H) e_8) hP
          have hD := Eq.mp (congrArg (fun z9 => va_D A (bAcc k qk z9 ++ bClaims k q n w ly t a fx)) e_8) hD
          exact ih_38 (r + 1) (by omega) (by omega) ls _ _ hP hD hS (lv_one hl 5 rfl rfl (lv_one hl 6 rfl rfl (lv_one hl 3 rfl (congrArg Value.int e_6) (lv_one hl 1 rfl (congrArg Value.int e_7) (lv_one hl 0 rfl rfl (lv_nil hl))))))
        · skip
          refine lv_goto (tgt := 103) hx hb dX1_byLabels_61 (by decide) ?_
          refine lv_iload_n hx hb dX1_byLabels_103 rfl (lv_at hl 3 rfl) ?_
          have e_9 : ((itL n t a lf r).2.2 : Nat → Int32) = (itL n t a lf n).2.2 := by first | (with_reducible rfl) | (have h9 := itL_stop (nfS_m1 hn c_4) (n - r); rw [show r + (n - r) = n by omega] at h9; rw [h9])
          have hP := Eq.mp (congrArg (fun z9 => va_P D vwCl (bAcc k qk z9 ++ bClaims k q n w ly t a fx) H) e_9) hP
          have hD := Eq.mp (congrArg (fun z9 => va_D A (bAcc k qk z9 ++ bClaims k q n w ly t a fx)) e_9) hD
          exact W.iret (v := (itL n t a lf r).1) hx hb hr (fun t9 ht hW => ⟨⟨_, (), rfl, (by have h9 := itL_stop (nfS_m1 hn c_4) (n - r); rw [show r + (n - r) = n by omega] at h9; rw [h9]), ⟨by rw [ht]; exact hP, va_K.moved hW.alike hK, hD⟩⟩, hS.F ht⟩) hS.2.2 dX1_byLabels_104 hlocks
  have loop_2 : ∀ (fuel : Nat) (i : Nat), (i ≤ n) → n - i < fuel → ∀ (ls : Array Slot), ∀ (H : Heap) (locs : List Loc), va_P D vwCl (bAcc k qk (l0S a lf i) ++ bClaims k q n w ly t a fx) H → va_D A (bAcc k qk (l0S a lf i) ++ bClaims k q n w ly t a fx) → va_S A s9.heap H locs → lv_has ls 7 [(0, .ref (qk 0)), (1, .ref (q 0)), (2, .int (nI i))] → W p9 l9 e9 ({ frames := 2, cells := 0, slots := 0, locals := 44 }) s9 m9 ([.ref (qk 0), .ref (q 0)] : List Value).toArray bl9 me9 c9 H locs 0 0 (MQ bl9 (WI D k (bAcc k qk ((itL n t a lf n).2.2) ++ bClaims k q n w ly t a fx) ((itL n t a lf n).1) A) ([.ref (qk 0), .ref (q 0)] : List Value).toArray s9 0 0 A) (F0 m9 2 ls []) := by
    intro fuel
    induction fuel with
    | zero => intro i hi hfuel_2; exact absurd hfuel_2 (Nat.not_lt_zero _)
    | succ fuel ih_2 =>
      intro i hi hfuel_2 ls H locs hP hD hS hl
      refine lv_iload_n hx hb dX1_byLabels_2 rfl (lv_at hl 2 rfl) ?_
      refine lv_aload_n hx hb dX1_byLabels_3 rfl (lv_at hl 1 rfl) ?_
      refine va_get (D := D) (ci := 7) (v := .int (nI n)) (C := RX5) (T := TX5) (N := 6) hx hb hts kc_RX5 hown hK hP 2 rfl rfl 0 (by decide) k_fieldLink_15 (fun _ h9 => h9) rfl dX1_byLabels_4 ?_
      refine lv_icmp_ge (tgt := 31) hx hb dX1_byLabels_7 (by decide) (fun c_10 => ?_) (fun c_10 => ?_)
      · skip
        have c_10 : n ≤ i := (nI_leI (a := n) (b := i) (by omega) (by omega)).mp c_10
        refine lv_iconst (v := 0) hx hb dX1_byLabels_31 (by decide) ?_
        refine lv_istore_n (lv' := [(2, .int 0), (0, .ref (qk 0)), (1, .ref (q 0))]) hx hb dX1_byLabels_32 rfl hl (by decide) rfl (fun ls hl => ?_)
        refine lv_iconst (v := 0) hx hb dX1_byLabels_33 (by decide) ?_
        refine lv_istore_n (lv' := [(3, .int 0), (2, .int 0), (0, .ref (qk 0)), (1, .ref (q 0))]) hx hb dX1_byLabels_34 rfl hl (by decide) rfl (fun ls hl => ?_)
        refine lv_iconst (v := 0) hx hb dX1_byLabels_35 (by decide) ?_
        refine lv_istore (lv' := [(4, .int 0), (3, .int 0), (2, .int 0), (0, .ref (qk 0)), (1, .ref (q 0))]) hx hb dX1_byLabels_36 hl (by decide) rfl (fun ls hl => ?_)
        have e_11 : (0 : Int32) = (itL n t a lf 0).1 := by first | (with_reducible rfl) | (rfl)
        have e_12 : (0 : Int32) = (itL n t a lf 0).2.1 := by first | (with_reducible rfl) | (rfl)
        have e_13 : (l0S a lf i : Nat → Int32) = (itL n t a lf 0).2.2 := by first | (with_reducible rfl) | (rw [show i = n by omega]; rfl)
        have hP := Eq.mp (congrArg (fun z9 => va_P D vwCl (bAcc k qk z9 ++ bClaims k q n w ly t a fx) H) e_13) hP
        have hD := Eq.mp (congrArg (fun z9 => va_D A (bAcc k qk z9 ++ bClaims k q n w ly t a fx)) e_13) hD
        exact loop_38 ((n - 0) + 1) 0 (by omega) (Nat.lt_succ_self _) ls _ _ hP hD hS (lv_one hl 3 rfl rfl (lv_one hl 4 rfl rfl (lv_one hl 2 rfl (congrArg Value.int e_11) (lv_one hl 1 rfl (congrArg Value.int e_12) (lv_one hl 0 rfl rfl (lv_nil hl))))))
      · skip
        have c_10 : ¬ n ≤ i := fun h => c_10 ((nI_leI (a := n) (b := i) (by omega) (by omega)).mpr h)
        refine lv_aload_n hx hb dX1_byLabels_10 rfl (lv_at hl 0 rfl) ?_
        refine va_get (D := D) (ci := 4) (v := .ref (qk 1)) (C := RX1) (T := TX1) (N := 1) hx hb hts kc_RX1 hown hK hP 0 rfl rfl 0 (by decide) k_fieldLink_9 (fun _ h9 => h9) rfl dX1_byLabels_11 ?_
        refine lv_iload_n hx hb dX1_byLabels_14 rfl (lv_at hl 2 rfl) ?_
        refine lv_aload_n hx hb dX1_byLabels_15 rfl (lv_at hl 1 rfl) ?_
        refine va_get (D := D) (ci := 7) (v := .ref (q 4)) (C := RX5) (T := TX5) (N := 6) hx hb hts kc_RX5 hown hK hP 2 rfl rfl 4 (by decide) k_fieldLink_29 (fun _ h9 => h9) rfl dX1_byLabels_16 ?_
        refine lv_iload_n hx hb dX1_byLabels_19 rfl (lv_at hl 2 rfl) ?_
        refine ia_ld hx hb hK hP 6 rfl i (by omega) (by decide) dX1_byLabels_20 ?_
        refine vp_callSi (W.runS (As := [.int (a i)]) (rest := [.int (nI i), .ref (qk 1)]) hF (m_J6_bitCount_0f7a4 l9 D k (a i) (hlow i (by omega))) (va_cwS 1 hts gX1_byLabels_J6_bitCount_0f7a4 rfl rfl rfl (by decide +kernel) ⟨Nat.le_of_ble_eq_true rfl, Nat.le_of_ble_eq_true rfl⟩) (rPreS hK hN hP [] rfl) rfl rfl hl.1 rfl (lv_room (Nat.le_of_ble_eq_true rfl)) dX1_byLabels_21 ⟨Nat.zero_le _, Nat.zero_le _⟩) (fun r_14 hr_14 => ?_)
        subst hr_14
        refine ia_st hx hb hK hP hD hS 1 rfl i (by omega) (by decide) (bAcc k qk (upd (l0S a lf i) i (nI (cn 10 (a i)))) ++ bClaims k q n w ly t a fx) rfl dX1_byLabels_24 (fun H locs hP hD hS => ?_)
        refine lv_iinc (v := nI (i + 1)) (lv' := [(2, .int (nI (i + 1))), (0, .ref (qk 0)), (1, .ref (q 0))]) hx hb dX1_byLabels_25 hl (k := 2) rfl (nI_inc i) (by decide) rfl (fun ls hl => ?_)
        refine lv_goto (tgt := 2) hx hb dX1_byLabels_28 (by decide) ?_
        have e_15 : (upd (l0S a lf i) i (nI (cn 10 (a i))) : Nat → Int32) = l0S a lf (i + 1) := by first | (with_reducible rfl) | (rfl)
        have hP := Eq.mp (congrArg (fun z9 => va_P D vwCl (bAcc k qk z9 ++ bClaims k q n w ly t a fx) H) e_15) hP
        have hD := Eq.mp (congrArg (fun z9 => va_D A (bAcc k qk z9 ++ bClaims k q n w ly t a fx)) e_15) hD
        exact ih_2 (i + 1) (by omega) (by omega) ls _ _ hP hD hS (lv_one hl 1 rfl rfl (lv_one hl 2 rfl rfl (lv_one hl 0 rfl rfl (lv_nil hl))))
  refine lv_iconst (v := 0) hx hb dX1_byLabels_0 (by decide) ?_
  refine lv_istore_n (lv' := [(2, .int 0), (0, .ref (qk 0)), (1, .ref (q 0))]) hx hb dX1_byLabels_1 rfl hl (by decide) rfl (fun ls hl => ?_)
  have e_16 : (lf : Nat → Int32) = l0S a lf 0 := by first | (with_reducible rfl) | (rfl)
  have hP := Eq.mp (congrArg (fun z9 => va_P D vwCl (bAcc k qk z9 ++ bClaims k q n w ly t a fx) H) e_16) hP
  have hD := Eq.mp (congrArg (fun z9 => va_D A (bAcc k qk z9 ++ bClaims k q n w ly t a fx)) e_16) hD
  exact loop_2 ((n - 0) + 1) 0 (by omega) (Nat.lt_succ_self _) ls _ _ hP hD hS (lv_one hl 1 rfl rfl (lv_one hl 2 rfl rfl (lv_one hl 0 rfl rfl (lv_nil hl))))



